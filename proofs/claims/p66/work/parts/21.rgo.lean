theorem wp_103 : Cond.selects "WidowRoadsModel" yX10_widowOf yX10_widowOf ∈ GW := GW_p 103 (by decide +kernel) rfl
theorem wp_105 : Cond.selects "WidowRoadsModel" yX10_asksColony yX10_asksColony ∈ GW := GW_p 105 (by decide +kernel) rfl
theorem wp_106 : Cond.selects "WidowRoadsModel" yX10_asItIs yX10_asItIs ∈ GW := GW_p 106 (by decide +kernel) rfl
theorem wp_107 : Cond.selects "WidowRoadsModel" yX10_allWidows yX10_allWidows ∈ GW := GW_p 107 (by decide +kernel) rfl
theorem wp_108 : Cond.selects "WidowRoadsModel" yX10_goAll yX10_goAll ∈ GW := GW_p 108 (by decide +kernel) rfl
theorem wp_110 : Cond.selects "WidowRoadsModel" yX10_keepYear yX10_keepYear ∈ GW := GW_p 110 (by decide +kernel) rfl
theorem wp_111 : Cond.selects "WidowRoadsModel" yX10_walk yX10_walk ∈ GW := GW_p 111 (by decide +kernel) rfl
theorem wp_112 : Cond.selects "WidowRoadsModel" yX10_turnAt yX10_turnAt ∈ GW := GW_p 112 (by decide +kernel) rfl
theorem wp_113 : Cond.selects "WidowRoadsModel" yX10_isAnyFree yX10_isAnyFree ∈ GW := GW_p 113 (by decide +kernel) rfl
theorem wp_114 : Cond.selects "WidowRoadsModel" yX10_beside yX10_beside ∈ GW := GW_p 114 (by decide +kernel) rfl
theorem wp_115 : Cond.selects "WidowRoadsModel" yX10_isFree yX10_isFree ∈ GW := GW_p 115 (by decide +kernel) rfl
theorem wp_116 : Cond.selects "WidowRoadsModel" yX10_moveHouses yX10_moveHouses ∈ GW := GW_p 116 (by decide +kernel) rfl
theorem wp_118 : Cond.selects "WidowRoadsModel" yX10_emptyCell yX10_emptyCell ∈ GW := GW_p 118 (by decide +kernel) rfl
theorem wp_119 : Cond.selects "WidowRoadsModel" yX10_isCell yX10_isCell ∈ GW := GW_p 119 (by decide +kernel) rfl
theorem wp_121 : Cond.selects "WidowRoadsModel" yX10_isHouse yX10_isHouse ∈ GW := GW_p 121 (by decide +kernel) rfl
theorem wp_129 : Cond.selects "WidowRoadsModel" yX10_isYear yX10_isYear ∈ GW := GW_p 129 (by decide +kernel) rfl
theorem w_1207 : Jvm.Cond.fieldLink "WidowRoadsModel" (34 : Nat) "WidowRoadsModel" "isCreek" "[Z" ∈ GW := GW_t 1207 (by decide +kernel) rfl
theorem w_1208 : Jvm.Cond.fieldLink "WidowRoadsModel" (37 : Nat) "WidowRoadsModel" "facesNow" "[I" ∈ GW := GW_t 1208 (by decide +kernel) rfl
theorem w_1209 : Jvm.Cond.fieldLink "WidowRoadsModel" (270 : Nat) "WidowRoadsModel" "lawNow" "I" ∈ GW := GW_t 1209 (by decide +kernel) rfl
theorem w_1210 : Jvm.Cond.fieldLink "WidowRoadsModel" (276 : Nat) "WidowRoadsModel" "walkSet" "I" ∈ GW := GW_t 1210 (by decide +kernel) rfl
theorem w_1211 : Jvm.Cond.fieldLink "WidowRoadsModel" (279 : Nat) "WidowRoadsModel" "oneWidow" "I" ∈ GW := GW_t 1211 (by decide +kernel) rfl
theorem w_1212 : Jvm.Cond.fieldLink "WidowRoadsModel" (295 : Nat) "WidowRoadsModel" "oneTurn" "I" ∈ GW := GW_t 1212 (by decide +kernel) rfl
theorem w_1213 : Jvm.Cond.fieldLink "WidowRoadsModel" (40 : Nat) "WidowRoadsModel" "isRoad" "[Z" ∈ GW := GW_t 1213 (by decide +kernel) rfl
theorem w_1214 : Jvm.Cond.fieldLink "WidowRoadsModel" (43 : Nat) "WidowRoadsModel" "wasRoad" "[Z" ∈ GW := GW_t 1214 (by decide +kernel) rfl
theorem w_1215 : Jvm.Cond.fieldLink "WidowRoadsModel" (46 : Nat) "WidowRoadsModel" "wasIn" "[Z" ∈ GW := GW_t 1215 (by decide +kernel) rfl
theorem w_1216 : Jvm.Cond.fieldLink "WidowRoadsModel" (49 : Nat) "WidowRoadsModel" "pegNow" "[I" ∈ GW := GW_t 1216 (by decide +kernel) rfl
theorem w_1217 : Jvm.Cond.fieldLink "WidowRoadsModel" (52 : Nat) "WidowRoadsModel" "houseNow" "[I" ∈ GW := GW_t 1217 (by decide +kernel) rfl
theorem w_1218 : Jvm.Cond.fieldLink "WidowRoadsModel" (55 : Nat) "WidowRoadsModel" "pathBy" "[I" ∈ GW := GW_t 1218 (by decide +kernel) rfl
theorem w_1219 : Jvm.Cond.fieldLink "WidowRoadsModel" (58 : Nat) "WidowRoadsModel" "stepsBy" "[I" ∈ GW := GW_t 1219 (by decide +kernel) rfl
theorem w_1220 : Jvm.Cond.fieldLink "WidowRoadsModel" (61 : Nat) "WidowRoadsModel" "movesBy" "[I" ∈ GW := GW_t 1220 (by decide +kernel) rfl
theorem w_1221 : Jvm.Cond.fieldLink "WidowRoadsModel" (64 : Nat) "WidowRoadsModel" "movedBy" "[I" ∈ GW := GW_t 1221 (by decide +kernel) rfl
theorem w_1222 : Jvm.Cond.fieldLink "WidowRoadsModel" (67 : Nat) "WidowRoadsModel" "roadAt" "[Z" ∈ GW := GW_t 1222 (by decide +kernel) rfl
theorem w_1223 : Jvm.Cond.fieldLink "WidowRoadsModel" (70 : Nat) "WidowRoadsModel" "pegAt" "[I" ∈ GW := GW_t 1223 (by decide +kernel) rfl
theorem w_1224 : Jvm.Cond.fieldLink "WidowRoadsModel" (73 : Nat) "WidowRoadsModel" "houseAt" "[I" ∈ GW := GW_t 1224 (by decide +kernel) rfl
theorem w_1469 : Jvm.Cond.methodLink "WidowRoadsModel" (267 : Nat) ({ cls := "WidowRoadsModel", name := "widowOf", desc := "(II)I" } : Jvm.MethodName) ∈ GW := GW_t 1469 (by decide +kernel) rfl
theorem w_1471 : Jvm.Cond.instanceMethod ({ cls := "WidowRoadsModel", name := "widowOf", desc := "(II)I" } : Jvm.MethodName) ∈ GW := GW_t 1471 (by decide +kernel) rfl
theorem w_1472 : Jvm.Cond.code ({ cls := "WidowRoadsModel", name := "widowOf", desc := "(II)I" } : Jvm.MethodName) prog_12_method_16_code (3 : Nat) (Option.some Jvm.ClassFile.FieldType.int) ∈ GW := GW_t 1472 (by decide +kernel) rfl
theorem w_1485 : Jvm.Cond.methodLink "WidowRoadsModel" (335 : Nat) ({ cls := "WidowRoadsModel", name := "asksColony", desc := "()Z" } : Jvm.MethodName) ∈ GW := GW_t 1485 (by decide +kernel) rfl
theorem w_1487 : Jvm.Cond.instanceMethod ({ cls := "WidowRoadsModel", name := "asksColony", desc := "()Z" } : Jvm.MethodName) ∈ GW := GW_t 1487 (by decide +kernel) rfl
theorem w_1488 : Jvm.Cond.code ({ cls := "WidowRoadsModel", name := "asksColony", desc := "()Z" } : Jvm.MethodName) prog_12_method_54_code (1 : Nat) (Option.some Jvm.ClassFile.FieldType.boolean) ∈ GW := GW_t 1488 (by decide +kernel) rfl
theorem w_1489 : Jvm.Cond.methodLink "WidowRoadsModel" (329 : Nat) ({ cls := "WidowRoadsModel", name := "asItIs", desc := "()V" } : Jvm.MethodName) ∈ GW := GW_t 1489 (by decide +kernel) rfl
theorem w_1491 : Jvm.Cond.instanceMethod ({ cls := "WidowRoadsModel", name := "asItIs", desc := "()V" } : Jvm.MethodName) ∈ GW := GW_t 1491 (by decide +kernel) rfl
theorem w_1492 : Jvm.Cond.code ({ cls := "WidowRoadsModel", name := "asItIs", desc := "()V" } : Jvm.MethodName) prog_12_method_41_code (3 : Nat) (Option.none : Option Jvm.ClassFile.FieldType) ∈ GW := GW_t 1492 (by decide +kernel) rfl
theorem w_1493 : Jvm.Cond.methodLink "WidowRoadsModel" (273 : Nat) ({ cls := "WidowRoadsModel", name := "allWidows", desc := "()I" } : Jvm.MethodName) ∈ GW := GW_t 1493 (by decide +kernel) rfl
theorem w_1495 : Jvm.Cond.instanceMethod ({ cls := "WidowRoadsModel", name := "allWidows", desc := "()I" } : Jvm.MethodName) ∈ GW := GW_t 1495 (by decide +kernel) rfl
theorem w_1496 : Jvm.Cond.code ({ cls := "WidowRoadsModel", name := "allWidows", desc := "()I" } : Jvm.MethodName) prog_12_method_12_code (1 : Nat) (Option.some Jvm.ClassFile.FieldType.int) ∈ GW := GW_t 1496 (by decide +kernel) rfl
theorem w_1497 : Jvm.Cond.methodLink "WidowRoadsModel" (332 : Nat) ({ cls := "WidowRoadsModel", name := "goAll", desc := "()V" } : Jvm.MethodName) ∈ GW := GW_t 1497 (by decide +kernel) rfl
theorem w_1499 : Jvm.Cond.instanceMethod ({ cls := "WidowRoadsModel", name := "goAll", desc := "()V" } : Jvm.MethodName) ∈ GW := GW_t 1499 (by decide +kernel) rfl
theorem w_1500 : Jvm.Cond.code ({ cls := "WidowRoadsModel", name := "goAll", desc := "()V" } : Jvm.MethodName) prog_12_method_53_code (3 : Nat) (Option.none : Option Jvm.ClassFile.FieldType) ∈ GW := GW_t 1500 (by decide +kernel) rfl
theorem w_1505 : Jvm.Cond.methodLink "WidowRoadsModel" (320 : Nat) ({ cls := "WidowRoadsModel", name := "keepYear", desc := "(I)V" } : Jvm.MethodName) ∈ GW := GW_t 1505 (by decide +kernel) rfl
theorem w_1507 : Jvm.Cond.instanceMethod ({ cls := "WidowRoadsModel", name := "keepYear", desc := "(I)V" } : Jvm.MethodName) ∈ GW := GW_t 1507 (by decide +kernel) rfl
theorem w_1508 : Jvm.Cond.code ({ cls := "WidowRoadsModel", name := "keepYear", desc := "(I)V" } : Jvm.MethodName) prog_12_method_52_code (3 : Nat) (Option.none : Option Jvm.ClassFile.FieldType) ∈ GW := GW_t 1508 (by decide +kernel) rfl
theorem w_1509 : Jvm.Cond.methodLink "WidowRoadsModel" (323 : Nat) ({ cls := "WidowRoadsModel", name := "bit", desc := "(II)I" } : Jvm.MethodName) ∈ GW := GW_t 1509 (by decide +kernel) rfl
theorem w_1510 : Jvm.Cond.static ({ cls := "WidowRoadsModel", name := "bit", desc := "(II)I" } : Jvm.MethodName) ∈ GW := GW_t 1510 (by decide +kernel) rfl
theorem w_1511 : Jvm.Cond.code ({ cls := "WidowRoadsModel", name := "bit", desc := "(II)I" } : Jvm.MethodName) prog_12_method_5_code (2 : Nat) (Option.some Jvm.ClassFile.FieldType.int) ∈ GW := GW_t 1511 (by decide +kernel) rfl
theorem w_1512 : Jvm.Cond.methodLink "WidowRoadsModel" (326 : Nat) ({ cls := "WidowRoadsModel", name := "walk", desc := "(I)V" } : Jvm.MethodName) ∈ GW := GW_t 1512 (by decide +kernel) rfl
theorem w_1514 : Jvm.Cond.instanceMethod ({ cls := "WidowRoadsModel", name := "walk", desc := "(I)V" } : Jvm.MethodName) ∈ GW := GW_t 1514 (by decide +kernel) rfl
theorem w_1515 : Jvm.Cond.code ({ cls := "WidowRoadsModel", name := "walk", desc := "(I)V" } : Jvm.MethodName) prog_12_method_48_code (10 : Nat) (Option.none : Option Jvm.ClassFile.FieldType) ∈ GW := GW_t 1515 (by decide +kernel) rfl
theorem w_1516 : Jvm.Cond.methodLink "WidowRoadsModel" (298 : Nat) ({ cls := "WidowRoadsModel", name := "turnAt", desc := "(II)I" } : Jvm.MethodName) ∈ GW := GW_t 1516 (by decide +kernel) rfl
theorem w_1518 : Jvm.Cond.instanceMethod ({ cls := "WidowRoadsModel", name := "turnAt", desc := "(II)I" } : Jvm.MethodName) ∈ GW := GW_t 1518 (by decide +kernel) rfl
theorem w_1519 : Jvm.Cond.code ({ cls := "WidowRoadsModel", name := "turnAt", desc := "(II)I" } : Jvm.MethodName) prog_12_method_47_code (3 : Nat) (Option.some Jvm.ClassFile.FieldType.int) ∈ GW := GW_t 1519 (by decide +kernel) rfl
theorem w_1520 : Jvm.Cond.methodLink "WidowRoadsModel" (301 : Nat) ({ cls := "WidowRoadsModel", name := "isAnyFree", desc := "(II)Z" } : Jvm.MethodName) ∈ GW := GW_t 1520 (by decide +kernel) rfl
theorem w_1522 : Jvm.Cond.instanceMethod ({ cls := "WidowRoadsModel", name := "isAnyFree", desc := "(II)Z" } : Jvm.MethodName) ∈ GW := GW_t 1522 (by decide +kernel) rfl
theorem w_1523 : Jvm.Cond.code ({ cls := "WidowRoadsModel", name := "isAnyFree", desc := "(II)Z" } : Jvm.MethodName) prog_12_method_46_code (5 : Nat) (Option.some Jvm.ClassFile.FieldType.boolean) ∈ GW := GW_t 1523 (by decide +kernel) rfl
theorem w_1524 : Jvm.Cond.methodLink "WidowRoadsModel" (288 : Nat) ({ cls := "WidowRoadsModel", name := "beside", desc := "(II)I" } : Jvm.MethodName) ∈ GW := GW_t 1524 (by decide +kernel) rfl
theorem w_1526 : Jvm.Cond.instanceMethod ({ cls := "WidowRoadsModel", name := "beside", desc := "(II)I" } : Jvm.MethodName) ∈ GW := GW_t 1526 (by decide +kernel) rfl
theorem w_1527 : Jvm.Cond.code ({ cls := "WidowRoadsModel", name := "beside", desc := "(II)I" } : Jvm.MethodName) prog_12_method_44_code (5 : Nat) (Option.some Jvm.ClassFile.FieldType.int) ∈ GW := GW_t 1527 (by decide +kernel) rfl
theorem w_1528 : Jvm.Cond.methodLink "WidowRoadsModel" (282 : Nat) ({ cls := "WidowRoadsModel", name := "acrossOf", desc := "(I)I" } : Jvm.MethodName) ∈ GW := GW_t 1528 (by decide +kernel) rfl
theorem w_1529 : Jvm.Cond.static ({ cls := "WidowRoadsModel", name := "acrossOf", desc := "(I)I" } : Jvm.MethodName) ∈ GW := GW_t 1529 (by decide +kernel) rfl
theorem w_1530 : Jvm.Cond.code ({ cls := "WidowRoadsModel", name := "acrossOf", desc := "(I)I" } : Jvm.MethodName) prog_12_method_42_code (1 : Nat) (Option.some Jvm.ClassFile.FieldType.int) ∈ GW := GW_t 1530 (by decide +kernel) rfl
theorem w_1531 : Jvm.Cond.methodLink "WidowRoadsModel" (285 : Nat) ({ cls := "WidowRoadsModel", name := "downOf", desc := "(I)I" } : Jvm.MethodName) ∈ GW := GW_t 1531 (by decide +kernel) rfl
theorem w_1532 : Jvm.Cond.static ({ cls := "WidowRoadsModel", name := "downOf", desc := "(I)I" } : Jvm.MethodName) ∈ GW := GW_t 1532 (by decide +kernel) rfl
theorem w_1533 : Jvm.Cond.code ({ cls := "WidowRoadsModel", name := "downOf", desc := "(I)I" } : Jvm.MethodName) prog_12_method_43_code (1 : Nat) (Option.some Jvm.ClassFile.FieldType.int) ∈ GW := GW_t 1533 (by decide +kernel) rfl
theorem w_1534 : Jvm.Cond.methodLink "WidowRoadsModel" (291 : Nat) ({ cls := "WidowRoadsModel", name := "isFree", desc := "(II)Z" } : Jvm.MethodName) ∈ GW := GW_t 1534 (by decide +kernel) rfl
theorem w_1536 : Jvm.Cond.instanceMethod ({ cls := "WidowRoadsModel", name := "isFree", desc := "(II)Z" } : Jvm.MethodName) ∈ GW := GW_t 1536 (by decide +kernel) rfl
theorem w_1537 : Jvm.Cond.code ({ cls := "WidowRoadsModel", name := "isFree", desc := "(II)Z" } : Jvm.MethodName) prog_12_method_45_code (3 : Nat) (Option.some Jvm.ClassFile.FieldType.boolean) ∈ GW := GW_t 1537 (by decide +kernel) rfl
theorem w_1538 : Jvm.Cond.methodLink "WidowRoadsModel" (304 : Nat) ({ cls := "WidowRoadsModel", name := "moveHouses", desc := "(I)V" } : Jvm.MethodName) ∈ GW := GW_t 1538 (by decide +kernel) rfl
theorem w_1540 : Jvm.Cond.instanceMethod ({ cls := "WidowRoadsModel", name := "moveHouses", desc := "(I)V" } : Jvm.MethodName) ∈ GW := GW_t 1540 (by decide +kernel) rfl
theorem w_1541 : Jvm.Cond.code ({ cls := "WidowRoadsModel", name := "moveHouses", desc := "(I)V" } : Jvm.MethodName) prog_12_method_51_code (3 : Nat) (Option.none : Option Jvm.ClassFile.FieldType) ∈ GW := GW_t 1541 (by decide +kernel) rfl
theorem w_1546 : Jvm.Cond.methodLink "WidowRoadsModel" (317 : Nat) ({ cls := "WidowRoadsModel", name := "emptyCell", desc := "()I" } : Jvm.MethodName) ∈ GW := GW_t 1546 (by decide +kernel) rfl
theorem w_1548 : Jvm.Cond.instanceMethod ({ cls := "WidowRoadsModel", name := "emptyCell", desc := "()I" } : Jvm.MethodName) ∈ GW := GW_t 1548 (by decide +kernel) rfl
theorem w_1549 : Jvm.Cond.code ({ cls := "WidowRoadsModel", name := "emptyCell", desc := "()I" } : Jvm.MethodName) prog_12_method_50_code (2 : Nat) (Option.some Jvm.ClassFile.FieldType.int) ∈ GW := GW_t 1549 (by decide +kernel) rfl
theorem w_1550 : Jvm.Cond.methodLink "WidowRoadsModel" (310 : Nat) ({ cls := "WidowRoadsModel", name := "isCell", desc := "(J)Z" } : Jvm.MethodName) ∈ GW := GW_t 1550 (by decide +kernel) rfl
theorem w_1552 : Jvm.Cond.instanceMethod ({ cls := "WidowRoadsModel", name := "isCell", desc := "(J)Z" } : Jvm.MethodName) ∈ GW := GW_t 1552 (by decide +kernel) rfl
theorem w_1553 : Jvm.Cond.code ({ cls := "WidowRoadsModel", name := "isCell", desc := "(J)Z" } : Jvm.MethodName) prog_12_method_14_code (3 : Nat) (Option.some Jvm.ClassFile.FieldType.boolean) ∈ GW := GW_t 1553 (by decide +kernel) rfl
theorem w_1559 : Jvm.Cond.methodLink "WidowRoadsModel" (313 : Nat) ({ cls := "WidowRoadsModel", name := "isHouse", desc := "(I)Z" } : Jvm.MethodName) ∈ GW := GW_t 1559 (by decide +kernel) rfl
theorem w_1561 : Jvm.Cond.instanceMethod ({ cls := "WidowRoadsModel", name := "isHouse", desc := "(I)Z" } : Jvm.MethodName) ∈ GW := GW_t 1561 (by decide +kernel) rfl
theorem w_1562 : Jvm.Cond.code ({ cls := "WidowRoadsModel", name := "isHouse", desc := "(I)Z" } : Jvm.MethodName) prog_12_method_49_code (4 : Nat) (Option.some Jvm.ClassFile.FieldType.boolean) ∈ GW := GW_t 1562 (by decide +kernel) rfl
theorem w_1624 : Jvm.Cond.methodLink "WidowRoadsModel" (338 : Nat) ({ cls := "WidowRoadsModel", name := "isYear", desc := "(J)Z" } : Jvm.MethodName) ∈ GW := GW_t 1624 (by decide +kernel) rfl
theorem w_1626 : Jvm.Cond.instanceMethod ({ cls := "WidowRoadsModel", name := "isYear", desc := "(J)Z" } : Jvm.MethodName) ∈ GW := GW_t 1626 (by decide +kernel) rfl
theorem w_1627 : Jvm.Cond.code ({ cls := "WidowRoadsModel", name := "isYear", desc := "(J)Z" } : Jvm.MethodName) prog_12_method_13_code (3 : Nat) (Option.some Jvm.ClassFile.FieldType.boolean) ∈ GW := GW_t 1627 (by decide +kernel) rfl
theorem hd_X10_acrossOf : yX10_acrossOf.cls ≠ "java/lang/invoke/MethodHandle" ∧ yX10_acrossOf.cls ≠ "java/lang/invoke/VarHandle" ∧ (parseMethodDescriptor yX10_acrossOf.desc).map (fun d => d.parameters.length) = some 1 := by decide +kernel
theorem hd_X10_allWidows : yX10_allWidows.cls ≠ "java/lang/invoke/MethodHandle" ∧ yX10_allWidows.cls ≠ "java/lang/invoke/VarHandle" ∧ (parseMethodDescriptor yX10_allWidows.desc).map (fun d => d.parameters.length) = some 0 := by decide +kernel
theorem hd_X10_asItIs : yX10_asItIs.cls ≠ "java/lang/invoke/MethodHandle" ∧ yX10_asItIs.cls ≠ "java/lang/invoke/VarHandle" ∧ (parseMethodDescriptor yX10_asItIs.desc).map (fun d => d.parameters.length) = some 0 := by decide +kernel
theorem hd_X10_asksColony : yX10_asksColony.cls ≠ "java/lang/invoke/MethodHandle" ∧ yX10_asksColony.cls ≠ "java/lang/invoke/VarHandle" ∧ (parseMethodDescriptor yX10_asksColony.desc).map (fun d => d.parameters.length) = some 0 := by decide +kernel
theorem hd_X10_beside : yX10_beside.cls ≠ "java/lang/invoke/MethodHandle" ∧ yX10_beside.cls ≠ "java/lang/invoke/VarHandle" ∧ (parseMethodDescriptor yX10_beside.desc).map (fun d => d.parameters.length) = some 2 := by decide +kernel
theorem hd_X10_bit : yX10_bit.cls ≠ "java/lang/invoke/MethodHandle" ∧ yX10_bit.cls ≠ "java/lang/invoke/VarHandle" ∧ (parseMethodDescriptor yX10_bit.desc).map (fun d => d.parameters.length) = some 2 := by decide +kernel
theorem hd_X10_downOf : yX10_downOf.cls ≠ "java/lang/invoke/MethodHandle" ∧ yX10_downOf.cls ≠ "java/lang/invoke/VarHandle" ∧ (parseMethodDescriptor yX10_downOf.desc).map (fun d => d.parameters.length) = some 1 := by decide +kernel
theorem hd_X10_emptyCell : yX10_emptyCell.cls ≠ "java/lang/invoke/MethodHandle" ∧ yX10_emptyCell.cls ≠ "java/lang/invoke/VarHandle" ∧ (parseMethodDescriptor yX10_emptyCell.desc).map (fun d => d.parameters.length) = some 0 := by decide +kernel
theorem hd_X10_goAll : yX10_goAll.cls ≠ "java/lang/invoke/MethodHandle" ∧ yX10_goAll.cls ≠ "java/lang/invoke/VarHandle" ∧ (parseMethodDescriptor yX10_goAll.desc).map (fun d => d.parameters.length) = some 0 := by decide +kernel
theorem hd_X10_isAnyFree : yX10_isAnyFree.cls ≠ "java/lang/invoke/MethodHandle" ∧ yX10_isAnyFree.cls ≠ "java/lang/invoke/VarHandle" ∧ (parseMethodDescriptor yX10_isAnyFree.desc).map (fun d => d.parameters.length) = some 2 := by decide +kernel
theorem hd_X10_isCell : yX10_isCell.cls ≠ "java/lang/invoke/MethodHandle" ∧ yX10_isCell.cls ≠ "java/lang/invoke/VarHandle" ∧ (parseMethodDescriptor yX10_isCell.desc).map (fun d => d.parameters.length) = some 1 := by decide +kernel
theorem hd_X10_isFree : yX10_isFree.cls ≠ "java/lang/invoke/MethodHandle" ∧ yX10_isFree.cls ≠ "java/lang/invoke/VarHandle" ∧ (parseMethodDescriptor yX10_isFree.desc).map (fun d => d.parameters.length) = some 2 := by decide +kernel
theorem hd_X10_isHouse : yX10_isHouse.cls ≠ "java/lang/invoke/MethodHandle" ∧ yX10_isHouse.cls ≠ "java/lang/invoke/VarHandle" ∧ (parseMethodDescriptor yX10_isHouse.desc).map (fun d => d.parameters.length) = some 1 := by decide +kernel
theorem hd_X10_isYear : yX10_isYear.cls ≠ "java/lang/invoke/MethodHandle" ∧ yX10_isYear.cls ≠ "java/lang/invoke/VarHandle" ∧ (parseMethodDescriptor yX10_isYear.desc).map (fun d => d.parameters.length) = some 1 := by decide +kernel
theorem hd_X10_keepYear : yX10_keepYear.cls ≠ "java/lang/invoke/MethodHandle" ∧ yX10_keepYear.cls ≠ "java/lang/invoke/VarHandle" ∧ (parseMethodDescriptor yX10_keepYear.desc).map (fun d => d.parameters.length) = some 1 := by decide +kernel
theorem hd_X10_moveHouses : yX10_moveHouses.cls ≠ "java/lang/invoke/MethodHandle" ∧ yX10_moveHouses.cls ≠ "java/lang/invoke/VarHandle" ∧ (parseMethodDescriptor yX10_moveHouses.desc).map (fun d => d.parameters.length) = some 1 := by decide +kernel
theorem hd_X10_turnAt : yX10_turnAt.cls ≠ "java/lang/invoke/MethodHandle" ∧ yX10_turnAt.cls ≠ "java/lang/invoke/VarHandle" ∧ (parseMethodDescriptor yX10_turnAt.desc).map (fun d => d.parameters.length) = some 2 := by decide +kernel
theorem hd_X10_walk : yX10_walk.cls ≠ "java/lang/invoke/MethodHandle" ∧ yX10_walk.cls ≠ "java/lang/invoke/VarHandle" ∧ (parseMethodDescriptor yX10_walk.desc).map (fun d => d.parameters.length) = some 1 := by decide +kernel
theorem hd_X10_widowOf : yX10_widowOf.cls ≠ "java/lang/invoke/MethodHandle" ∧ yX10_widowOf.cls ≠ "java/lang/invoke/VarHandle" ∧ (parseMethodDescriptor yX10_widowOf.desc).map (fun d => d.parameters.length) = some 2 := by decide +kernel
theorem ki_80 : (80 : Int32).toInt = 80 := by decide
theorem ki_119 : (119 : Int32).toInt = 119 := by decide
theorem ki_1000 : (1000 : Int32).toInt = 1000 := by decide
theorem dX10_asItIs_0 : decode cX10_asItIs 0 = .ok (.aload_n 0, 1) := by decide +kernel
theorem dX10_asItIs_1 : decode cX10_asItIs 1 = .ok (.aload_n 0, 1) := by decide +kernel
theorem dX10_asItIs_2 : decode cX10_asItIs 2 = .ok (.getfield 9, 3) := by decide +kernel
theorem dX10_asItIs_5 : decode cX10_asItIs 5 = .ok (.iconst 1, 1) := by decide +kernel
theorem dX10_asItIs_6 : decode cX10_asItIs 6 = .ok (.iaload, 1) := by decide +kernel
theorem dX10_asItIs_7 : decode cX10_asItIs 7 = .ok (.putfield 270, 3) := by decide +kernel
theorem dX10_asItIs_10 : decode cX10_asItIs 10 = .ok (.aload_n 0, 1) := by decide +kernel
theorem dX10_asItIs_11 : decode cX10_asItIs 11 = .ok (.aload_n 0, 1) := by decide +kernel
theorem dX10_asItIs_12 : decode cX10_asItIs 12 = .ok (.invokevirtual 273, 3) := by decide +kernel
theorem dX10_asItIs_15 : decode cX10_asItIs 15 = .ok (.putfield 276, 3) := by decide +kernel
theorem dX10_asItIs_18 : decode cX10_asItIs 18 = .ok (.aload_n 0, 1) := by decide +kernel
theorem dX10_asItIs_19 : decode cX10_asItIs 19 = .ok (.iconst (-1), 1) := by decide +kernel
theorem dX10_asItIs_20 : decode cX10_asItIs 20 = .ok (.putfield 279, 3) := by decide +kernel
theorem dX10_asItIs_23 : decode cX10_asItIs 23 = .ok (.iconst 0, 1) := by decide +kernel
theorem dX10_asItIs_24 : decode cX10_asItIs 24 = .ok (.istore_n 1, 1) := by decide +kernel
theorem dX10_asItIs_25 : decode cX10_asItIs 25 = .ok (.iload_n 1, 1) := by decide +kernel
theorem dX10_asItIs_26 : decode cX10_asItIs 26 = .ok (.bipush 80, 2) := by decide +kernel
theorem dX10_asItIs_28 : decode cX10_asItIs 28 = .ok (.if_icmp .ge 16, 3) := by decide +kernel
theorem dX10_asItIs_31 : decode cX10_asItIs 31 = .ok (.aload_n 0, 1) := by decide +kernel
theorem dX10_asItIs_32 : decode cX10_asItIs 32 = .ok (.getfield 34, 3) := by decide +kernel
theorem dX10_asItIs_35 : decode cX10_asItIs 35 = .ok (.iload_n 1, 1) := by decide +kernel
theorem dX10_asItIs_36 : decode cX10_asItIs 36 = .ok (.iconst 0, 1) := by decide +kernel
theorem dX10_asItIs_37 : decode cX10_asItIs 37 = .ok (.bastore, 1) := by decide +kernel
theorem dX10_asItIs_38 : decode cX10_asItIs 38 = .ok (.iinc 1 1, 3) := by decide +kernel
theorem dX10_asItIs_41 : decode cX10_asItIs 41 = .ok (.goto (-16), 3) := by decide +kernel
theorem dX10_asItIs_44 : decode cX10_asItIs 44 = .ok (.iconst 0, 1) := by decide +kernel
theorem dX10_asItIs_45 : decode cX10_asItIs 45 = .ok (.istore_n 1, 1) := by decide +kernel
theorem dX10_asItIs_46 : decode cX10_asItIs 46 = .ok (.iload_n 1, 1) := by decide +kernel
theorem dX10_asItIs_47 : decode cX10_asItIs 47 = .ok (.aload_n 0, 1) := by decide +kernel
theorem dX10_asItIs_48 : decode cX10_asItIs 48 = .ok (.getfield 9, 3) := by decide +kernel
theorem dX10_asItIs_51 : decode cX10_asItIs 51 = .ok (.iconst 5, 1) := by decide +kernel
theorem dX10_asItIs_52 : decode cX10_asItIs 52 = .ok (.iaload, 1) := by decide +kernel
theorem dX10_asItIs_53 : decode cX10_asItIs 53 = .ok (.if_icmp .ge 24, 3) := by decide +kernel
theorem dX10_asItIs_56 : decode cX10_asItIs 56 = .ok (.aload_n 0, 1) := by decide +kernel
theorem dX10_asItIs_57 : decode cX10_asItIs 57 = .ok (.getfield 34, 3) := by decide +kernel
theorem dX10_asItIs_60 : decode cX10_asItIs 60 = .ok (.aload_n 0, 1) := by decide +kernel
theorem dX10_asItIs_61 : decode cX10_asItIs 61 = .ok (.getfield 9, 3) := by decide +kernel
theorem dX10_asItIs_64 : decode cX10_asItIs 64 = .ok (.bipush 10, 2) := by decide +kernel
theorem dX10_asItIs_66 : decode cX10_asItIs 66 = .ok (.iload_n 1, 1) := by decide +kernel
theorem dX10_asItIs_67 : decode cX10_asItIs 67 = .ok (.iadd, 1) := by decide +kernel
theorem dX10_asItIs_68 : decode cX10_asItIs 68 = .ok (.iaload, 1) := by decide +kernel
theorem dX10_asItIs_69 : decode cX10_asItIs 69 = .ok (.iconst 1, 1) := by decide +kernel
theorem dX10_asItIs_70 : decode cX10_asItIs 70 = .ok (.bastore, 1) := by decide +kernel
theorem dX10_asItIs_71 : decode cX10_asItIs 71 = .ok (.iinc 1 1, 3) := by decide +kernel
theorem dX10_asItIs_74 : decode cX10_asItIs 74 = .ok (.goto (-28), 3) := by decide +kernel
theorem dX10_asItIs_77 : decode cX10_asItIs 77 = .ok (.iconst 0, 1) := by decide +kernel
theorem dX10_asItIs_78 : decode cX10_asItIs 78 = .ok (.istore_n 1, 1) := by decide +kernel
theorem dX10_asItIs_79 : decode cX10_asItIs 79 = .ok (.iload_n 1, 1) := by decide +kernel
theorem dX10_asItIs_80 : decode cX10_asItIs 80 = .ok (.aload_n 0, 1) := by decide +kernel
theorem dX10_asItIs_81 : decode cX10_asItIs 81 = .ok (.getfield 9, 3) := by decide +kernel
theorem dX10_asItIs_84 : decode cX10_asItIs 84 = .ok (.bipush 8, 2) := by decide +kernel
theorem dX10_asItIs_86 : decode cX10_asItIs 86 = .ok (.iaload, 1) := by decide +kernel
theorem dX10_asItIs_87 : decode cX10_asItIs 87 = .ok (.if_icmp .ge 54, 3) := by decide +kernel
theorem dX10_asItIs_90 : decode cX10_asItIs 90 = .ok (.aload_n 0, 1) := by decide +kernel
theorem dX10_asItIs_91 : decode cX10_asItIs 91 = .ok (.getfield 9, 3) := by decide +kernel
theorem dX10_asItIs_94 : decode cX10_asItIs 94 = .ok (.bipush 119, 2) := by decide +kernel
theorem dX10_asItIs_96 : decode cX10_asItIs 96 = .ok (.iload_n 1, 1) := by decide +kernel
theorem dX10_asItIs_97 : decode cX10_asItIs 97 = .ok (.iadd, 1) := by decide +kernel
theorem dX10_asItIs_98 : decode cX10_asItIs 98 = .ok (.iaload, 1) := by decide +kernel
theorem dX10_asItIs_99 : decode cX10_asItIs 99 = .ok (.istore_n 2, 1) := by decide +kernel
theorem dX10_asItIs_100 : decode cX10_asItIs 100 = .ok (.iload_n 2, 1) := by decide +kernel
theorem dX10_asItIs_101 : decode cX10_asItIs 101 = .ok (.sipush 1000, 3) := by decide +kernel
theorem dX10_asItIs_104 : decode cX10_asItIs 104 = .ok (.if_icmp .ge 13, 3) := by decide +kernel
theorem dX10_asItIs_107 : decode cX10_asItIs 107 = .ok (.aload_n 0, 1) := by decide +kernel
theorem dX10_asItIs_108 : decode cX10_asItIs 108 = .ok (.getfield 34, 3) := by decide +kernel
theorem dX10_asItIs_111 : decode cX10_asItIs 111 = .ok (.iload_n 2, 1) := by decide +kernel
theorem dX10_asItIs_112 : decode cX10_asItIs 112 = .ok (.iconst 0, 1) := by decide +kernel
theorem dX10_asItIs_113 : decode cX10_asItIs 113 = .ok (.bastore, 1) := by decide +kernel
theorem dX10_asItIs_114 : decode cX10_asItIs 114 = .ok (.goto 21, 3) := by decide +kernel
theorem dX10_asItIs_117 : decode cX10_asItIs 117 = .ok (.aload_n 0, 1) := by decide +kernel
theorem dX10_asItIs_118 : decode cX10_asItIs 118 = .ok (.dup, 1) := by decide +kernel
theorem dX10_asItIs_119 : decode cX10_asItIs 119 = .ok (.getfield 276, 3) := by decide +kernel
theorem dX10_asItIs_122 : decode cX10_asItIs 122 = .ok (.iconst 1, 1) := by decide +kernel
theorem dX10_asItIs_123 : decode cX10_asItIs 123 = .ok (.iload_n 2, 1) := by decide +kernel
theorem dX10_asItIs_124 : decode cX10_asItIs 124 = .ok (.sipush 1000, 3) := by decide +kernel
theorem dX10_asItIs_127 : decode cX10_asItIs 127 = .ok (.isub, 1) := by decide +kernel
theorem dX10_asItIs_128 : decode cX10_asItIs 128 = .ok (.ishl, 1) := by decide +kernel
theorem dX10_asItIs_129 : decode cX10_asItIs 129 = .ok (.iconst (-1), 1) := by decide +kernel
theorem dX10_asItIs_130 : decode cX10_asItIs 130 = .ok (.ixor, 1) := by decide +kernel
theorem dX10_asItIs_131 : decode cX10_asItIs 131 = .ok (.iand, 1) := by decide +kernel
theorem dX10_asItIs_132 : decode cX10_asItIs 132 = .ok (.putfield 276, 3) := by decide +kernel
theorem dX10_asItIs_135 : decode cX10_asItIs 135 = .ok (.iinc 1 1, 3) := by decide +kernel
theorem dX10_asItIs_138 : decode cX10_asItIs 138 = .ok (.goto (-59), 3) := by decide +kernel
theorem dX10_asItIs_141 : decode cX10_asItIs 141 = .ok (.iconst 0, 1) := by decide +kernel
theorem dX10_asItIs_142 : decode cX10_asItIs 142 = .ok (.istore_n 1, 1) := by decide +kernel
theorem dX10_asItIs_143 : decode cX10_asItIs 143 = .ok (.iload_n 1, 1) := by decide +kernel
theorem dX10_asItIs_144 : decode cX10_asItIs 144 = .ok (.bipush 7, 2) := by decide +kernel
theorem dX10_asItIs_146 : decode cX10_asItIs 146 = .ok (.if_icmp .ge 21, 3) := by decide +kernel
theorem dX10_asItIs_149 : decode cX10_asItIs 149 = .ok (.aload_n 0, 1) := by decide +kernel
theorem dX10_asItIs_150 : decode cX10_asItIs 150 = .ok (.getfield 37, 3) := by decide +kernel
theorem dX10_asItIs_153 : decode cX10_asItIs 153 = .ok (.iload_n 1, 1) := by decide +kernel
theorem dX10_asItIs_154 : decode cX10_asItIs 154 = .ok (.aload_n 0, 1) := by decide +kernel
theorem dX10_asItIs_155 : decode cX10_asItIs 155 = .ok (.iload_n 1, 1) := by decide +kernel
theorem dX10_asItIs_156 : decode cX10_asItIs 156 = .ok (.iconst 1, 1) := by decide +kernel
theorem dX10_asItIs_157 : decode cX10_asItIs 157 = .ok (.invokevirtual 267, 3) := by decide +kernel
theorem dX10_asItIs_160 : decode cX10_asItIs 160 = .ok (.iastore, 1) := by decide +kernel
theorem dX10_asItIs_161 : decode cX10_asItIs 161 = .ok (.iinc 1 1, 3) := by decide +kernel
theorem dX10_asItIs_164 : decode cX10_asItIs 164 = .ok (.goto (-21), 3) := by decide +kernel
theorem dX10_asItIs_167 : decode cX10_asItIs 167 = .ok (.return_, 1) := by decide +kernel
theorem dX10_asksCell_0 : decode cX10_asksCell 0 = .ok (.aload_n 0, 1) := by decide +kernel
theorem dX10_asksCell_1 : decode cX10_asksCell 1 = .ok (.invokevirtual 335, 3) := by decide +kernel
theorem dX10_asksCell_4 : decode cX10_asksCell 4 = .ok (.pop, 1) := by decide +kernel
theorem dX10_asksCell_5 : decode cX10_asksCell 5 = .ok (.aload_n 0, 1) := by decide +kernel
theorem dX10_asksCell_6 : decode cX10_asksCell 6 = .ok (.iload_n 1, 1) := by decide +kernel
theorem dX10_asksCell_7 : decode cX10_asksCell 7 = .ok (.i2l, 1) := by decide +kernel
theorem dX10_asksCell_8 : decode cX10_asksCell 8 = .ok (.invokevirtual 310, 3) := by decide +kernel
theorem dX10_asksCell_11 : decode cX10_asksCell 11 = .ok (.ireturn, 1) := by decide +kernel
theorem dX10_asksColony_0 : decode cX10_asksColony 0 = .ok (.aload_n 0, 1) := by decide +kernel
theorem dX10_asksColony_1 : decode cX10_asksColony 1 = .ok (.invokevirtual 329, 3) := by decide +kernel
theorem dX10_asksColony_4 : decode cX10_asksColony 4 = .ok (.aload_n 0, 1) := by decide +kernel
theorem dX10_asksColony_5 : decode cX10_asksColony 5 = .ok (.invokevirtual 332, 3) := by decide +kernel
theorem dX10_asksColony_8 : decode cX10_asksColony 8 = .ok (.aload_n 0, 1) := by decide +kernel
theorem dX10_asksColony_9 : decode cX10_asksColony 9 = .ok (.invokevirtual 114, 3) := by decide +kernel
theorem dX10_asksColony_12 : decode cX10_asksColony 12 = .ok (.ireturn, 1) := by decide +kernel
theorem dX10_asksWidow_0 : decode cX10_asksWidow 0 = .ok (.aload_n 0, 1) := by decide +kernel
theorem dX10_asksWidow_1 : decode cX10_asksWidow 1 = .ok (.invokevirtual 335, 3) := by decide +kernel
theorem dX10_asksWidow_4 : decode cX10_asksWidow 4 = .ok (.pop, 1) := by decide +kernel
theorem dX10_asksWidow_5 : decode cX10_asksWidow 5 = .ok (.aload_n 0, 1) := by decide +kernel
theorem dX10_asksWidow_6 : decode cX10_asksWidow 6 = .ok (.iload_n 1, 1) := by decide +kernel
theorem dX10_asksWidow_7 : decode cX10_asksWidow 7 = .ok (.i2l, 1) := by decide +kernel
theorem dX10_asksWidow_8 : decode cX10_asksWidow 8 = .ok (.invokevirtual 261, 3) := by decide +kernel
theorem dX10_asksWidow_11 : decode cX10_asksWidow 11 = .ok (.ireturn, 1) := by decide +kernel
theorem dX10_asksYear_0 : decode cX10_asksYear 0 = .ok (.aload_n 0, 1) := by decide +kernel
theorem dX10_asksYear_1 : decode cX10_asksYear 1 = .ok (.invokevirtual 335, 3) := by decide +kernel
theorem dX10_asksYear_4 : decode cX10_asksYear 4 = .ok (.pop, 1) := by decide +kernel
theorem dX10_asksYear_5 : decode cX10_asksYear 5 = .ok (.aload_n 0, 1) := by decide +kernel
theorem dX10_asksYear_6 : decode cX10_asksYear 6 = .ok (.iload_n 1, 1) := by decide +kernel
theorem dX10_asksYear_7 : decode cX10_asksYear 7 = .ok (.i2l, 1) := by decide +kernel
theorem dX10_asksYear_8 : decode cX10_asksYear 8 = .ok (.invokevirtual 338, 3) := by decide +kernel
theorem dX10_asksYear_11 : decode cX10_asksYear 11 = .ok (.ireturn, 1) := by decide +kernel
theorem dX10_beside_0 : decode cX10_beside 0 = .ok (.iload_n 1, 1) := by decide +kernel
theorem dX10_beside_1 : decode cX10_beside 1 = .ok (.bipush 10, 2) := by decide +kernel
theorem dX10_beside_3 : decode cX10_beside 3 = .ok (.idiv, 1) := by decide +kernel
theorem dX10_beside_4 : decode cX10_beside 4 = .ok (.iload_n 2, 1) := by decide +kernel
theorem dX10_beside_5 : decode cX10_beside 5 = .ok (.invokestatic 282, 3) := by decide +kernel
theorem dX10_beside_8 : decode cX10_beside 8 = .ok (.iadd, 1) := by decide +kernel
theorem dX10_beside_9 : decode cX10_beside 9 = .ok (.istore_n 3, 1) := by decide +kernel
theorem dX10_beside_10 : decode cX10_beside 10 = .ok (.iload_n 1, 1) := by decide +kernel
theorem dX10_beside_11 : decode cX10_beside 11 = .ok (.bipush 10, 2) := by decide +kernel
theorem dX10_beside_13 : decode cX10_beside 13 = .ok (.irem, 1) := by decide +kernel
theorem dX10_beside_14 : decode cX10_beside 14 = .ok (.iload_n 2, 1) := by decide +kernel
theorem dX10_beside_15 : decode cX10_beside 15 = .ok (.invokestatic 285, 3) := by decide +kernel
theorem dX10_beside_18 : decode cX10_beside 18 = .ok (.iadd, 1) := by decide +kernel
theorem dX10_beside_19 : decode cX10_beside 19 = .ok (.istore 4, 2) := by decide +kernel
theorem dX10_beside_21 : decode cX10_beside 21 = .ok (.iload_n 3, 1) := by decide +kernel
theorem dX10_beside_22 : decode cX10_beside 22 = .ok (.i2l, 1) := by decide +kernel
theorem dX10_beside_23 : decode cX10_beside 23 = .ok (.lconst 0, 1) := by decide +kernel
theorem dX10_beside_24 : decode cX10_beside 24 = .ok (.aload_n 0, 1) := by decide +kernel
theorem dX10_beside_25 : decode cX10_beside 25 = .ok (.getfield 9, 3) := by decide +kernel
theorem dX10_beside_28 : decode cX10_beside 28 = .ok (.iconst 3, 1) := by decide +kernel
theorem dX10_beside_29 : decode cX10_beside 29 = .ok (.iaload, 1) := by decide +kernel
theorem dX10_beside_30 : decode cX10_beside 30 = .ok (.iconst 1, 1) := by decide +kernel
theorem dX10_beside_31 : decode cX10_beside 31 = .ok (.isub, 1) := by decide +kernel
theorem dX10_beside_32 : decode cX10_beside 32 = .ok (.i2l, 1) := by decide +kernel
theorem dX10_beside_33 : decode cX10_beside 33 = .ok (.invokestatic 106, 3) := by decide +kernel
theorem dX10_beside_36 : decode cX10_beside 36 = .ok (.ifCond .eq 32, 3) := by decide +kernel
theorem dX10_beside_39 : decode cX10_beside 39 = .ok (.iload 4, 2) := by decide +kernel
theorem dX10_beside_41 : decode cX10_beside 41 = .ok (.i2l, 1) := by decide +kernel
theorem dX10_beside_42 : decode cX10_beside 42 = .ok (.lconst 0, 1) := by decide +kernel
theorem dX10_beside_43 : decode cX10_beside 43 = .ok (.aload_n 0, 1) := by decide +kernel
theorem dX10_beside_44 : decode cX10_beside 44 = .ok (.getfield 9, 3) := by decide +kernel
theorem dX10_beside_47 : decode cX10_beside 47 = .ok (.iconst 4, 1) := by decide +kernel
theorem dX10_beside_48 : decode cX10_beside 48 = .ok (.iaload, 1) := by decide +kernel
theorem dX10_beside_49 : decode cX10_beside 49 = .ok (.iconst 1, 1) := by decide +kernel
theorem dX10_beside_50 : decode cX10_beside 50 = .ok (.isub, 1) := by decide +kernel
theorem dX10_beside_51 : decode cX10_beside 51 = .ok (.i2l, 1) := by decide +kernel
theorem dX10_beside_52 : decode cX10_beside 52 = .ok (.invokestatic 106, 3) := by decide +kernel
theorem dX10_beside_55 : decode cX10_beside 55 = .ok (.ifCond .eq 13, 3) := by decide +kernel
theorem dX10_beside_58 : decode cX10_beside 58 = .ok (.bipush 10, 2) := by decide +kernel
theorem dX10_beside_60 : decode cX10_beside 60 = .ok (.iload_n 3, 1) := by decide +kernel
theorem dX10_beside_61 : decode cX10_beside 61 = .ok (.imul, 1) := by decide +kernel
theorem dX10_beside_62 : decode cX10_beside 62 = .ok (.iload 4, 2) := by decide +kernel
theorem dX10_beside_64 : decode cX10_beside 64 = .ok (.iadd, 1) := by decide +kernel
theorem dX10_beside_65 : decode cX10_beside 65 = .ok (.goto 4, 3) := by decide +kernel
theorem dX10_beside_68 : decode cX10_beside 68 = .ok (.iconst (-1), 1) := by decide +kernel
theorem dX10_beside_69 : decode cX10_beside 69 = .ok (.ireturn, 1) := by decide +kernel
theorem dX10_emptyCell_0 : decode cX10_emptyCell 0 = .ok (.iconst 0, 1) := by decide +kernel
theorem dX10_emptyCell_1 : decode cX10_emptyCell 1 = .ok (.istore_n 1, 1) := by decide +kernel
theorem dX10_emptyCell_2 : decode cX10_emptyCell 2 = .ok (.iload_n 1, 1) := by decide +kernel
theorem dX10_emptyCell_3 : decode cX10_emptyCell 3 = .ok (.bipush 80, 2) := by decide +kernel
theorem dX10_emptyCell_5 : decode cX10_emptyCell 5 = .ok (.if_icmp .ge 46, 3) := by decide +kernel
theorem dX10_emptyCell_8 : decode cX10_emptyCell 8 = .ok (.aload_n 0, 1) := by decide +kernel
theorem dX10_emptyCell_9 : decode cX10_emptyCell 9 = .ok (.iload_n 1, 1) := by decide +kernel
theorem dX10_emptyCell_10 : decode cX10_emptyCell 10 = .ok (.i2l, 1) := by decide +kernel
theorem dX10_emptyCell_11 : decode cX10_emptyCell 11 = .ok (.invokevirtual 310, 3) := by decide +kernel
theorem dX10_emptyCell_14 : decode cX10_emptyCell 14 = .ok (.ifCond .eq 31, 3) := by decide +kernel
theorem dX10_emptyCell_17 : decode cX10_emptyCell 17 = .ok (.aload_n 0, 1) := by decide +kernel
theorem dX10_emptyCell_18 : decode cX10_emptyCell 18 = .ok (.getfield 34, 3) := by decide +kernel
theorem dX10_emptyCell_21 : decode cX10_emptyCell 21 = .ok (.iload_n 1, 1) := by decide +kernel
theorem dX10_emptyCell_22 : decode cX10_emptyCell 22 = .ok (.baload, 1) := by decide +kernel
theorem dX10_emptyCell_23 : decode cX10_emptyCell 23 = .ok (.ifCond .ne 22, 3) := by decide +kernel
theorem dX10_emptyCell_26 : decode cX10_emptyCell 26 = .ok (.aload_n 0, 1) := by decide +kernel
theorem dX10_emptyCell_27 : decode cX10_emptyCell 27 = .ok (.getfield 40, 3) := by decide +kernel
theorem dX10_emptyCell_30 : decode cX10_emptyCell 30 = .ok (.iload_n 1, 1) := by decide +kernel
theorem dX10_emptyCell_31 : decode cX10_emptyCell 31 = .ok (.baload, 1) := by decide +kernel
theorem dX10_emptyCell_32 : decode cX10_emptyCell 32 = .ok (.ifCond .ne 13, 3) := by decide +kernel
theorem dX10_emptyCell_35 : decode cX10_emptyCell 35 = .ok (.aload_n 0, 1) := by decide +kernel
theorem dX10_emptyCell_36 : decode cX10_emptyCell 36 = .ok (.iload_n 1, 1) := by decide +kernel
theorem dX10_emptyCell_37 : decode cX10_emptyCell 37 = .ok (.invokevirtual 313, 3) := by decide +kernel
theorem dX10_emptyCell_40 : decode cX10_emptyCell 40 = .ok (.ifCond .ne 5, 3) := by decide +kernel
theorem dX10_emptyCell_43 : decode cX10_emptyCell 43 = .ok (.iload_n 1, 1) := by decide +kernel
theorem dX10_emptyCell_44 : decode cX10_emptyCell 44 = .ok (.ireturn, 1) := by decide +kernel
theorem dX10_emptyCell_45 : decode cX10_emptyCell 45 = .ok (.iinc 1 1, 3) := by decide +kernel
theorem dX10_emptyCell_48 : decode cX10_emptyCell 48 = .ok (.goto (-46), 3) := by decide +kernel
theorem dX10_emptyCell_51 : decode cX10_emptyCell 51 = .ok (.iconst (-1), 1) := by decide +kernel
theorem dX10_emptyCell_52 : decode cX10_emptyCell 52 = .ok (.ireturn, 1) := by decide +kernel
theorem dX10_goAll_0 : decode cX10_goAll 0 = .ok (.iconst 0, 1) := by decide +kernel
theorem dX10_goAll_1 : decode cX10_goAll 1 = .ok (.istore_n 1, 1) := by decide +kernel
theorem dX10_goAll_2 : decode cX10_goAll 2 = .ok (.iload_n 1, 1) := by decide +kernel
theorem dX10_goAll_3 : decode cX10_goAll 3 = .ok (.bipush 80, 2) := by decide +kernel
theorem dX10_goAll_5 : decode cX10_goAll 5 = .ok (.if_icmp .ge 23, 3) := by decide +kernel
theorem dX10_goAll_8 : decode cX10_goAll 8 = .ok (.aload_n 0, 1) := by decide +kernel
theorem dX10_goAll_9 : decode cX10_goAll 9 = .ok (.getfield 40, 3) := by decide +kernel
theorem dX10_goAll_12 : decode cX10_goAll 12 = .ok (.iload_n 1, 1) := by decide +kernel
theorem dX10_goAll_13 : decode cX10_goAll 13 = .ok (.iconst 0, 1) := by decide +kernel
theorem dX10_goAll_14 : decode cX10_goAll 14 = .ok (.bastore, 1) := by decide +kernel
theorem dX10_goAll_15 : decode cX10_goAll 15 = .ok (.aload_n 0, 1) := by decide +kernel
theorem dX10_goAll_16 : decode cX10_goAll 16 = .ok (.getfield 49, 3) := by decide +kernel
theorem dX10_goAll_19 : decode cX10_goAll 19 = .ok (.iload_n 1, 1) := by decide +kernel
theorem dX10_goAll_20 : decode cX10_goAll 20 = .ok (.iconst 0, 1) := by decide +kernel
theorem dX10_goAll_21 : decode cX10_goAll 21 = .ok (.iastore, 1) := by decide +kernel
theorem dX10_goAll_22 : decode cX10_goAll 22 = .ok (.iinc 1 1, 3) := by decide +kernel
theorem dX10_goAll_25 : decode cX10_goAll 25 = .ok (.goto (-23), 3) := by decide +kernel
theorem dX10_goAll_28 : decode cX10_goAll 28 = .ok (.iconst 0, 1) := by decide +kernel
theorem dX10_goAll_29 : decode cX10_goAll 29 = .ok (.istore_n 1, 1) := by decide +kernel
theorem dX10_goAll_30 : decode cX10_goAll 30 = .ok (.iload_n 1, 1) := by decide +kernel
theorem dX10_goAll_31 : decode cX10_goAll 31 = .ok (.bipush 6, 2) := by decide +kernel
theorem dX10_goAll_33 : decode cX10_goAll 33 = .ok (.if_icmp .ge 31, 3) := by decide +kernel
theorem dX10_goAll_36 : decode cX10_goAll 36 = .ok (.aload_n 0, 1) := by decide +kernel
theorem dX10_goAll_37 : decode cX10_goAll 37 = .ok (.getfield 52, 3) := by decide +kernel
theorem dX10_goAll_40 : decode cX10_goAll 40 = .ok (.iload_n 1, 1) := by decide +kernel
theorem dX10_goAll_41 : decode cX10_goAll 41 = .ok (.aload_n 0, 1) := by decide +kernel
theorem dX10_goAll_42 : decode cX10_goAll 42 = .ok (.getfield 9, 3) := by decide +kernel
theorem dX10_goAll_45 : decode cX10_goAll 45 = .ok (.bipush 22, 2) := by decide +kernel
theorem dX10_goAll_47 : decode cX10_goAll 47 = .ok (.iload_n 1, 1) := by decide +kernel
theorem dX10_goAll_48 : decode cX10_goAll 48 = .ok (.iadd, 1) := by decide +kernel
theorem dX10_goAll_49 : decode cX10_goAll 49 = .ok (.iaload, 1) := by decide +kernel
theorem dX10_goAll_50 : decode cX10_goAll 50 = .ok (.iastore, 1) := by decide +kernel
theorem dX10_goAll_51 : decode cX10_goAll 51 = .ok (.aload_n 0, 1) := by decide +kernel
theorem dX10_goAll_52 : decode cX10_goAll 52 = .ok (.getfield 64, 3) := by decide +kernel
theorem dX10_goAll_55 : decode cX10_goAll 55 = .ok (.iload_n 1, 1) := by decide +kernel
theorem dX10_goAll_56 : decode cX10_goAll 56 = .ok (.iconst 0, 1) := by decide +kernel
theorem dX10_goAll_57 : decode cX10_goAll 57 = .ok (.iastore, 1) := by decide +kernel
theorem dX10_goAll_58 : decode cX10_goAll 58 = .ok (.iinc 1 1, 3) := by decide +kernel
theorem dX10_goAll_61 : decode cX10_goAll 61 = .ok (.goto (-31), 3) := by decide +kernel
theorem dX10_goAll_64 : decode cX10_goAll 64 = .ok (.iconst 0, 1) := by decide +kernel
theorem dX10_goAll_65 : decode cX10_goAll 65 = .ok (.istore_n 1, 1) := by decide +kernel
theorem dX10_goAll_66 : decode cX10_goAll 66 = .ok (.iload_n 1, 1) := by decide +kernel
theorem dX10_goAll_67 : decode cX10_goAll 67 = .ok (.bipush 7, 2) := by decide +kernel
theorem dX10_goAll_69 : decode cX10_goAll 69 = .ok (.if_icmp .ge 16, 3) := by decide +kernel
theorem dX10_goAll_72 : decode cX10_goAll 72 = .ok (.aload_n 0, 1) := by decide +kernel
theorem dX10_goAll_73 : decode cX10_goAll 73 = .ok (.getfield 58, 3) := by decide +kernel
theorem dX10_goAll_76 : decode cX10_goAll 76 = .ok (.iload_n 1, 1) := by decide +kernel
theorem dX10_goAll_77 : decode cX10_goAll 77 = .ok (.iconst (-1), 1) := by decide +kernel
theorem dX10_goAll_78 : decode cX10_goAll 78 = .ok (.iastore, 1) := by decide +kernel
theorem dX10_goAll_79 : decode cX10_goAll 79 = .ok (.iinc 1 1, 3) := by decide +kernel
theorem dX10_goAll_82 : decode cX10_goAll 82 = .ok (.goto (-16), 3) := by decide +kernel
theorem dX10_goAll_85 : decode cX10_goAll 85 = .ok (.iconst 0, 1) := by decide +kernel
theorem dX10_goAll_86 : decode cX10_goAll 86 = .ok (.istore_n 1, 1) := by decide +kernel
theorem dX10_goAll_87 : decode cX10_goAll 87 = .ok (.iload_n 1, 1) := by decide +kernel
theorem dX10_goAll_88 : decode cX10_goAll 88 = .ok (.aload_n 0, 1) := by decide +kernel
theorem dX10_goAll_89 : decode cX10_goAll 89 = .ok (.invokevirtual 118, 3) := by decide +kernel
theorem dX10_goAll_92 : decode cX10_goAll 92 = .ok (.if_icmp .gt 65, 3) := by decide +kernel
theorem dX10_goAll_95 : decode cX10_goAll 95 = .ok (.aload_n 0, 1) := by decide +kernel
theorem dX10_goAll_96 : decode cX10_goAll 96 = .ok (.iload_n 1, 1) := by decide +kernel
theorem dX10_goAll_97 : decode cX10_goAll 97 = .ok (.invokevirtual 320, 3) := by decide +kernel
theorem dX10_goAll_100 : decode cX10_goAll 100 = .ok (.iconst 0, 1) := by decide +kernel
theorem dX10_goAll_101 : decode cX10_goAll 101 = .ok (.istore_n 2, 1) := by decide +kernel
theorem dX10_goAll_102 : decode cX10_goAll 102 = .ok (.iload_n 2, 1) := by decide +kernel
theorem dX10_goAll_103 : decode cX10_goAll 103 = .ok (.aload_n 0, 1) := by decide +kernel
theorem dX10_goAll_104 : decode cX10_goAll 104 = .ok (.invokevirtual 110, 3) := by decide +kernel
theorem dX10_goAll_107 : decode cX10_goAll 107 = .ok (.if_icmp .ge 44, 3) := by decide +kernel
theorem dX10_goAll_110 : decode cX10_goAll 110 = .ok (.iload_n 1, 1) := by decide +kernel
theorem dX10_goAll_111 : decode cX10_goAll 111 = .ok (.aload_n 0, 1) := by decide +kernel
theorem dX10_goAll_112 : decode cX10_goAll 112 = .ok (.invokevirtual 118, 3) := by decide +kernel
theorem dX10_goAll_115 : decode cX10_goAll 115 = .ok (.if_icmp .ge 36, 3) := by decide +kernel
theorem dX10_goAll_118 : decode cX10_goAll 118 = .ok (.aload_n 0, 1) := by decide +kernel
theorem dX10_goAll_119 : decode cX10_goAll 119 = .ok (.iload_n 2, 1) := by decide +kernel
theorem dX10_goAll_120 : decode cX10_goAll 120 = .ok (.iconst 3, 1) := by decide +kernel
theorem dX10_goAll_121 : decode cX10_goAll 121 = .ok (.invokevirtual 267, 3) := by decide +kernel
theorem dX10_goAll_124 : decode cX10_goAll 124 = .ok (.iload_n 1, 1) := by decide +kernel
theorem dX10_goAll_125 : decode cX10_goAll 125 = .ok (.if_icmp .ne 20, 3) := by decide +kernel
theorem dX10_goAll_128 : decode cX10_goAll 128 = .ok (.aload_n 0, 1) := by decide +kernel
theorem dX10_goAll_129 : decode cX10_goAll 129 = .ok (.getfield 276, 3) := by decide +kernel
theorem dX10_goAll_132 : decode cX10_goAll 132 = .ok (.iload_n 2, 1) := by decide +kernel
theorem dX10_goAll_133 : decode cX10_goAll 133 = .ok (.invokestatic 323, 3) := by decide +kernel
theorem dX10_goAll_136 : decode cX10_goAll 136 = .ok (.iconst 1, 1) := by decide +kernel
theorem dX10_goAll_137 : decode cX10_goAll 137 = .ok (.if_icmp .ne 8, 3) := by decide +kernel
theorem dX10_goAll_140 : decode cX10_goAll 140 = .ok (.aload_n 0, 1) := by decide +kernel
theorem dX10_goAll_141 : decode cX10_goAll 141 = .ok (.iload_n 2, 1) := by decide +kernel
theorem dX10_goAll_142 : decode cX10_goAll 142 = .ok (.invokevirtual 326, 3) := by decide +kernel
theorem dX10_goAll_145 : decode cX10_goAll 145 = .ok (.iinc 2 1, 3) := by decide +kernel
theorem dX10_goAll_148 : decode cX10_goAll 148 = .ok (.goto (-46), 3) := by decide +kernel
theorem dX10_goAll_151 : decode cX10_goAll 151 = .ok (.iinc 1 1, 3) := by decide +kernel
theorem dX10_goAll_154 : decode cX10_goAll 154 = .ok (.goto (-67), 3) := by decide +kernel
theorem dX10_goAll_157 : decode cX10_goAll 157 = .ok (.return_, 1) := by decide +kernel
theorem dX10_isAnyFree_0 : decode cX10_isAnyFree 0 = .ok (.iconst 0, 1) := by decide +kernel
theorem dX10_isAnyFree_1 : decode cX10_isAnyFree 1 = .ok (.istore_n 3, 1) := by decide +kernel
theorem dX10_isAnyFree_2 : decode cX10_isAnyFree 2 = .ok (.iconst 0, 1) := by decide +kernel
theorem dX10_isAnyFree_3 : decode cX10_isAnyFree 3 = .ok (.istore 4, 2) := by decide +kernel
theorem dX10_isAnyFree_5 : decode cX10_isAnyFree 5 = .ok (.iload 4, 2) := by decide +kernel
theorem dX10_isAnyFree_7 : decode cX10_isAnyFree 7 = .ok (.iconst 4, 1) := by decide +kernel
theorem dX10_isAnyFree_8 : decode cX10_isAnyFree 8 = .ok (.if_icmp .ge 34, 3) := by decide +kernel
theorem dX10_isAnyFree_11 : decode cX10_isAnyFree 11 = .ok (.iload_n 3, 1) := by decide +kernel
theorem dX10_isAnyFree_12 : decode cX10_isAnyFree 12 = .ok (.ifCond .ne 18, 3) := by decide +kernel
theorem dX10_isAnyFree_15 : decode cX10_isAnyFree 15 = .ok (.aload_n 0, 1) := by decide +kernel
theorem dX10_isAnyFree_16 : decode cX10_isAnyFree 16 = .ok (.aload_n 0, 1) := by decide +kernel
theorem dX10_isAnyFree_17 : decode cX10_isAnyFree 17 = .ok (.iload_n 1, 1) := by decide +kernel
theorem dX10_isAnyFree_18 : decode cX10_isAnyFree 18 = .ok (.iload 4, 2) := by decide +kernel
theorem dX10_isAnyFree_20 : decode cX10_isAnyFree 20 = .ok (.invokevirtual 288, 3) := by decide +kernel
theorem dX10_isAnyFree_23 : decode cX10_isAnyFree 23 = .ok (.iload_n 2, 1) := by decide +kernel
theorem dX10_isAnyFree_24 : decode cX10_isAnyFree 24 = .ok (.invokevirtual 291, 3) := by decide +kernel
theorem dX10_isAnyFree_27 : decode cX10_isAnyFree 27 = .ok (.ifCond .eq 7, 3) := by decide +kernel
theorem dX10_isAnyFree_30 : decode cX10_isAnyFree 30 = .ok (.iconst 1, 1) := by decide +kernel
theorem dX10_isAnyFree_31 : decode cX10_isAnyFree 31 = .ok (.goto 4, 3) := by decide +kernel
theorem dX10_isAnyFree_34 : decode cX10_isAnyFree 34 = .ok (.iconst 0, 1) := by decide +kernel
theorem dX10_isAnyFree_35 : decode cX10_isAnyFree 35 = .ok (.istore_n 3, 1) := by decide +kernel
theorem dX10_isAnyFree_36 : decode cX10_isAnyFree 36 = .ok (.iinc 4 1, 3) := by decide +kernel
theorem dX10_isAnyFree_39 : decode cX10_isAnyFree 39 = .ok (.goto (-34), 3) := by decide +kernel
theorem dX10_isAnyFree_42 : decode cX10_isAnyFree 42 = .ok (.iload_n 3, 1) := by decide +kernel
theorem dX10_isAnyFree_43 : decode cX10_isAnyFree 43 = .ok (.ireturn, 1) := by decide +kernel
theorem dX10_isFree_0 : decode cX10_isFree 0 = .ok (.iload_n 1, 1) := by decide +kernel
theorem dX10_isFree_1 : decode cX10_isFree 1 = .ok (.iconst (-1), 1) := by decide +kernel
theorem dX10_isFree_2 : decode cX10_isFree 2 = .ok (.if_icmp .eq 12, 3) := by decide +kernel
theorem dX10_isFree_5 : decode cX10_isFree 5 = .ok (.aload_n 0, 1) := by decide +kernel
theorem dX10_isFree_6 : decode cX10_isFree 6 = .ok (.getfield 34, 3) := by decide +kernel
theorem dX10_isFree_9 : decode cX10_isFree 9 = .ok (.iload_n 1, 1) := by decide +kernel
theorem dX10_isFree_10 : decode cX10_isFree 10 = .ok (.baload, 1) := by decide +kernel
theorem dX10_isFree_11 : decode cX10_isFree 11 = .ok (.ifCond .eq 5, 3) := by decide +kernel
theorem dX10_isFree_14 : decode cX10_isFree 14 = .ok (.iconst 0, 1) := by decide +kernel
theorem dX10_isFree_15 : decode cX10_isFree 15 = .ok (.ireturn, 1) := by decide +kernel
theorem dX10_isFree_16 : decode cX10_isFree 16 = .ok (.iload_n 2, 1) := by decide +kernel
theorem dX10_isFree_17 : decode cX10_isFree 17 = .ok (.iconst 1, 1) := by decide +kernel
theorem dX10_isFree_18 : decode cX10_isFree 18 = .ok (.if_icmp .ne 12, 3) := by decide +kernel
theorem dX10_isFree_21 : decode cX10_isFree 21 = .ok (.aload_n 0, 1) := by decide +kernel
theorem dX10_isFree_22 : decode cX10_isFree 22 = .ok (.getfield 43, 3) := by decide +kernel
theorem dX10_isFree_25 : decode cX10_isFree 25 = .ok (.iload_n 1, 1) := by decide +kernel
theorem dX10_isFree_26 : decode cX10_isFree 26 = .ok (.baload, 1) := by decide +kernel
theorem dX10_isFree_27 : decode cX10_isFree 27 = .ok (.ifCond .ne 21, 3) := by decide +kernel
theorem dX10_isFree_30 : decode cX10_isFree 30 = .ok (.iload_n 2, 1) := by decide +kernel
theorem dX10_isFree_31 : decode cX10_isFree 31 = .ok (.iconst 2, 1) := by decide +kernel
theorem dX10_isFree_32 : decode cX10_isFree 32 = .ok (.if_icmp .ne 12, 3) := by decide +kernel
theorem dX10_isFree_35 : decode cX10_isFree 35 = .ok (.aload_n 0, 1) := by decide +kernel
theorem dX10_isFree_36 : decode cX10_isFree 36 = .ok (.getfield 46, 3) := by decide +kernel
theorem dX10_isFree_39 : decode cX10_isFree 39 = .ok (.iload_n 1, 1) := by decide +kernel
theorem dX10_isFree_40 : decode cX10_isFree 40 = .ok (.baload, 1) := by decide +kernel
theorem dX10_isFree_41 : decode cX10_isFree 41 = .ok (.ifCond .ne 7, 3) := by decide +kernel
theorem dX10_isFree_44 : decode cX10_isFree 44 = .ok (.iconst 1, 1) := by decide +kernel
theorem dX10_isFree_45 : decode cX10_isFree 45 = .ok (.goto 4, 3) := by decide +kernel
theorem dX10_isFree_48 : decode cX10_isFree 48 = .ok (.iconst 0, 1) := by decide +kernel
theorem dX10_isFree_49 : decode cX10_isFree 49 = .ok (.ireturn, 1) := by decide +kernel
theorem dX10_isHouse_0 : decode cX10_isHouse 0 = .ok (.iconst 0, 1) := by decide +kernel
theorem dX10_isHouse_1 : decode cX10_isHouse 1 = .ok (.istore_n 2, 1) := by decide +kernel
theorem dX10_isHouse_2 : decode cX10_isHouse 2 = .ok (.iconst 0, 1) := by decide +kernel
theorem dX10_isHouse_3 : decode cX10_isHouse 3 = .ok (.istore_n 3, 1) := by decide +kernel
theorem dX10_isHouse_4 : decode cX10_isHouse 4 = .ok (.iload_n 3, 1) := by decide +kernel
theorem dX10_isHouse_5 : decode cX10_isHouse 5 = .ok (.aload_n 0, 1) := by decide +kernel
theorem dX10_isHouse_6 : decode cX10_isHouse 6 = .ok (.invokevirtual 307, 3) := by decide +kernel
theorem dX10_isHouse_9 : decode cX10_isHouse 9 = .ok (.if_icmp .ge 29, 3) := by decide +kernel
theorem dX10_isHouse_12 : decode cX10_isHouse 12 = .ok (.iload_n 2, 1) := by decide +kernel
theorem dX10_isHouse_13 : decode cX10_isHouse 13 = .ok (.ifCond .ne 13, 3) := by decide +kernel
theorem dX10_isHouse_16 : decode cX10_isHouse 16 = .ok (.aload_n 0, 1) := by decide +kernel
theorem dX10_isHouse_17 : decode cX10_isHouse 17 = .ok (.getfield 52, 3) := by decide +kernel
theorem dX10_isHouse_20 : decode cX10_isHouse 20 = .ok (.iload_n 3, 1) := by decide +kernel
theorem dX10_isHouse_21 : decode cX10_isHouse 21 = .ok (.iaload, 1) := by decide +kernel
theorem dX10_isHouse_22 : decode cX10_isHouse 22 = .ok (.iload_n 1, 1) := by decide +kernel
theorem dX10_isHouse_23 : decode cX10_isHouse 23 = .ok (.if_icmp .ne 7, 3) := by decide +kernel
theorem dX10_isHouse_26 : decode cX10_isHouse 26 = .ok (.iconst 1, 1) := by decide +kernel
theorem dX10_isHouse_27 : decode cX10_isHouse 27 = .ok (.goto 4, 3) := by decide +kernel
theorem dX10_isHouse_30 : decode cX10_isHouse 30 = .ok (.iconst 0, 1) := by decide +kernel
theorem dX10_isHouse_31 : decode cX10_isHouse 31 = .ok (.istore_n 2, 1) := by decide +kernel
theorem dX10_isHouse_32 : decode cX10_isHouse 32 = .ok (.iinc 3 1, 3) := by decide +kernel
theorem dX10_isHouse_35 : decode cX10_isHouse 35 = .ok (.goto (-31), 3) := by decide +kernel
theorem dX10_isHouse_38 : decode cX10_isHouse 38 = .ok (.iload_n 2, 1) := by decide +kernel
theorem dX10_isHouse_39 : decode cX10_isHouse 39 = .ok (.ireturn, 1) := by decide +kernel
theorem dX10_keepYear_0 : decode cX10_keepYear 0 = .ok (.iconst 0, 1) := by decide +kernel
theorem dX10_keepYear_1 : decode cX10_keepYear 1 = .ok (.istore_n 2, 1) := by decide +kernel
theorem dX10_keepYear_2 : decode cX10_keepYear 2 = .ok (.iload_n 2, 1) := by decide +kernel
theorem dX10_keepYear_3 : decode cX10_keepYear 3 = .ok (.bipush 80, 2) := by decide +kernel
theorem dX10_keepYear_5 : decode cX10_keepYear 5 = .ok (.if_icmp .ge 43, 3) := by decide +kernel
theorem dX10_keepYear_8 : decode cX10_keepYear 8 = .ok (.aload_n 0, 1) := by decide +kernel
theorem dX10_keepYear_9 : decode cX10_keepYear 9 = .ok (.getfield 67, 3) := by decide +kernel
theorem dX10_keepYear_12 : decode cX10_keepYear 12 = .ok (.bipush 80, 2) := by decide +kernel
theorem dX10_keepYear_14 : decode cX10_keepYear 14 = .ok (.iload_n 1, 1) := by decide +kernel
theorem dX10_keepYear_15 : decode cX10_keepYear 15 = .ok (.imul, 1) := by decide +kernel
theorem dX10_keepYear_16 : decode cX10_keepYear 16 = .ok (.iload_n 2, 1) := by decide +kernel
theorem dX10_keepYear_17 : decode cX10_keepYear 17 = .ok (.iadd, 1) := by decide +kernel
theorem dX10_keepYear_18 : decode cX10_keepYear 18 = .ok (.aload_n 0, 1) := by decide +kernel
theorem dX10_keepYear_19 : decode cX10_keepYear 19 = .ok (.getfield 40, 3) := by decide +kernel
theorem dX10_keepYear_22 : decode cX10_keepYear 22 = .ok (.iload_n 2, 1) := by decide +kernel
theorem dX10_keepYear_23 : decode cX10_keepYear 23 = .ok (.baload, 1) := by decide +kernel
theorem dX10_keepYear_24 : decode cX10_keepYear 24 = .ok (.bastore, 1) := by decide +kernel
theorem dX10_keepYear_25 : decode cX10_keepYear 25 = .ok (.aload_n 0, 1) := by decide +kernel
theorem dX10_keepYear_26 : decode cX10_keepYear 26 = .ok (.getfield 70, 3) := by decide +kernel
theorem dX10_keepYear_29 : decode cX10_keepYear 29 = .ok (.bipush 80, 2) := by decide +kernel
theorem dX10_keepYear_31 : decode cX10_keepYear 31 = .ok (.iload_n 1, 1) := by decide +kernel
theorem dX10_keepYear_32 : decode cX10_keepYear 32 = .ok (.imul, 1) := by decide +kernel
theorem dX10_keepYear_33 : decode cX10_keepYear 33 = .ok (.iload_n 2, 1) := by decide +kernel
theorem dX10_keepYear_34 : decode cX10_keepYear 34 = .ok (.iadd, 1) := by decide +kernel
theorem dX10_keepYear_35 : decode cX10_keepYear 35 = .ok (.aload_n 0, 1) := by decide +kernel
theorem dX10_keepYear_36 : decode cX10_keepYear 36 = .ok (.getfield 49, 3) := by decide +kernel
theorem dX10_keepYear_39 : decode cX10_keepYear 39 = .ok (.iload_n 2, 1) := by decide +kernel
theorem dX10_keepYear_40 : decode cX10_keepYear 40 = .ok (.iaload, 1) := by decide +kernel
theorem dX10_keepYear_41 : decode cX10_keepYear 41 = .ok (.iastore, 1) := by decide +kernel
theorem dX10_keepYear_42 : decode cX10_keepYear 42 = .ok (.iinc 2 1, 3) := by decide +kernel
theorem dX10_keepYear_45 : decode cX10_keepYear 45 = .ok (.goto (-43), 3) := by decide +kernel
theorem dX10_keepYear_48 : decode cX10_keepYear 48 = .ok (.iconst 0, 1) := by decide +kernel
theorem dX10_keepYear_49 : decode cX10_keepYear 49 = .ok (.istore_n 2, 1) := by decide +kernel
theorem dX10_keepYear_50 : decode cX10_keepYear 50 = .ok (.iload_n 2, 1) := by decide +kernel
theorem dX10_keepYear_51 : decode cX10_keepYear 51 = .ok (.bipush 6, 2) := by decide +kernel
theorem dX10_keepYear_53 : decode cX10_keepYear 53 = .ok (.if_icmp .ge 26, 3) := by decide +kernel
theorem dX10_keepYear_56 : decode cX10_keepYear 56 = .ok (.aload_n 0, 1) := by decide +kernel
theorem dX10_keepYear_57 : decode cX10_keepYear 57 = .ok (.getfield 73, 3) := by decide +kernel
theorem dX10_keepYear_60 : decode cX10_keepYear 60 = .ok (.bipush 6, 2) := by decide +kernel
theorem dX10_keepYear_62 : decode cX10_keepYear 62 = .ok (.iload_n 1, 1) := by decide +kernel
theorem dX10_keepYear_63 : decode cX10_keepYear 63 = .ok (.imul, 1) := by decide +kernel
theorem dX10_keepYear_64 : decode cX10_keepYear 64 = .ok (.iload_n 2, 1) := by decide +kernel
theorem dX10_keepYear_65 : decode cX10_keepYear 65 = .ok (.iadd, 1) := by decide +kernel
theorem dX10_keepYear_66 : decode cX10_keepYear 66 = .ok (.aload_n 0, 1) := by decide +kernel
theorem dX10_keepYear_67 : decode cX10_keepYear 67 = .ok (.getfield 52, 3) := by decide +kernel
theorem dX10_keepYear_70 : decode cX10_keepYear 70 = .ok (.iload_n 2, 1) := by decide +kernel
theorem dX10_keepYear_71 : decode cX10_keepYear 71 = .ok (.iaload, 1) := by decide +kernel
theorem dX10_keepYear_72 : decode cX10_keepYear 72 = .ok (.iastore, 1) := by decide +kernel
theorem dX10_keepYear_73 : decode cX10_keepYear 73 = .ok (.iinc 2 1, 3) := by decide +kernel
theorem dX10_keepYear_76 : decode cX10_keepYear 76 = .ok (.goto (-26), 3) := by decide +kernel
theorem dX10_keepYear_79 : decode cX10_keepYear 79 = .ok (.return_, 1) := by decide +kernel
theorem dX10_moveHouses_0 : decode cX10_moveHouses 0 = .ok (.aload_n 0, 1) := by decide +kernel
theorem dX10_moveHouses_1 : decode cX10_moveHouses 1 = .ok (.getfield 61, 3) := by decide +kernel
theorem dX10_moveHouses_4 : decode cX10_moveHouses 4 = .ok (.iload_n 1, 1) := by decide +kernel
theorem dX10_moveHouses_5 : decode cX10_moveHouses 5 = .ok (.iconst 0, 1) := by decide +kernel
theorem dX10_moveHouses_6 : decode cX10_moveHouses 6 = .ok (.iastore, 1) := by decide +kernel
theorem dX10_moveHouses_7 : decode cX10_moveHouses 7 = .ok (.iconst 0, 1) := by decide +kernel
theorem dX10_moveHouses_8 : decode cX10_moveHouses 8 = .ok (.istore_n 2, 1) := by decide +kernel
theorem dX10_moveHouses_9 : decode cX10_moveHouses 9 = .ok (.iload_n 2, 1) := by decide +kernel
theorem dX10_moveHouses_10 : decode cX10_moveHouses 10 = .ok (.aload_n 0, 1) := by decide +kernel
theorem dX10_moveHouses_11 : decode cX10_moveHouses 11 = .ok (.invokevirtual 307, 3) := by decide +kernel
theorem dX10_moveHouses_14 : decode cX10_moveHouses 14 = .ok (.if_icmp .ge 66, 3) := by decide +kernel
theorem dX10_moveHouses_17 : decode cX10_moveHouses 17 = .ok (.aload_n 0, 1) := by decide +kernel
theorem dX10_moveHouses_18 : decode cX10_moveHouses 18 = .ok (.getfield 52, 3) := by decide +kernel
theorem dX10_moveHouses_21 : decode cX10_moveHouses 21 = .ok (.iload_n 2, 1) := by decide +kernel
theorem dX10_moveHouses_22 : decode cX10_moveHouses 22 = .ok (.iaload, 1) := by decide +kernel
theorem dX10_moveHouses_23 : decode cX10_moveHouses 23 = .ok (.iconst (-1), 1) := by decide +kernel
theorem dX10_moveHouses_24 : decode cX10_moveHouses 24 = .ok (.if_icmp .eq 50, 3) := by decide +kernel
theorem dX10_moveHouses_27 : decode cX10_moveHouses 27 = .ok (.aload_n 0, 1) := by decide +kernel
theorem dX10_moveHouses_28 : decode cX10_moveHouses 28 = .ok (.getfield 46, 3) := by decide +kernel
theorem dX10_moveHouses_31 : decode cX10_moveHouses 31 = .ok (.aload_n 0, 1) := by decide +kernel
theorem dX10_moveHouses_32 : decode cX10_moveHouses 32 = .ok (.getfield 52, 3) := by decide +kernel
theorem dX10_moveHouses_35 : decode cX10_moveHouses 35 = .ok (.iload_n 2, 1) := by decide +kernel
theorem dX10_moveHouses_36 : decode cX10_moveHouses 36 = .ok (.iaload, 1) := by decide +kernel
theorem dX10_moveHouses_37 : decode cX10_moveHouses 37 = .ok (.baload, 1) := by decide +kernel
theorem dX10_moveHouses_38 : decode cX10_moveHouses 38 = .ok (.ifCond .ne 6, 3) := by decide +kernel
theorem dX10_moveHouses_41 : decode cX10_moveHouses 41 = .ok (.goto 33, 3) := by decide +kernel
theorem dX10_moveHouses_44 : decode cX10_moveHouses 44 = .ok (.aload_n 0, 1) := by decide +kernel
theorem dX10_moveHouses_45 : decode cX10_moveHouses 45 = .ok (.getfield 52, 3) := by decide +kernel
theorem dX10_moveHouses_48 : decode cX10_moveHouses 48 = .ok (.iload_n 2, 1) := by decide +kernel
theorem dX10_moveHouses_49 : decode cX10_moveHouses 49 = .ok (.aload_n 0, 1) := by decide +kernel
theorem dX10_moveHouses_50 : decode cX10_moveHouses 50 = .ok (.invokevirtual 317, 3) := by decide +kernel
theorem dX10_moveHouses_53 : decode cX10_moveHouses 53 = .ok (.iastore, 1) := by decide +kernel
theorem dX10_moveHouses_54 : decode cX10_moveHouses 54 = .ok (.aload_n 0, 1) := by decide +kernel
theorem dX10_moveHouses_55 : decode cX10_moveHouses 55 = .ok (.getfield 61, 3) := by decide +kernel
theorem dX10_moveHouses_58 : decode cX10_moveHouses 58 = .ok (.iload_n 1, 1) := by decide +kernel
theorem dX10_moveHouses_59 : decode cX10_moveHouses 59 = .ok (.dup2, 1) := by decide +kernel
theorem dX10_moveHouses_60 : decode cX10_moveHouses 60 = .ok (.iaload, 1) := by decide +kernel
theorem dX10_moveHouses_61 : decode cX10_moveHouses 61 = .ok (.iconst 1, 1) := by decide +kernel
theorem dX10_moveHouses_62 : decode cX10_moveHouses 62 = .ok (.iadd, 1) := by decide +kernel
theorem dX10_moveHouses_63 : decode cX10_moveHouses 63 = .ok (.iastore, 1) := by decide +kernel
theorem dX10_moveHouses_64 : decode cX10_moveHouses 64 = .ok (.aload_n 0, 1) := by decide +kernel
theorem dX10_moveHouses_65 : decode cX10_moveHouses 65 = .ok (.getfield 64, 3) := by decide +kernel
theorem dX10_moveHouses_68 : decode cX10_moveHouses 68 = .ok (.iload_n 2, 1) := by decide +kernel
theorem dX10_moveHouses_69 : decode cX10_moveHouses 69 = .ok (.dup2, 1) := by decide +kernel
theorem dX10_moveHouses_70 : decode cX10_moveHouses 70 = .ok (.iaload, 1) := by decide +kernel
theorem dX10_moveHouses_71 : decode cX10_moveHouses 71 = .ok (.iconst 1, 1) := by decide +kernel
theorem dX10_moveHouses_72 : decode cX10_moveHouses 72 = .ok (.iadd, 1) := by decide +kernel
theorem dX10_moveHouses_73 : decode cX10_moveHouses 73 = .ok (.iastore, 1) := by decide +kernel
theorem dX10_moveHouses_74 : decode cX10_moveHouses 74 = .ok (.iinc 2 1, 3) := by decide +kernel
theorem dX10_moveHouses_77 : decode cX10_moveHouses 77 = .ok (.goto (-68), 3) := by decide +kernel
theorem dX10_moveHouses_80 : decode cX10_moveHouses 80 = .ok (.return_, 1) := by decide +kernel
theorem dX10_turnAt_0 : decode cX10_turnAt 0 = .ok (.iload_n 1, 1) := by decide +kernel
theorem dX10_turnAt_1 : decode cX10_turnAt 1 = .ok (.aload_n 0, 1) := by decide +kernel
theorem dX10_turnAt_2 : decode cX10_turnAt 2 = .ok (.getfield 279, 3) := by decide +kernel
theorem dX10_turnAt_5 : decode cX10_turnAt 5 = .ok (.if_icmp .ne 8, 3) := by decide +kernel
theorem dX10_turnAt_8 : decode cX10_turnAt 8 = .ok (.aload_n 0, 1) := by decide +kernel
theorem dX10_turnAt_9 : decode cX10_turnAt 9 = .ok (.getfield 295, 3) := by decide +kernel
theorem dX10_turnAt_12 : decode cX10_turnAt 12 = .ok (.ireturn, 1) := by decide +kernel
theorem dX10_turnAt_13 : decode cX10_turnAt 13 = .ok (.aload_n 0, 1) := by decide +kernel
theorem dX10_turnAt_14 : decode cX10_turnAt 14 = .ok (.iload_n 1, 1) := by decide +kernel
theorem dX10_turnAt_15 : decode cX10_turnAt 15 = .ok (.iconst 5, 1) := by decide +kernel
theorem dX10_turnAt_16 : decode cX10_turnAt 16 = .ok (.iload_n 2, 1) := by decide +kernel
theorem dX10_turnAt_17 : decode cX10_turnAt 17 = .ok (.aload_n 0, 1) := by decide +kernel
theorem dX10_turnAt_18 : decode cX10_turnAt 18 = .ok (.iload_n 1, 1) := by decide +kernel
theorem dX10_turnAt_19 : decode cX10_turnAt 19 = .ok (.iconst 4, 1) := by decide +kernel
theorem dX10_turnAt_20 : decode cX10_turnAt 20 = .ok (.invokevirtual 267, 3) := by decide +kernel
theorem dX10_turnAt_23 : decode cX10_turnAt 23 = .ok (.irem, 1) := by decide +kernel
theorem dX10_turnAt_24 : decode cX10_turnAt 24 = .ok (.iadd, 1) := by decide +kernel
theorem dX10_turnAt_25 : decode cX10_turnAt 25 = .ok (.invokevirtual 267, 3) := by decide +kernel
theorem dX10_turnAt_28 : decode cX10_turnAt 28 = .ok (.ireturn, 1) := by decide +kernel
theorem dX10_walk_0 : decode cX10_walk 0 = .ok (.iconst 0, 1) := by decide +kernel
theorem dX10_walk_1 : decode cX10_walk 1 = .ok (.istore_n 2, 1) := by decide +kernel
theorem dX10_walk_2 : decode cX10_walk 2 = .ok (.iload_n 2, 1) := by decide +kernel
theorem dX10_walk_3 : decode cX10_walk 3 = .ok (.bipush 80, 2) := by decide +kernel
theorem dX10_walk_5 : decode cX10_walk 5 = .ok (.if_icmp .ge 28, 3) := by decide +kernel
theorem dX10_walk_8 : decode cX10_walk 8 = .ok (.aload_n 0, 1) := by decide +kernel
theorem dX10_walk_9 : decode cX10_walk 9 = .ok (.getfield 43, 3) := by decide +kernel
theorem dX10_walk_12 : decode cX10_walk 12 = .ok (.iload_n 2, 1) := by decide +kernel
theorem dX10_walk_13 : decode cX10_walk 13 = .ok (.aload_n 0, 1) := by decide +kernel
theorem dX10_walk_14 : decode cX10_walk 14 = .ok (.getfield 40, 3) := by decide +kernel
theorem dX10_walk_17 : decode cX10_walk 17 = .ok (.iload_n 2, 1) := by decide +kernel
theorem dX10_walk_18 : decode cX10_walk 18 = .ok (.baload, 1) := by decide +kernel
theorem dX10_walk_19 : decode cX10_walk 19 = .ok (.bastore, 1) := by decide +kernel
theorem dX10_walk_20 : decode cX10_walk 20 = .ok (.aload_n 0, 1) := by decide +kernel
theorem dX10_walk_21 : decode cX10_walk 21 = .ok (.getfield 46, 3) := by decide +kernel
theorem dX10_walk_24 : decode cX10_walk 24 = .ok (.iload_n 2, 1) := by decide +kernel
theorem dX10_walk_25 : decode cX10_walk 25 = .ok (.iconst 0, 1) := by decide +kernel
theorem dX10_walk_26 : decode cX10_walk 26 = .ok (.bastore, 1) := by decide +kernel
theorem dX10_walk_27 : decode cX10_walk 27 = .ok (.iinc 2 1, 3) := by decide +kernel
theorem dX10_walk_30 : decode cX10_walk 30 = .ok (.goto (-28), 3) := by decide +kernel
theorem dX10_walk_33 : decode cX10_walk 33 = .ok (.aload_n 0, 1) := by decide +kernel
theorem dX10_walk_34 : decode cX10_walk 34 = .ok (.iload_n 1, 1) := by decide +kernel
theorem dX10_walk_35 : decode cX10_walk 35 = .ok (.iconst 0, 1) := by decide +kernel
theorem dX10_walk_36 : decode cX10_walk 36 = .ok (.invokevirtual 267, 3) := by decide +kernel
theorem dX10_walk_39 : decode cX10_walk 39 = .ok (.istore_n 2, 1) := by decide +kernel
theorem dX10_walk_40 : decode cX10_walk 40 = .ok (.aload_n 0, 1) := by decide +kernel
theorem dX10_walk_41 : decode cX10_walk 41 = .ok (.getfield 37, 3) := by decide +kernel
theorem dX10_walk_44 : decode cX10_walk 44 = .ok (.iload_n 1, 1) := by decide +kernel
theorem dX10_walk_45 : decode cX10_walk 45 = .ok (.iaload, 1) := by decide +kernel
theorem dX10_walk_46 : decode cX10_walk 46 = .ok (.istore_n 3, 1) := by decide +kernel
theorem dX10_walk_47 : decode cX10_walk 47 = .ok (.bipush 41, 2) := by decide +kernel
theorem dX10_walk_49 : decode cX10_walk 49 = .ok (.iload_n 1, 1) := by decide +kernel
theorem dX10_walk_50 : decode cX10_walk 50 = .ok (.imul, 1) := by decide +kernel
theorem dX10_walk_51 : decode cX10_walk 51 = .ok (.istore 4, 2) := by decide +kernel
theorem dX10_walk_53 : decode cX10_walk 53 = .ok (.aload_n 0, 1) := by decide +kernel
theorem dX10_walk_54 : decode cX10_walk 54 = .ok (.getfield 55, 3) := by decide +kernel
theorem dX10_walk_57 : decode cX10_walk 57 = .ok (.iload 4, 2) := by decide +kernel
theorem dX10_walk_59 : decode cX10_walk 59 = .ok (.iload_n 2, 1) := by decide +kernel
theorem dX10_walk_60 : decode cX10_walk 60 = .ok (.iastore, 1) := by decide +kernel
theorem dX10_walk_61 : decode cX10_walk 61 = .ok (.aload_n 0, 1) := by decide +kernel
theorem dX10_walk_62 : decode cX10_walk 62 = .ok (.getfield 46, 3) := by decide +kernel
theorem dX10_walk_65 : decode cX10_walk 65 = .ok (.iload_n 2, 1) := by decide +kernel
theorem dX10_walk_66 : decode cX10_walk 66 = .ok (.iconst 1, 1) := by decide +kernel
theorem dX10_walk_67 : decode cX10_walk 67 = .ok (.bastore, 1) := by decide +kernel
theorem dX10_walk_68 : decode cX10_walk 68 = .ok (.aload_n 0, 1) := by decide +kernel
theorem dX10_walk_69 : decode cX10_walk 69 = .ok (.getfield 58, 3) := by decide +kernel
theorem dX10_walk_72 : decode cX10_walk 72 = .ok (.iload_n 1, 1) := by decide +kernel
theorem dX10_walk_73 : decode cX10_walk 73 = .ok (.iconst 0, 1) := by decide +kernel
theorem dX10_walk_74 : decode cX10_walk 74 = .ok (.iastore, 1) := by decide +kernel
theorem dX10_walk_75 : decode cX10_walk 75 = .ok (.iconst 1, 1) := by decide +kernel
theorem dX10_walk_76 : decode cX10_walk 76 = .ok (.istore 5, 2) := by decide +kernel
theorem dX10_walk_78 : decode cX10_walk 78 = .ok (.iconst 0, 1) := by decide +kernel
theorem dX10_walk_79 : decode cX10_walk 79 = .ok (.istore 6, 2) := by decide +kernel
theorem dX10_walk_81 : decode cX10_walk 81 = .ok (.iload 6, 2) := by decide +kernel
theorem dX10_walk_83 : decode cX10_walk 83 = .ok (.aload_n 0, 1) := by decide +kernel
theorem dX10_walk_84 : decode cX10_walk 84 = .ok (.iload_n 1, 1) := by decide +kernel
theorem dX10_walk_85 : decode cX10_walk 85 = .ok (.iconst 2, 1) := by decide +kernel
theorem dX10_walk_86 : decode cX10_walk 86 = .ok (.invokevirtual 267, 3) := by decide +kernel
theorem dX10_walk_89 : decode cX10_walk 89 = .ok (.if_icmp .ge 192, 3) := by decide +kernel
theorem dX10_walk_92 : decode cX10_walk 92 = .ok (.iload 5, 2) := by decide +kernel
theorem dX10_walk_94 : decode cX10_walk 94 = .ok (.ifCond .eq 187, 3) := by decide +kernel
theorem dX10_walk_97 : decode cX10_walk 97 = .ok (.iload_n 3, 1) := by decide +kernel
theorem dX10_walk_98 : decode cX10_walk 98 = .ok (.aload_n 0, 1) := by decide +kernel
theorem dX10_walk_99 : decode cX10_walk 99 = .ok (.iload_n 1, 1) := by decide +kernel
theorem dX10_walk_100 : decode cX10_walk 100 = .ok (.iload 6, 2) := by decide +kernel
theorem dX10_walk_102 : decode cX10_walk 102 = .ok (.invokevirtual 298, 3) := by decide +kernel
theorem dX10_walk_105 : decode cX10_walk 105 = .ok (.iadd, 1) := by decide +kernel
theorem dX10_walk_106 : decode cX10_walk 106 = .ok (.iconst 4, 1) := by decide +kernel
theorem dX10_walk_107 : decode cX10_walk 107 = .ok (.irem, 1) := by decide +kernel
theorem dX10_walk_108 : decode cX10_walk 108 = .ok (.istore_n 3, 1) := by decide +kernel
theorem dX10_walk_109 : decode cX10_walk 109 = .ok (.aload_n 0, 1) := by decide +kernel
theorem dX10_walk_110 : decode cX10_walk 110 = .ok (.iload_n 2, 1) := by decide +kernel
theorem dX10_walk_111 : decode cX10_walk 111 = .ok (.aload_n 0, 1) := by decide +kernel
theorem dX10_walk_112 : decode cX10_walk 112 = .ok (.getfield 270, 3) := by decide +kernel
theorem dX10_walk_115 : decode cX10_walk 115 = .ok (.invokevirtual 301, 3) := by decide +kernel
theorem dX10_walk_118 : decode cX10_walk 118 = .ok (.ifCond .eq 10, 3) := by decide +kernel
theorem dX10_walk_121 : decode cX10_walk 121 = .ok (.aload_n 0, 1) := by decide +kernel
theorem dX10_walk_122 : decode cX10_walk 122 = .ok (.getfield 270, 3) := by decide +kernel
theorem dX10_walk_125 : decode cX10_walk 125 = .ok (.goto 4, 3) := by decide +kernel
theorem dX10_walk_128 : decode cX10_walk 128 = .ok (.iconst 0, 1) := by decide +kernel
theorem dX10_walk_129 : decode cX10_walk 129 = .ok (.istore 7, 2) := by decide +kernel
theorem dX10_walk_131 : decode cX10_walk 131 = .ok (.iconst 0, 1) := by decide +kernel
theorem dX10_walk_132 : decode cX10_walk 132 = .ok (.istore 8, 2) := by decide +kernel
theorem dX10_walk_134 : decode cX10_walk 134 = .ok (.iload 8, 2) := by decide +kernel
theorem dX10_walk_136 : decode cX10_walk 136 = .ok (.iconst 4, 1) := by decide +kernel
theorem dX10_walk_137 : decode cX10_walk 137 = .ok (.if_icmp .ge 29, 3) := by decide +kernel
theorem dX10_walk_140 : decode cX10_walk 140 = .ok (.aload_n 0, 1) := by decide +kernel
theorem dX10_walk_141 : decode cX10_walk 141 = .ok (.aload_n 0, 1) := by decide +kernel
theorem dX10_walk_142 : decode cX10_walk 142 = .ok (.iload_n 2, 1) := by decide +kernel
theorem dX10_walk_143 : decode cX10_walk 143 = .ok (.iload_n 3, 1) := by decide +kernel
theorem dX10_walk_144 : decode cX10_walk 144 = .ok (.iload 8, 2) := by decide +kernel
theorem dX10_walk_146 : decode cX10_walk 146 = .ok (.iadd, 1) := by decide +kernel
theorem dX10_walk_147 : decode cX10_walk 147 = .ok (.iconst 4, 1) := by decide +kernel
theorem dX10_walk_148 : decode cX10_walk 148 = .ok (.irem, 1) := by decide +kernel
theorem dX10_walk_149 : decode cX10_walk 149 = .ok (.invokevirtual 288, 3) := by decide +kernel
theorem dX10_walk_152 : decode cX10_walk 152 = .ok (.iload 7, 2) := by decide +kernel
theorem dX10_walk_154 : decode cX10_walk 154 = .ok (.invokevirtual 291, 3) := by decide +kernel
theorem dX10_walk_157 : decode cX10_walk 157 = .ok (.ifCond .ne 9, 3) := by decide +kernel
theorem dX10_walk_160 : decode cX10_walk 160 = .ok (.iinc 8 1, 3) := by decide +kernel
theorem dX10_walk_163 : decode cX10_walk 163 = .ok (.goto (-29), 3) := by decide +kernel
theorem dX10_walk_166 : decode cX10_walk 166 = .ok (.iload 8, 2) := by decide +kernel
theorem dX10_walk_168 : decode cX10_walk 168 = .ok (.iconst 4, 1) := by decide +kernel
theorem dX10_walk_169 : decode cX10_walk 169 = .ok (.if_icmp .ge 81, 3) := by decide +kernel
theorem dX10_walk_172 : decode cX10_walk 172 = .ok (.iload_n 3, 1) := by decide +kernel
theorem dX10_walk_173 : decode cX10_walk 173 = .ok (.iload 8, 2) := by decide +kernel
theorem dX10_walk_175 : decode cX10_walk 175 = .ok (.iadd, 1) := by decide +kernel
theorem dX10_walk_176 : decode cX10_walk 176 = .ok (.iconst 4, 1) := by decide +kernel
theorem dX10_walk_177 : decode cX10_walk 177 = .ok (.irem, 1) := by decide +kernel
theorem dX10_walk_178 : decode cX10_walk 178 = .ok (.istore_n 3, 1) := by decide +kernel
theorem dX10_walk_179 : decode cX10_walk 179 = .ok (.aload_n 0, 1) := by decide +kernel
theorem dX10_walk_180 : decode cX10_walk 180 = .ok (.iload_n 2, 1) := by decide +kernel
theorem dX10_walk_181 : decode cX10_walk 181 = .ok (.iload_n 3, 1) := by decide +kernel
theorem dX10_walk_182 : decode cX10_walk 182 = .ok (.invokevirtual 288, 3) := by decide +kernel
theorem dX10_walk_185 : decode cX10_walk 185 = .ok (.istore 9, 2) := by decide +kernel
theorem dX10_walk_187 : decode cX10_walk 187 = .ok (.aload_n 0, 1) := by decide +kernel
theorem dX10_walk_188 : decode cX10_walk 188 = .ok (.getfield 49, 3) := by decide +kernel
theorem dX10_walk_191 : decode cX10_walk 191 = .ok (.iload_n 2, 1) := by decide +kernel
theorem dX10_walk_192 : decode cX10_walk 192 = .ok (.dup2, 1) := by decide +kernel
theorem dX10_walk_193 : decode cX10_walk 193 = .ok (.iaload, 1) := by decide +kernel
theorem dX10_walk_194 : decode cX10_walk 194 = .ok (.iconst 1, 1) := by decide +kernel
theorem dX10_walk_195 : decode cX10_walk 195 = .ok (.iload_n 3, 1) := by decide +kernel
theorem dX10_walk_196 : decode cX10_walk 196 = .ok (.ishl, 1) := by decide +kernel
theorem dX10_walk_197 : decode cX10_walk 197 = .ok (.ior, 1) := by decide +kernel
theorem dX10_walk_198 : decode cX10_walk 198 = .ok (.iastore, 1) := by decide +kernel
theorem dX10_walk_199 : decode cX10_walk 199 = .ok (.aload_n 0, 1) := by decide +kernel
theorem dX10_walk_200 : decode cX10_walk 200 = .ok (.getfield 49, 3) := by decide +kernel
theorem dX10_walk_203 : decode cX10_walk 203 = .ok (.iload 9, 2) := by decide +kernel
theorem dX10_walk_205 : decode cX10_walk 205 = .ok (.dup2, 1) := by decide +kernel
theorem dX10_walk_206 : decode cX10_walk 206 = .ok (.iaload, 1) := by decide +kernel
theorem dX10_walk_207 : decode cX10_walk 207 = .ok (.iconst 1, 1) := by decide +kernel
theorem dX10_walk_208 : decode cX10_walk 208 = .ok (.iload_n 3, 1) := by decide +kernel
theorem dX10_walk_209 : decode cX10_walk 209 = .ok (.iconst 2, 1) := by decide +kernel
theorem dX10_walk_210 : decode cX10_walk 210 = .ok (.iadd, 1) := by decide +kernel
theorem dX10_walk_211 : decode cX10_walk 211 = .ok (.iconst 4, 1) := by decide +kernel
theorem dX10_walk_212 : decode cX10_walk 212 = .ok (.irem, 1) := by decide +kernel
theorem dX10_walk_213 : decode cX10_walk 213 = .ok (.ishl, 1) := by decide +kernel
theorem dX10_walk_214 : decode cX10_walk 214 = .ok (.ior, 1) := by decide +kernel
theorem dX10_walk_215 : decode cX10_walk 215 = .ok (.iastore, 1) := by decide +kernel
theorem dX10_walk_216 : decode cX10_walk 216 = .ok (.iload 9, 2) := by decide +kernel
theorem dX10_walk_218 : decode cX10_walk 218 = .ok (.istore_n 2, 1) := by decide +kernel
theorem dX10_walk_219 : decode cX10_walk 219 = .ok (.aload_n 0, 1) := by decide +kernel
theorem dX10_walk_220 : decode cX10_walk 220 = .ok (.getfield 46, 3) := by decide +kernel
theorem dX10_walk_223 : decode cX10_walk 223 = .ok (.iload_n 2, 1) := by decide +kernel
theorem dX10_walk_224 : decode cX10_walk 224 = .ok (.iconst 1, 1) := by decide +kernel
theorem dX10_walk_225 : decode cX10_walk 225 = .ok (.bastore, 1) := by decide +kernel
theorem dX10_walk_226 : decode cX10_walk 226 = .ok (.aload_n 0, 1) := by decide +kernel
theorem dX10_walk_227 : decode cX10_walk 227 = .ok (.getfield 270, 3) := by decide +kernel
theorem dX10_walk_230 : decode cX10_walk 230 = .ok (.iconst 3, 1) := by decide +kernel
theorem dX10_walk_231 : decode cX10_walk 231 = .ok (.if_icmp .ne 12, 3) := by decide +kernel
theorem dX10_walk_234 : decode cX10_walk 234 = .ok (.aload_n 0, 1) := by decide +kernel
theorem dX10_walk_235 : decode cX10_walk 235 = .ok (.getfield 43, 3) := by decide +kernel
theorem dX10_walk_238 : decode cX10_walk 238 = .ok (.iload_n 2, 1) := by decide +kernel
theorem dX10_walk_239 : decode cX10_walk 239 = .ok (.baload, 1) := by decide +kernel
theorem dX10_walk_240 : decode cX10_walk 240 = .ok (.ifCond .ne 7, 3) := by decide +kernel
theorem dX10_walk_243 : decode cX10_walk 243 = .ok (.iconst 1, 1) := by decide +kernel
theorem dX10_walk_244 : decode cX10_walk 244 = .ok (.goto 4, 3) := by decide +kernel
theorem dX10_walk_247 : decode cX10_walk 247 = .ok (.iconst 0, 1) := by decide +kernel
theorem dX10_walk_248 : decode cX10_walk 248 = .ok (.istore 5, 2) := by decide +kernel
theorem dX10_walk_250 : decode cX10_walk 250 = .ok (.aload_n 0, 1) := by decide +kernel
theorem dX10_walk_251 : decode cX10_walk 251 = .ok (.getfield 58, 3) := by decide +kernel
theorem dX10_walk_254 : decode cX10_walk 254 = .ok (.iload_n 1, 1) := by decide +kernel
theorem dX10_walk_255 : decode cX10_walk 255 = .ok (.dup2, 1) := by decide +kernel
theorem dX10_walk_256 : decode cX10_walk 256 = .ok (.iaload, 1) := by decide +kernel
theorem dX10_walk_257 : decode cX10_walk 257 = .ok (.iconst 1, 1) := by decide +kernel
theorem dX10_walk_258 : decode cX10_walk 258 = .ok (.iadd, 1) := by decide +kernel
theorem dX10_walk_259 : decode cX10_walk 259 = .ok (.iastore, 1) := by decide +kernel
theorem dX10_walk_260 : decode cX10_walk 260 = .ok (.aload_n 0, 1) := by decide +kernel
theorem dX10_walk_261 : decode cX10_walk 261 = .ok (.getfield 55, 3) := by decide +kernel
theorem dX10_walk_264 : decode cX10_walk 264 = .ok (.iload 4, 2) := by decide +kernel
theorem dX10_walk_266 : decode cX10_walk 266 = .ok (.aload_n 0, 1) := by decide +kernel
theorem dX10_walk_267 : decode cX10_walk 267 = .ok (.getfield 58, 3) := by decide +kernel
theorem dX10_walk_270 : decode cX10_walk 270 = .ok (.iload_n 1, 1) := by decide +kernel
theorem dX10_walk_271 : decode cX10_walk 271 = .ok (.iaload, 1) := by decide +kernel
theorem dX10_walk_272 : decode cX10_walk 272 = .ok (.iadd, 1) := by decide +kernel
theorem dX10_walk_273 : decode cX10_walk 273 = .ok (.iload_n 2, 1) := by decide +kernel
theorem dX10_walk_274 : decode cX10_walk 274 = .ok (.iastore, 1) := by decide +kernel
theorem dX10_walk_275 : decode cX10_walk 275 = .ok (.iinc 6 1, 3) := by decide +kernel
theorem dX10_walk_278 : decode cX10_walk 278 = .ok (.goto (-197), 3) := by decide +kernel
theorem dX10_walk_281 : decode cX10_walk 281 = .ok (.iconst 0, 1) := by decide +kernel
theorem dX10_walk_282 : decode cX10_walk 282 = .ok (.istore 6, 2) := by decide +kernel
theorem dX10_walk_284 : decode cX10_walk 284 = .ok (.iload 6, 2) := by decide +kernel
theorem dX10_walk_286 : decode cX10_walk 286 = .ok (.bipush 80, 2) := by decide +kernel
theorem dX10_walk_288 : decode cX10_walk 288 = .ok (.if_icmp .ge 41, 3) := by decide +kernel
theorem dX10_walk_291 : decode cX10_walk 291 = .ok (.aload_n 0, 1) := by decide +kernel
theorem dX10_walk_292 : decode cX10_walk 292 = .ok (.getfield 40, 3) := by decide +kernel
theorem dX10_walk_295 : decode cX10_walk 295 = .ok (.iload 6, 2) := by decide +kernel
theorem dX10_walk_297 : decode cX10_walk 297 = .ok (.aload_n 0, 1) := by decide +kernel
theorem dX10_walk_298 : decode cX10_walk 298 = .ok (.getfield 40, 3) := by decide +kernel
theorem dX10_walk_301 : decode cX10_walk 301 = .ok (.iload 6, 2) := by decide +kernel
theorem dX10_walk_303 : decode cX10_walk 303 = .ok (.baload, 1) := by decide +kernel
theorem dX10_walk_304 : decode cX10_walk 304 = .ok (.ifCond .ne 13, 3) := by decide +kernel
theorem dX10_walk_307 : decode cX10_walk 307 = .ok (.aload_n 0, 1) := by decide +kernel
theorem dX10_walk_308 : decode cX10_walk 308 = .ok (.getfield 46, 3) := by decide +kernel
theorem dX10_walk_311 : decode cX10_walk 311 = .ok (.iload 6, 2) := by decide +kernel
theorem dX10_walk_313 : decode cX10_walk 313 = .ok (.baload, 1) := by decide +kernel
theorem dX10_walk_314 : decode cX10_walk 314 = .ok (.ifCond .eq 7, 3) := by decide +kernel
theorem dX10_walk_317 : decode cX10_walk 317 = .ok (.iconst 1, 1) := by decide +kernel
theorem dX10_walk_318 : decode cX10_walk 318 = .ok (.goto 4, 3) := by decide +kernel
theorem dX10_walk_321 : decode cX10_walk 321 = .ok (.iconst 0, 1) := by decide +kernel
theorem dX10_walk_322 : decode cX10_walk 322 = .ok (.bastore, 1) := by decide +kernel
theorem dX10_walk_323 : decode cX10_walk 323 = .ok (.iinc 6 1, 3) := by decide +kernel
theorem dX10_walk_326 : decode cX10_walk 326 = .ok (.goto (-42), 3) := by decide +kernel
theorem dX10_walk_329 : decode cX10_walk 329 = .ok (.aload_n 0, 1) := by decide +kernel
theorem dX10_walk_330 : decode cX10_walk 330 = .ok (.iload_n 1, 1) := by decide +kernel
theorem dX10_walk_331 : decode cX10_walk 331 = .ok (.invokevirtual 304, 3) := by decide +kernel
theorem dX10_walk_334 : decode cX10_walk 334 = .ok (.return_, 1) := by decide +kernel
set_option maxHeartbeats 4000000 in
set_option maxRecDepth 100000 in
theorem f_X10_asItIs (l : Launch) (G : va_G) (cI cJ cZ cB cQ : ClassId) (sz : Nat) (h0 : Nat) (b : Nat → Nat) (o_thrown : Int32) (o_taped : Int32) (o_size : Int32) (o_at : Int32) (o_from : Int32) (o_token : Int32) (o_value : Int32) (o_faultKind : Int32) (o_faultPlace : Int32) (o_lawNow : Int32) (o_walkSet : Int32) (o_oneWidow : Int32) (o_oneTurn : Int32) (o_askWorst : Int32) (o_mayWalk : Int32) (o_oftenAll : Int64) (o_oftenRoad : Int64) (o_oftenPegs : Int64) (o_f1 : Nat → Int32) (o_f15 : Nat → Int32) (o_f16 : Nat → Int32) (hl_o_taped : 0 ≤ o_taped.toInt) (hh_o_taped : o_taped.toInt ≤ 900) (hl_o_size : 0 ≤ o_size.toInt) (hh_o_size : o_size.toInt ≤ 900) (hl_o_at : 0 ≤ o_at.toInt) (hh_o_at : o_at.toInt ≤ 900) (hl_o_from : 0 ≤ o_from.toInt) (hh_o_from : o_from.toInt ≤ 900) (hl_o_oneTurn : 0 ≤ o_oneTurn.toInt) (hh_o_oneTurn : o_oneTurn.toInt ≤ 4) (ha_o_f1 : WI o_f1) (ha_o_f15 : ai o_f15 80 0 1) (ha_o_f16 : ai o_f16 7 0 3) : CV l yX10_asItIs (wl_ yX10_asItIs cX10_asItIs 3 none) ({ frames := 2, cells := 0, slots := 0, locals := 40 } : Room) G (TY cI cJ cZ cB cQ) [.ref h0] [(h0, oX10 b o_thrown o_taped o_size o_at o_from o_token o_value o_faultKind o_faultPlace o_lawNow o_walkSet o_oneWidow o_oneTurn o_askWorst o_mayWalk o_oftenAll o_oftenRoad o_oftenPegs), (b 1, .inl (cI, 149, .inl o_f1)), (b 15, .inl (cZ, 80, .inl o_f15)), (b 16, .inl (cI, 7, .inl o_f16))] sz (fun (u : Int32 × Int32 × Int32 × (Nat → Int32) × (Nat → Int32)) => ai u.2.2.2.1 80 0 1 ∧ ai u.2.2.2.2 7 0 3) (fun u : Int32 × Int32 × Int32 × (Nat → Int32) × (Nat → Int32) => [(h0, oX10 b o_thrown o_taped o_size o_at o_from o_token o_value o_faultKind o_faultPlace u.1 u.2.1 u.2.2.1 o_oneTurn o_askWorst o_mayWalk o_oftenAll o_oftenRoad o_oftenPegs), (b 1, .inl (cI, 149, .inl o_f1)), (b 15, .inl (cZ, 80, .inl u.2.2.2.1)), (b 16, .inl (cI, 7, .inl u.2.2.2.2))]) 0 0 := by
  refine CV.go (cc := cX10_asItIs) (maxL := 3) (ret := none) (by decide) rfl (Nat.le_of_ble_eq_true rfl) ?_
  intro p e s m below meth c A ls Q hBd hret
  obtain ⟨hx, hb, hr, hml, hts, hown, hlk, hnm, hP, hK, hD, hA, hZ, hl⟩ := hBd
  have hown : s.vm.findClass RX10 = some m.cls := hown
  have hl : lv_has ls 3 [(0, .ref h0)] := hl
  have hS : va_S A s.heap s.heap [] := va_S.rf
  refine lv_aload_n hx hb dX10_asItIs_0 rfl (lv_at hl 0 rfl) ?_
  refine lv_aload_n hx hb dX10_asItIs_1 rfl (lv_at hl 0 rfl) ?_
  refine va_get (D := G) (ci := 10) (v := .ref (b 1)) (C := RX10) (T := TX10) (N := 46) hx hb hts iG_X10 hown hK hP 0 rfl rfl 1 (by decide) (hts _ w_1193) (fun _ h9 => h9) rfl dX10_asItIs_2 ?_
  refine lv_iconst (v := 1) hx hb dX10_asItIs_5 (by decide) ?_
  refine va_iald hx hb hK hP 1 0 rfl rfl (ix_in ki_1 (by omega) (by omega)) dX10_asItIs_6 ?_
  refine lv_topi (fun v1 ev1 => ?_)
  have tv1 : v1.toInt = (o_f1 1).toInt := by rw [ev1]; rfl
  obtain ⟨ia2, ib3⟩ := WB_1 ha_o_f1.1
  refine va_put (D := G) (ci := 10) (v := .int v1) (ty := .int) (C := RX10) (T := TX10) (N := 46) hx hb hts iG_X10 tyX10 tyX10_ok nmX10 hown hK hP hD hS 0 rfl rfl 17 (by decide) (hts _ w_1209) (fun _ h9 => h9) rfl (by decide +kernel) rfl rfl (Nat.le_of_ble_eq_true rfl) dX10_asItIs_7 (fun H locs hP hD hS => ?_)
  have hP : va_P G vwCl [(h0, oX10 b o_thrown o_taped o_size o_at o_from o_token o_value o_faultKind o_faultPlace v1 o_walkSet o_oneWidow o_oneTurn o_askWorst o_mayWalk o_oftenAll o_oftenRoad o_oftenPegs), (b 1, .inl (cI, 149, .inl o_f1)), (b 15, .inl (cZ, 80, .inl o_f15)), (b 16, .inl (cI, 7, .inl o_f16))] H := hP
  have hD : va_D A [(h0, oX10 b o_thrown o_taped o_size o_at o_from o_token o_value o_faultKind o_faultPlace v1 o_walkSet o_oneWidow o_oneTurn o_askWorst o_mayWalk o_oftenAll o_oftenRoad o_oftenPegs), (b 1, .inl (cI, 149, .inl o_f1)), (b 15, .inl (cZ, 80, .inl o_f15)), (b 16, .inl (cI, 7, .inl o_f16))] := hD
  refine lv_aload_n hx hb dX10_asItIs_10 rfl (lv_at hl 0 rfl) ?_
  refine lv_aload_n hx hb dX10_asItIs_11 rfl (lv_at hl 0 rfl) ?_
  refine k_i (wc := [(h0, oX10 b o_thrown o_taped o_size o_at o_from o_token o_value o_faultKind o_faultPlace v1 o_walkSet o_oneWidow o_oneTurn o_askWorst o_mayWalk o_oftenAll o_oftenRoad o_oftenPegs), (b 1, .inl (cI, 149, .inl o_f1))]) (wr := [(b 15, .inl (cZ, 80, .inl o_f15)), (b 16, .inl (cI, 7, .inl o_f16))]) hP hD hS hA [0, 1] [2, 3] rfl rfl rfl (by decide) (va_runV (As := []) (rest := [.ref h0]) ⟨hx, hb, hml, hown, hts⟩ (f_X10_allWidows l G cI cJ cZ cB cQ _ h0 b o_thrown o_taped o_size o_at o_from o_token o_value o_faultKind o_faultPlace v1 o_walkSet o_oneWidow o_oneTurn o_askWorst o_mayWalk o_oftenAll o_oftenRoad o_oftenPegs o_f1 hl_o_taped hh_o_taped hl_o_size hh_o_size hl_o_at hh_o_at hl_o_from hh_o_from hl_o_oneTurn hh_o_oneTurn ha_o_f1) (cwV 0 hts (gV w_1493 w_1495 wp_107 w_11 w_1496) rfl rfl rfl ⟨rfl, hd_X10_allWidows⟩ ⟨Nat.le_of_ble_eq_true rfl, Nat.le_of_ble_eq_true rfl⟩) (mV hK hZ hP hD [0, 1] rfl rfl [] 0 10 rfl rfl) rfl rfl hl.1 rfl (lv_room (Nat.le_of_ble_eq_true rfl)) dX10_asItIs_12 ⟨Nat.le_of_ble_eq_true rfl, Nat.le_of_ble_eq_true rfl⟩) (fun r4 u5 H locs hw6 hP hD hS => ?_)
  try dsimp only at hw6
  have hP : va_P G vwCl [(b 15, .inl (cZ, 80, .inl o_f15)), (b 16, .inl (cI, 7, .inl o_f16)), (h0, oX10 b o_thrown o_taped o_size o_at o_from o_token o_value o_faultKind o_faultPlace v1 o_walkSet o_oneWidow o_oneTurn o_askWorst o_mayWalk o_oftenAll o_oftenRoad o_oftenPegs), (b 1, .inl (cI, 149, .inl o_f1))] H := hP
  have hD : va_D A [(b 15, .inl (cZ, 80, .inl o_f15)), (b 16, .inl (cI, 7, .inl o_f16)), (h0, oX10 b o_thrown o_taped o_size o_at o_from o_token o_value o_faultKind o_faultPlace v1 o_walkSet o_oneWidow o_oneTurn o_askWorst o_mayWalk o_oftenAll o_oftenRoad o_oftenPegs), (b 1, .inl (cI, 149, .inl o_f1))] := hD
  obtain ⟨w7, w8⟩ : 0 ≤ r4.toInt ∧ r4.toInt ≤ 127 := hw6
  refine va_put (D := G) (ci := 10) (v := .int r4) (ty := .int) (C := RX10) (T := TX10) (N := 46) hx hb hts iG_X10 tyX10 tyX10_ok nmX10 hown hK hP hD hS 2 rfl rfl 18 (by decide) (hts _ w_1210) (fun _ h9 => h9) rfl (by decide +kernel) rfl rfl (Nat.le_of_ble_eq_true rfl) dX10_asItIs_15 (fun H locs hP hD hS => ?_)
  have hP : va_P G vwCl [(b 15, .inl (cZ, 80, .inl o_f15)), (b 16, .inl (cI, 7, .inl o_f16)), (h0, oX10 b o_thrown o_taped o_size o_at o_from o_token o_value o_faultKind o_faultPlace v1 r4 o_oneWidow o_oneTurn o_askWorst o_mayWalk o_oftenAll o_oftenRoad o_oftenPegs), (b 1, .inl (cI, 149, .inl o_f1))] H := hP
  have hD : va_D A [(b 15, .inl (cZ, 80, .inl o_f15)), (b 16, .inl (cI, 7, .inl o_f16)), (h0, oX10 b o_thrown o_taped o_size o_at o_from o_token o_value o_faultKind o_faultPlace v1 r4 o_oneWidow o_oneTurn o_askWorst o_mayWalk o_oftenAll o_oftenRoad o_oftenPegs), (b 1, .inl (cI, 149, .inl o_f1))] := hD
  refine lv_aload_n hx hb dX10_asItIs_18 rfl (lv_at hl 0 rfl) ?_
  refine lv_iconst (v := (-1)) hx hb dX10_asItIs_19 (by decide) ?_
  refine va_put (D := G) (ci := 10) (v := .int (-1)) (ty := .int) (C := RX10) (T := TX10) (N := 46) hx hb hts iG_X10 tyX10 tyX10_ok nmX10 hown hK hP hD hS 2 rfl rfl 19 (by decide) (hts _ w_1211) (fun _ h9 => h9) rfl (by decide +kernel) rfl rfl (Nat.le_of_ble_eq_true rfl) dX10_asItIs_20 (fun H locs hP hD hS => ?_)
  have hP : va_P G vwCl [(b 15, .inl (cZ, 80, .inl o_f15)), (b 16, .inl (cI, 7, .inl o_f16)), (h0, oX10 b o_thrown o_taped o_size o_at o_from o_token o_value o_faultKind o_faultPlace v1 r4 (-1) o_oneTurn o_askWorst o_mayWalk o_oftenAll o_oftenRoad o_oftenPegs), (b 1, .inl (cI, 149, .inl o_f1))] H := hP
  have hD : va_D A [(b 15, .inl (cZ, 80, .inl o_f15)), (b 16, .inl (cI, 7, .inl o_f16)), (h0, oX10 b o_thrown o_taped o_size o_at o_from o_token o_value o_faultKind o_faultPlace v1 r4 (-1) o_oneTurn o_askWorst o_mayWalk o_oftenAll o_oftenRoad o_oftenPegs), (b 1, .inl (cI, 149, .inl o_f1))] := hD
  refine lv_iconst (v := 0) hx hb dX10_asItIs_23 (by decide) ?_
  refine lv_istore_n (lv' := [(1, .int 0), (0, .ref h0)]) hx hb dX10_asItIs_24 rfl hl (by decide) rfl (fun ls hl => ?_)
  have lp9 : ∀ (n10 : Nat) (x11 : Int32) (g12 : Nat → Int32), 0 ≤ x11.toInt → x11.toInt ≤ 80 → ai g12 80 0 1 → 80 - x11.toInt < (n10 : Int) → ∀ (H : Heap) (locs : List Loc), va_P G vwCl [(b 15, .inl (cZ, 80, .inl g12)), (b 16, .inl (cI, 7, .inl o_f16)), (h0, oX10 b o_thrown o_taped o_size o_at o_from o_token o_value o_faultKind o_faultPlace v1 r4 (-1) o_oneTurn o_askWorst o_mayWalk o_oftenAll o_oftenRoad o_oftenPegs), (b 1, .inl (cI, 149, .inl o_f1))] H → va_D A [(b 15, .inl (cZ, 80, .inl g12)), (b 16, .inl (cI, 7, .inl o_f16)), (h0, oX10 b o_thrown o_taped o_size o_at o_from o_token o_value o_faultKind o_faultPlace v1 r4 (-1) o_oneTurn o_askWorst o_mayWalk o_oftenAll o_oftenRoad o_oftenPegs), (b 1, .inl (cI, 149, .inl o_f1))] → va_S A s.heap H locs → ∀ (ls : Array Slot), lv_has ls 3 [(1, .int x11), (0, .ref h0)] → W p l e ({ frames := 2, cells := 0, slots := 0, locals := 40 } : Room) s m ([.ref h0] : List Value).toArray below meth c H locs 0 0 Q (F0 m 25 ls []) := by
    intro n10
    induction n10 with
    | zero =>
      intro x11 g12 k13 k14 k15 mm17
      exact absurd mm17 (by have q9 := fb_rng x11; omega)
    | succ n10 ih16 =>
      intro x11 g12 k13 k14 k15 mm17 H locs hP hD hS ls hl
      refine lv_iload_n hx hb dX10_asItIs_25 rfl (lv_at hl 0 rfl) ?_
      refine lv_bipush (v := 80) hx hb dX10_asItIs_26 (by decide) ?_
      refine lv_icmp_ge (tgt := 44) hx hb dX10_asItIs_28 (by decide) (fun c18 => ?_) (fun c18 => ?_)
      · have c18 := i_le ki_80 rfl c18
        refine lv_iconst (v := 0) hx hb dX10_asItIs_44 (by decide) ?_
        refine lv_istore_n (lv' := [(1, .int 0), (0, .ref h0)]) hx hb dX10_asItIs_45 rfl hl (by decide) rfl (fun ls hl => ?_)
        have lp19 : ∀ (n20 : Nat) (x21 : Int32) (g22 : Nat → Int32), 0 ≤ x21.toInt → x21.toInt ≤ 12 → ai g22 80 0 1 → 12 - x21.toInt < (n20 : Int) → ∀ (H : Heap) (locs : List Loc), va_P G vwCl [(b 15, .inl (cZ, 80, .inl g22)), (b 16, .inl (cI, 7, .inl o_f16)), (h0, oX10 b o_thrown o_taped o_size o_at o_from o_token o_value o_faultKind o_faultPlace v1 r4 (-1) o_oneTurn o_askWorst o_mayWalk o_oftenAll o_oftenRoad o_oftenPegs), (b 1, .inl (cI, 149, .inl o_f1))] H → va_D A [(b 15, .inl (cZ, 80, .inl g22)), (b 16, .inl (cI, 7, .inl o_f16)), (h0, oX10 b o_thrown o_taped o_size o_at o_from o_token o_value o_faultKind o_faultPlace v1 r4 (-1) o_oneTurn o_askWorst o_mayWalk o_oftenAll o_oftenRoad o_oftenPegs), (b 1, .inl (cI, 149, .inl o_f1))] → va_S A s.heap H locs → ∀ (ls : Array Slot), lv_has ls 3 [(1, .int x21), (0, .ref h0)] → W p l e ({ frames := 2, cells := 0, slots := 0, locals := 40 } : Room) s m ([.ref h0] : List Value).toArray below meth c H locs 0 0 Q (F0 m 46 ls []) := by
          intro n20
          induction n20 with
          | zero =>
            intro x21 g22 k23 k24 k25 mm27
            exact absurd mm27 (by have q9 := fb_rng x21; omega)
          | succ n20 ih26 =>
            intro x21 g22 k23 k24 k25 mm27 H locs hP hD hS ls hl
            refine lv_iload_n hx hb dX10_asItIs_46 rfl (lv_at hl 0 rfl) ?_
            refine lv_aload_n hx hb dX10_asItIs_47 rfl (lv_at hl 1 rfl) ?_
            refine va_get (D := G) (ci := 10) (v := .ref (b 1)) (C := RX10) (T := TX10) (N := 46) hx hb hts iG_X10 hown hK hP 2 rfl rfl 1 (by decide) (hts _ w_1193) (fun _ h9 => h9) rfl dX10_asItIs_48 ?_
            refine lv_iconst (v := 5) hx hb dX10_asItIs_51 (by decide) ?_
            refine va_iald hx hb hK hP 3 0 rfl rfl (ix_in ki_5 (by omega) (by omega)) dX10_asItIs_52 ?_
            refine lv_topi (fun v28 ev28 => ?_)
            have tv28 : v28.toInt = (o_f1 5).toInt := by rw [ev28]; rfl
            obtain ⟨ia29, ib30⟩ := WB_5 ha_o_f1.1
            refine lv_icmp_ge (tgt := 77) hx hb dX10_asItIs_53 (by decide) (fun c31 => ?_) (fun c31 => ?_)
            · have c31 := i_le tv28 rfl c31
              refine lv_iconst (v := 0) hx hb dX10_asItIs_77 (by decide) ?_
              refine lv_istore_n (lv' := [(1, .int 0), (0, .ref h0)]) hx hb dX10_asItIs_78 rfl hl (by decide) rfl (fun ls hl => ?_)
              have lp32 : ∀ (n33 : Nat) (x34 : Int32) (z35 : Int32) (g36 : Nat → Int32), 0 ≤ x34.toInt → x34.toInt ≤ 30 → ai g36 80 0 1 → 30 - x34.toInt < (n33 : Int) → ∀ (H : Heap) (locs : List Loc), va_P G vwCl [(b 15, .inl (cZ, 80, .inl g36)), (b 16, .inl (cI, 7, .inl o_f16)), (h0, oX10 b o_thrown o_taped o_size o_at o_from o_token o_value o_faultKind o_faultPlace v1 z35 (-1) o_oneTurn o_askWorst o_mayWalk o_oftenAll o_oftenRoad o_oftenPegs), (b 1, .inl (cI, 149, .inl o_f1))] H → va_D A [(b 15, .inl (cZ, 80, .inl g36)), (b 16, .inl (cI, 7, .inl o_f16)), (h0, oX10 b o_thrown o_taped o_size o_at o_from o_token o_value o_faultKind o_faultPlace v1 z35 (-1) o_oneTurn o_askWorst o_mayWalk o_oftenAll o_oftenRoad o_oftenPegs), (b 1, .inl (cI, 149, .inl o_f1))] → va_S A s.heap H locs → ∀ (ls : Array Slot), lv_has ls 3 [(1, .int x34), (0, .ref h0)] → W p l e ({ frames := 2, cells := 0, slots := 0, locals := 40 } : Room) s m ([.ref h0] : List Value).toArray below meth c H locs 0 0 Q (F0 m 79 ls []) := by
                intro n33
                induction n33 with
                | zero =>
                  intro x34 z35 g36 k37 k38 k39 mm41
                  exact absurd mm41 (by have q9 := fb_rng x34; omega)
                | succ n33 ih40 =>
                  intro x34 z35 g36 k37 k38 k39 mm41 H locs hP hD hS ls hl
                  refine lv_iload_n hx hb dX10_asItIs_79 rfl (lv_at hl 0 rfl) ?_
                  refine lv_aload_n hx hb dX10_asItIs_80 rfl (lv_at hl 1 rfl) ?_
                  refine va_get (D := G) (ci := 10) (v := .ref (b 1)) (C := RX10) (T := TX10) (N := 46) hx hb hts iG_X10 hown hK hP 2 rfl rfl 1 (by decide) (hts _ w_1193) (fun _ h9 => h9) rfl dX10_asItIs_81 ?_
                  refine lv_bipush (v := 8) hx hb dX10_asItIs_84 (by decide) ?_
                  refine va_iald hx hb hK hP 3 0 rfl rfl (ix_in ki_8 (by omega) (by omega)) dX10_asItIs_86 ?_
                  refine lv_topi (fun v42 ev42 => ?_)
                  have tv42 : v42.toInt = (o_f1 8).toInt := by rw [ev42]; rfl
                  obtain ⟨ia43, ib44⟩ := WB_8 ha_o_f1.1
                  refine lv_icmp_ge (tgt := 141) hx hb dX10_asItIs_87 (by decide) (fun c45 => ?_) (fun c45 => ?_)
                  · have c45 := i_le tv42 rfl c45
                    refine lv_iconst (v := 0) hx hb dX10_asItIs_141 (by decide) ?_
                    refine lv_istore_n (lv' := [(1, .int 0), (0, .ref h0)]) hx hb dX10_asItIs_142 rfl hl (by decide) rfl (fun ls hl => ?_)
                    have lp46 : ∀ (n47 : Nat) (x48 : Int32) (g49 : Nat → Int32), 0 ≤ x48.toInt → x48.toInt ≤ 7 → ai g49 7 0 3 → 7 - x48.toInt < (n47 : Int) → ∀ (H : Heap) (locs : List Loc), va_P G vwCl [(b 15, .inl (cZ, 80, .inl g36)), (b 16, .inl (cI, 7, .inl g49)), (h0, oX10 b o_thrown o_taped o_size o_at o_from o_token o_value o_faultKind o_faultPlace v1 z35 (-1) o_oneTurn o_askWorst o_mayWalk o_oftenAll o_oftenRoad o_oftenPegs), (b 1, .inl (cI, 149, .inl o_f1))] H → va_D A [(b 15, .inl (cZ, 80, .inl g36)), (b 16, .inl (cI, 7, .inl g49)), (h0, oX10 b o_thrown o_taped o_size o_at o_from o_token o_value o_faultKind o_faultPlace v1 z35 (-1) o_oneTurn o_askWorst o_mayWalk o_oftenAll o_oftenRoad o_oftenPegs), (b 1, .inl (cI, 149, .inl o_f1))] → va_S A s.heap H locs → ∀ (ls : Array Slot), lv_has ls 3 [(1, .int x48), (0, .ref h0)] → W p l e ({ frames := 2, cells := 0, slots := 0, locals := 40 } : Room) s m ([.ref h0] : List Value).toArray below meth c H locs 0 0 Q (F0 m 143 ls []) := by
                      intro n47
                      induction n47 with
                      | zero =>
                        intro x48 g49 k50 k51 k52 mm54
                        exact absurd mm54 (by have q9 := fb_rng x48; omega)
                      | succ n47 ih53 =>
                        intro x48 g49 k50 k51 k52 mm54 H locs hP hD hS ls hl
                        refine lv_iload_n hx hb dX10_asItIs_143 rfl (lv_at hl 0 rfl) ?_
                        refine lv_bipush (v := 7) hx hb dX10_asItIs_144 (by decide) ?_
                        refine lv_icmp_ge (tgt := 167) hx hb dX10_asItIs_146 (by decide) (fun c55 => ?_) (fun c55 => ?_)
                        · have c55 := i_le ki_7 rfl c55
                          exact hret _ _ _ _ (v1, z35, (-1), g36, g49) (hP.sub (ws' := [(h0, oX10 b o_thrown o_taped o_size o_at o_from o_token o_value o_faultKind o_faultPlace v1 z35 (-1) o_oneTurn o_askWorst o_mayWalk o_oftenAll o_oftenRoad o_oftenPegs), (b 1, .inl (cI, 149, .inl o_f1)), (b 15, .inl (cZ, 80, .inl g36)), (b 16, .inl (cI, 7, .inl g49))]) [2, 3, 0, 1] rfl) (hD.sub (ws' := [(h0, oX10 b o_thrown o_taped o_size o_at o_from o_token o_value o_faultKind o_faultPlace v1 z35 (-1) o_oneTurn o_askWorst o_mayWalk o_oftenAll o_oftenRoad o_oftenPegs), (b 1, .inl (cI, 149, .inl o_f1)), (b 15, .inl (cZ, 80, .inl g36)), (b 16, .inl (cI, 7, .inl g49))]) [2, 3, 0, 1] rfl rfl) hS dX10_asItIs_167 (show ai g36 80 0 1 ∧ ai g49 7 0 3 from ⟨k39, k52⟩)
                        · have c55 := i_nle ki_7 rfl c55
                          refine lv_aload_n hx hb dX10_asItIs_149 rfl (lv_at hl 1 rfl) ?_
                          refine va_get (D := G) (ci := 10) (v := .ref (b 16)) (C := RX10) (T := TX10) (N := 46) hx hb hts iG_X10 hown hK hP 2 rfl rfl 16 (by decide) (hts _ w_1208) (fun _ h9 => h9) rfl dX10_asItIs_150 ?_
                          refine lv_iload_n hx hb dX10_asItIs_153 rfl (lv_at hl 0 rfl) ?_
                          refine lv_aload_n hx hb dX10_asItIs_154 rfl (lv_at hl 1 rfl) ?_
                          refine lv_iload_n hx hb dX10_asItIs_155 rfl (lv_at hl 0 rfl) ?_
                          refine lv_iconst (v := 1) hx hb dX10_asItIs_156 (by decide) ?_
                          refine k_i (wc := [(h0, oX10 b o_thrown o_taped o_size o_at o_from o_token o_value o_faultKind o_faultPlace v1 z35 (-1) o_oneTurn o_askWorst o_mayWalk o_oftenAll o_oftenRoad o_oftenPegs), (b 1, .inl (cI, 149, .inl o_f1))]) (wr := [(b 15, .inl (cZ, 80, .inl g36)), (b 16, .inl (cI, 7, .inl g49))]) hP hD hS hA [2, 3] [0, 1] rfl rfl rfl (by decide) (va_runV (As := [.int x48, .int 1]) (rest := [.int x48, .ref (b 16)]) ⟨hx, hb, hml, hown, hts⟩ (f_X10_widowOf l G cI cJ cZ cB cQ _ h0 x48 x48.toInt 1 1 b o_thrown o_taped o_size o_at o_from o_token o_value o_faultKind o_faultPlace v1 z35 (-1) o_oneTurn o_askWorst o_mayWalk o_oftenAll o_oftenRoad o_oftenPegs o_f1 rfl (by omega) (by omega) ki_1 (by omega) (by omega) hl_o_taped hh_o_taped hl_o_size hh_o_size hl_o_at hh_o_at hl_o_from hh_o_from hl_o_oneTurn hh_o_oneTurn ha_o_f1) (cwV 2 hts (gV w_1469 w_1471 wp_103 w_11 w_1472) rfl rfl rfl ⟨rfl, hd_X10_widowOf⟩ ⟨Nat.le_of_ble_eq_true rfl, Nat.le_of_ble_eq_true rfl⟩) (mV hK hZ hP hD [2, 3] rfl rfl [.int x48, .int 1] 2 10 rfl rfl) rfl rfl hl.1 rfl (lv_room (Nat.le_of_ble_eq_true rfl)) dX10_asItIs_157 ⟨Nat.le_of_ble_eq_true rfl, Nat.le_of_ble_eq_true rfl⟩) (fun r56 u57 H locs hw58 hP hD hS => ?_)
                          try dsimp only at hw58
                          have hP : va_P G vwCl [(b 15, .inl (cZ, 80, .inl g36)), (b 16, .inl (cI, 7, .inl g49)), (h0, oX10 b o_thrown o_taped o_size o_at o_from o_token o_value o_faultKind o_faultPlace v1 z35 (-1) o_oneTurn o_askWorst o_mayWalk o_oftenAll o_oftenRoad o_oftenPegs), (b 1, .inl (cI, 149, .inl o_f1))] H := hP
                          have hD : va_D A [(b 15, .inl (cZ, 80, .inl g36)), (b 16, .inl (cI, 7, .inl g49)), (h0, oX10 b o_thrown o_taped o_size o_at o_from o_token o_value o_faultKind o_faultPlace v1 z35 (-1) o_oneTurn o_askWorst o_mayWalk o_oftenAll o_oftenRoad o_oftenPegs), (b 1, .inl (cI, 149, .inl o_f1))] := hD
                          have w59 : r56.toInt = wv o_f1 x48.toInt 1 := hw58
                          obtain ⟨ia60, ib61⟩ := wv_1 (a := x48.toInt) ha_o_f1.1 (by omega) (by omega)
                          refine va_iast hx hb hK hP hD hS 1 0 rfl rfl (ix_in rfl (by omega) (by omega)) dX10_asItIs_160 (fun H locs hP hD hS => ?_)
                          obtain ⟨f62, qf62⟩ : ∃ g, g = upd g49 x48.toNatClampNeg r56 := ⟨_, rfl⟩
                          rw [← qf62] at hP hD
                          have hi63 : ai f62 7 0 3 := by rw [qf62]; exact ai_put k52 w59 (by omega) (by omega)
                          have hP : va_P G vwCl [(b 15, .inl (cZ, 80, .inl g36)), (b 16, .inl (cI, 7, .inl f62)), (h0, oX10 b o_thrown o_taped o_size o_at o_from o_token o_value o_faultKind o_faultPlace v1 z35 (-1) o_oneTurn o_askWorst o_mayWalk o_oftenAll o_oftenRoad o_oftenPegs), (b 1, .inl (cI, 149, .inl o_f1))] H := hP
                          have hD : va_D A [(b 15, .inl (cZ, 80, .inl g36)), (b 16, .inl (cI, 7, .inl f62)), (h0, oX10 b o_thrown o_taped o_size o_at o_from o_token o_value o_faultKind o_faultPlace v1 z35 (-1) o_oneTurn o_askWorst o_mayWalk o_oftenAll o_oftenRoad o_oftenPegs), (b 1, .inl (cI, 149, .inl o_f1))] := hD
                          obtain ⟨v64, ev64⟩ : ∃ y : Int32, y = x48 + 1 := ⟨_, rfl⟩
                          have tv64 : v64.toInt = x48.toInt + 1 := ti_add rfl ki_1 ev64 (by omega) (by omega)
                          refine lv_iinc (v := v64) (lv' := [(1, .int v64), (0, .ref h0)]) hx hb dX10_asItIs_161 hl (k := 0) rfl (by rw [ev64]; rfl) (by decide) rfl (fun ls hl => ?_)
                          refine lv_goto (tgt := 143) hx hb dX10_asItIs_164 (by decide) ?_
                          exact ih53 v64 f62 (by omega) (by omega) hi63 (by omega) _ _ hP hD hS ls (lv_sub hl [0, 1] rfl)
                    exact lp46 8 0 o_f16 (by rw [ki_0]; decide) (by rw [ki_0]; decide) ha_o_f16 (by rw [ki_0]; decide) _ _ hP hD hS ls (lv_sub hl [0, 1] rfl)
                  · have c45 := i_nle tv42 rfl c45
                    refine lv_aload_n hx hb dX10_asItIs_90 rfl (lv_at hl 1 rfl) ?_
                    refine va_get (D := G) (ci := 10) (v := .ref (b 1)) (C := RX10) (T := TX10) (N := 46) hx hb hts iG_X10 hown hK hP 2 rfl rfl 1 (by decide) (hts _ w_1193) (fun _ h9 => h9) rfl dX10_asItIs_91 ?_
                    refine lv_bipush (v := 119) hx hb dX10_asItIs_94 (by decide) ?_
                    refine lv_iload_n hx hb dX10_asItIs_96 rfl (lv_at hl 0 rfl) ?_
                    refine lv_iadd hx hb dX10_asItIs_97 ?_
                    refine lv_topi (fun v65 ev65 => ?_)
                    have tv65 : v65.toInt = 119 + x34.toInt := ti_add ki_119 rfl ev65 (by omega) (by omega)
                    refine va_iald hx hb hK hP 3 0 rfl rfl (ix_in tv65 (by omega) (by omega)) dX10_asItIs_98 ?_
                    refine lv_topi (fun v66 ev66 => ?_)
                    obtain ⟨⟨ia67, ib68⟩, id69⟩ := WB_act ha_o_f1.1 tv65 (by omega) (by omega) ev66
                    refine lv_istore_n (lv' := [(2, .int v66), (1, .int x34), (0, .ref h0)]) hx hb dX10_asItIs_99 rfl hl (by decide) rfl (fun ls hl => ?_)
                    refine lv_iload_n hx hb dX10_asItIs_100 rfl (lv_at hl 0 rfl) ?_
                    refine lv_sipush (v := 1000) hx hb dX10_asItIs_101 (by decide) ?_
                    refine lv_icmp_ge (tgt := 117) hx hb dX10_asItIs_104 (by decide) (fun c70 => ?_) (fun c70 => ?_)
                    · have c70 := i_le ki_1000 rfl c70
                      refine lv_aload_n hx hb dX10_asItIs_117 rfl (lv_at hl 2 rfl) ?_
                      refine lv_dup hx hb dX10_asItIs_118 rfl ?_
                      refine va_get (D := G) (ci := 10) (v := .int z35) (C := RX10) (T := TX10) (N := 46) hx hb hts iG_X10 hown hK hP 2 rfl rfl 18 (by decide) (hts _ w_1210) (fun _ h9 => h9) rfl dX10_asItIs_119 ?_
                      refine lv_iconst (v := 1) hx hb dX10_asItIs_122 (by decide) ?_
                      refine lv_iload_n hx hb dX10_asItIs_123 rfl (lv_at hl 0 rfl) ?_
                      refine lv_sipush (v := 1000) hx hb dX10_asItIs_124 (by decide) ?_
                      refine lv_isub hx hb dX10_asItIs_127 ?_
                      refine lv_topi (fun v71 ev71 => ?_)
                      have tv71 : v71.toInt = v66.toInt - 1000 := ti_sub rfl ki_1000 ev71 (by omega) (by omega)
                      refine lv_ishl hx hb dX10_asItIs_128 ?_
                      refine lv_topi (fun v72 ev72 => ?_)
                      obtain ⟨sa73, sb74⟩ : 1 ≤ v72.toInt ∧ v72.toInt ≤ 64 := shl1 6 tv71 (by omega) (by omega) (by decide) ev72
                      refine lv_iconst (v := (-1)) hx hb dX10_asItIs_129 (by decide) ?_
                      refine lv_ixor hx hb dX10_asItIs_130 ?_
                      refine lv_topi (fun v75 ev75 => ?_)
                      refine lv_iand hx hb dX10_asItIs_131 ?_
                      refine lv_topi (fun v76 ev76 => ?_)
                      refine va_put (D := G) (ci := 10) (v := .int v76) (ty := .int) (C := RX10) (T := TX10) (N := 46) hx hb hts iG_X10 tyX10 tyX10_ok nmX10 hown hK hP hD hS 2 rfl rfl 18 (by decide) (hts _ w_1210) (fun _ h9 => h9) rfl (by decide +kernel) rfl rfl (Nat.le_of_ble_eq_true rfl) dX10_asItIs_132 (fun H locs hP hD hS => ?_)
                      have hP : va_P G vwCl [(b 15, .inl (cZ, 80, .inl g36)), (b 16, .inl (cI, 7, .inl o_f16)), (h0, oX10 b o_thrown o_taped o_size o_at o_from o_token o_value o_faultKind o_faultPlace v1 v76 (-1) o_oneTurn o_askWorst o_mayWalk o_oftenAll o_oftenRoad o_oftenPegs), (b 1, .inl (cI, 149, .inl o_f1))] H := hP
                      have hD : va_D A [(b 15, .inl (cZ, 80, .inl g36)), (b 16, .inl (cI, 7, .inl o_f16)), (h0, oX10 b o_thrown o_taped o_size o_at o_from o_token o_value o_faultKind o_faultPlace v1 v76 (-1) o_oneTurn o_askWorst o_mayWalk o_oftenAll o_oftenRoad o_oftenPegs), (b 1, .inl (cI, 149, .inl o_f1))] := hD
                      obtain ⟨v77, ev77⟩ : ∃ y : Int32, y = x34 + 1 := ⟨_, rfl⟩
                      have tv77 : v77.toInt = x34.toInt + 1 := ti_add rfl ki_1 ev77 (by omega) (by omega)
                      refine lv_iinc (v := v77) (lv' := [(1, .int v77), (2, .int v66), (0, .ref h0)]) hx hb dX10_asItIs_135 hl (k := 1) rfl (by rw [ev77]; rfl) (by decide) rfl (fun ls hl => ?_)
                      refine lv_goto (tgt := 79) hx hb dX10_asItIs_138 (by decide) ?_
                      exact ih40 v77 v76 g36 (by omega) (by omega) k39 (by omega) _ _ hP hD hS ls (lv_sub hl [0, 2] rfl)
                    · have c70 := i_nle ki_1000 rfl c70
                      refine lv_aload_n hx hb dX10_asItIs_107 rfl (lv_at hl 2 rfl) ?_
                      refine va_get (D := G) (ci := 10) (v := .ref (b 15)) (C := RX10) (T := TX10) (N := 46) hx hb hts iG_X10 hown hK hP 2 rfl rfl 15 (by decide) (hts _ w_1207) (fun _ h9 => h9) rfl dX10_asItIs_108 ?_
                      refine lv_iload_n hx hb dX10_asItIs_111 rfl (lv_at hl 0 rfl) ?_
                      refine lv_iconst (v := 0) hx hb dX10_asItIs_112 (by decide) ?_
                      refine va_zast hx hb hK hP hD hS 0 2 rfl rfl (ix_in rfl (by omega) (by omega)) dX10_asItIs_113 (fun H locs hP hD hS => ?_)
                      obtain ⟨f78, qf78⟩ : ∃ g, g = upd g36 v66.toNatClampNeg (vp_nar .boolean (0 : Int32)) := ⟨_, rfl⟩
                      rw [← qf78] at hP hD
                      have hi79 : ai f78 80 0 1 := by rw [qf78]; exact ai_putz k39
                      have hP : va_P G vwCl [(b 15, .inl (cZ, 80, .inl f78)), (b 16, .inl (cI, 7, .inl o_f16)), (h0, oX10 b o_thrown o_taped o_size o_at o_from o_token o_value o_faultKind o_faultPlace v1 z35 (-1) o_oneTurn o_askWorst o_mayWalk o_oftenAll o_oftenRoad o_oftenPegs), (b 1, .inl (cI, 149, .inl o_f1))] H := hP
                      have hD : va_D A [(b 15, .inl (cZ, 80, .inl f78)), (b 16, .inl (cI, 7, .inl o_f16)), (h0, oX10 b o_thrown o_taped o_size o_at o_from o_token o_value o_faultKind o_faultPlace v1 z35 (-1) o_oneTurn o_askWorst o_mayWalk o_oftenAll o_oftenRoad o_oftenPegs), (b 1, .inl (cI, 149, .inl o_f1))] := hD
                      refine lv_goto (tgt := 135) hx hb dX10_asItIs_114 (by decide) ?_
                      obtain ⟨v80, ev80⟩ : ∃ y : Int32, y = x34 + 1 := ⟨_, rfl⟩
                      have tv80 : v80.toInt = x34.toInt + 1 := ti_add rfl ki_1 ev80 (by omega) (by omega)
                      refine lv_iinc (v := v80) (lv' := [(1, .int v80), (2, .int v66), (0, .ref h0)]) hx hb dX10_asItIs_135 hl (k := 1) rfl (by rw [ev80]; rfl) (by decide) rfl (fun ls hl => ?_)
                      refine lv_goto (tgt := 79) hx hb dX10_asItIs_138 (by decide) ?_
                      exact ih40 v80 z35 f78 (by omega) (by omega) hi79 (by omega) _ _ hP hD hS ls (lv_sub hl [0, 2] rfl)
              exact lp32 31 0 r4 g22 (by rw [ki_0]; decide) (by rw [ki_0]; decide) k25 (by rw [ki_0]; decide) _ _ hP hD hS ls (lv_sub hl [0, 1] rfl)
            · have c31 := i_nle tv28 rfl c31
              refine lv_aload_n hx hb dX10_asItIs_56 rfl (lv_at hl 1 rfl) ?_
              refine va_get (D := G) (ci := 10) (v := .ref (b 15)) (C := RX10) (T := TX10) (N := 46) hx hb hts iG_X10 hown hK hP 2 rfl rfl 15 (by decide) (hts _ w_1207) (fun _ h9 => h9) rfl dX10_asItIs_57 ?_
              refine lv_aload_n hx hb dX10_asItIs_60 rfl (lv_at hl 1 rfl) ?_
              refine va_get (D := G) (ci := 10) (v := .ref (b 1)) (C := RX10) (T := TX10) (N := 46) hx hb hts iG_X10 hown hK hP 2 rfl rfl 1 (by decide) (hts _ w_1193) (fun _ h9 => h9) rfl dX10_asItIs_61 ?_
              refine lv_bipush (v := 10) hx hb dX10_asItIs_64 (by decide) ?_
              refine lv_iload_n hx hb dX10_asItIs_66 rfl (lv_at hl 0 rfl) ?_
              refine lv_iadd hx hb dX10_asItIs_67 ?_
              refine lv_topi (fun v81 ev81 => ?_)
              have tv81 : v81.toInt = 10 + x21.toInt := ti_add ki_10 rfl ev81 (by omega) (by omega)
              refine va_iald hx hb hK hP 3 0 rfl rfl (ix_in tv81 (by omega) (by omega)) dX10_asItIs_68 ?_
              refine lv_topi (fun v82 ev82 => ?_)
              obtain ⟨ia83, ib84⟩ := WB_cell ha_o_f1.1 tv81 (by omega) (by omega) ev82
              refine lv_iconst (v := 1) hx hb dX10_asItIs_69 (by decide) ?_
              refine va_zast hx hb hK hP hD hS 0 2 rfl rfl (ix_in rfl (by omega) (by omega)) dX10_asItIs_70 (fun H locs hP hD hS => ?_)
              obtain ⟨f85, qf85⟩ : ∃ g, g = upd g22 v82.toNatClampNeg (vp_nar .boolean (1 : Int32)) := ⟨_, rfl⟩
              rw [← qf85] at hP hD
              have hi86 : ai f85 80 0 1 := by rw [qf85]; exact ai_putz k25
              have hP : va_P G vwCl [(b 15, .inl (cZ, 80, .inl f85)), (b 16, .inl (cI, 7, .inl o_f16)), (h0, oX10 b o_thrown o_taped o_size o_at o_from o_token o_value o_faultKind o_faultPlace v1 r4 (-1) o_oneTurn o_askWorst o_mayWalk o_oftenAll o_oftenRoad o_oftenPegs), (b 1, .inl (cI, 149, .inl o_f1))] H := hP
              have hD : va_D A [(b 15, .inl (cZ, 80, .inl f85)), (b 16, .inl (cI, 7, .inl o_f16)), (h0, oX10 b o_thrown o_taped o_size o_at o_from o_token o_value o_faultKind o_faultPlace v1 r4 (-1) o_oneTurn o_askWorst o_mayWalk o_oftenAll o_oftenRoad o_oftenPegs), (b 1, .inl (cI, 149, .inl o_f1))] := hD
              obtain ⟨v87, ev87⟩ : ∃ y : Int32, y = x21 + 1 := ⟨_, rfl⟩
              have tv87 : v87.toInt = x21.toInt + 1 := ti_add rfl ki_1 ev87 (by omega) (by omega)
              refine lv_iinc (v := v87) (lv' := [(1, .int v87), (0, .ref h0)]) hx hb dX10_asItIs_71 hl (k := 0) rfl (by rw [ev87]; rfl) (by decide) rfl (fun ls hl => ?_)
              refine lv_goto (tgt := 46) hx hb dX10_asItIs_74 (by decide) ?_
              exact ih26 v87 f85 (by omega) (by omega) hi86 (by omega) _ _ hP hD hS ls (lv_sub hl [0, 1] rfl)
        exact lp19 13 0 g12 (by rw [ki_0]; decide) (by rw [ki_0]; decide) k15 (by rw [ki_0]; decide) _ _ hP hD hS ls (lv_sub hl [0, 1] rfl)
      · have c18 := i_nle ki_80 rfl c18
        refine lv_aload_n hx hb dX10_asItIs_31 rfl (lv_at hl 1 rfl) ?_
        refine va_get (D := G) (ci := 10) (v := .ref (b 15)) (C := RX10) (T := TX10) (N := 46) hx hb hts iG_X10 hown hK hP 2 rfl rfl 15 (by decide) (hts _ w_1207) (fun _ h9 => h9) rfl dX10_asItIs_32 ?_
        refine lv_iload_n hx hb dX10_asItIs_35 rfl (lv_at hl 0 rfl) ?_
        refine lv_iconst (v := 0) hx hb dX10_asItIs_36 (by decide) ?_
        refine va_zast hx hb hK hP hD hS 0 2 rfl rfl (ix_in rfl (by omega) (by omega)) dX10_asItIs_37 (fun H locs hP hD hS => ?_)
        obtain ⟨f88, qf88⟩ : ∃ g, g = upd g12 x11.toNatClampNeg (vp_nar .boolean (0 : Int32)) := ⟨_, rfl⟩
        rw [← qf88] at hP hD
        have hi89 : ai f88 80 0 1 := by rw [qf88]; exact ai_putz k15
        have hP : va_P G vwCl [(b 15, .inl (cZ, 80, .inl f88)), (b 16, .inl (cI, 7, .inl o_f16)), (h0, oX10 b o_thrown o_taped o_size o_at o_from o_token o_value o_faultKind o_faultPlace v1 r4 (-1) o_oneTurn o_askWorst o_mayWalk o_oftenAll o_oftenRoad o_oftenPegs), (b 1, .inl (cI, 149, .inl o_f1))] H := hP
        have hD : va_D A [(b 15, .inl (cZ, 80, .inl f88)), (b 16, .inl (cI, 7, .inl o_f16)), (h0, oX10 b o_thrown o_taped o_size o_at o_from o_token o_value o_faultKind o_faultPlace v1 r4 (-1) o_oneTurn o_askWorst o_mayWalk o_oftenAll o_oftenRoad o_oftenPegs), (b 1, .inl (cI, 149, .inl o_f1))] := hD
        obtain ⟨v90, ev90⟩ : ∃ y : Int32, y = x11 + 1 := ⟨_, rfl⟩
        have tv90 : v90.toInt = x11.toInt + 1 := ti_add rfl ki_1 ev90 (by omega) (by omega)
        refine lv_iinc (v := v90) (lv' := [(1, .int v90), (0, .ref h0)]) hx hb dX10_asItIs_38 hl (k := 0) rfl (by rw [ev90]; rfl) (by decide) rfl (fun ls hl => ?_)
        refine lv_goto (tgt := 25) hx hb dX10_asItIs_41 (by decide) ?_
        exact ih16 v90 f88 (by omega) (by omega) hi89 (by omega) _ _ hP hD hS ls (lv_sub hl [0, 1] rfl)
  exact lp9 81 0 o_f15 (by rw [ki_0]; decide) (by rw [ki_0]; decide) ha_o_f15 (by rw [ki_0]; decide) _ _ hP hD hS ls (lv_sub hl [0, 1] rfl)
set_option maxHeartbeats 4000000 in
set_option maxRecDepth 100000 in
theorem f_X10_beside (l : Launch) (G : va_G) (cI cJ cZ cB cQ : ClassId) (sz : Nat) (h0 : Nat) (p0 : Int32) (a0 : Int) (p1 : Int32) (a1 : Int) (b : Nat → Nat) (o_thrown : Int32) (o_taped : Int32) (o_size : Int32) (o_at : Int32) (o_from : Int32) (o_token : Int32) (o_value : Int32) (o_faultKind : Int32) (o_faultPlace : Int32) (o_lawNow : Int32) (o_walkSet : Int32) (o_oneWidow : Int32) (o_oneTurn : Int32) (o_askWorst : Int32) (o_mayWalk : Int32) (o_oftenAll : Int64) (o_oftenRoad : Int64) (o_oftenPegs : Int64) (o_f1 : Nat → Int32) (hp0 : p0.toInt = a0) (la0 : 0 ≤ a0) (ha0 : a0 ≤ 79) (hp1 : p1.toInt = a1) (hl_o_taped : 0 ≤ o_taped.toInt) (hh_o_taped : o_taped.toInt ≤ 900) (hl_o_size : 0 ≤ o_size.toInt) (hh_o_size : o_size.toInt ≤ 900) (hl_o_at : 0 ≤ o_at.toInt) (hh_o_at : o_at.toInt ≤ 900) (hl_o_from : 0 ≤ o_from.toInt) (hh_o_from : o_from.toInt ≤ 900) (hl_o_oneTurn : 0 ≤ o_oneTurn.toInt) (hh_o_oneTurn : o_oneTurn.toInt ≤ 4) (ha_o_f1 : WI o_f1) : CI l yX10_beside (wl_ yX10_beside cX10_beside 5 (some .int)) ({ frames := 1, cells := 0, slots := 0, locals := 25 } : Room) G (TY cI cJ cZ cB cQ) [.ref h0, .int p0, .int p1] [(h0, oX10 b o_thrown o_taped o_size o_at o_from o_token o_value o_faultKind o_faultPlace o_lawNow o_walkSet o_oneWidow o_oneTurn o_askWorst o_mayWalk o_oftenAll o_oftenRoad o_oftenPegs), (b 1, .inl (cI, 149, .inl o_f1))] sz (fun (r : Int32) (u : Unit) => (-1) ≤ r.toInt ∧ r.toInt ≤ 77 ∧ r.toInt = bsd (o_f1 3).toInt (o_f1 4).toInt a0 a1) (fun _ : Unit => [(h0, oX10 b o_thrown o_taped o_size o_at o_from o_token o_value o_faultKind o_faultPlace o_lawNow o_walkSet o_oneWidow o_oneTurn o_askWorst o_mayWalk o_oftenAll o_oftenRoad o_oftenPegs), (b 1, .inl (cI, 149, .inl o_f1))]) 0 0 := by
  refine CI.go (cc := cX10_beside) (maxL := 5) (ret := (some .int)) (by decide) rfl (Nat.le_of_ble_eq_true rfl) ?_
  intro p e s m below meth c A ls Q hBd hret
  obtain ⟨hx, hb, hr, hml, hts, hown, hlk, hnm, hP, hK, hD, hA, hZ, hl⟩ := hBd
  have hown : s.vm.findClass RX10 = some m.cls := hown
  have hl : lv_has ls 5 [(0, .ref h0), (1, .int p0), (2, .int p1)] := hl
  have hS : va_S A s.heap s.heap [] := va_S.rf
  refine lv_iload_n hx hb dX10_beside_0 rfl (lv_at hl 1 rfl) ?_
  refine lv_bipush (v := 10) hx hb dX10_beside_1 (by decide) ?_
  refine lv_idiv hx hb dX10_beside_3 (by decide) ?_
  refine lv_topi (fun v1 ev1 => ?_)
  have tv1 : v1.toInt = a0 / 10 := ti_div hp0 (by omega) (by decide) ki_10 ev1
  refine lv_iload_n hx hb dX10_beside_4 rfl (lv_at hl 2 rfl) ?_
  refine k_i (wc := []) (wr := [(h0, oX10 b o_thrown o_taped o_size o_at o_from o_token o_value o_faultKind o_faultPlace o_lawNow o_walkSet o_oneWidow o_oneTurn o_askWorst o_mayWalk o_oftenAll o_oftenRoad o_oftenPegs), (b 1, .inl (cI, 149, .inl o_f1))]) hP hD hS hA [] [0, 1] rfl rfl rfl (by decide) (va_runS (As := [.int p1]) (rest := [.int v1]) ⟨hx, hb, hml, hown, hts⟩ (f_X10_acrossOf l G cI cJ cZ cB cQ _ p1 a1 hp1) (va_cwS 1 hts (gS w_1528 w_1529 w_11 w_1530) rfl rfl rfl hd_X10_acrossOf ⟨Nat.le_of_ble_eq_true rfl, Nat.le_of_ble_eq_true rfl⟩) (mS hK hZ hP hD [] rfl rfl [.int p1]) rfl rfl hl.1 rfl (lv_room (Nat.le_of_ble_eq_true rfl)) dX10_beside_5 ⟨Nat.le_of_ble_eq_true rfl, Nat.le_of_ble_eq_true rfl⟩) (fun r2 u3 H locs hw4 hP hD hS => ?_)
  try dsimp only at hw4
  have hP : va_P G vwCl [(h0, oX10 b o_thrown o_taped o_size o_at o_from o_token o_value o_faultKind o_faultPlace o_lawNow o_walkSet o_oneWidow o_oneTurn o_askWorst o_mayWalk o_oftenAll o_oftenRoad o_oftenPegs), (b 1, .inl (cI, 149, .inl o_f1))] H := hP
  have hD : va_D A [(h0, oX10 b o_thrown o_taped o_size o_at o_from o_token o_value o_faultKind o_faultPlace o_lawNow o_walkSet o_oneWidow o_oneTurn o_askWorst o_mayWalk o_oftenAll o_oftenRoad o_oftenPegs), (b 1, .inl (cI, 149, .inl o_f1))] := hD
  obtain ⟨w5, w6, w7⟩ : (-1) ≤ r2.toInt ∧ r2.toInt ≤ 1 ∧ r2.toInt = ac a1 := hw4
  refine lv_iadd hx hb dX10_beside_8 ?_
  refine lv_topi (fun v8 ev8 => ?_)
  have tv8 : v8.toInt = a0 / 10 + (ac a1) := ti_add tv1 w7 ev8 (by omega) (by omega)
  refine lv_istore_n (lv' := [(3, .int v8), (0, .ref h0), (1, .int p0), (2, .int p1)]) hx hb dX10_beside_9 rfl hl (by decide) rfl (fun ls hl => ?_)
  refine lv_iload_n hx hb dX10_beside_10 rfl (lv_at hl 2 rfl) ?_
  refine lv_bipush (v := 10) hx hb dX10_beside_11 (by decide) ?_
  refine lv_irem hx hb dX10_beside_13 (by decide) ?_
  refine lv_topi (fun v9 ev9 => ?_)
  have tv9 : v9.toInt = a0 % 10 := ti_rem hp0 (by omega) (by decide) ki_10 ev9
  refine lv_iload_n hx hb dX10_beside_14 rfl (lv_at hl 3 rfl) ?_
  refine k_i (wc := []) (wr := [(h0, oX10 b o_thrown o_taped o_size o_at o_from o_token o_value o_faultKind o_faultPlace o_lawNow o_walkSet o_oneWidow o_oneTurn o_askWorst o_mayWalk o_oftenAll o_oftenRoad o_oftenPegs), (b 1, .inl (cI, 149, .inl o_f1))]) hP hD hS hA [] [0, 1] rfl rfl rfl (by decide) (va_runS (As := [.int p1]) (rest := [.int v9]) ⟨hx, hb, hml, hown, hts⟩ (f_X10_downOf l G cI cJ cZ cB cQ _ p1 a1 hp1) (va_cwS 1 hts (gS w_1531 w_1532 w_11 w_1533) rfl rfl rfl hd_X10_downOf ⟨Nat.le_of_ble_eq_true rfl, Nat.le_of_ble_eq_true rfl⟩) (mS hK hZ hP hD [] rfl rfl [.int p1]) rfl rfl hl.1 rfl (lv_room (Nat.le_of_ble_eq_true rfl)) dX10_beside_15 ⟨Nat.le_of_ble_eq_true rfl, Nat.le_of_ble_eq_true rfl⟩) (fun r10 u11 H locs hw12 hP hD hS => ?_)
  try dsimp only at hw12
  have hP : va_P G vwCl [(h0, oX10 b o_thrown o_taped o_size o_at o_from o_token o_value o_faultKind o_faultPlace o_lawNow o_walkSet o_oneWidow o_oneTurn o_askWorst o_mayWalk o_oftenAll o_oftenRoad o_oftenPegs), (b 1, .inl (cI, 149, .inl o_f1))] H := hP
  have hD : va_D A [(h0, oX10 b o_thrown o_taped o_size o_at o_from o_token o_value o_faultKind o_faultPlace o_lawNow o_walkSet o_oneWidow o_oneTurn o_askWorst o_mayWalk o_oftenAll o_oftenRoad o_oftenPegs), (b 1, .inl (cI, 149, .inl o_f1))] := hD
  obtain ⟨w13, w14, w15⟩ : (-1) ≤ r10.toInt ∧ r10.toInt ≤ 1 ∧ r10.toInt = dn a1 := hw12
  refine lv_iadd hx hb dX10_beside_18 ?_
  refine lv_topi (fun v16 ev16 => ?_)
  have tv16 : v16.toInt = a0 % 10 + (dn a1) := ti_add tv9 w15 ev16 (by omega) (by omega)
  refine lv_istore (lv' := [(4, .int v16), (3, .int v8), (0, .ref h0), (1, .int p0), (2, .int p1)]) hx hb dX10_beside_19 hl (by decide) rfl (fun ls hl => ?_)
  refine lv_iload_n hx hb dX10_beside_21 rfl (lv_at hl 1 rfl) ?_
  obtain ⟨v17, ev17⟩ : ∃ y : Int64, v8.toInt64 = y := ⟨_, rfl⟩
  have tv17 : v17.toInt = a0 / 10 + (ac a1) := ti_wide tv8 ev17
  refine lv_i2l (v := v17) hx hb dX10_beside_22 ev17 ?_
  refine lv_lconst (v := 0) hx hb dX10_beside_23 (by decide) ?_
  refine lv_aload_n hx hb dX10_beside_24 rfl (lv_at hl 2 rfl) ?_
  refine va_get (D := G) (ci := 10) (v := .ref (b 1)) (C := RX10) (T := TX10) (N := 46) hx hb hts iG_X10 hown hK hP 0 rfl rfl 1 (by decide) (hts _ w_1193) (fun _ h9 => h9) rfl dX10_beside_25 ?_
  refine lv_iconst (v := 3) hx hb dX10_beside_28 (by decide) ?_
  refine va_iald hx hb hK hP 1 0 rfl rfl (ix_in ki_3 (by omega) (by omega)) dX10_beside_29 ?_
  refine lv_topi (fun v18 ev18 => ?_)
  have tv18 : v18.toInt = (o_f1 3).toInt := by rw [ev18]; rfl
  obtain ⟨ia19, ib20⟩ := WB_3 ha_o_f1.1
  refine lv_iconst (v := 1) hx hb dX10_beside_30 (by decide) ?_
  refine lv_isub hx hb dX10_beside_31 ?_
  refine lv_topi (fun v21 ev21 => ?_)
  have tv21 : v21.toInt = ((o_f1 3).toInt) - 1 := ti_sub tv18 ki_1 ev21 (by omega) (by omega)
  obtain ⟨v22, ev22⟩ : ∃ y : Int64, v21.toInt64 = y := ⟨_, rfl⟩
  have tv22 : v22.toInt = ((o_f1 3).toInt) - 1 := ti_wide tv21 ev22
  refine lv_i2l (v := v22) hx hb dX10_beside_32 ev22 ?_
  refine k_i (wc := []) (wr := [(h0, oX10 b o_thrown o_taped o_size o_at o_from o_token o_value o_faultKind o_faultPlace o_lawNow o_walkSet o_oneWidow o_oneTurn o_askWorst o_mayWalk o_oftenAll o_oftenRoad o_oftenPegs), (b 1, .inl (cI, 149, .inl o_f1))]) hP hD hS hA [] [0, 1] rfl rfl rfl (by decide) (va_runS (As := [.long v17, .long 0, .long v22]) (rest := []) ⟨hx, hb, hml, hown, hts⟩ (f_X10_in l G cI cJ cZ cB cQ _ v17 (a0 / 10 + (ac a1)) 0 0 v22 (((o_f1 3).toInt) - 1) tv17 kl_0 tv22) (va_cwS 3 hts (gS w_1336 w_1337 w_11 w_1338) rfl rfl rfl hd_X10_in ⟨Nat.le_of_ble_eq_true rfl, Nat.le_of_ble_eq_true rfl⟩) (mS hK hZ hP hD [] rfl rfl [.long v17, .long 0, .long v22]) rfl rfl hl.1 rfl (lv_room (Nat.le_of_ble_eq_true rfl)) dX10_beside_33 ⟨Nat.le_of_ble_eq_true rfl, Nat.le_of_ble_eq_true rfl⟩) (fun r23 u24 H locs hw25 hP hD hS => ?_)
  try dsimp only at hw25
  have hP : va_P G vwCl [(h0, oX10 b o_thrown o_taped o_size o_at o_from o_token o_value o_faultKind o_faultPlace o_lawNow o_walkSet o_oneWidow o_oneTurn o_askWorst o_mayWalk o_oftenAll o_oftenRoad o_oftenPegs), (b 1, .inl (cI, 149, .inl o_f1))] H := hP
  have hD : va_D A [(h0, oX10 b o_thrown o_taped o_size o_at o_from o_token o_value o_faultKind o_faultPlace o_lawNow o_walkSet o_oneWidow o_oneTurn o_askWorst o_mayWalk o_oftenAll o_oftenRoad o_oftenPegs), (b 1, .inl (cI, 149, .inl o_f1))] := hD
  rcases hw25 with ⟨rfl, a27, a28⟩ | ⟨rfl, a29⟩
  · skip
    refine lv_if_eq (tgt := 68) hx hb dX10_beside_36 (by decide) (fun c30 => absurd c30 (by decide)) (fun c30 => ?_)
    refine lv_iload hx hb dX10_beside_39 (lv_at hl 0 rfl) ?_
    obtain ⟨v31, ev31⟩ : ∃ y : Int64, v16.toInt64 = y := ⟨_, rfl⟩
    have tv31 : v31.toInt = a0 % 10 + (dn a1) := ti_wide tv16 ev31
    refine lv_i2l (v := v31) hx hb dX10_beside_41 ev31 ?_
    refine lv_lconst (v := 0) hx hb dX10_beside_42 (by decide) ?_
    refine lv_aload_n hx hb dX10_beside_43 rfl (lv_at hl 2 rfl) ?_
    refine va_get (D := G) (ci := 10) (v := .ref (b 1)) (C := RX10) (T := TX10) (N := 46) hx hb hts iG_X10 hown hK hP 0 rfl rfl 1 (by decide) (hts _ w_1193) (fun _ h9 => h9) rfl dX10_beside_44 ?_
    refine lv_iconst (v := 4) hx hb dX10_beside_47 (by decide) ?_
    refine va_iald hx hb hK hP 1 0 rfl rfl (ix_in ki_4 (by omega) (by omega)) dX10_beside_48 ?_
    refine lv_topi (fun v32 ev32 => ?_)
    have tv32 : v32.toInt = (o_f1 4).toInt := by rw [ev32]; rfl
    obtain ⟨ia33, ib34⟩ := WB_4 ha_o_f1.1
    refine lv_iconst (v := 1) hx hb dX10_beside_49 (by decide) ?_
    refine lv_isub hx hb dX10_beside_50 ?_
    refine lv_topi (fun v35 ev35 => ?_)
    have tv35 : v35.toInt = ((o_f1 4).toInt) - 1 := ti_sub tv32 ki_1 ev35 (by omega) (by omega)
    obtain ⟨v36, ev36⟩ : ∃ y : Int64, v35.toInt64 = y := ⟨_, rfl⟩
    have tv36 : v36.toInt = ((o_f1 4).toInt) - 1 := ti_wide tv35 ev36
    refine lv_i2l (v := v36) hx hb dX10_beside_51 ev36 ?_
    refine k_i (wc := []) (wr := [(h0, oX10 b o_thrown o_taped o_size o_at o_from o_token o_value o_faultKind o_faultPlace o_lawNow o_walkSet o_oneWidow o_oneTurn o_askWorst o_mayWalk o_oftenAll o_oftenRoad o_oftenPegs), (b 1, .inl (cI, 149, .inl o_f1))]) hP hD hS hA [] [0, 1] rfl rfl rfl (by decide) (va_runS (As := [.long v31, .long 0, .long v36]) (rest := []) ⟨hx, hb, hml, hown, hts⟩ (f_X10_in l G cI cJ cZ cB cQ _ v31 (a0 % 10 + (dn a1)) 0 0 v36 (((o_f1 4).toInt) - 1) tv31 kl_0 tv36) (va_cwS 3 hts (gS w_1336 w_1337 w_11 w_1338) rfl rfl rfl hd_X10_in ⟨Nat.le_of_ble_eq_true rfl, Nat.le_of_ble_eq_true rfl⟩) (mS hK hZ hP hD [] rfl rfl [.long v31, .long 0, .long v36]) rfl rfl hl.1 rfl (lv_room (Nat.le_of_ble_eq_true rfl)) dX10_beside_52 ⟨Nat.le_of_ble_eq_true rfl, Nat.le_of_ble_eq_true rfl⟩) (fun r37 u38 H locs hw39 hP hD hS => ?_)
    try dsimp only at hw39
    have hP : va_P G vwCl [(h0, oX10 b o_thrown o_taped o_size o_at o_from o_token o_value o_faultKind o_faultPlace o_lawNow o_walkSet o_oneWidow o_oneTurn o_askWorst o_mayWalk o_oftenAll o_oftenRoad o_oftenPegs), (b 1, .inl (cI, 149, .inl o_f1))] H := hP
    have hD : va_D A [(h0, oX10 b o_thrown o_taped o_size o_at o_from o_token o_value o_faultKind o_faultPlace o_lawNow o_walkSet o_oneWidow o_oneTurn o_askWorst o_mayWalk o_oftenAll o_oftenRoad o_oftenPegs), (b 1, .inl (cI, 149, .inl o_f1))] := hD
    rcases hw39 with ⟨rfl, a41, a42⟩ | ⟨rfl, a43⟩
    · skip
      refine lv_if_eq (tgt := 68) hx hb dX10_beside_55 (by decide) (fun c44 => absurd c44 (by decide)) (fun c44 => ?_)
      refine lv_bipush (v := 10) hx hb dX10_beside_58 (by decide) ?_
      refine lv_iload_n hx hb dX10_beside_60 rfl (lv_at hl 1 rfl) ?_
      refine lv_imul hx hb dX10_beside_61 ?_
      refine lv_topi (fun v45 ev45 => ?_)
      have tv45 : v45.toInt = 10 * (a0 / 10 + (ac a1)) := ti_mul ki_10 tv8 ev45 (by omega) (by omega)
      refine lv_iload hx hb dX10_beside_62 (lv_at hl 0 rfl) ?_
      refine lv_iadd hx hb dX10_beside_64 ?_
      refine lv_topi (fun v46 ev46 => ?_)
      have tv46 : v46.toInt = 10 * (a0 / 10 + (ac a1)) + (a0 % 10 + (dn a1)) := ti_add tv45 tv16 ev46 (by omega) (by omega)
      refine lv_goto (tgt := 69) hx hb dX10_beside_65 (by decide) ?_
      exact hret _ _ _ _ v46 () hP hD hS dX10_beside_69 (show (-1) ≤ v46.toInt ∧ v46.toInt ≤ 77 ∧ v46.toInt = bsd (o_f1 3).toInt (o_f1 4).toInt a0 a1 from ⟨(by omega), (by omega), (by have q9 := bsd_in (wd := (o_f1 3).toInt) (hi := (o_f1 4).toInt) (c := a0) (d := a1) (x := a0 / 10 + (ac a1)) (y := a0 % 10 + (dn a1)) (by omega) (by omega) (by omega) (by omega) (by omega) (by omega); omega)⟩)
    · skip
      refine lv_if_eq (tgt := 68) hx hb dX10_beside_55 (by decide) (fun c47 => ?_) (fun c47 => absurd (by decide) c47)
      refine lv_iconst (v := (-1)) hx hb dX10_beside_68 (by decide) ?_
      exact hret _ _ _ _ (-1) () hP hD hS dX10_beside_69 (show (-1) ≤ ((-1) : Int32).toInt ∧ ((-1) : Int32).toInt ≤ 77 ∧ ((-1) : Int32).toInt = bsd (o_f1 3).toInt (o_f1 4).toInt a0 a1 from ⟨(by rw [ki_m1]; decide), (by rw [ki_m1]; decide), (by have q9 : bsd (o_f1 3).toInt (o_f1 4).toInt a0 a1 = -1 := (by first | exact bsd_o1 (x := a0 / 10 + (ac a1)) (by omega) (by omega) | exact bsd_o2 (y := a0 % 10 + (dn a1)) (by omega) (by omega)); rw [ki_m1]; omega)⟩)
  · skip
    refine lv_if_eq (tgt := 68) hx hb dX10_beside_36 (by decide) (fun c48 => ?_) (fun c48 => absurd (by decide) c48)
    refine lv_iconst (v := (-1)) hx hb dX10_beside_68 (by decide) ?_
    exact hret _ _ _ _ (-1) () hP hD hS dX10_beside_69 (show (-1) ≤ ((-1) : Int32).toInt ∧ ((-1) : Int32).toInt ≤ 77 ∧ ((-1) : Int32).toInt = bsd (o_f1 3).toInt (o_f1 4).toInt a0 a1 from ⟨(by rw [ki_m1]; decide), (by rw [ki_m1]; decide), (by have q9 : bsd (o_f1 3).toInt (o_f1 4).toInt a0 a1 = -1 := (by first | exact bsd_o1 (x := a0 / 10 + (ac a1)) (by omega) (by omega) | exact bsd_o2 (y := a0 % 10 + (dn a1)) (by omega) (by omega)); rw [ki_m1]; omega)⟩)
set_option maxHeartbeats 4000000 in
set_option maxRecDepth 100000 in
theorem f_X10_isFree (l : Launch) (G : va_G) (cI cJ cZ cB cQ : ClassId) (sz : Nat) (h0 : Nat) (p0 : Int32) (a0 : Int) (p1 : Int32) (a1 : Int) (b : Nat → Nat) (o_thrown : Int32) (o_taped : Int32) (o_size : Int32) (o_at : Int32) (o_from : Int32) (o_token : Int32) (o_value : Int32) (o_faultKind : Int32) (o_faultPlace : Int32) (o_lawNow : Int32) (o_walkSet : Int32) (o_oneWidow : Int32) (o_oneTurn : Int32) (o_askWorst : Int32) (o_mayWalk : Int32) (o_oftenAll : Int64) (o_oftenRoad : Int64) (o_oftenPegs : Int64) (o_f15 : Nat → Int32) (o_f22 : Nat → Int32) (o_f23 : Nat → Int32) (hp0 : p0.toInt = a0) (la0 : (-1) ≤ a0) (ha0 : a0 ≤ 79) (hp1 : p1.toInt = a1) (hl_o_taped : 0 ≤ o_taped.toInt) (hh_o_taped : o_taped.toInt ≤ 900) (hl_o_size : 0 ≤ o_size.toInt) (hh_o_size : o_size.toInt ≤ 900) (hl_o_at : 0 ≤ o_at.toInt) (hh_o_at : o_at.toInt ≤ 900) (hl_o_from : 0 ≤ o_from.toInt) (hh_o_from : o_from.toInt ≤ 900) (hl_o_oneTurn : 0 ≤ o_oneTurn.toInt) (hh_o_oneTurn : o_oneTurn.toInt ≤ 4) (ha_o_f15 : ai o_f15 80 0 1) (ha_o_f22 : ai o_f22 80 0 1) (ha_o_f23 : ai o_f23 80 0 1) : CI l yX10_isFree (wl_ yX10_isFree cX10_isFree 3 (some .boolean)) ({ frames := 0, cells := 0, slots := 0, locals := 0 } : Room) G (TY cI cJ cZ cB cQ) [.ref h0, .int p0, .int p1] [(h0, oX10 b o_thrown o_taped o_size o_at o_from o_token o_value o_faultKind o_faultPlace o_lawNow o_walkSet o_oneWidow o_oneTurn o_askWorst o_mayWalk o_oftenAll o_oftenRoad o_oftenPegs), (b 15, .inl (cZ, 80, .inl o_f15)), (b 22, .inl (cZ, 80, .inl o_f22)), (b 23, .inl (cZ, 80, .inl o_f23))] sz (fun (r : Int32) (u : Unit) => ((r = 1 ∧ ¬ a0 = -1) ∨ (r = 0))) (fun _ : Unit => [(h0, oX10 b o_thrown o_taped o_size o_at o_from o_token o_value o_faultKind o_faultPlace o_lawNow o_walkSet o_oneWidow o_oneTurn o_askWorst o_mayWalk o_oftenAll o_oftenRoad o_oftenPegs), (b 15, .inl (cZ, 80, .inl o_f15)), (b 22, .inl (cZ, 80, .inl o_f22)), (b 23, .inl (cZ, 80, .inl o_f23))]) 0 0 := by
  refine CI.goz (cc := cX10_isFree) (maxL := 3) (ret := (some .boolean)) (by decide) rfl (Nat.le_of_ble_eq_true rfl) ?_
  intro p e s m below meth c A ls Q hBd hret
  obtain ⟨hx, hb, hr, hml, hts, hown, hlk, hnm, hP, hK, hD, hA, hZ, hl⟩ := hBd
  have hown : s.vm.findClass RX10 = some m.cls := hown
  have hl : lv_has ls 3 [(0, .ref h0), (1, .int p0), (2, .int p1)] := hl
  have hS : va_S A s.heap s.heap [] := va_S.rf
  refine lv_iload_n hx hb dX10_isFree_0 rfl (lv_at hl 1 rfl) ?_
  refine lv_iconst (v := (-1)) hx hb dX10_isFree_1 (by decide) ?_
  refine lv_icmp_eq (tgt := 14) hx hb dX10_isFree_2 (by decide) (fun c1 => ?_) (fun c1 => ?_)
  · have c1 := i_eq hp0 ki_m1 c1
    refine lv_iconst (v := 0) hx hb dX10_isFree_14 (by decide) ?_
    exact hret _ _ _ _ 0 () hP hD hS dX10_isFree_15 rfl (show (((0 : Int32) = 1 ∧ ¬ a0 = -1) ∨ ((0 : Int32) = 0)) from (Or.inr rfl))
  · have c1 := i_ne hp0 ki_m1 c1
    refine lv_aload_n hx hb dX10_isFree_5 rfl (lv_at hl 0 rfl) ?_
    refine va_get (D := G) (ci := 10) (v := .ref (b 15)) (C := RX10) (T := TX10) (N := 46) hx hb hts iG_X10 hown hK hP 0 rfl rfl 15 (by decide) (hts _ w_1207) (fun _ h9 => h9) rfl dX10_isFree_6 ?_
    refine lv_iload_n hx hb dX10_isFree_9 rfl (lv_at hl 1 rfl) ?_
    refine va_zald hx hb hK hP 1 2 rfl rfl (ix_in hp0 (by omega) (by omega)) dX10_isFree_10 ?_
    refine lv_topi (fun v2 ev2 => ?_)
    obtain ⟨ia3, ib4⟩ := ai_get ha_o_f15 hp0 (by omega) (by omega) ev2
    refine lv_if_eq (tgt := 16) hx hb dX10_isFree_11 (by decide) (fun c5 => ?_) (fun c5 => ?_)
    · have c5 := i_eq rfl ki_0 c5
      refine lv_iload_n hx hb dX10_isFree_16 rfl (lv_at hl 2 rfl) ?_
      refine lv_iconst (v := 1) hx hb dX10_isFree_17 (by decide) ?_
      refine lv_icmp_ne (tgt := 30) hx hb dX10_isFree_18 (by decide) (fun c6 => ?_) (fun c6 => ?_)
      · have c6 := i_ne hp1 ki_1 c6
        refine lv_iload_n hx hb dX10_isFree_30 rfl (lv_at hl 2 rfl) ?_
        refine lv_iconst (v := 2) hx hb dX10_isFree_31 (by decide) ?_
        refine lv_icmp_ne (tgt := 44) hx hb dX10_isFree_32 (by decide) (fun c7 => ?_) (fun c7 => ?_)
        · have c7 := i_ne hp1 ki_2 c7
          refine lv_iconst (v := 1) hx hb dX10_isFree_44 (by decide) ?_
          refine lv_goto (tgt := 49) hx hb dX10_isFree_45 (by decide) ?_
          exact hret _ _ _ _ 1 () hP hD hS dX10_isFree_49 rfl (show (((1 : Int32) = 1 ∧ ¬ a0 = -1) ∨ ((1 : Int32) = 0)) from (Or.inl ⟨rfl, by omega⟩))
        · have c7 := i_eq hp1 ki_2 c7
          refine lv_aload_n hx hb dX10_isFree_35 rfl (lv_at hl 0 rfl) ?_
          refine va_get (D := G) (ci := 10) (v := .ref (b 23)) (C := RX10) (T := TX10) (N := 46) hx hb hts iG_X10 hown hK hP 0 rfl rfl 23 (by decide) (hts _ w_1215) (fun _ h9 => h9) rfl dX10_isFree_36 ?_
          refine lv_iload_n hx hb dX10_isFree_39 rfl (lv_at hl 1 rfl) ?_
          refine va_zald hx hb hK hP 3 2 rfl rfl (ix_in hp0 (by omega) (by omega)) dX10_isFree_40 ?_
          refine lv_topi (fun v8 ev8 => ?_)
          obtain ⟨ia9, ib10⟩ := ai_get ha_o_f23 hp0 (by omega) (by omega) ev8
          refine lv_if_ne (tgt := 48) hx hb dX10_isFree_41 (by decide) (fun c11 => ?_) (fun c11 => ?_)
          · have c11 := i_ne rfl ki_0 c11
            refine lv_iconst (v := 0) hx hb dX10_isFree_48 (by decide) ?_
            exact hret _ _ _ _ 0 () hP hD hS dX10_isFree_49 rfl (show (((0 : Int32) = 1 ∧ ¬ a0 = -1) ∨ ((0 : Int32) = 0)) from (Or.inr rfl))
          · have c11 := i_eq rfl ki_0 c11
            refine lv_iconst (v := 1) hx hb dX10_isFree_44 (by decide) ?_
            refine lv_goto (tgt := 49) hx hb dX10_isFree_45 (by decide) ?_
            exact hret _ _ _ _ 1 () hP hD hS dX10_isFree_49 rfl (show (((1 : Int32) = 1 ∧ ¬ a0 = -1) ∨ ((1 : Int32) = 0)) from (Or.inl ⟨rfl, by omega⟩))
      · have c6 := i_eq hp1 ki_1 c6
        refine lv_aload_n hx hb dX10_isFree_21 rfl (lv_at hl 0 rfl) ?_
        refine va_get (D := G) (ci := 10) (v := .ref (b 22)) (C := RX10) (T := TX10) (N := 46) hx hb hts iG_X10 hown hK hP 0 rfl rfl 22 (by decide) (hts _ w_1214) (fun _ h9 => h9) rfl dX10_isFree_22 ?_
        refine lv_iload_n hx hb dX10_isFree_25 rfl (lv_at hl 1 rfl) ?_
        refine va_zald hx hb hK hP 2 2 rfl rfl (ix_in hp0 (by omega) (by omega)) dX10_isFree_26 ?_
        refine lv_topi (fun v12 ev12 => ?_)
        obtain ⟨ia13, ib14⟩ := ai_get ha_o_f22 hp0 (by omega) (by omega) ev12
        refine lv_if_ne (tgt := 48) hx hb dX10_isFree_27 (by decide) (fun c15 => ?_) (fun c15 => ?_)
        · have c15 := i_ne rfl ki_0 c15
          refine lv_iconst (v := 0) hx hb dX10_isFree_48 (by decide) ?_
          exact hret _ _ _ _ 0 () hP hD hS dX10_isFree_49 rfl (show (((0 : Int32) = 1 ∧ ¬ a0 = -1) ∨ ((0 : Int32) = 0)) from (Or.inr rfl))
        · have c15 := i_eq rfl ki_0 c15
          refine lv_iload_n hx hb dX10_isFree_30 rfl (lv_at hl 2 rfl) ?_
          refine lv_iconst (v := 2) hx hb dX10_isFree_31 (by decide) ?_
          refine lv_icmp_ne (tgt := 44) hx hb dX10_isFree_32 (by decide) (fun c16 => ?_) (fun c16 => absurd (i_eq hp1 ki_2 c16) (by omega))
          have c16 := i_ne hp1 ki_2 c16
          refine lv_iconst (v := 1) hx hb dX10_isFree_44 (by decide) ?_
          refine lv_goto (tgt := 49) hx hb dX10_isFree_45 (by decide) ?_
          exact hret _ _ _ _ 1 () hP hD hS dX10_isFree_49 rfl (show (((1 : Int32) = 1 ∧ ¬ a0 = -1) ∨ ((1 : Int32) = 0)) from (Or.inl ⟨rfl, by omega⟩))
    · have c5 := i_ne rfl ki_0 c5
      refine lv_iconst (v := 0) hx hb dX10_isFree_14 (by decide) ?_
      exact hret _ _ _ _ 0 () hP hD hS dX10_isFree_15 rfl (show (((0 : Int32) = 1 ∧ ¬ a0 = -1) ∨ ((0 : Int32) = 0)) from (Or.inr rfl))
set_option maxHeartbeats 4000000 in
set_option maxRecDepth 100000 in
theorem f_X10_isAnyFree (l : Launch) (G : va_G) (cI cJ cZ cB cQ : ClassId) (sz : Nat) (h0 : Nat) (p0 : Int32) (a0 : Int) (p1 : Int32) (a1 : Int) (b : Nat → Nat) (o_thrown : Int32) (o_taped : Int32) (o_size : Int32) (o_at : Int32) (o_from : Int32) (o_token : Int32) (o_value : Int32) (o_faultKind : Int32) (o_faultPlace : Int32) (o_lawNow : Int32) (o_walkSet : Int32) (o_oneWidow : Int32) (o_oneTurn : Int32) (o_askWorst : Int32) (o_mayWalk : Int32) (o_oftenAll : Int64) (o_oftenRoad : Int64) (o_oftenPegs : Int64) (o_f1 : Nat → Int32) (o_f15 : Nat → Int32) (o_f22 : Nat → Int32) (o_f23 : Nat → Int32) (hp0 : p0.toInt = a0) (la0 : 0 ≤ a0) (ha0 : a0 ≤ 79) (hp1 : p1.toInt = a1) (hl_o_taped : 0 ≤ o_taped.toInt) (hh_o_taped : o_taped.toInt ≤ 900) (hl_o_size : 0 ≤ o_size.toInt) (hh_o_size : o_size.toInt ≤ 900) (hl_o_at : 0 ≤ o_at.toInt) (hh_o_at : o_at.toInt ≤ 900) (hl_o_from : 0 ≤ o_from.toInt) (hh_o_from : o_from.toInt ≤ 900) (hl_o_oneTurn : 0 ≤ o_oneTurn.toInt) (hh_o_oneTurn : o_oneTurn.toInt ≤ 4) (ha_o_f1 : WI o_f1) (ha_o_f15 : ai o_f15 80 0 1) (ha_o_f22 : ai o_f22 80 0 1) (ha_o_f23 : ai o_f23 80 0 1) : CI l yX10_isAnyFree (wl_ yX10_isAnyFree cX10_isAnyFree 5 (some .boolean)) ({ frames := 2, cells := 0, slots := 0, locals := 49 } : Room) G (TY cI cJ cZ cB cQ) [.ref h0, .int p0, .int p1] [(h0, oX10 b o_thrown o_taped o_size o_at o_from o_token o_value o_faultKind o_faultPlace o_lawNow o_walkSet o_oneWidow o_oneTurn o_askWorst o_mayWalk o_oftenAll o_oftenRoad o_oftenPegs), (b 1, .inl (cI, 149, .inl o_f1)), (b 15, .inl (cZ, 80, .inl o_f15)), (b 22, .inl (cZ, 80, .inl o_f22)), (b 23, .inl (cZ, 80, .inl o_f23))] sz (fun (r : Int32) (u : Unit) => 0 ≤ r.toInt ∧ r.toInt ≤ 1) (fun _ : Unit => [(h0, oX10 b o_thrown o_taped o_size o_at o_from o_token o_value o_faultKind o_faultPlace o_lawNow o_walkSet o_oneWidow o_oneTurn o_askWorst o_mayWalk o_oftenAll o_oftenRoad o_oftenPegs), (b 1, .inl (cI, 149, .inl o_f1)), (b 15, .inl (cZ, 80, .inl o_f15)), (b 22, .inl (cZ, 80, .inl o_f22)), (b 23, .inl (cZ, 80, .inl o_f23))]) 0 0 := by
  refine CI.goz (cc := cX10_isAnyFree) (maxL := 5) (ret := (some .boolean)) (by decide) rfl (Nat.le_of_ble_eq_true rfl) ?_
  intro p e s m below meth c A ls Q hBd hret
  obtain ⟨hx, hb, hr, hml, hts, hown, hlk, hnm, hP, hK, hD, hA, hZ, hl⟩ := hBd
  have hown : s.vm.findClass RX10 = some m.cls := hown
  have hl : lv_has ls 5 [(0, .ref h0), (1, .int p0), (2, .int p1)] := hl
  have hS : va_S A s.heap s.heap [] := va_S.rf
  refine lv_iconst (v := 0) hx hb dX10_isAnyFree_0 (by decide) ?_
  refine lv_istore_n (lv' := [(3, .int 0), (0, .ref h0), (1, .int p0), (2, .int p1)]) hx hb dX10_isAnyFree_1 rfl hl (by decide) rfl (fun ls hl => ?_)
  refine lv_iconst (v := 0) hx hb dX10_isAnyFree_2 (by decide) ?_
  refine lv_istore (lv' := [(4, .int 0), (3, .int 0), (0, .ref h0), (1, .int p0), (2, .int p1)]) hx hb dX10_isAnyFree_3 hl (by decide) rfl (fun ls hl => ?_)
  have lp1 : ∀ (n2 : Nat) (x3 : Int32) (x4 : Int32), 0 ≤ x3.toInt → x3.toInt ≤ 1 → 0 ≤ x4.toInt → x4.toInt ≤ 4 → 4 - x4.toInt < (n2 : Int) → ∀ (H : Heap) (locs : List Loc), va_P G vwCl [(h0, oX10 b o_thrown o_taped o_size o_at o_from o_token o_value o_faultKind o_faultPlace o_lawNow o_walkSet o_oneWidow o_oneTurn o_askWorst o_mayWalk o_oftenAll o_oftenRoad o_oftenPegs), (b 1, .inl (cI, 149, .inl o_f1)), (b 15, .inl (cZ, 80, .inl o_f15)), (b 22, .inl (cZ, 80, .inl o_f22)), (b 23, .inl (cZ, 80, .inl o_f23))] H → va_D A [(h0, oX10 b o_thrown o_taped o_size o_at o_from o_token o_value o_faultKind o_faultPlace o_lawNow o_walkSet o_oneWidow o_oneTurn o_askWorst o_mayWalk o_oftenAll o_oftenRoad o_oftenPegs), (b 1, .inl (cI, 149, .inl o_f1)), (b 15, .inl (cZ, 80, .inl o_f15)), (b 22, .inl (cZ, 80, .inl o_f22)), (b 23, .inl (cZ, 80, .inl o_f23))] → va_S A s.heap H locs → ∀ (ls : Array Slot), lv_has ls 5 [(4, .int x4), (3, .int x3), (0, .ref h0), (1, .int p0), (2, .int p1)] → W p l e ({ frames := 2, cells := 0, slots := 0, locals := 49 } : Room) s m ([.ref h0, .int p0, .int p1] : List Value).toArray below meth c H locs 0 0 Q (F0 m 5 ls []) := by
    intro n2
    induction n2 with
    | zero =>
      intro x3 x4 k5 k6 k7 k8 mm10
      exact absurd mm10 (by have q9 := fb_rng x4; omega)
    | succ n2 ih9 =>
      intro x3 x4 k5 k6 k7 k8 mm10 H locs hP hD hS ls hl
      refine lv_iload hx hb dX10_isAnyFree_5 (lv_at hl 0 rfl) ?_
      refine lv_iconst (v := 4) hx hb dX10_isAnyFree_7 (by decide) ?_
      refine lv_icmp_ge (tgt := 42) hx hb dX10_isAnyFree_8 (by decide) (fun c11 => ?_) (fun c11 => ?_)
      · have c11 := i_le ki_4 rfl c11
        refine lv_iload_n hx hb dX10_isAnyFree_42 rfl (lv_at hl 1 rfl) ?_
        exact hret _ _ _ _ x3 () hP hD hS dX10_isAnyFree_43 (nar_z k5 k6) (show 0 ≤ x3.toInt ∧ x3.toInt ≤ 1 from ⟨k5, k6⟩)
      · have c11 := i_nle ki_4 rfl c11
        refine lv_iload_n hx hb dX10_isAnyFree_11 rfl (lv_at hl 1 rfl) ?_
        refine lv_if_ne (tgt := 30) hx hb dX10_isAnyFree_12 (by decide) (fun c12 => ?_) (fun c12 => ?_)
        · have c12 := i_ne rfl ki_0 c12
          refine lv_iconst (v := 1) hx hb dX10_isAnyFree_30 (by decide) ?_
          refine lv_goto (tgt := 35) hx hb dX10_isAnyFree_31 (by decide) ?_
          refine lv_istore_n (lv' := [(3, .int 1), (4, .int x4), (0, .ref h0), (1, .int p0), (2, .int p1)]) hx hb dX10_isAnyFree_35 rfl hl (by decide) rfl (fun ls hl => ?_)
          obtain ⟨v13, ev13⟩ : ∃ y : Int32, y = x4 + 1 := ⟨_, rfl⟩
          have tv13 : v13.toInt = x4.toInt + 1 := ti_add rfl ki_1 ev13 (by omega) (by omega)
          refine lv_iinc (v := v13) (lv' := [(4, .int v13), (3, .int 1), (0, .ref h0), (1, .int p0), (2, .int p1)]) hx hb dX10_isAnyFree_36 hl (k := 1) rfl (by rw [ev13]; rfl) (by decide) rfl (fun ls hl => ?_)
          refine lv_goto (tgt := 5) hx hb dX10_isAnyFree_39 (by decide) ?_
          exact ih9 1 v13 (by rw [ki_1]; decide) (by rw [ki_1]; decide) (by omega) (by omega) (by omega) _ _ hP hD hS ls (lv_sub hl [0, 1, 2, 3, 4] rfl)
        · have c12 := i_eq rfl ki_0 c12
          refine lv_aload_n hx hb dX10_isAnyFree_15 rfl (lv_at hl 2 rfl) ?_
          refine lv_aload_n hx hb dX10_isAnyFree_16 rfl (lv_at hl 2 rfl) ?_
          refine lv_iload_n hx hb dX10_isAnyFree_17 rfl (lv_at hl 3 rfl) ?_
          refine lv_iload hx hb dX10_isAnyFree_18 (lv_at hl 0 rfl) ?_
          refine k_i (wc := [(h0, oX10 b o_thrown o_taped o_size o_at o_from o_token o_value o_faultKind o_faultPlace o_lawNow o_walkSet o_oneWidow o_oneTurn o_askWorst o_mayWalk o_oftenAll o_oftenRoad o_oftenPegs), (b 1, .inl (cI, 149, .inl o_f1))]) (wr := [(b 15, .inl (cZ, 80, .inl o_f15)), (b 22, .inl (cZ, 80, .inl o_f22)), (b 23, .inl (cZ, 80, .inl o_f23))]) hP hD hS hA [0, 1] [2, 3, 4] rfl rfl rfl (by decide) (va_runV (As := [.int p0, .int x4]) (rest := [.ref h0]) ⟨hx, hb, hml, hown, hts⟩ (f_X10_beside l G cI cJ cZ cB cQ _ h0 p0 a0 x4 x4.toInt b o_thrown o_taped o_size o_at o_from o_token o_value o_faultKind o_faultPlace o_lawNow o_walkSet o_oneWidow o_oneTurn o_askWorst o_mayWalk o_oftenAll o_oftenRoad o_oftenPegs o_f1 hp0 (by omega) (by omega) rfl hl_o_taped hh_o_taped hl_o_size hh_o_size hl_o_at hh_o_at hl_o_from hh_o_from hl_o_oneTurn hh_o_oneTurn ha_o_f1) (cwV 2 hts (gV w_1524 w_1526 wp_114 w_11 w_1527) rfl rfl rfl ⟨rfl, hd_X10_beside⟩ ⟨Nat.le_of_ble_eq_true rfl, Nat.le_of_ble_eq_true rfl⟩) (mV hK hZ hP hD [0, 1] rfl rfl [.int p0, .int x4] 0 10 rfl rfl) rfl rfl hl.1 rfl (lv_room (Nat.le_of_ble_eq_true rfl)) dX10_isAnyFree_20 ⟨Nat.le_of_ble_eq_true rfl, Nat.le_of_ble_eq_true rfl⟩) (fun r14 u15 H locs hw16 hP hD hS => ?_)
          try dsimp only at hw16
          have hP : va_P G vwCl [(b 15, .inl (cZ, 80, .inl o_f15)), (b 22, .inl (cZ, 80, .inl o_f22)), (b 23, .inl (cZ, 80, .inl o_f23)), (h0, oX10 b o_thrown o_taped o_size o_at o_from o_token o_value o_faultKind o_faultPlace o_lawNow o_walkSet o_oneWidow o_oneTurn o_askWorst o_mayWalk o_oftenAll o_oftenRoad o_oftenPegs), (b 1, .inl (cI, 149, .inl o_f1))] H := hP
          have hD : va_D A [(b 15, .inl (cZ, 80, .inl o_f15)), (b 22, .inl (cZ, 80, .inl o_f22)), (b 23, .inl (cZ, 80, .inl o_f23)), (h0, oX10 b o_thrown o_taped o_size o_at o_from o_token o_value o_faultKind o_faultPlace o_lawNow o_walkSet o_oneWidow o_oneTurn o_askWorst o_mayWalk o_oftenAll o_oftenRoad o_oftenPegs), (b 1, .inl (cI, 149, .inl o_f1))] := hD
          obtain ⟨w17, w18, w19⟩ : (-1) ≤ r14.toInt ∧ r14.toInt ≤ 77 ∧ r14.toInt = bsd (o_f1 3).toInt (o_f1 4).toInt a0 x4.toInt := hw16
          refine lv_iload_n hx hb dX10_isAnyFree_23 rfl (lv_at hl 4 rfl) ?_
          refine k_i (wc := [(h0, oX10 b o_thrown o_taped o_size o_at o_from o_token o_value o_faultKind o_faultPlace o_lawNow o_walkSet o_oneWidow o_oneTurn o_askWorst o_mayWalk o_oftenAll o_oftenRoad o_oftenPegs), (b 15, .inl (cZ, 80, .inl o_f15)), (b 22, .inl (cZ, 80, .inl o_f22)), (b 23, .inl (cZ, 80, .inl o_f23))]) (wr := [(b 1, .inl (cI, 149, .inl o_f1))]) hP hD hS hA [3, 0, 1, 2] [4] rfl rfl rfl (by decide) (va_runV (As := [.int r14, .int p1]) (rest := []) ⟨hx, hb, hml, hown, hts⟩ (f_X10_isFree l G cI cJ cZ cB cQ _ h0 r14 (bsd (o_f1 3).toInt (o_f1 4).toInt a0 x4.toInt) p1 a1 b o_thrown o_taped o_size o_at o_from o_token o_value o_faultKind o_faultPlace o_lawNow o_walkSet o_oneWidow o_oneTurn o_askWorst o_mayWalk o_oftenAll o_oftenRoad o_oftenPegs o_f15 o_f22 o_f23 w19 (by omega) (by omega) hp1 hl_o_taped hh_o_taped hl_o_size hh_o_size hl_o_at hh_o_at hl_o_from hh_o_from hl_o_oneTurn hh_o_oneTurn ha_o_f15 ha_o_f22 ha_o_f23) (cwV 2 hts (gV w_1534 w_1536 wp_115 w_11 w_1537) rfl rfl rfl ⟨rfl, hd_X10_isFree⟩ ⟨Nat.le_of_ble_eq_true rfl, Nat.le_of_ble_eq_true rfl⟩) (mV hK hZ hP hD [3, 0, 1, 2] rfl rfl [.int r14, .int p1] 3 10 rfl rfl) rfl rfl hl.1 rfl (lv_room (Nat.le_of_ble_eq_true rfl)) dX10_isAnyFree_24 ⟨Nat.le_of_ble_eq_true rfl, Nat.le_of_ble_eq_true rfl⟩) (fun r20 u21 H locs hw22 hP hD hS => ?_)
          try dsimp only at hw22
          have hP : va_P G vwCl [(b 1, .inl (cI, 149, .inl o_f1)), (h0, oX10 b o_thrown o_taped o_size o_at o_from o_token o_value o_faultKind o_faultPlace o_lawNow o_walkSet o_oneWidow o_oneTurn o_askWorst o_mayWalk o_oftenAll o_oftenRoad o_oftenPegs), (b 15, .inl (cZ, 80, .inl o_f15)), (b 22, .inl (cZ, 80, .inl o_f22)), (b 23, .inl (cZ, 80, .inl o_f23))] H := hP
          have hD : va_D A [(b 1, .inl (cI, 149, .inl o_f1)), (h0, oX10 b o_thrown o_taped o_size o_at o_from o_token o_value o_faultKind o_faultPlace o_lawNow o_walkSet o_oneWidow o_oneTurn o_askWorst o_mayWalk o_oftenAll o_oftenRoad o_oftenPegs), (b 15, .inl (cZ, 80, .inl o_f15)), (b 22, .inl (cZ, 80, .inl o_f22)), (b 23, .inl (cZ, 80, .inl o_f23))] := hD
          rcases hw22 with ⟨rfl, a24⟩ | rfl
          · skip
            refine lv_if_eq (tgt := 34) hx hb dX10_isAnyFree_27 (by decide) (fun c25 => absurd c25 (by decide)) (fun c25 => ?_)
            refine lv_iconst (v := 1) hx hb dX10_isAnyFree_30 (by decide) ?_
            refine lv_goto (tgt := 35) hx hb dX10_isAnyFree_31 (by decide) ?_
            refine lv_istore_n (lv' := [(3, .int 1), (4, .int x4), (0, .ref h0), (1, .int p0), (2, .int p1)]) hx hb dX10_isAnyFree_35 rfl hl (by decide) rfl (fun ls hl => ?_)
            obtain ⟨v26, ev26⟩ : ∃ y : Int32, y = x4 + 1 := ⟨_, rfl⟩
            have tv26 : v26.toInt = x4.toInt + 1 := ti_add rfl ki_1 ev26 (by omega) (by omega)
            refine lv_iinc (v := v26) (lv' := [(4, .int v26), (3, .int 1), (0, .ref h0), (1, .int p0), (2, .int p1)]) hx hb dX10_isAnyFree_36 hl (k := 1) rfl (by rw [ev26]; rfl) (by decide) rfl (fun ls hl => ?_)
            refine lv_goto (tgt := 5) hx hb dX10_isAnyFree_39 (by decide) ?_
            exact ih9 1 v26 (by rw [ki_1]; decide) (by rw [ki_1]; decide) (by omega) (by omega) (by omega) _ _ (hP.sub (ws' := [(h0, oX10 b o_thrown o_taped o_size o_at o_from o_token o_value o_faultKind o_faultPlace o_lawNow o_walkSet o_oneWidow o_oneTurn o_askWorst o_mayWalk o_oftenAll o_oftenRoad o_oftenPegs), (b 1, .inl (cI, 149, .inl o_f1)), (b 15, .inl (cZ, 80, .inl o_f15)), (b 22, .inl (cZ, 80, .inl o_f22)), (b 23, .inl (cZ, 80, .inl o_f23))]) [1, 0, 2, 3, 4] rfl) (hD.sub (ws' := [(h0, oX10 b o_thrown o_taped o_size o_at o_from o_token o_value o_faultKind o_faultPlace o_lawNow o_walkSet o_oneWidow o_oneTurn o_askWorst o_mayWalk o_oftenAll o_oftenRoad o_oftenPegs), (b 1, .inl (cI, 149, .inl o_f1)), (b 15, .inl (cZ, 80, .inl o_f15)), (b 22, .inl (cZ, 80, .inl o_f22)), (b 23, .inl (cZ, 80, .inl o_f23))]) [1, 0, 2, 3, 4] rfl rfl) hS ls (lv_sub hl [0, 1, 2, 3, 4] rfl)
          · skip
            refine lv_if_eq (tgt := 34) hx hb dX10_isAnyFree_27 (by decide) (fun c27 => ?_) (fun c27 => absurd (by decide) c27)
            refine lv_iconst (v := 0) hx hb dX10_isAnyFree_34 (by decide) ?_
            refine lv_istore_n (lv' := [(3, .int 0), (4, .int x4), (0, .ref h0), (1, .int p0), (2, .int p1)]) hx hb dX10_isAnyFree_35 rfl hl (by decide) rfl (fun ls hl => ?_)
            obtain ⟨v28, ev28⟩ : ∃ y : Int32, y = x4 + 1 := ⟨_, rfl⟩
            have tv28 : v28.toInt = x4.toInt + 1 := ti_add rfl ki_1 ev28 (by omega) (by omega)
            refine lv_iinc (v := v28) (lv' := [(4, .int v28), (3, .int 0), (0, .ref h0), (1, .int p0), (2, .int p1)]) hx hb dX10_isAnyFree_36 hl (k := 1) rfl (by rw [ev28]; rfl) (by decide) rfl (fun ls hl => ?_)
            refine lv_goto (tgt := 5) hx hb dX10_isAnyFree_39 (by decide) ?_
            exact ih9 0 v28 (by rw [ki_0]; decide) (by rw [ki_0]; decide) (by omega) (by omega) (by omega) _ _ (hP.sub (ws' := [(h0, oX10 b o_thrown o_taped o_size o_at o_from o_token o_value o_faultKind o_faultPlace o_lawNow o_walkSet o_oneWidow o_oneTurn o_askWorst o_mayWalk o_oftenAll o_oftenRoad o_oftenPegs), (b 1, .inl (cI, 149, .inl o_f1)), (b 15, .inl (cZ, 80, .inl o_f15)), (b 22, .inl (cZ, 80, .inl o_f22)), (b 23, .inl (cZ, 80, .inl o_f23))]) [1, 0, 2, 3, 4] rfl) (hD.sub (ws' := [(h0, oX10 b o_thrown o_taped o_size o_at o_from o_token o_value o_faultKind o_faultPlace o_lawNow o_walkSet o_oneWidow o_oneTurn o_askWorst o_mayWalk o_oftenAll o_oftenRoad o_oftenPegs), (b 1, .inl (cI, 149, .inl o_f1)), (b 15, .inl (cZ, 80, .inl o_f15)), (b 22, .inl (cZ, 80, .inl o_f22)), (b 23, .inl (cZ, 80, .inl o_f23))]) [1, 0, 2, 3, 4] rfl rfl) hS ls (lv_sub hl [0, 1, 2, 3, 4] rfl)
  exact lp1 5 0 0 (by rw [ki_0]; decide) (by rw [ki_0]; decide) (by rw [ki_0]; decide) (by rw [ki_0]; decide) (by rw [ki_0]; decide) _ _ hP hD hS ls (lv_sub hl [0, 1, 2, 3, 4] rfl)
set_option maxHeartbeats 4000000 in
set_option maxRecDepth 100000 in
theorem f_X10_turnAt (l : Launch) (G : va_G) (cI cJ cZ cB cQ : ClassId) (sz : Nat) (h0 : Nat) (p0 : Int32) (a0 : Int) (p1 : Int32) (a1 : Int) (b : Nat → Nat) (o_thrown : Int32) (o_taped : Int32) (o_size : Int32) (o_at : Int32) (o_from : Int32) (o_token : Int32) (o_value : Int32) (o_faultKind : Int32) (o_faultPlace : Int32) (o_lawNow : Int32) (o_walkSet : Int32) (o_oneWidow : Int32) (o_oneTurn : Int32) (o_askWorst : Int32) (o_mayWalk : Int32) (o_oftenAll : Int64) (o_oftenRoad : Int64) (o_oftenPegs : Int64) (o_f1 : Nat → Int32) (hp0 : p0.toInt = a0) (la0 : 0 ≤ a0) (ha0 : a0 ≤ 6) (hp1 : p1.toInt = a1) (la1 : 0 ≤ a1) (ht : a0 < (o_f1 7).toInt) (hl_o_taped : 0 ≤ o_taped.toInt) (hh_o_taped : o_taped.toInt ≤ 900) (hl_o_size : 0 ≤ o_size.toInt) (hh_o_size : o_size.toInt ≤ 900) (hl_o_at : 0 ≤ o_at.toInt) (hh_o_at : o_at.toInt ≤ 900) (hl_o_from : 0 ≤ o_from.toInt) (hh_o_from : o_from.toInt ≤ 900) (hl_o_oneTurn : 0 ≤ o_oneTurn.toInt) (hh_o_oneTurn : o_oneTurn.toInt ≤ 4) (ha_o_f1 : WI o_f1) : CI l yX10_turnAt (wl_ yX10_turnAt cX10_turnAt 3 (some .int)) ({ frames := 1, cells := 0, slots := 0, locals := 22 } : Room) G (TY cI cJ cZ cB cQ) [.ref h0, .int p0, .int p1] [(h0, oX10 b o_thrown o_taped o_size o_at o_from o_token o_value o_faultKind o_faultPlace o_lawNow o_walkSet o_oneWidow o_oneTurn o_askWorst o_mayWalk o_oftenAll o_oftenRoad o_oftenPegs), (b 1, .inl (cI, 149, .inl o_f1))] sz (fun (r : Int32) (u : Unit) => 0 ≤ r.toInt ∧ r.toInt ≤ 4) (fun _ : Unit => [(h0, oX10 b o_thrown o_taped o_size o_at o_from o_token o_value o_faultKind o_faultPlace o_lawNow o_walkSet o_oneWidow o_oneTurn o_askWorst o_mayWalk o_oftenAll o_oftenRoad o_oftenPegs), (b 1, .inl (cI, 149, .inl o_f1))]) 0 0 := by
  refine CI.go (cc := cX10_turnAt) (maxL := 3) (ret := (some .int)) (by decide) rfl (Nat.le_of_ble_eq_true rfl) ?_
  intro p e s m below meth c A ls Q hBd hret
  obtain ⟨hx, hb, hr, hml, hts, hown, hlk, hnm, hP, hK, hD, hA, hZ, hl⟩ := hBd
  have hown : s.vm.findClass RX10 = some m.cls := hown
  have hl : lv_has ls 3 [(0, .ref h0), (1, .int p0), (2, .int p1)] := hl
  have hS : va_S A s.heap s.heap [] := va_S.rf
  refine lv_iload_n hx hb dX10_turnAt_0 rfl (lv_at hl 1 rfl) ?_
  refine lv_aload_n hx hb dX10_turnAt_1 rfl (lv_at hl 0 rfl) ?_
  refine va_get (D := G) (ci := 10) (v := .int o_oneWidow) (C := RX10) (T := TX10) (N := 46) hx hb hts iG_X10 hown hK hP 0 rfl rfl 19 (by decide) (hts _ w_1211) (fun _ h9 => h9) rfl dX10_turnAt_2 ?_
  refine lv_icmp_ne (tgt := 13) hx hb dX10_turnAt_5 (by decide) (fun c1 => ?_) (fun c1 => ?_)
  · have c1 := i_ne hp0 rfl c1
    refine lv_aload_n hx hb dX10_turnAt_13 rfl (lv_at hl 0 rfl) ?_
    refine lv_iload_n hx hb dX10_turnAt_14 rfl (lv_at hl 1 rfl) ?_
    refine lv_iconst (v := 5) hx hb dX10_turnAt_15 (by decide) ?_
    refine lv_iload_n hx hb dX10_turnAt_16 rfl (lv_at hl 2 rfl) ?_
    refine lv_aload_n hx hb dX10_turnAt_17 rfl (lv_at hl 0 rfl) ?_
    refine lv_iload_n hx hb dX10_turnAt_18 rfl (lv_at hl 1 rfl) ?_
    refine lv_iconst (v := 4) hx hb dX10_turnAt_19 (by decide) ?_
    refine k_i (wc := [(h0, oX10 b o_thrown o_taped o_size o_at o_from o_token o_value o_faultKind o_faultPlace o_lawNow o_walkSet o_oneWidow o_oneTurn o_askWorst o_mayWalk o_oftenAll o_oftenRoad o_oftenPegs), (b 1, .inl (cI, 149, .inl o_f1))]) (wr := []) hP hD hS hA [0, 1] [] rfl rfl rfl (by decide) (va_runV (As := [.int p0, .int 4]) (rest := [.int p1, .int 5, .int p0, .ref h0]) ⟨hx, hb, hml, hown, hts⟩ (f_X10_widowOf l G cI cJ cZ cB cQ _ h0 p0 a0 4 4 b o_thrown o_taped o_size o_at o_from o_token o_value o_faultKind o_faultPlace o_lawNow o_walkSet o_oneWidow o_oneTurn o_askWorst o_mayWalk o_oftenAll o_oftenRoad o_oftenPegs o_f1 hp0 (by omega) (by omega) ki_4 (by omega) (by omega) hl_o_taped hh_o_taped hl_o_size hh_o_size hl_o_at hh_o_at hl_o_from hh_o_from hl_o_oneTurn hh_o_oneTurn ha_o_f1) (cwV 2 hts (gV w_1469 w_1471 wp_103 w_11 w_1472) rfl rfl rfl ⟨rfl, hd_X10_widowOf⟩ ⟨Nat.le_of_ble_eq_true rfl, Nat.le_of_ble_eq_true rfl⟩) (mV hK hZ hP hD [0, 1] rfl rfl [.int p0, .int 4] 0 10 rfl rfl) rfl rfl hl.1 rfl (lv_room (Nat.le_of_ble_eq_true rfl)) dX10_turnAt_20 ⟨Nat.le_of_ble_eq_true rfl, Nat.le_of_ble_eq_true rfl⟩) (fun r2 u3 H locs hw4 hP hD hS => ?_)
    try dsimp only at hw4
    have hP : va_P G vwCl [(h0, oX10 b o_thrown o_taped o_size o_at o_from o_token o_value o_faultKind o_faultPlace o_lawNow o_walkSet o_oneWidow o_oneTurn o_askWorst o_mayWalk o_oftenAll o_oftenRoad o_oftenPegs), (b 1, .inl (cI, 149, .inl o_f1))] H := hP
    have hD : va_D A [(h0, oX10 b o_thrown o_taped o_size o_at o_from o_token o_value o_faultKind o_faultPlace o_lawNow o_walkSet o_oneWidow o_oneTurn o_askWorst o_mayWalk o_oftenAll o_oftenRoad o_oftenPegs), (b 1, .inl (cI, 149, .inl o_f1))] := hD
    have w5 : r2.toInt = wv o_f1 a0 4 := hw4
    obtain ⟨ia6, ib7⟩ := wv_4 (a := a0) ha_o_f1.1 (by omega) (by omega)
    obtain ⟨ia8, ib9, ic10⟩ := wv_g (a := a0) ha_o_f1.2 (by omega) (by omega) (by omega)
    refine lv_irem hx hb dX10_turnAt_23 (ne0 w5 (by omega)) ?_
    refine lv_topi (fun v11 ev11 => ?_)
    obtain ⟨sa12, sb13⟩ : 0 ≤ v11.toInt ∧ v11.toInt < wv o_f1 a0 4 := rem_v hp1 w5 (by omega) (by omega) ev11
    refine lv_iadd hx hb dX10_turnAt_24 ?_
    refine lv_topi (fun v14 ev14 => ?_)
    have tv14 : v14.toInt = 5 + v11.toInt := ti_add ki_5 rfl ev14 (by omega) (by omega)
    refine k_i (wc := [(h0, oX10 b o_thrown o_taped o_size o_at o_from o_token o_value o_faultKind o_faultPlace o_lawNow o_walkSet o_oneWidow o_oneTurn o_askWorst o_mayWalk o_oftenAll o_oftenRoad o_oftenPegs), (b 1, .inl (cI, 149, .inl o_f1))]) (wr := []) hP hD hS hA [0, 1] [] rfl rfl rfl (by decide) (va_runV (As := [.int p0, .int v14]) (rest := []) ⟨hx, hb, hml, hown, hts⟩ (f_X10_widowOf l G cI cJ cZ cB cQ _ h0 p0 a0 v14 (5 + v11.toInt) b o_thrown o_taped o_size o_at o_from o_token o_value o_faultKind o_faultPlace o_lawNow o_walkSet o_oneWidow o_oneTurn o_askWorst o_mayWalk o_oftenAll o_oftenRoad o_oftenPegs o_f1 hp0 (by omega) (by omega) tv14 (by omega) (by omega) hl_o_taped hh_o_taped hl_o_size hh_o_size hl_o_at hh_o_at hl_o_from hh_o_from hl_o_oneTurn hh_o_oneTurn ha_o_f1) (cwV 2 hts (gV w_1469 w_1471 wp_103 w_11 w_1472) rfl rfl rfl ⟨rfl, hd_X10_widowOf⟩ ⟨Nat.le_of_ble_eq_true rfl, Nat.le_of_ble_eq_true rfl⟩) (mV hK hZ hP hD [0, 1] rfl rfl [.int p0, .int v14] 0 10 rfl rfl) rfl rfl hl.1 rfl (lv_room (Nat.le_of_ble_eq_true rfl)) dX10_turnAt_25 ⟨Nat.le_of_ble_eq_true rfl, Nat.le_of_ble_eq_true rfl⟩) (fun r15 u16 H locs hw17 hP hD hS => ?_)
    try dsimp only at hw17
    have hP : va_P G vwCl [(h0, oX10 b o_thrown o_taped o_size o_at o_from o_token o_value o_faultKind o_faultPlace o_lawNow o_walkSet o_oneWidow o_oneTurn o_askWorst o_mayWalk o_oftenAll o_oftenRoad o_oftenPegs), (b 1, .inl (cI, 149, .inl o_f1))] H := hP
    have hD : va_D A [(h0, oX10 b o_thrown o_taped o_size o_at o_from o_token o_value o_faultKind o_faultPlace o_lawNow o_walkSet o_oneWidow o_oneTurn o_askWorst o_mayWalk o_oftenAll o_oftenRoad o_oftenPegs), (b 1, .inl (cI, 149, .inl o_f1))] := hD
    have w18 : r15.toInt = wv o_f1 a0 (5 + v11.toInt) := hw17
    obtain ⟨ia19, ib20⟩ := wv_t (a := a0) (b := 5 + v11.toInt) ha_o_f1.1 (by omega) (by omega) (by omega) (by omega)
    exact hret _ _ _ _ r15 () hP hD hS dX10_turnAt_28 (show 0 ≤ r15.toInt ∧ r15.toInt ≤ 4 from ⟨(by omega), (by omega)⟩)
  · have c1 := i_eq hp0 rfl c1
    refine lv_aload_n hx hb dX10_turnAt_8 rfl (lv_at hl 0 rfl) ?_
    refine va_get (D := G) (ci := 10) (v := .int o_oneTurn) (C := RX10) (T := TX10) (N := 46) hx hb hts iG_X10 hown hK hP 0 rfl rfl 20 (by decide) (hts _ w_1212) (fun _ h9 => h9) rfl dX10_turnAt_9 ?_
    exact hret _ _ _ _ o_oneTurn () hP hD hS dX10_turnAt_12 (show 0 ≤ o_oneTurn.toInt ∧ o_oneTurn.toInt ≤ 4 from ⟨hl_o_oneTurn, hh_o_oneTurn⟩)
set_option maxHeartbeats 4000000 in
set_option maxRecDepth 100000 in
theorem f_X10_isHouse (l : Launch) (G : va_G) (cI cJ cZ cB cQ : ClassId) (sz : Nat) (h0 : Nat) (p0 : Int32) (a0 : Int) (b : Nat → Nat) (o_thrown : Int32) (o_taped : Int32) (o_size : Int32) (o_at : Int32) (o_from : Int32) (o_token : Int32) (o_value : Int32) (o_faultKind : Int32) (o_faultPlace : Int32) (o_lawNow : Int32) (o_walkSet : Int32) (o_oneWidow : Int32) (o_oneTurn : Int32) (o_askWorst : Int32) (o_mayWalk : Int32) (o_oftenAll : Int64) (o_oftenRoad : Int64) (o_oftenPegs : Int64) (o_f1 : Nat → Int32) (o_f25 : Nat → Int32) (hp0 : p0.toInt = a0) (hl_o_taped : 0 ≤ o_taped.toInt) (hh_o_taped : o_taped.toInt ≤ 900) (hl_o_size : 0 ≤ o_size.toInt) (hh_o_size : o_size.toInt ≤ 900) (hl_o_at : 0 ≤ o_at.toInt) (hh_o_at : o_at.toInt ≤ 900) (hl_o_from : 0 ≤ o_from.toInt) (hh_o_from : o_from.toInt ≤ 900) (hl_o_oneTurn : 0 ≤ o_oneTurn.toInt) (hh_o_oneTurn : o_oneTurn.toInt ≤ 4) (ha_o_f1 : WI o_f1) (ha_o_f25 : ai o_f25 6 (-1) 79) : CI l yX10_isHouse (wl_ yX10_isHouse cX10_isHouse 4 (some .boolean)) ({ frames := 1, cells := 0, slots := 0, locals := 20 } : Room) G (TY cI cJ cZ cB cQ) [.ref h0, .int p0] [(h0, oX10 b o_thrown o_taped o_size o_at o_from o_token o_value o_faultKind o_faultPlace o_lawNow o_walkSet o_oneWidow o_oneTurn o_askWorst o_mayWalk o_oftenAll o_oftenRoad o_oftenPegs), (b 1, .inl (cI, 149, .inl o_f1)), (b 25, .inl (cI, 6, .inl o_f25))] sz (fun (r : Int32) (u : Unit) => 0 ≤ r.toInt ∧ r.toInt ≤ 1) (fun _ : Unit => [(h0, oX10 b o_thrown o_taped o_size o_at o_from o_token o_value o_faultKind o_faultPlace o_lawNow o_walkSet o_oneWidow o_oneTurn o_askWorst o_mayWalk o_oftenAll o_oftenRoad o_oftenPegs), (b 1, .inl (cI, 149, .inl o_f1)), (b 25, .inl (cI, 6, .inl o_f25))]) 0 0 := by
  refine CI.goz (cc := cX10_isHouse) (maxL := 4) (ret := (some .boolean)) (by decide) rfl (Nat.le_of_ble_eq_true rfl) ?_
  intro p e s m below meth c A ls Q hBd hret
  obtain ⟨hx, hb, hr, hml, hts, hown, hlk, hnm, hP, hK, hD, hA, hZ, hl⟩ := hBd
  have hown : s.vm.findClass RX10 = some m.cls := hown
  have hl : lv_has ls 4 [(0, .ref h0), (1, .int p0)] := hl
  have hS : va_S A s.heap s.heap [] := va_S.rf
  refine lv_iconst (v := 0) hx hb dX10_isHouse_0 (by decide) ?_
  refine lv_istore_n (lv' := [(2, .int 0), (0, .ref h0), (1, .int p0)]) hx hb dX10_isHouse_1 rfl hl (by decide) rfl (fun ls hl => ?_)
  refine lv_iconst (v := 0) hx hb dX10_isHouse_2 (by decide) ?_
  refine lv_istore_n (lv' := [(3, .int 0), (2, .int 0), (0, .ref h0), (1, .int p0)]) hx hb dX10_isHouse_3 rfl hl (by decide) rfl (fun ls hl => ?_)
  have lp1 : ∀ (n2 : Nat) (x3 : Int32) (x4 : Int32), 0 ≤ x3.toInt → x3.toInt ≤ 1 → 0 ≤ x4.toInt → x4.toInt ≤ 6 → 6 - x4.toInt < (n2 : Int) → ∀ (H : Heap) (locs : List Loc), va_P G vwCl [(h0, oX10 b o_thrown o_taped o_size o_at o_from o_token o_value o_faultKind o_faultPlace o_lawNow o_walkSet o_oneWidow o_oneTurn o_askWorst o_mayWalk o_oftenAll o_oftenRoad o_oftenPegs), (b 1, .inl (cI, 149, .inl o_f1)), (b 25, .inl (cI, 6, .inl o_f25))] H → va_D A [(h0, oX10 b o_thrown o_taped o_size o_at o_from o_token o_value o_faultKind o_faultPlace o_lawNow o_walkSet o_oneWidow o_oneTurn o_askWorst o_mayWalk o_oftenAll o_oftenRoad o_oftenPegs), (b 1, .inl (cI, 149, .inl o_f1)), (b 25, .inl (cI, 6, .inl o_f25))] → va_S A s.heap H locs → ∀ (ls : Array Slot), lv_has ls 4 [(3, .int x4), (2, .int x3), (0, .ref h0), (1, .int p0)] → W p l e ({ frames := 1, cells := 0, slots := 0, locals := 20 } : Room) s m ([.ref h0, .int p0] : List Value).toArray below meth c H locs 0 0 Q (F0 m 4 ls []) := by
    intro n2
    induction n2 with
    | zero =>
      intro x3 x4 k5 k6 k7 k8 mm10
      exact absurd mm10 (by have q9 := fb_rng x4; omega)
    | succ n2 ih9 =>
      intro x3 x4 k5 k6 k7 k8 mm10 H locs hP hD hS ls hl
      refine lv_iload_n hx hb dX10_isHouse_4 rfl (lv_at hl 0 rfl) ?_
      refine lv_aload_n hx hb dX10_isHouse_5 rfl (lv_at hl 2 rfl) ?_
      refine k_i (wc := [(h0, oX10 b o_thrown o_taped o_size o_at o_from o_token o_value o_faultKind o_faultPlace o_lawNow o_walkSet o_oneWidow o_oneTurn o_askWorst o_mayWalk o_oftenAll o_oftenRoad o_oftenPegs), (b 1, .inl (cI, 149, .inl o_f1))]) (wr := [(b 25, .inl (cI, 6, .inl o_f25))]) hP hD hS hA [0, 1] [2] rfl rfl rfl (by decide) (va_runV (As := []) (rest := [.int x4]) ⟨hx, hb, hml, hown, hts⟩ (f_X10_houses l G cI cJ cZ cB cQ _ h0 b o_thrown o_taped o_size o_at o_from o_token o_value o_faultKind o_faultPlace o_lawNow o_walkSet o_oneWidow o_oneTurn o_askWorst o_mayWalk o_oftenAll o_oftenRoad o_oftenPegs o_f1 hl_o_taped hh_o_taped hl_o_size hh_o_size hl_o_at hh_o_at hl_o_from hh_o_from hl_o_oneTurn hh_o_oneTurn ha_o_f1) (cwV 0 hts (gV w_1542 w_1544 wp_117 w_11 w_1545) rfl rfl rfl ⟨rfl, hd_X10_houses⟩ ⟨Nat.le_of_ble_eq_true rfl, Nat.le_of_ble_eq_true rfl⟩) (mV hK hZ hP hD [0, 1] rfl rfl [] 0 10 rfl rfl) rfl rfl hl.1 rfl (lv_room (Nat.le_of_ble_eq_true rfl)) dX10_isHouse_6 ⟨Nat.le_of_ble_eq_true rfl, Nat.le_of_ble_eq_true rfl⟩) (fun r11 u12 H locs hw13 hP hD hS => ?_)
      try dsimp only at hw13
      have hP : va_P G vwCl [(b 25, .inl (cI, 6, .inl o_f25)), (h0, oX10 b o_thrown o_taped o_size o_at o_from o_token o_value o_faultKind o_faultPlace o_lawNow o_walkSet o_oneWidow o_oneTurn o_askWorst o_mayWalk o_oftenAll o_oftenRoad o_oftenPegs), (b 1, .inl (cI, 149, .inl o_f1))] H := hP
      have hD : va_D A [(b 25, .inl (cI, 6, .inl o_f25)), (h0, oX10 b o_thrown o_taped o_size o_at o_from o_token o_value o_faultKind o_faultPlace o_lawNow o_walkSet o_oneWidow o_oneTurn o_askWorst o_mayWalk o_oftenAll o_oftenRoad o_oftenPegs), (b 1, .inl (cI, 149, .inl o_f1))] := hD
      obtain ⟨w14, w15, w16⟩ : 0 ≤ r11.toInt ∧ r11.toInt ≤ 6 ∧ r11.toInt = (o_f1 6).toInt := hw13
      refine lv_icmp_ge (tgt := 38) hx hb dX10_isHouse_9 (by decide) (fun c17 => ?_) (fun c17 => ?_)
      · have c17 := i_le w16 rfl c17
        refine lv_iload_n hx hb dX10_isHouse_38 rfl (lv_at hl 1 rfl) ?_
        exact hret _ _ _ _ x3 () (hP.sub (ws' := [(h0, oX10 b o_thrown o_taped o_size o_at o_from o_token o_value o_faultKind o_faultPlace o_lawNow o_walkSet o_oneWidow o_oneTurn o_askWorst o_mayWalk o_oftenAll o_oftenRoad o_oftenPegs), (b 1, .inl (cI, 149, .inl o_f1)), (b 25, .inl (cI, 6, .inl o_f25))]) [1, 2, 0] rfl) (hD.sub (ws' := [(h0, oX10 b o_thrown o_taped o_size o_at o_from o_token o_value o_faultKind o_faultPlace o_lawNow o_walkSet o_oneWidow o_oneTurn o_askWorst o_mayWalk o_oftenAll o_oftenRoad o_oftenPegs), (b 1, .inl (cI, 149, .inl o_f1)), (b 25, .inl (cI, 6, .inl o_f25))]) [1, 2, 0] rfl rfl) hS dX10_isHouse_39 (nar_z k5 k6) (show 0 ≤ x3.toInt ∧ x3.toInt ≤ 1 from ⟨k5, k6⟩)
      · have c17 := i_nle w16 rfl c17
        refine lv_iload_n hx hb dX10_isHouse_12 rfl (lv_at hl 1 rfl) ?_
        refine lv_if_ne (tgt := 26) hx hb dX10_isHouse_13 (by decide) (fun c18 => ?_) (fun c18 => ?_)
        · have c18 := i_ne rfl ki_0 c18
          refine lv_iconst (v := 1) hx hb dX10_isHouse_26 (by decide) ?_
          refine lv_goto (tgt := 31) hx hb dX10_isHouse_27 (by decide) ?_
          refine lv_istore_n (lv' := [(2, .int 1), (3, .int x4), (0, .ref h0), (1, .int p0)]) hx hb dX10_isHouse_31 rfl hl (by decide) rfl (fun ls hl => ?_)
          obtain ⟨v19, ev19⟩ : ∃ y : Int32, y = x4 + 1 := ⟨_, rfl⟩
          have tv19 : v19.toInt = x4.toInt + 1 := ti_add rfl ki_1 ev19 (by omega) (by omega)
          refine lv_iinc (v := v19) (lv' := [(3, .int v19), (2, .int 1), (0, .ref h0), (1, .int p0)]) hx hb dX10_isHouse_32 hl (k := 1) rfl (by rw [ev19]; rfl) (by decide) rfl (fun ls hl => ?_)
          refine lv_goto (tgt := 4) hx hb dX10_isHouse_35 (by decide) ?_
          exact ih9 1 v19 (by rw [ki_1]; decide) (by rw [ki_1]; decide) (by omega) (by omega) (by omega) _ _ (hP.sub (ws' := [(h0, oX10 b o_thrown o_taped o_size o_at o_from o_token o_value o_faultKind o_faultPlace o_lawNow o_walkSet o_oneWidow o_oneTurn o_askWorst o_mayWalk o_oftenAll o_oftenRoad o_oftenPegs), (b 1, .inl (cI, 149, .inl o_f1)), (b 25, .inl (cI, 6, .inl o_f25))]) [1, 2, 0] rfl) (hD.sub (ws' := [(h0, oX10 b o_thrown o_taped o_size o_at o_from o_token o_value o_faultKind o_faultPlace o_lawNow o_walkSet o_oneWidow o_oneTurn o_askWorst o_mayWalk o_oftenAll o_oftenRoad o_oftenPegs), (b 1, .inl (cI, 149, .inl o_f1)), (b 25, .inl (cI, 6, .inl o_f25))]) [1, 2, 0] rfl rfl) hS ls (lv_sub hl [0, 1, 2, 3] rfl)
        · have c18 := i_eq rfl ki_0 c18
          refine lv_aload_n hx hb dX10_isHouse_16 rfl (lv_at hl 2 rfl) ?_
          refine va_get (D := G) (ci := 10) (v := .ref (b 25)) (C := RX10) (T := TX10) (N := 46) hx hb hts iG_X10 hown hK hP 1 rfl rfl 25 (by decide) (hts _ w_1217) (fun _ h9 => h9) rfl dX10_isHouse_17 ?_
          refine lv_iload_n hx hb dX10_isHouse_20 rfl (lv_at hl 0 rfl) ?_
          refine va_iald hx hb hK hP 0 0 rfl rfl (ix_in rfl (by omega) (by omega)) dX10_isHouse_21 ?_
          refine lv_topi (fun v20 ev20 => ?_)
          obtain ⟨ia21, ib22⟩ := ai_get ha_o_f25 rfl (by omega) (by omega) ev20
          refine lv_iload_n hx hb dX10_isHouse_22 rfl (lv_at hl 3 rfl) ?_
          refine lv_icmp_ne (tgt := 30) hx hb dX10_isHouse_23 (by decide) (fun c23 => ?_) (fun c23 => ?_)
          · have c23 := i_ne rfl hp0 c23
            refine lv_iconst (v := 0) hx hb dX10_isHouse_30 (by decide) ?_
            refine lv_istore_n (lv' := [(2, .int 0), (3, .int x4), (0, .ref h0), (1, .int p0)]) hx hb dX10_isHouse_31 rfl hl (by decide) rfl (fun ls hl => ?_)
            obtain ⟨v24, ev24⟩ : ∃ y : Int32, y = x4 + 1 := ⟨_, rfl⟩
            have tv24 : v24.toInt = x4.toInt + 1 := ti_add rfl ki_1 ev24 (by omega) (by omega)
            refine lv_iinc (v := v24) (lv' := [(3, .int v24), (2, .int 0), (0, .ref h0), (1, .int p0)]) hx hb dX10_isHouse_32 hl (k := 1) rfl (by rw [ev24]; rfl) (by decide) rfl (fun ls hl => ?_)
            refine lv_goto (tgt := 4) hx hb dX10_isHouse_35 (by decide) ?_
            exact ih9 0 v24 (by rw [ki_0]; decide) (by rw [ki_0]; decide) (by omega) (by omega) (by omega) _ _ (hP.sub (ws' := [(h0, oX10 b o_thrown o_taped o_size o_at o_from o_token o_value o_faultKind o_faultPlace o_lawNow o_walkSet o_oneWidow o_oneTurn o_askWorst o_mayWalk o_oftenAll o_oftenRoad o_oftenPegs), (b 1, .inl (cI, 149, .inl o_f1)), (b 25, .inl (cI, 6, .inl o_f25))]) [1, 2, 0] rfl) (hD.sub (ws' := [(h0, oX10 b o_thrown o_taped o_size o_at o_from o_token o_value o_faultKind o_faultPlace o_lawNow o_walkSet o_oneWidow o_oneTurn o_askWorst o_mayWalk o_oftenAll o_oftenRoad o_oftenPegs), (b 1, .inl (cI, 149, .inl o_f1)), (b 25, .inl (cI, 6, .inl o_f25))]) [1, 2, 0] rfl rfl) hS ls (lv_sub hl [0, 1, 2, 3] rfl)
          · have c23 := i_eq rfl hp0 c23
            refine lv_iconst (v := 1) hx hb dX10_isHouse_26 (by decide) ?_
            refine lv_goto (tgt := 31) hx hb dX10_isHouse_27 (by decide) ?_
            refine lv_istore_n (lv' := [(2, .int 1), (3, .int x4), (0, .ref h0), (1, .int p0)]) hx hb dX10_isHouse_31 rfl hl (by decide) rfl (fun ls hl => ?_)
            obtain ⟨v25, ev25⟩ : ∃ y : Int32, y = x4 + 1 := ⟨_, rfl⟩
            have tv25 : v25.toInt = x4.toInt + 1 := ti_add rfl ki_1 ev25 (by omega) (by omega)
            refine lv_iinc (v := v25) (lv' := [(3, .int v25), (2, .int 1), (0, .ref h0), (1, .int p0)]) hx hb dX10_isHouse_32 hl (k := 1) rfl (by rw [ev25]; rfl) (by decide) rfl (fun ls hl => ?_)
            refine lv_goto (tgt := 4) hx hb dX10_isHouse_35 (by decide) ?_
            exact ih9 1 v25 (by rw [ki_1]; decide) (by rw [ki_1]; decide) (by omega) (by omega) (by omega) _ _ (hP.sub (ws' := [(h0, oX10 b o_thrown o_taped o_size o_at o_from o_token o_value o_faultKind o_faultPlace o_lawNow o_walkSet o_oneWidow o_oneTurn o_askWorst o_mayWalk o_oftenAll o_oftenRoad o_oftenPegs), (b 1, .inl (cI, 149, .inl o_f1)), (b 25, .inl (cI, 6, .inl o_f25))]) [1, 2, 0] rfl) (hD.sub (ws' := [(h0, oX10 b o_thrown o_taped o_size o_at o_from o_token o_value o_faultKind o_faultPlace o_lawNow o_walkSet o_oneWidow o_oneTurn o_askWorst o_mayWalk o_oftenAll o_oftenRoad o_oftenPegs), (b 1, .inl (cI, 149, .inl o_f1)), (b 25, .inl (cI, 6, .inl o_f25))]) [1, 2, 0] rfl rfl) hS ls (lv_sub hl [0, 1, 2, 3] rfl)
  exact lp1 7 0 0 (by rw [ki_0]; decide) (by rw [ki_0]; decide) (by rw [ki_0]; decide) (by rw [ki_0]; decide) (by rw [ki_0]; decide) _ _ hP hD hS ls (lv_sub hl [0, 1, 2, 3] rfl)
set_option maxHeartbeats 4000000 in
set_option maxRecDepth 100000 in
theorem f_X10_emptyCell (l : Launch) (G : va_G) (cI cJ cZ cB cQ : ClassId) (sz : Nat) (h0 : Nat) (b : Nat → Nat) (o_thrown : Int32) (o_taped : Int32) (o_size : Int32) (o_at : Int32) (o_from : Int32) (o_token : Int32) (o_value : Int32) (o_faultKind : Int32) (o_faultPlace : Int32) (o_lawNow : Int32) (o_walkSet : Int32) (o_oneWidow : Int32) (o_oneTurn : Int32) (o_askWorst : Int32) (o_mayWalk : Int32) (o_oftenAll : Int64) (o_oftenRoad : Int64) (o_oftenPegs : Int64) (o_f1 : Nat → Int32) (o_f15 : Nat → Int32) (o_f21 : Nat → Int32) (o_f25 : Nat → Int32) (hl_o_taped : 0 ≤ o_taped.toInt) (hh_o_taped : o_taped.toInt ≤ 900) (hl_o_size : 0 ≤ o_size.toInt) (hh_o_size : o_size.toInt ≤ 900) (hl_o_at : 0 ≤ o_at.toInt) (hh_o_at : o_at.toInt ≤ 900) (hl_o_from : 0 ≤ o_from.toInt) (hh_o_from : o_from.toInt ≤ 900) (hl_o_oneTurn : 0 ≤ o_oneTurn.toInt) (hh_o_oneTurn : o_oneTurn.toInt ≤ 4) (ha_o_f1 : WI o_f1) (ha_o_f15 : ai o_f15 80 0 1) (ha_o_f21 : ai o_f21 80 0 1) (ha_o_f25 : ai o_f25 6 (-1) 79) : CI l yX10_emptyCell (wl_ yX10_emptyCell cX10_emptyCell 2 (some .int)) ({ frames := 2, cells := 0, slots := 0, locals := 47 } : Room) G (TY cI cJ cZ cB cQ) [.ref h0] [(h0, oX10 b o_thrown o_taped o_size o_at o_from o_token o_value o_faultKind o_faultPlace o_lawNow o_walkSet o_oneWidow o_oneTurn o_askWorst o_mayWalk o_oftenAll o_oftenRoad o_oftenPegs), (b 1, .inl (cI, 149, .inl o_f1)), (b 15, .inl (cZ, 80, .inl o_f15)), (b 21, .inl (cZ, 80, .inl o_f21)), (b 25, .inl (cI, 6, .inl o_f25))] sz (fun (r : Int32) (u : Unit) => (-1) ≤ r.toInt ∧ r.toInt ≤ 79) (fun _ : Unit => [(h0, oX10 b o_thrown o_taped o_size o_at o_from o_token o_value o_faultKind o_faultPlace o_lawNow o_walkSet o_oneWidow o_oneTurn o_askWorst o_mayWalk o_oftenAll o_oftenRoad o_oftenPegs), (b 1, .inl (cI, 149, .inl o_f1)), (b 15, .inl (cZ, 80, .inl o_f15)), (b 21, .inl (cZ, 80, .inl o_f21)), (b 25, .inl (cI, 6, .inl o_f25))]) 0 0 := by
  refine CI.go (cc := cX10_emptyCell) (maxL := 2) (ret := (some .int)) (by decide) rfl (Nat.le_of_ble_eq_true rfl) ?_
  intro p e s m below meth c A ls Q hBd hret
  obtain ⟨hx, hb, hr, hml, hts, hown, hlk, hnm, hP, hK, hD, hA, hZ, hl⟩ := hBd
  have hown : s.vm.findClass RX10 = some m.cls := hown
  have hl : lv_has ls 2 [(0, .ref h0)] := hl
  have hS : va_S A s.heap s.heap [] := va_S.rf
  refine lv_iconst (v := 0) hx hb dX10_emptyCell_0 (by decide) ?_
  refine lv_istore_n (lv' := [(1, .int 0), (0, .ref h0)]) hx hb dX10_emptyCell_1 rfl hl (by decide) rfl (fun ls hl => ?_)
  have lp1 : ∀ (n2 : Nat) (x3 : Int32), 0 ≤ x3.toInt → x3.toInt ≤ 80 → 80 - x3.toInt < (n2 : Int) → ∀ (H : Heap) (locs : List Loc), va_P G vwCl [(h0, oX10 b o_thrown o_taped o_size o_at o_from o_token o_value o_faultKind o_faultPlace o_lawNow o_walkSet o_oneWidow o_oneTurn o_askWorst o_mayWalk o_oftenAll o_oftenRoad o_oftenPegs), (b 1, .inl (cI, 149, .inl o_f1)), (b 15, .inl (cZ, 80, .inl o_f15)), (b 21, .inl (cZ, 80, .inl o_f21)), (b 25, .inl (cI, 6, .inl o_f25))] H → va_D A [(h0, oX10 b o_thrown o_taped o_size o_at o_from o_token o_value o_faultKind o_faultPlace o_lawNow o_walkSet o_oneWidow o_oneTurn o_askWorst o_mayWalk o_oftenAll o_oftenRoad o_oftenPegs), (b 1, .inl (cI, 149, .inl o_f1)), (b 15, .inl (cZ, 80, .inl o_f15)), (b 21, .inl (cZ, 80, .inl o_f21)), (b 25, .inl (cI, 6, .inl o_f25))] → va_S A s.heap H locs → ∀ (ls : Array Slot), lv_has ls 2 [(1, .int x3), (0, .ref h0)] → W p l e ({ frames := 2, cells := 0, slots := 0, locals := 47 } : Room) s m ([.ref h0] : List Value).toArray below meth c H locs 0 0 Q (F0 m 2 ls []) := by
    intro n2
    induction n2 with
    | zero =>
      intro x3 k4 k5 mm7
      exact absurd mm7 (by have q9 := fb_rng x3; omega)
    | succ n2 ih6 =>
      intro x3 k4 k5 mm7 H locs hP hD hS ls hl
      refine lv_iload_n hx hb dX10_emptyCell_2 rfl (lv_at hl 0 rfl) ?_
      refine lv_bipush (v := 80) hx hb dX10_emptyCell_3 (by decide) ?_
      refine lv_icmp_ge (tgt := 51) hx hb dX10_emptyCell_5 (by decide) (fun c8 => ?_) (fun c8 => ?_)
      · have c8 := i_le ki_80 rfl c8
        refine lv_iconst (v := (-1)) hx hb dX10_emptyCell_51 (by decide) ?_
        exact hret _ _ _ _ (-1) () hP hD hS dX10_emptyCell_52 (show (-1) ≤ ((-1) : Int32).toInt ∧ ((-1) : Int32).toInt ≤ 79 from ⟨(by rw [ki_m1]; decide), (by rw [ki_m1]; decide)⟩)
      · have c8 := i_nle ki_80 rfl c8
        refine lv_aload_n hx hb dX10_emptyCell_8 rfl (lv_at hl 1 rfl) ?_
        refine lv_iload_n hx hb dX10_emptyCell_9 rfl (lv_at hl 0 rfl) ?_
        obtain ⟨v9, ev9⟩ : ∃ y : Int64, x3.toInt64 = y := ⟨_, rfl⟩
        have tv9 : v9.toInt = x3.toInt := ti_wide rfl ev9
        refine lv_i2l (v := v9) hx hb dX10_emptyCell_10 ev9 ?_
        refine k_i (wc := [(h0, oX10 b o_thrown o_taped o_size o_at o_from o_token o_value o_faultKind o_faultPlace o_lawNow o_walkSet o_oneWidow o_oneTurn o_askWorst o_mayWalk o_oftenAll o_oftenRoad o_oftenPegs), (b 1, .inl (cI, 149, .inl o_f1))]) (wr := [(b 15, .inl (cZ, 80, .inl o_f15)), (b 21, .inl (cZ, 80, .inl o_f21)), (b 25, .inl (cI, 6, .inl o_f25))]) hP hD hS hA [0, 1] [2, 3, 4] rfl rfl rfl (by decide) (va_runV (As := [.long v9]) (rest := []) ⟨hx, hb, hml, hown, hts⟩ (f_X10_isCell l G cI cJ cZ cB cQ _ h0 v9 x3.toInt b o_thrown o_taped o_size o_at o_from o_token o_value o_faultKind o_faultPlace o_lawNow o_walkSet o_oneWidow o_oneTurn o_askWorst o_mayWalk o_oftenAll o_oftenRoad o_oftenPegs o_f1 tv9 hl_o_taped hh_o_taped hl_o_size hh_o_size hl_o_at hh_o_at hl_o_from hh_o_from hl_o_oneTurn hh_o_oneTurn ha_o_f1) (cwV 1 hts (gV w_1550 w_1552 wp_119 w_11 w_1553) rfl rfl rfl ⟨rfl, hd_X10_isCell⟩ ⟨Nat.le_of_ble_eq_true rfl, Nat.le_of_ble_eq_true rfl⟩) (mV hK hZ hP hD [0, 1] rfl rfl [.long v9] 0 10 rfl rfl) rfl rfl hl.1 rfl (lv_room (Nat.le_of_ble_eq_true rfl)) dX10_emptyCell_11 ⟨Nat.le_of_ble_eq_true rfl, Nat.le_of_ble_eq_true rfl⟩) (fun r10 u11 H locs hw12 hP hD hS => ?_)
        try dsimp only at hw12
        have hP : va_P G vwCl [(b 15, .inl (cZ, 80, .inl o_f15)), (b 21, .inl (cZ, 80, .inl o_f21)), (b 25, .inl (cI, 6, .inl o_f25)), (h0, oX10 b o_thrown o_taped o_size o_at o_from o_token o_value o_faultKind o_faultPlace o_lawNow o_walkSet o_oneWidow o_oneTurn o_askWorst o_mayWalk o_oftenAll o_oftenRoad o_oftenPegs), (b 1, .inl (cI, 149, .inl o_f1))] H := hP
        have hD : va_D A [(b 15, .inl (cZ, 80, .inl o_f15)), (b 21, .inl (cZ, 80, .inl o_f21)), (b 25, .inl (cI, 6, .inl o_f25)), (h0, oX10 b o_thrown o_taped o_size o_at o_from o_token o_value o_faultKind o_faultPlace o_lawNow o_walkSet o_oneWidow o_oneTurn o_askWorst o_mayWalk o_oftenAll o_oftenRoad o_oftenPegs), (b 1, .inl (cI, 149, .inl o_f1))] := hD
        rcases hw12 with ⟨rfl, a14, a15, a16, a17⟩ | rfl
        · skip
          refine lv_if_eq (tgt := 45) hx hb dX10_emptyCell_14 (by decide) (fun c18 => absurd c18 (by decide)) (fun c18 => ?_)
          refine lv_aload_n hx hb dX10_emptyCell_17 rfl (lv_at hl 1 rfl) ?_
          refine va_get (D := G) (ci := 10) (v := .ref (b 15)) (C := RX10) (T := TX10) (N := 46) hx hb hts iG_X10 hown hK hP 3 rfl rfl 15 (by decide) (hts _ w_1207) (fun _ h9 => h9) rfl dX10_emptyCell_18 ?_
          refine lv_iload_n hx hb dX10_emptyCell_21 rfl (lv_at hl 0 rfl) ?_
          refine va_zald hx hb hK hP 0 2 rfl rfl (ix_in rfl (by omega) (by omega)) dX10_emptyCell_22 ?_
          refine lv_topi (fun v19 ev19 => ?_)
          obtain ⟨ia20, ib21⟩ := ai_get ha_o_f15 rfl (by omega) (by omega) ev19
          refine lv_if_ne (tgt := 45) hx hb dX10_emptyCell_23 (by decide) (fun c22 => ?_) (fun c22 => ?_)
          · have c22 := i_ne rfl ki_0 c22
            obtain ⟨v23, ev23⟩ : ∃ y : Int32, y = x3 + 1 := ⟨_, rfl⟩
            have tv23 : v23.toInt = x3.toInt + 1 := ti_add rfl ki_1 ev23 (by omega) (by omega)
            refine lv_iinc (v := v23) (lv' := [(1, .int v23), (0, .ref h0)]) hx hb dX10_emptyCell_45 hl (k := 0) rfl (by rw [ev23]; rfl) (by decide) rfl (fun ls hl => ?_)
            refine lv_goto (tgt := 2) hx hb dX10_emptyCell_48 (by decide) ?_
            exact ih6 v23 (by omega) (by omega) (by omega) _ _ (hP.sub (ws' := [(h0, oX10 b o_thrown o_taped o_size o_at o_from o_token o_value o_faultKind o_faultPlace o_lawNow o_walkSet o_oneWidow o_oneTurn o_askWorst o_mayWalk o_oftenAll o_oftenRoad o_oftenPegs), (b 1, .inl (cI, 149, .inl o_f1)), (b 15, .inl (cZ, 80, .inl o_f15)), (b 21, .inl (cZ, 80, .inl o_f21)), (b 25, .inl (cI, 6, .inl o_f25))]) [3, 4, 0, 1, 2] rfl) (hD.sub (ws' := [(h0, oX10 b o_thrown o_taped o_size o_at o_from o_token o_value o_faultKind o_faultPlace o_lawNow o_walkSet o_oneWidow o_oneTurn o_askWorst o_mayWalk o_oftenAll o_oftenRoad o_oftenPegs), (b 1, .inl (cI, 149, .inl o_f1)), (b 15, .inl (cZ, 80, .inl o_f15)), (b 21, .inl (cZ, 80, .inl o_f21)), (b 25, .inl (cI, 6, .inl o_f25))]) [3, 4, 0, 1, 2] rfl rfl) hS ls (lv_sub hl [0, 1] rfl)
          · have c22 := i_eq rfl ki_0 c22
            refine lv_aload_n hx hb dX10_emptyCell_26 rfl (lv_at hl 1 rfl) ?_
            refine va_get (D := G) (ci := 10) (v := .ref (b 21)) (C := RX10) (T := TX10) (N := 46) hx hb hts iG_X10 hown hK hP 3 rfl rfl 21 (by decide) (hts _ w_1213) (fun _ h9 => h9) rfl dX10_emptyCell_27 ?_
            refine lv_iload_n hx hb dX10_emptyCell_30 rfl (lv_at hl 0 rfl) ?_
            refine va_zald hx hb hK hP 1 2 rfl rfl (ix_in rfl (by omega) (by omega)) dX10_emptyCell_31 ?_
            refine lv_topi (fun v24 ev24 => ?_)
            obtain ⟨ia25, ib26⟩ := ai_get ha_o_f21 rfl (by omega) (by omega) ev24
            refine lv_if_ne (tgt := 45) hx hb dX10_emptyCell_32 (by decide) (fun c27 => ?_) (fun c27 => ?_)
            · have c27 := i_ne rfl ki_0 c27
              obtain ⟨v28, ev28⟩ : ∃ y : Int32, y = x3 + 1 := ⟨_, rfl⟩
              have tv28 : v28.toInt = x3.toInt + 1 := ti_add rfl ki_1 ev28 (by omega) (by omega)
              refine lv_iinc (v := v28) (lv' := [(1, .int v28), (0, .ref h0)]) hx hb dX10_emptyCell_45 hl (k := 0) rfl (by rw [ev28]; rfl) (by decide) rfl (fun ls hl => ?_)
              refine lv_goto (tgt := 2) hx hb dX10_emptyCell_48 (by decide) ?_
              exact ih6 v28 (by omega) (by omega) (by omega) _ _ (hP.sub (ws' := [(h0, oX10 b o_thrown o_taped o_size o_at o_from o_token o_value o_faultKind o_faultPlace o_lawNow o_walkSet o_oneWidow o_oneTurn o_askWorst o_mayWalk o_oftenAll o_oftenRoad o_oftenPegs), (b 1, .inl (cI, 149, .inl o_f1)), (b 15, .inl (cZ, 80, .inl o_f15)), (b 21, .inl (cZ, 80, .inl o_f21)), (b 25, .inl (cI, 6, .inl o_f25))]) [3, 4, 0, 1, 2] rfl) (hD.sub (ws' := [(h0, oX10 b o_thrown o_taped o_size o_at o_from o_token o_value o_faultKind o_faultPlace o_lawNow o_walkSet o_oneWidow o_oneTurn o_askWorst o_mayWalk o_oftenAll o_oftenRoad o_oftenPegs), (b 1, .inl (cI, 149, .inl o_f1)), (b 15, .inl (cZ, 80, .inl o_f15)), (b 21, .inl (cZ, 80, .inl o_f21)), (b 25, .inl (cI, 6, .inl o_f25))]) [3, 4, 0, 1, 2] rfl rfl) hS ls (lv_sub hl [0, 1] rfl)
            · have c27 := i_eq rfl ki_0 c27
              refine lv_aload_n hx hb dX10_emptyCell_35 rfl (lv_at hl 1 rfl) ?_
              refine lv_iload_n hx hb dX10_emptyCell_36 rfl (lv_at hl 0 rfl) ?_
              refine k_i (wc := [(h0, oX10 b o_thrown o_taped o_size o_at o_from o_token o_value o_faultKind o_faultPlace o_lawNow o_walkSet o_oneWidow o_oneTurn o_askWorst o_mayWalk o_oftenAll o_oftenRoad o_oftenPegs), (b 1, .inl (cI, 149, .inl o_f1)), (b 25, .inl (cI, 6, .inl o_f25))]) (wr := [(b 15, .inl (cZ, 80, .inl o_f15)), (b 21, .inl (cZ, 80, .inl o_f21))]) hP hD hS hA [3, 4, 2] [0, 1] rfl rfl rfl (by decide) (va_runV (As := [.int x3]) (rest := []) ⟨hx, hb, hml, hown, hts⟩ (f_X10_isHouse l G cI cJ cZ cB cQ _ h0 x3 x3.toInt b o_thrown o_taped o_size o_at o_from o_token o_value o_faultKind o_faultPlace o_lawNow o_walkSet o_oneWidow o_oneTurn o_askWorst o_mayWalk o_oftenAll o_oftenRoad o_oftenPegs o_f1 o_f25 rfl hl_o_taped hh_o_taped hl_o_size hh_o_size hl_o_at hh_o_at hl_o_from hh_o_from hl_o_oneTurn hh_o_oneTurn ha_o_f1 ha_o_f25) (cwV 1 hts (gV w_1559 w_1561 wp_121 w_11 w_1562) rfl rfl rfl ⟨rfl, hd_X10_isHouse⟩ ⟨Nat.le_of_ble_eq_true rfl, Nat.le_of_ble_eq_true rfl⟩) (mV hK hZ hP hD [3, 4, 2] rfl rfl [.int x3] 3 10 rfl rfl) rfl rfl hl.1 rfl (lv_room (Nat.le_of_ble_eq_true rfl)) dX10_emptyCell_37 ⟨Nat.le_of_ble_eq_true rfl, Nat.le_of_ble_eq_true rfl⟩) (fun r29 u30 H locs hw31 hP hD hS => ?_)
              try dsimp only at hw31
              have hP : va_P G vwCl [(b 15, .inl (cZ, 80, .inl o_f15)), (b 21, .inl (cZ, 80, .inl o_f21)), (h0, oX10 b o_thrown o_taped o_size o_at o_from o_token o_value o_faultKind o_faultPlace o_lawNow o_walkSet o_oneWidow o_oneTurn o_askWorst o_mayWalk o_oftenAll o_oftenRoad o_oftenPegs), (b 1, .inl (cI, 149, .inl o_f1)), (b 25, .inl (cI, 6, .inl o_f25))] H := hP
              have hD : va_D A [(b 15, .inl (cZ, 80, .inl o_f15)), (b 21, .inl (cZ, 80, .inl o_f21)), (h0, oX10 b o_thrown o_taped o_size o_at o_from o_token o_value o_faultKind o_faultPlace o_lawNow o_walkSet o_oneWidow o_oneTurn o_askWorst o_mayWalk o_oftenAll o_oftenRoad o_oftenPegs), (b 1, .inl (cI, 149, .inl o_f1)), (b 25, .inl (cI, 6, .inl o_f25))] := hD
              obtain ⟨w32, w33⟩ : 0 ≤ r29.toInt ∧ r29.toInt ≤ 1 := hw31
              refine lv_if_ne (tgt := 45) hx hb dX10_emptyCell_40 (by decide) (fun c34 => ?_) (fun c34 => ?_)
              · have c34 := i_ne rfl ki_0 c34
                obtain ⟨v35, ev35⟩ : ∃ y : Int32, y = x3 + 1 := ⟨_, rfl⟩
                have tv35 : v35.toInt = x3.toInt + 1 := ti_add rfl ki_1 ev35 (by omega) (by omega)
                refine lv_iinc (v := v35) (lv' := [(1, .int v35), (0, .ref h0)]) hx hb dX10_emptyCell_45 hl (k := 0) rfl (by rw [ev35]; rfl) (by decide) rfl (fun ls hl => ?_)
                refine lv_goto (tgt := 2) hx hb dX10_emptyCell_48 (by decide) ?_
                exact ih6 v35 (by omega) (by omega) (by omega) _ _ (hP.sub (ws' := [(h0, oX10 b o_thrown o_taped o_size o_at o_from o_token o_value o_faultKind o_faultPlace o_lawNow o_walkSet o_oneWidow o_oneTurn o_askWorst o_mayWalk o_oftenAll o_oftenRoad o_oftenPegs), (b 1, .inl (cI, 149, .inl o_f1)), (b 15, .inl (cZ, 80, .inl o_f15)), (b 21, .inl (cZ, 80, .inl o_f21)), (b 25, .inl (cI, 6, .inl o_f25))]) [2, 3, 0, 1, 4] rfl) (hD.sub (ws' := [(h0, oX10 b o_thrown o_taped o_size o_at o_from o_token o_value o_faultKind o_faultPlace o_lawNow o_walkSet o_oneWidow o_oneTurn o_askWorst o_mayWalk o_oftenAll o_oftenRoad o_oftenPegs), (b 1, .inl (cI, 149, .inl o_f1)), (b 15, .inl (cZ, 80, .inl o_f15)), (b 21, .inl (cZ, 80, .inl o_f21)), (b 25, .inl (cI, 6, .inl o_f25))]) [2, 3, 0, 1, 4] rfl rfl) hS ls (lv_sub hl [0, 1] rfl)
              · have c34 := i_eq rfl ki_0 c34
                refine lv_iload_n hx hb dX10_emptyCell_43 rfl (lv_at hl 0 rfl) ?_
                exact hret _ _ _ _ x3 () (hP.sub (ws' := [(h0, oX10 b o_thrown o_taped o_size o_at o_from o_token o_value o_faultKind o_faultPlace o_lawNow o_walkSet o_oneWidow o_oneTurn o_askWorst o_mayWalk o_oftenAll o_oftenRoad o_oftenPegs), (b 1, .inl (cI, 149, .inl o_f1)), (b 15, .inl (cZ, 80, .inl o_f15)), (b 21, .inl (cZ, 80, .inl o_f21)), (b 25, .inl (cI, 6, .inl o_f25))]) [2, 3, 0, 1, 4] rfl) (hD.sub (ws' := [(h0, oX10 b o_thrown o_taped o_size o_at o_from o_token o_value o_faultKind o_faultPlace o_lawNow o_walkSet o_oneWidow o_oneTurn o_askWorst o_mayWalk o_oftenAll o_oftenRoad o_oftenPegs), (b 1, .inl (cI, 149, .inl o_f1)), (b 15, .inl (cZ, 80, .inl o_f15)), (b 21, .inl (cZ, 80, .inl o_f21)), (b 25, .inl (cI, 6, .inl o_f25))]) [2, 3, 0, 1, 4] rfl rfl) hS dX10_emptyCell_44 (show (-1) ≤ x3.toInt ∧ x3.toInt ≤ 79 from ⟨(by omega), (by omega)⟩)
        · skip
          refine lv_if_eq (tgt := 45) hx hb dX10_emptyCell_14 (by decide) (fun c36 => ?_) (fun c36 => absurd (by decide) c36)
          obtain ⟨v37, ev37⟩ : ∃ y : Int32, y = x3 + 1 := ⟨_, rfl⟩
          have tv37 : v37.toInt = x3.toInt + 1 := ti_add rfl ki_1 ev37 (by omega) (by omega)
          refine lv_iinc (v := v37) (lv' := [(1, .int v37), (0, .ref h0)]) hx hb dX10_emptyCell_45 hl (k := 0) rfl (by rw [ev37]; rfl) (by decide) rfl (fun ls hl => ?_)
          refine lv_goto (tgt := 2) hx hb dX10_emptyCell_48 (by decide) ?_
          exact ih6 v37 (by omega) (by omega) (by omega) _ _ (hP.sub (ws' := [(h0, oX10 b o_thrown o_taped o_size o_at o_from o_token o_value o_faultKind o_faultPlace o_lawNow o_walkSet o_oneWidow o_oneTurn o_askWorst o_mayWalk o_oftenAll o_oftenRoad o_oftenPegs), (b 1, .inl (cI, 149, .inl o_f1)), (b 15, .inl (cZ, 80, .inl o_f15)), (b 21, .inl (cZ, 80, .inl o_f21)), (b 25, .inl (cI, 6, .inl o_f25))]) [3, 4, 0, 1, 2] rfl) (hD.sub (ws' := [(h0, oX10 b o_thrown o_taped o_size o_at o_from o_token o_value o_faultKind o_faultPlace o_lawNow o_walkSet o_oneWidow o_oneTurn o_askWorst o_mayWalk o_oftenAll o_oftenRoad o_oftenPegs), (b 1, .inl (cI, 149, .inl o_f1)), (b 15, .inl (cZ, 80, .inl o_f15)), (b 21, .inl (cZ, 80, .inl o_f21)), (b 25, .inl (cI, 6, .inl o_f25))]) [3, 4, 0, 1, 2] rfl rfl) hS ls (lv_sub hl [0, 1] rfl)
  exact lp1 81 0 (by rw [ki_0]; decide) (by rw [ki_0]; decide) (by rw [ki_0]; decide) _ _ hP hD hS ls (lv_sub hl [0, 1] rfl)
set_option maxHeartbeats 4000000 in
set_option maxRecDepth 100000 in
theorem f_X10_moveHouses (l : Launch) (G : va_G) (cI cJ cZ cB cQ : ClassId) (sz : Nat) (h0 : Nat) (p0 : Int32) (a0 : Int) (b : Nat → Nat) (o_thrown : Int32) (o_taped : Int32) (o_size : Int32) (o_at : Int32) (o_from : Int32) (o_token : Int32) (o_value : Int32) (o_faultKind : Int32) (o_faultPlace : Int32) (o_lawNow : Int32) (o_walkSet : Int32) (o_oneWidow : Int32) (o_oneTurn : Int32) (o_askWorst : Int32) (o_mayWalk : Int32) (o_oftenAll : Int64) (o_oftenRoad : Int64) (o_oftenPegs : Int64) (o_f1 : Nat → Int32) (o_f15 : Nat → Int32) (o_f21 : Nat → Int32) (o_f23 : Nat → Int32) (o_f25 : Nat → Int32) (o_f28 : Nat → Int32) (o_f29 : Nat → Int32) (hp0 : p0.toInt = a0) (la0 : 0 ≤ a0) (ha0 : a0 ≤ 6) (hl_o_taped : 0 ≤ o_taped.toInt) (hh_o_taped : o_taped.toInt ≤ 900) (hl_o_size : 0 ≤ o_size.toInt) (hh_o_size : o_size.toInt ≤ 900) (hl_o_at : 0 ≤ o_at.toInt) (hh_o_at : o_at.toInt ≤ 900) (hl_o_from : 0 ≤ o_from.toInt) (hh_o_from : o_from.toInt ≤ 900) (hl_o_oneTurn : 0 ≤ o_oneTurn.toInt) (hh_o_oneTurn : o_oneTurn.toInt ≤ 4) (ha_o_f1 : WI o_f1) (ha_o_f15 : ai o_f15 80 0 1) (ha_o_f21 : ai o_f21 80 0 1) (ha_o_f23 : ai o_f23 80 0 1) (ha_o_f25 : ai o_f25 6 (-1) 79) : CV l yX10_moveHouses (wl_ yX10_moveHouses cX10_moveHouses 3 none) ({ frames := 3, cells := 0, slots := 0, locals := 68 } : Room) G (TY cI cJ cZ cB cQ) [.ref h0, .int p0] [(h0, oX10 b o_thrown o_taped o_size o_at o_from o_token o_value o_faultKind o_faultPlace o_lawNow o_walkSet o_oneWidow o_oneTurn o_askWorst o_mayWalk o_oftenAll o_oftenRoad o_oftenPegs), (b 1, .inl (cI, 149, .inl o_f1)), (b 15, .inl (cZ, 80, .inl o_f15)), (b 21, .inl (cZ, 80, .inl o_f21)), (b 23, .inl (cZ, 80, .inl o_f23)), (b 25, .inl (cI, 6, .inl o_f25)), (b 28, .inl (cI, 7, .inl o_f28)), (b 29, .inl (cI, 6, .inl o_f29))] sz (fun (u : (Nat → Int32) × (Nat → Int32) × (Nat → Int32)) => ai u.1 6 (-1) 79) (fun u : (Nat → Int32) × (Nat → Int32) × (Nat → Int32) => [(h0, oX10 b o_thrown o_taped o_size o_at o_from o_token o_value o_faultKind o_faultPlace o_lawNow o_walkSet o_oneWidow o_oneTurn o_askWorst o_mayWalk o_oftenAll o_oftenRoad o_oftenPegs), (b 1, .inl (cI, 149, .inl o_f1)), (b 15, .inl (cZ, 80, .inl o_f15)), (b 21, .inl (cZ, 80, .inl o_f21)), (b 23, .inl (cZ, 80, .inl o_f23)), (b 25, .inl (cI, 6, .inl u.1)), (b 28, .inl (cI, 7, .inl u.2.1)), (b 29, .inl (cI, 6, .inl u.2.2))]) 0 0 := by
  refine CV.go (cc := cX10_moveHouses) (maxL := 3) (ret := none) (by decide) rfl (Nat.le_of_ble_eq_true rfl) ?_
  intro p e s m below meth c A ls Q hBd hret
  obtain ⟨hx, hb, hr, hml, hts, hown, hlk, hnm, hP, hK, hD, hA, hZ, hl⟩ := hBd
  have hown : s.vm.findClass RX10 = some m.cls := hown
  have hl : lv_has ls 3 [(0, .ref h0), (1, .int p0)] := hl
  have hS : va_S A s.heap s.heap [] := va_S.rf
  refine lv_aload_n hx hb dX10_moveHouses_0 rfl (lv_at hl 0 rfl) ?_
  refine va_get (D := G) (ci := 10) (v := .ref (b 28)) (C := RX10) (T := TX10) (N := 46) hx hb hts iG_X10 hown hK hP 0 rfl rfl 28 (by decide) (hts _ w_1220) (fun _ h9 => h9) rfl dX10_moveHouses_1 ?_
  refine lv_iload_n hx hb dX10_moveHouses_4 rfl (lv_at hl 1 rfl) ?_
  refine lv_iconst (v := 0) hx hb dX10_moveHouses_5 (by decide) ?_
  refine va_iast hx hb hK hP hD hS 6 0 rfl rfl (ix_in hp0 (by omega) (by omega)) dX10_moveHouses_6 (fun H locs hP hD hS => ?_)
  obtain ⟨f1, qf1⟩ : ∃ g, g = upd o_f28 p0.toNatClampNeg (0 : Int32) := ⟨_, rfl⟩
  rw [← qf1] at hP hD
  have hP : va_P G vwCl [(h0, oX10 b o_thrown o_taped o_size o_at o_from o_token o_value o_faultKind o_faultPlace o_lawNow o_walkSet o_oneWidow o_oneTurn o_askWorst o_mayWalk o_oftenAll o_oftenRoad o_oftenPegs), (b 1, .inl (cI, 149, .inl o_f1)), (b 15, .inl (cZ, 80, .inl o_f15)), (b 21, .inl (cZ, 80, .inl o_f21)), (b 23, .inl (cZ, 80, .inl o_f23)), (b 25, .inl (cI, 6, .inl o_f25)), (b 28, .inl (cI, 7, .inl f1)), (b 29, .inl (cI, 6, .inl o_f29))] H := hP
  have hD : va_D A [(h0, oX10 b o_thrown o_taped o_size o_at o_from o_token o_value o_faultKind o_faultPlace o_lawNow o_walkSet o_oneWidow o_oneTurn o_askWorst o_mayWalk o_oftenAll o_oftenRoad o_oftenPegs), (b 1, .inl (cI, 149, .inl o_f1)), (b 15, .inl (cZ, 80, .inl o_f15)), (b 21, .inl (cZ, 80, .inl o_f21)), (b 23, .inl (cZ, 80, .inl o_f23)), (b 25, .inl (cI, 6, .inl o_f25)), (b 28, .inl (cI, 7, .inl f1)), (b 29, .inl (cI, 6, .inl o_f29))] := hD
  refine lv_iconst (v := 0) hx hb dX10_moveHouses_7 (by decide) ?_
  refine lv_istore_n (lv' := [(2, .int 0), (0, .ref h0), (1, .int p0)]) hx hb dX10_moveHouses_8 rfl hl (by decide) rfl (fun ls hl => ?_)
  have lp2 : ∀ (n3 : Nat) (x4 : Int32) (g5 : Nat → Int32) (g6 : Nat → Int32) (g7 : Nat → Int32), 0 ≤ x4.toInt → x4.toInt ≤ 6 → ai g5 6 (-1) 79 → 6 - x4.toInt < (n3 : Int) → ∀ (H : Heap) (locs : List Loc), va_P G vwCl [(h0, oX10 b o_thrown o_taped o_size o_at o_from o_token o_value o_faultKind o_faultPlace o_lawNow o_walkSet o_oneWidow o_oneTurn o_askWorst o_mayWalk o_oftenAll o_oftenRoad o_oftenPegs), (b 1, .inl (cI, 149, .inl o_f1)), (b 15, .inl (cZ, 80, .inl o_f15)), (b 21, .inl (cZ, 80, .inl o_f21)), (b 23, .inl (cZ, 80, .inl o_f23)), (b 25, .inl (cI, 6, .inl g5)), (b 28, .inl (cI, 7, .inl g6)), (b 29, .inl (cI, 6, .inl g7))] H → va_D A [(h0, oX10 b o_thrown o_taped o_size o_at o_from o_token o_value o_faultKind o_faultPlace o_lawNow o_walkSet o_oneWidow o_oneTurn o_askWorst o_mayWalk o_oftenAll o_oftenRoad o_oftenPegs), (b 1, .inl (cI, 149, .inl o_f1)), (b 15, .inl (cZ, 80, .inl o_f15)), (b 21, .inl (cZ, 80, .inl o_f21)), (b 23, .inl (cZ, 80, .inl o_f23)), (b 25, .inl (cI, 6, .inl g5)), (b 28, .inl (cI, 7, .inl g6)), (b 29, .inl (cI, 6, .inl g7))] → va_S A s.heap H locs → ∀ (ls : Array Slot), lv_has ls 3 [(2, .int x4), (0, .ref h0), (1, .int p0)] → W p l e ({ frames := 3, cells := 0, slots := 0, locals := 68 } : Room) s m ([.ref h0, .int p0] : List Value).toArray below meth c H locs 0 0 Q (F0 m 9 ls []) := by
    intro n3
    induction n3 with
    | zero =>
      intro x4 g5 g6 g7 k8 k9 k10 mm12
      exact absurd mm12 (by have q9 := fb_rng x4; omega)
    | succ n3 ih11 =>
      intro x4 g5 g6 g7 k8 k9 k10 mm12 H locs hP hD hS ls hl
      refine lv_iload_n hx hb dX10_moveHouses_9 rfl (lv_at hl 0 rfl) ?_
      refine lv_aload_n hx hb dX10_moveHouses_10 rfl (lv_at hl 1 rfl) ?_
      refine k_i (wc := [(h0, oX10 b o_thrown o_taped o_size o_at o_from o_token o_value o_faultKind o_faultPlace o_lawNow o_walkSet o_oneWidow o_oneTurn o_askWorst o_mayWalk o_oftenAll o_oftenRoad o_oftenPegs), (b 1, .inl (cI, 149, .inl o_f1))]) (wr := [(b 15, .inl (cZ, 80, .inl o_f15)), (b 21, .inl (cZ, 80, .inl o_f21)), (b 23, .inl (cZ, 80, .inl o_f23)), (b 25, .inl (cI, 6, .inl g5)), (b 28, .inl (cI, 7, .inl g6)), (b 29, .inl (cI, 6, .inl g7))]) hP hD hS hA [0, 1] [2, 3, 4, 5, 6, 7] rfl rfl rfl (by decide) (va_runV (As := []) (rest := [.int x4]) ⟨hx, hb, hml, hown, hts⟩ (f_X10_houses l G cI cJ cZ cB cQ _ h0 b o_thrown o_taped o_size o_at o_from o_token o_value o_faultKind o_faultPlace o_lawNow o_walkSet o_oneWidow o_oneTurn o_askWorst o_mayWalk o_oftenAll o_oftenRoad o_oftenPegs o_f1 hl_o_taped hh_o_taped hl_o_size hh_o_size hl_o_at hh_o_at hl_o_from hh_o_from hl_o_oneTurn hh_o_oneTurn ha_o_f1) (cwV 0 hts (gV w_1542 w_1544 wp_117 w_11 w_1545) rfl rfl rfl ⟨rfl, hd_X10_houses⟩ ⟨Nat.le_of_ble_eq_true rfl, Nat.le_of_ble_eq_true rfl⟩) (mV hK hZ hP hD [0, 1] rfl rfl [] 0 10 rfl rfl) rfl rfl hl.1 rfl (lv_room (Nat.le_of_ble_eq_true rfl)) dX10_moveHouses_11 ⟨Nat.le_of_ble_eq_true rfl, Nat.le_of_ble_eq_true rfl⟩) (fun r13 u14 H locs hw15 hP hD hS => ?_)
      try dsimp only at hw15
      have hP : va_P G vwCl [(b 15, .inl (cZ, 80, .inl o_f15)), (b 21, .inl (cZ, 80, .inl o_f21)), (b 23, .inl (cZ, 80, .inl o_f23)), (b 25, .inl (cI, 6, .inl g5)), (b 28, .inl (cI, 7, .inl g6)), (b 29, .inl (cI, 6, .inl g7)), (h0, oX10 b o_thrown o_taped o_size o_at o_from o_token o_value o_faultKind o_faultPlace o_lawNow o_walkSet o_oneWidow o_oneTurn o_askWorst o_mayWalk o_oftenAll o_oftenRoad o_oftenPegs), (b 1, .inl (cI, 149, .inl o_f1))] H := hP
      have hD : va_D A [(b 15, .inl (cZ, 80, .inl o_f15)), (b 21, .inl (cZ, 80, .inl o_f21)), (b 23, .inl (cZ, 80, .inl o_f23)), (b 25, .inl (cI, 6, .inl g5)), (b 28, .inl (cI, 7, .inl g6)), (b 29, .inl (cI, 6, .inl g7)), (h0, oX10 b o_thrown o_taped o_size o_at o_from o_token o_value o_faultKind o_faultPlace o_lawNow o_walkSet o_oneWidow o_oneTurn o_askWorst o_mayWalk o_oftenAll o_oftenRoad o_oftenPegs), (b 1, .inl (cI, 149, .inl o_f1))] := hD
      obtain ⟨w16, w17, w18⟩ : 0 ≤ r13.toInt ∧ r13.toInt ≤ 6 ∧ r13.toInt = (o_f1 6).toInt := hw15
      refine lv_icmp_ge (tgt := 80) hx hb dX10_moveHouses_14 (by decide) (fun c19 => ?_) (fun c19 => ?_)
      · have c19 := i_le w18 rfl c19
        exact hret _ _ _ _ (g5, g6, g7) (hP.sub (ws' := [(h0, oX10 b o_thrown o_taped o_size o_at o_from o_token o_value o_faultKind o_faultPlace o_lawNow o_walkSet o_oneWidow o_oneTurn o_askWorst o_mayWalk o_oftenAll o_oftenRoad o_oftenPegs), (b 1, .inl (cI, 149, .inl o_f1)), (b 15, .inl (cZ, 80, .inl o_f15)), (b 21, .inl (cZ, 80, .inl o_f21)), (b 23, .inl (cZ, 80, .inl o_f23)), (b 25, .inl (cI, 6, .inl g5)), (b 28, .inl (cI, 7, .inl g6)), (b 29, .inl (cI, 6, .inl g7))]) [6, 7, 0, 1, 2, 3, 4, 5] rfl) (hD.sub (ws' := [(h0, oX10 b o_thrown o_taped o_size o_at o_from o_token o_value o_faultKind o_faultPlace o_lawNow o_walkSet o_oneWidow o_oneTurn o_askWorst o_mayWalk o_oftenAll o_oftenRoad o_oftenPegs), (b 1, .inl (cI, 149, .inl o_f1)), (b 15, .inl (cZ, 80, .inl o_f15)), (b 21, .inl (cZ, 80, .inl o_f21)), (b 23, .inl (cZ, 80, .inl o_f23)), (b 25, .inl (cI, 6, .inl g5)), (b 28, .inl (cI, 7, .inl g6)), (b 29, .inl (cI, 6, .inl g7))]) [6, 7, 0, 1, 2, 3, 4, 5] rfl rfl) hS dX10_moveHouses_80 (show ai g5 6 (-1) 79 from k10)
      · have c19 := i_nle w18 rfl c19
        refine lv_aload_n hx hb dX10_moveHouses_17 rfl (lv_at hl 1 rfl) ?_
        refine va_get (D := G) (ci := 10) (v := .ref (b 25)) (C := RX10) (T := TX10) (N := 46) hx hb hts iG_X10 hown hK hP 6 rfl rfl 25 (by decide) (hts _ w_1217) (fun _ h9 => h9) rfl dX10_moveHouses_18 ?_
        refine lv_iload_n hx hb dX10_moveHouses_21 rfl (lv_at hl 0 rfl) ?_
        refine va_iald hx hb hK hP 3 0 rfl rfl (ix_in rfl (by omega) (by omega)) dX10_moveHouses_22 ?_
        refine lv_topi (fun v20 ev20 => ?_)
        obtain ⟨ia21, ib22⟩ := ai_get k10 rfl (by omega) (by omega) ev20
        have lkv20 : v20.toInt = (g5 x4.toNatClampNeg).toInt := by rw [ev20]
        refine lv_iconst (v := (-1)) hx hb dX10_moveHouses_23 (by decide) ?_
        refine lv_icmp_eq (tgt := 74) hx hb dX10_moveHouses_24 (by decide) (fun c23 => ?_) (fun c23 => ?_)
        · have c23 := i_eq rfl ki_m1 c23
          obtain ⟨v24, ev24⟩ : ∃ y : Int32, y = x4 + 1 := ⟨_, rfl⟩
          have tv24 : v24.toInt = x4.toInt + 1 := ti_add rfl ki_1 ev24 (by omega) (by omega)
          refine lv_iinc (v := v24) (lv' := [(2, .int v24), (0, .ref h0), (1, .int p0)]) hx hb dX10_moveHouses_74 hl (k := 0) rfl (by rw [ev24]; rfl) (by decide) rfl (fun ls hl => ?_)
          refine lv_goto (tgt := 9) hx hb dX10_moveHouses_77 (by decide) ?_
          exact ih11 v24 g5 g6 g7 (by omega) (by omega) k10 (by omega) _ _ (hP.sub (ws' := [(h0, oX10 b o_thrown o_taped o_size o_at o_from o_token o_value o_faultKind o_faultPlace o_lawNow o_walkSet o_oneWidow o_oneTurn o_askWorst o_mayWalk o_oftenAll o_oftenRoad o_oftenPegs), (b 1, .inl (cI, 149, .inl o_f1)), (b 15, .inl (cZ, 80, .inl o_f15)), (b 21, .inl (cZ, 80, .inl o_f21)), (b 23, .inl (cZ, 80, .inl o_f23)), (b 25, .inl (cI, 6, .inl g5)), (b 28, .inl (cI, 7, .inl g6)), (b 29, .inl (cI, 6, .inl g7))]) [6, 7, 0, 1, 2, 3, 4, 5] rfl) (hD.sub (ws' := [(h0, oX10 b o_thrown o_taped o_size o_at o_from o_token o_value o_faultKind o_faultPlace o_lawNow o_walkSet o_oneWidow o_oneTurn o_askWorst o_mayWalk o_oftenAll o_oftenRoad o_oftenPegs), (b 1, .inl (cI, 149, .inl o_f1)), (b 15, .inl (cZ, 80, .inl o_f15)), (b 21, .inl (cZ, 80, .inl o_f21)), (b 23, .inl (cZ, 80, .inl o_f23)), (b 25, .inl (cI, 6, .inl g5)), (b 28, .inl (cI, 7, .inl g6)), (b 29, .inl (cI, 6, .inl g7))]) [6, 7, 0, 1, 2, 3, 4, 5] rfl rfl) hS ls (lv_sub hl [0, 1, 2] rfl)
        · have c23 := i_ne rfl ki_m1 c23
          refine lv_aload_n hx hb dX10_moveHouses_27 rfl (lv_at hl 1 rfl) ?_
          refine va_get (D := G) (ci := 10) (v := .ref (b 23)) (C := RX10) (T := TX10) (N := 46) hx hb hts iG_X10 hown hK hP 6 rfl rfl 23 (by decide) (hts _ w_1215) (fun _ h9 => h9) rfl dX10_moveHouses_28 ?_
          refine lv_aload_n hx hb dX10_moveHouses_31 rfl (lv_at hl 1 rfl) ?_
          refine va_get (D := G) (ci := 10) (v := .ref (b 25)) (C := RX10) (T := TX10) (N := 46) hx hb hts iG_X10 hown hK hP 6 rfl rfl 25 (by decide) (hts _ w_1217) (fun _ h9 => h9) rfl dX10_moveHouses_32 ?_
          refine lv_iload_n hx hb dX10_moveHouses_35 rfl (lv_at hl 0 rfl) ?_
          refine va_iald hx hb hK hP 3 0 rfl rfl (ix_in rfl (by omega) (by omega)) dX10_moveHouses_36 ?_
          refine lv_topi (fun v25 ev25 => ?_)
          obtain ⟨ia26, ib27⟩ := ai_get k10 rfl (by omega) (by omega) ev25
          have lkv25 : v25.toInt = (g5 x4.toNatClampNeg).toInt := by rw [ev25]
          refine va_zald hx hb hK hP 2 2 rfl rfl (ix_in rfl (by omega) (by omega)) dX10_moveHouses_37 ?_
          refine lv_topi (fun v28 ev28 => ?_)
          obtain ⟨ia29, ib30⟩ := ai_get ha_o_f23 rfl (by omega) (by omega) ev28
          have lkv28 : v28.toInt = (o_f23 v25.toNatClampNeg).toInt := by rw [ev28]
          refine lv_if_ne (tgt := 44) hx hb dX10_moveHouses_38 (by decide) (fun c31 => ?_) (fun c31 => ?_)
          · have c31 := i_ne rfl ki_0 c31
            refine lv_aload_n hx hb dX10_moveHouses_44 rfl (lv_at hl 1 rfl) ?_
            refine va_get (D := G) (ci := 10) (v := .ref (b 25)) (C := RX10) (T := TX10) (N := 46) hx hb hts iG_X10 hown hK hP 6 rfl rfl 25 (by decide) (hts _ w_1217) (fun _ h9 => h9) rfl dX10_moveHouses_45 ?_
            refine lv_iload_n hx hb dX10_moveHouses_48 rfl (lv_at hl 0 rfl) ?_
            refine lv_aload_n hx hb dX10_moveHouses_49 rfl (lv_at hl 1 rfl) ?_
            refine k_i (wc := [(h0, oX10 b o_thrown o_taped o_size o_at o_from o_token o_value o_faultKind o_faultPlace o_lawNow o_walkSet o_oneWidow o_oneTurn o_askWorst o_mayWalk o_oftenAll o_oftenRoad o_oftenPegs), (b 1, .inl (cI, 149, .inl o_f1)), (b 15, .inl (cZ, 80, .inl o_f15)), (b 21, .inl (cZ, 80, .inl o_f21)), (b 25, .inl (cI, 6, .inl g5))]) (wr := [(b 23, .inl (cZ, 80, .inl o_f23)), (b 28, .inl (cI, 7, .inl g6)), (b 29, .inl (cI, 6, .inl g7))]) hP hD hS hA [6, 7, 0, 1, 3] [2, 4, 5] rfl rfl rfl (by decide) (va_runV (As := []) (rest := [.int x4, .ref (b 25)]) ⟨hx, hb, hml, hown, hts⟩ (f_X10_emptyCell l G cI cJ cZ cB cQ _ h0 b o_thrown o_taped o_size o_at o_from o_token o_value o_faultKind o_faultPlace o_lawNow o_walkSet o_oneWidow o_oneTurn o_askWorst o_mayWalk o_oftenAll o_oftenRoad o_oftenPegs o_f1 o_f15 o_f21 g5 hl_o_taped hh_o_taped hl_o_size hh_o_size hl_o_at hh_o_at hl_o_from hh_o_from hl_o_oneTurn hh_o_oneTurn ha_o_f1 ha_o_f15 ha_o_f21 k10) (cwV 0 hts (gV w_1546 w_1548 wp_118 w_11 w_1549) rfl rfl rfl ⟨rfl, hd_X10_emptyCell⟩ ⟨Nat.le_of_ble_eq_true rfl, Nat.le_of_ble_eq_true rfl⟩) (mV hK hZ hP hD [6, 7, 0, 1, 3] rfl rfl [] 6 10 rfl rfl) rfl rfl hl.1 rfl (lv_room (Nat.le_of_ble_eq_true rfl)) dX10_moveHouses_50 ⟨Nat.le_of_ble_eq_true rfl, Nat.le_of_ble_eq_true rfl⟩) (fun r32 u33 H locs hw34 hP hD hS => ?_)
            try dsimp only at hw34
            have hP : va_P G vwCl [(b 23, .inl (cZ, 80, .inl o_f23)), (b 28, .inl (cI, 7, .inl g6)), (b 29, .inl (cI, 6, .inl g7)), (h0, oX10 b o_thrown o_taped o_size o_at o_from o_token o_value o_faultKind o_faultPlace o_lawNow o_walkSet o_oneWidow o_oneTurn o_askWorst o_mayWalk o_oftenAll o_oftenRoad o_oftenPegs), (b 1, .inl (cI, 149, .inl o_f1)), (b 15, .inl (cZ, 80, .inl o_f15)), (b 21, .inl (cZ, 80, .inl o_f21)), (b 25, .inl (cI, 6, .inl g5))] H := hP
            have hD : va_D A [(b 23, .inl (cZ, 80, .inl o_f23)), (b 28, .inl (cI, 7, .inl g6)), (b 29, .inl (cI, 6, .inl g7)), (h0, oX10 b o_thrown o_taped o_size o_at o_from o_token o_value o_faultKind o_faultPlace o_lawNow o_walkSet o_oneWidow o_oneTurn o_askWorst o_mayWalk o_oftenAll o_oftenRoad o_oftenPegs), (b 1, .inl (cI, 149, .inl o_f1)), (b 15, .inl (cZ, 80, .inl o_f15)), (b 21, .inl (cZ, 80, .inl o_f21)), (b 25, .inl (cI, 6, .inl g5))] := hD
            obtain ⟨w35, w36⟩ : (-1) ≤ r32.toInt ∧ r32.toInt ≤ 79 := hw34
            refine va_iast hx hb hK hP hD hS 7 0 rfl rfl (ix_in rfl (by omega) (by omega)) dX10_moveHouses_53 (fun H locs hP hD hS => ?_)
            obtain ⟨f37, qf37⟩ : ∃ g, g = upd g5 x4.toNatClampNeg r32 := ⟨_, rfl⟩
            rw [← qf37] at hP hD
            have hi38 : ai f37 6 (-1) 79 := by rw [qf37]; exact ai_put k10 rfl w35 w36
            have hP : va_P G vwCl [(b 23, .inl (cZ, 80, .inl o_f23)), (b 28, .inl (cI, 7, .inl g6)), (b 29, .inl (cI, 6, .inl g7)), (h0, oX10 b o_thrown o_taped o_size o_at o_from o_token o_value o_faultKind o_faultPlace o_lawNow o_walkSet o_oneWidow o_oneTurn o_askWorst o_mayWalk o_oftenAll o_oftenRoad o_oftenPegs), (b 1, .inl (cI, 149, .inl o_f1)), (b 15, .inl (cZ, 80, .inl o_f15)), (b 21, .inl (cZ, 80, .inl o_f21)), (b 25, .inl (cI, 6, .inl f37))] H := hP
            have hD : va_D A [(b 23, .inl (cZ, 80, .inl o_f23)), (b 28, .inl (cI, 7, .inl g6)), (b 29, .inl (cI, 6, .inl g7)), (h0, oX10 b o_thrown o_taped o_size o_at o_from o_token o_value o_faultKind o_faultPlace o_lawNow o_walkSet o_oneWidow o_oneTurn o_askWorst o_mayWalk o_oftenAll o_oftenRoad o_oftenPegs), (b 1, .inl (cI, 149, .inl o_f1)), (b 15, .inl (cZ, 80, .inl o_f15)), (b 21, .inl (cZ, 80, .inl o_f21)), (b 25, .inl (cI, 6, .inl f37))] := hD
            refine lv_aload_n hx hb dX10_moveHouses_54 rfl (lv_at hl 1 rfl) ?_
            refine va_get (D := G) (ci := 10) (v := .ref (b 28)) (C := RX10) (T := TX10) (N := 46) hx hb hts iG_X10 hown hK hP 3 rfl rfl 28 (by decide) (hts _ w_1220) (fun _ h9 => h9) rfl dX10_moveHouses_55 ?_
            refine lv_iload_n hx hb dX10_moveHouses_58 rfl (lv_at hl 2 rfl) ?_
            refine lv_dup2_11 hx hb dX10_moveHouses_59 rfl rfl ?_
            refine va_iald hx hb hK hP 1 0 rfl rfl (ix_in hp0 (by omega) (by omega)) dX10_moveHouses_60 ?_
            refine lv_topi (fun v39 ev39 => ?_)
            have lkv39 : v39.toInt = (g6 p0.toNatClampNeg).toInt := by rw [ev39]
            refine lv_iconst (v := 1) hx hb dX10_moveHouses_61 (by decide) ?_
            refine lv_iadd hx hb dX10_moveHouses_62 ?_
            refine lv_topi (fun v40 ev40 => ?_)
            refine va_iast hx hb hK hP hD hS 1 0 rfl rfl (ix_in hp0 (by omega) (by omega)) dX10_moveHouses_63 (fun H locs hP hD hS => ?_)
            obtain ⟨f41, qf41⟩ : ∃ g, g = upd g6 p0.toNatClampNeg v40 := ⟨_, rfl⟩
            rw [← qf41] at hP hD
            have hP : va_P G vwCl [(b 23, .inl (cZ, 80, .inl o_f23)), (b 28, .inl (cI, 7, .inl f41)), (b 29, .inl (cI, 6, .inl g7)), (h0, oX10 b o_thrown o_taped o_size o_at o_from o_token o_value o_faultKind o_faultPlace o_lawNow o_walkSet o_oneWidow o_oneTurn o_askWorst o_mayWalk o_oftenAll o_oftenRoad o_oftenPegs), (b 1, .inl (cI, 149, .inl o_f1)), (b 15, .inl (cZ, 80, .inl o_f15)), (b 21, .inl (cZ, 80, .inl o_f21)), (b 25, .inl (cI, 6, .inl f37))] H := hP
            have hD : va_D A [(b 23, .inl (cZ, 80, .inl o_f23)), (b 28, .inl (cI, 7, .inl f41)), (b 29, .inl (cI, 6, .inl g7)), (h0, oX10 b o_thrown o_taped o_size o_at o_from o_token o_value o_faultKind o_faultPlace o_lawNow o_walkSet o_oneWidow o_oneTurn o_askWorst o_mayWalk o_oftenAll o_oftenRoad o_oftenPegs), (b 1, .inl (cI, 149, .inl o_f1)), (b 15, .inl (cZ, 80, .inl o_f15)), (b 21, .inl (cZ, 80, .inl o_f21)), (b 25, .inl (cI, 6, .inl f37))] := hD
            refine lv_aload_n hx hb dX10_moveHouses_64 rfl (lv_at hl 1 rfl) ?_
            refine va_get (D := G) (ci := 10) (v := .ref (b 29)) (C := RX10) (T := TX10) (N := 46) hx hb hts iG_X10 hown hK hP 3 rfl rfl 29 (by decide) (hts _ w_1221) (fun _ h9 => h9) rfl dX10_moveHouses_65 ?_
            refine lv_iload_n hx hb dX10_moveHouses_68 rfl (lv_at hl 0 rfl) ?_
            refine lv_dup2_11 hx hb dX10_moveHouses_69 rfl rfl ?_
            refine va_iald hx hb hK hP 2 0 rfl rfl (ix_in rfl (by omega) (by omega)) dX10_moveHouses_70 ?_
            refine lv_topi (fun v42 ev42 => ?_)
            have lkv42 : v42.toInt = (g7 x4.toNatClampNeg).toInt := by rw [ev42]
            refine lv_iconst (v := 1) hx hb dX10_moveHouses_71 (by decide) ?_
            refine lv_iadd hx hb dX10_moveHouses_72 ?_
            refine lv_topi (fun v43 ev43 => ?_)
            refine va_iast hx hb hK hP hD hS 2 0 rfl rfl (ix_in rfl (by omega) (by omega)) dX10_moveHouses_73 (fun H locs hP hD hS => ?_)
            obtain ⟨f44, qf44⟩ : ∃ g, g = upd g7 x4.toNatClampNeg v43 := ⟨_, rfl⟩
            rw [← qf44] at hP hD
            have hP : va_P G vwCl [(b 23, .inl (cZ, 80, .inl o_f23)), (b 28, .inl (cI, 7, .inl f41)), (b 29, .inl (cI, 6, .inl f44)), (h0, oX10 b o_thrown o_taped o_size o_at o_from o_token o_value o_faultKind o_faultPlace o_lawNow o_walkSet o_oneWidow o_oneTurn o_askWorst o_mayWalk o_oftenAll o_oftenRoad o_oftenPegs), (b 1, .inl (cI, 149, .inl o_f1)), (b 15, .inl (cZ, 80, .inl o_f15)), (b 21, .inl (cZ, 80, .inl o_f21)), (b 25, .inl (cI, 6, .inl f37))] H := hP
            have hD : va_D A [(b 23, .inl (cZ, 80, .inl o_f23)), (b 28, .inl (cI, 7, .inl f41)), (b 29, .inl (cI, 6, .inl f44)), (h0, oX10 b o_thrown o_taped o_size o_at o_from o_token o_value o_faultKind o_faultPlace o_lawNow o_walkSet o_oneWidow o_oneTurn o_askWorst o_mayWalk o_oftenAll o_oftenRoad o_oftenPegs), (b 1, .inl (cI, 149, .inl o_f1)), (b 15, .inl (cZ, 80, .inl o_f15)), (b 21, .inl (cZ, 80, .inl o_f21)), (b 25, .inl (cI, 6, .inl f37))] := hD
            obtain ⟨v45, ev45⟩ : ∃ y : Int32, y = x4 + 1 := ⟨_, rfl⟩
            have tv45 : v45.toInt = x4.toInt + 1 := ti_add rfl ki_1 ev45 (by omega) (by omega)
            refine lv_iinc (v := v45) (lv' := [(2, .int v45), (0, .ref h0), (1, .int p0)]) hx hb dX10_moveHouses_74 hl (k := 0) rfl (by rw [ev45]; rfl) (by decide) rfl (fun ls hl => ?_)
            refine lv_goto (tgt := 9) hx hb dX10_moveHouses_77 (by decide) ?_
            exact ih11 v45 f37 f41 f44 (by omega) (by omega) hi38 (by omega) _ _ (hP.sub (ws' := [(h0, oX10 b o_thrown o_taped o_size o_at o_from o_token o_value o_faultKind o_faultPlace o_lawNow o_walkSet o_oneWidow o_oneTurn o_askWorst o_mayWalk o_oftenAll o_oftenRoad o_oftenPegs), (b 1, .inl (cI, 149, .inl o_f1)), (b 15, .inl (cZ, 80, .inl o_f15)), (b 21, .inl (cZ, 80, .inl o_f21)), (b 23, .inl (cZ, 80, .inl o_f23)), (b 25, .inl (cI, 6, .inl f37)), (b 28, .inl (cI, 7, .inl f41)), (b 29, .inl (cI, 6, .inl f44))]) [3, 4, 5, 6, 0, 7, 1, 2] rfl) (hD.sub (ws' := [(h0, oX10 b o_thrown o_taped o_size o_at o_from o_token o_value o_faultKind o_faultPlace o_lawNow o_walkSet o_oneWidow o_oneTurn o_askWorst o_mayWalk o_oftenAll o_oftenRoad o_oftenPegs), (b 1, .inl (cI, 149, .inl o_f1)), (b 15, .inl (cZ, 80, .inl o_f15)), (b 21, .inl (cZ, 80, .inl o_f21)), (b 23, .inl (cZ, 80, .inl o_f23)), (b 25, .inl (cI, 6, .inl f37)), (b 28, .inl (cI, 7, .inl f41)), (b 29, .inl (cI, 6, .inl f44))]) [3, 4, 5, 6, 0, 7, 1, 2] rfl rfl) hS ls (lv_sub hl [0, 1, 2] rfl)
          · have c31 := i_eq rfl ki_0 c31
            refine lv_goto (tgt := 74) hx hb dX10_moveHouses_41 (by decide) ?_
            obtain ⟨v46, ev46⟩ : ∃ y : Int32, y = x4 + 1 := ⟨_, rfl⟩
            have tv46 : v46.toInt = x4.toInt + 1 := ti_add rfl ki_1 ev46 (by omega) (by omega)
            refine lv_iinc (v := v46) (lv' := [(2, .int v46), (0, .ref h0), (1, .int p0)]) hx hb dX10_moveHouses_74 hl (k := 0) rfl (by rw [ev46]; rfl) (by decide) rfl (fun ls hl => ?_)
            refine lv_goto (tgt := 9) hx hb dX10_moveHouses_77 (by decide) ?_
            exact ih11 v46 g5 g6 g7 (by omega) (by omega) k10 (by omega) _ _ (hP.sub (ws' := [(h0, oX10 b o_thrown o_taped o_size o_at o_from o_token o_value o_faultKind o_faultPlace o_lawNow o_walkSet o_oneWidow o_oneTurn o_askWorst o_mayWalk o_oftenAll o_oftenRoad o_oftenPegs), (b 1, .inl (cI, 149, .inl o_f1)), (b 15, .inl (cZ, 80, .inl o_f15)), (b 21, .inl (cZ, 80, .inl o_f21)), (b 23, .inl (cZ, 80, .inl o_f23)), (b 25, .inl (cI, 6, .inl g5)), (b 28, .inl (cI, 7, .inl g6)), (b 29, .inl (cI, 6, .inl g7))]) [6, 7, 0, 1, 2, 3, 4, 5] rfl) (hD.sub (ws' := [(h0, oX10 b o_thrown o_taped o_size o_at o_from o_token o_value o_faultKind o_faultPlace o_lawNow o_walkSet o_oneWidow o_oneTurn o_askWorst o_mayWalk o_oftenAll o_oftenRoad o_oftenPegs), (b 1, .inl (cI, 149, .inl o_f1)), (b 15, .inl (cZ, 80, .inl o_f15)), (b 21, .inl (cZ, 80, .inl o_f21)), (b 23, .inl (cZ, 80, .inl o_f23)), (b 25, .inl (cI, 6, .inl g5)), (b 28, .inl (cI, 7, .inl g6)), (b 29, .inl (cI, 6, .inl g7))]) [6, 7, 0, 1, 2, 3, 4, 5] rfl rfl) hS ls (lv_sub hl [0, 1, 2] rfl)
  exact lp2 7 0 o_f25 f1 o_f29 (by rw [ki_0]; decide) (by rw [ki_0]; decide) ha_o_f25 (by rw [ki_0]; decide) _ _ hP hD hS ls (lv_sub hl [0, 1, 2] rfl)
set_option maxHeartbeats 4000000 in
set_option maxRecDepth 100000 in
theorem f_X10_walk (l : Launch) (G : va_G) (cI cJ cZ cB cQ : ClassId) (sz : Nat) (h0 : Nat) (p0 : Int32) (a0 : Int) (b : Nat → Nat) (o_thrown : Int32) (o_taped : Int32) (o_size : Int32) (o_at : Int32) (o_from : Int32) (o_token : Int32) (o_value : Int32) (o_faultKind : Int32) (o_faultPlace : Int32) (o_lawNow : Int32) (o_walkSet : Int32) (o_oneWidow : Int32) (o_oneTurn : Int32) (o_askWorst : Int32) (o_mayWalk : Int32) (o_oftenAll : Int64) (o_oftenRoad : Int64) (o_oftenPegs : Int64) (o_f1 : Nat → Int32) (o_f15 : Nat → Int32) (o_f16 : Nat → Int32) (o_f21 : Nat → Int32) (o_f22 : Nat → Int32) (o_f23 : Nat → Int32) (o_f24 : Nat → Int32) (o_f25 : Nat → Int32) (o_f26 : Nat → Int32) (o_f27 : Nat → Int32) (o_f28 : Nat → Int32) (o_f29 : Nat → Int32) (hp0 : p0.toInt = a0) (la0 : 0 ≤ a0) (ha0 : a0 ≤ 6) (ht : a0 < (o_f1 7).toInt) (hl_o_taped : 0 ≤ o_taped.toInt) (hh_o_taped : o_taped.toInt ≤ 900) (hl_o_size : 0 ≤ o_size.toInt) (hh_o_size : o_size.toInt ≤ 900) (hl_o_at : 0 ≤ o_at.toInt) (hh_o_at : o_at.toInt ≤ 900) (hl_o_from : 0 ≤ o_from.toInt) (hh_o_from : o_from.toInt ≤ 900) (hl_o_oneTurn : 0 ≤ o_oneTurn.toInt) (hh_o_oneTurn : o_oneTurn.toInt ≤ 4) (ha_o_f1 : WI o_f1) (ha_o_f15 : ai o_f15 80 0 1) (ha_o_f16 : ai o_f16 7 0 3) (ha_o_f21 : ai o_f21 80 0 1) (ha_o_f22 : ai o_f22 80 0 1) (ha_o_f23 : ai o_f23 80 0 1) (ha_o_f24 : PG o_f24 80 (o_f1 3).toInt (o_f1 4).toInt) (ha_o_f25 : ai o_f25 6 (-1) 79) (ha_o_f26 : ai o_f26 287 0 77) (ha_o_f27 : ai o_f27 7 (-1) 40) : CV l yX10_walk (wl_ yX10_walk cX10_walk 10 none) ({ frames := 4, cells := 0, slots := 0, locals := 90 } : Room) G (TY cI cJ cZ cB cQ) [.ref h0, .int p0] [(h0, oX10 b o_thrown o_taped o_size o_at o_from o_token o_value o_faultKind o_faultPlace o_lawNow o_walkSet o_oneWidow o_oneTurn o_askWorst o_mayWalk o_oftenAll o_oftenRoad o_oftenPegs), (b 1, .inl (cI, 149, .inl o_f1)), (b 15, .inl (cZ, 80, .inl o_f15)), (b 16, .inl (cI, 7, .inl o_f16)), (b 21, .inl (cZ, 80, .inl o_f21)), (b 22, .inl (cZ, 80, .inl o_f22)), (b 23, .inl (cZ, 80, .inl o_f23)), (b 24, .inl (cI, 80, .inl o_f24)), (b 25, .inl (cI, 6, .inl o_f25)), (b 26, .inl (cI, 287, .inl o_f26)), (b 27, .inl (cI, 7, .inl o_f27)), (b 28, .inl (cI, 7, .inl o_f28)), (b 29, .inl (cI, 6, .inl o_f29))] sz (fun (u : (Nat → Int32) × (Nat → Int32) × (Nat → Int32) × (Nat → Int32) × (Nat → Int32) × (Nat → Int32) × (Nat → Int32) × (Nat → Int32) × (Nat → Int32)) => ai u.1 80 0 1 ∧ ai u.2.1 80 0 1 ∧ ai u.2.2.1 80 0 1 ∧ PG u.2.2.2.1 80 (o_f1 3).toInt (o_f1 4).toInt ∧ ai u.2.2.2.2.1 6 (-1) 79 ∧ ai u.2.2.2.2.2.1 287 0 77 ∧ ai u.2.2.2.2.2.2.1 7 (-1) 40) (fun u : (Nat → Int32) × (Nat → Int32) × (Nat → Int32) × (Nat → Int32) × (Nat → Int32) × (Nat → Int32) × (Nat → Int32) × (Nat → Int32) × (Nat → Int32) => [(h0, oX10 b o_thrown o_taped o_size o_at o_from o_token o_value o_faultKind o_faultPlace o_lawNow o_walkSet o_oneWidow o_oneTurn o_askWorst o_mayWalk o_oftenAll o_oftenRoad o_oftenPegs), (b 1, .inl (cI, 149, .inl o_f1)), (b 15, .inl (cZ, 80, .inl o_f15)), (b 16, .inl (cI, 7, .inl o_f16)), (b 21, .inl (cZ, 80, .inl u.1)), (b 22, .inl (cZ, 80, .inl u.2.1)), (b 23, .inl (cZ, 80, .inl u.2.2.1)), (b 24, .inl (cI, 80, .inl u.2.2.2.1)), (b 25, .inl (cI, 6, .inl u.2.2.2.2.1)), (b 26, .inl (cI, 287, .inl u.2.2.2.2.2.1)), (b 27, .inl (cI, 7, .inl u.2.2.2.2.2.2.1)), (b 28, .inl (cI, 7, .inl u.2.2.2.2.2.2.2.1)), (b 29, .inl (cI, 6, .inl u.2.2.2.2.2.2.2.2))]) 0 0 := by
  refine CV.go (cc := cX10_walk) (maxL := 10) (ret := none) (by decide) rfl (Nat.le_of_ble_eq_true rfl) ?_
  intro p e s m below meth c A ls Q hBd hret
  obtain ⟨hx, hb, hr, hml, hts, hown, hlk, hnm, hP, hK, hD, hA, hZ, hl⟩ := hBd
  have hown : s.vm.findClass RX10 = some m.cls := hown
  have hl : lv_has ls 10 [(0, .ref h0), (1, .int p0)] := hl
  have hS : va_S A s.heap s.heap [] := va_S.rf
  obtain ⟨wba3, wbb3⟩ := WB_3 ha_o_f1.1
  obtain ⟨wba4, wbb4⟩ := WB_4 ha_o_f1.1
  refine lv_iconst (v := 0) hx hb dX10_walk_0 (by decide) ?_
  refine lv_istore_n (lv' := [(2, .int 0), (0, .ref h0), (1, .int p0)]) hx hb dX10_walk_1 rfl hl (by decide) rfl (fun ls hl => ?_)
  have lp1 : ∀ (n2 : Nat) (x3 : Int32) (g4 : Nat → Int32) (g5 : Nat → Int32), 0 ≤ x3.toInt → x3.toInt ≤ 80 → ai g4 80 0 1 → ai g5 80 0 1 → 80 - x3.toInt < (n2 : Int) → ∀ (H : Heap) (locs : List Loc), va_P G vwCl [(h0, oX10 b o_thrown o_taped o_size o_at o_from o_token o_value o_faultKind o_faultPlace o_lawNow o_walkSet o_oneWidow o_oneTurn o_askWorst o_mayWalk o_oftenAll o_oftenRoad o_oftenPegs), (b 1, .inl (cI, 149, .inl o_f1)), (b 15, .inl (cZ, 80, .inl o_f15)), (b 16, .inl (cI, 7, .inl o_f16)), (b 21, .inl (cZ, 80, .inl o_f21)), (b 22, .inl (cZ, 80, .inl g4)), (b 23, .inl (cZ, 80, .inl g5)), (b 24, .inl (cI, 80, .inl o_f24)), (b 25, .inl (cI, 6, .inl o_f25)), (b 26, .inl (cI, 287, .inl o_f26)), (b 27, .inl (cI, 7, .inl o_f27)), (b 28, .inl (cI, 7, .inl o_f28)), (b 29, .inl (cI, 6, .inl o_f29))] H → va_D A [(h0, oX10 b o_thrown o_taped o_size o_at o_from o_token o_value o_faultKind o_faultPlace o_lawNow o_walkSet o_oneWidow o_oneTurn o_askWorst o_mayWalk o_oftenAll o_oftenRoad o_oftenPegs), (b 1, .inl (cI, 149, .inl o_f1)), (b 15, .inl (cZ, 80, .inl o_f15)), (b 16, .inl (cI, 7, .inl o_f16)), (b 21, .inl (cZ, 80, .inl o_f21)), (b 22, .inl (cZ, 80, .inl g4)), (b 23, .inl (cZ, 80, .inl g5)), (b 24, .inl (cI, 80, .inl o_f24)), (b 25, .inl (cI, 6, .inl o_f25)), (b 26, .inl (cI, 287, .inl o_f26)), (b 27, .inl (cI, 7, .inl o_f27)), (b 28, .inl (cI, 7, .inl o_f28)), (b 29, .inl (cI, 6, .inl o_f29))] → va_S A s.heap H locs → ∀ (ls : Array Slot), lv_has ls 10 [(2, .int x3), (0, .ref h0), (1, .int p0)] → W p l e ({ frames := 4, cells := 0, slots := 0, locals := 90 } : Room) s m ([.ref h0, .int p0] : List Value).toArray below meth c H locs 0 0 Q (F0 m 2 ls []) := by
    intro n2
    induction n2 with
    | zero =>
      intro x3 g4 g5 k6 k7 k8 k9 mm11
      exact absurd mm11 (by have q9 := fb_rng x3; omega)
    | succ n2 ih10 =>
      intro x3 g4 g5 k6 k7 k8 k9 mm11 H locs hP hD hS ls hl
      refine lv_iload_n hx hb dX10_walk_2 rfl (lv_at hl 0 rfl) ?_
      refine lv_bipush (v := 80) hx hb dX10_walk_3 (by decide) ?_
      refine lv_icmp_ge (tgt := 33) hx hb dX10_walk_5 (by decide) (fun c12 => ?_) (fun c12 => ?_)
      · have c12 := i_le ki_80 rfl c12
        refine lv_aload_n hx hb dX10_walk_33 rfl (lv_at hl 1 rfl) ?_
        refine lv_iload_n hx hb dX10_walk_34 rfl (lv_at hl 2 rfl) ?_
        refine lv_iconst (v := 0) hx hb dX10_walk_35 (by decide) ?_
        refine k_i (wc := [(h0, oX10 b o_thrown o_taped o_size o_at o_from o_token o_value o_faultKind o_faultPlace o_lawNow o_walkSet o_oneWidow o_oneTurn o_askWorst o_mayWalk o_oftenAll o_oftenRoad o_oftenPegs), (b 1, .inl (cI, 149, .inl o_f1))]) (wr := [(b 15, .inl (cZ, 80, .inl o_f15)), (b 16, .inl (cI, 7, .inl o_f16)), (b 21, .inl (cZ, 80, .inl o_f21)), (b 22, .inl (cZ, 80, .inl g4)), (b 23, .inl (cZ, 80, .inl g5)), (b 24, .inl (cI, 80, .inl o_f24)), (b 25, .inl (cI, 6, .inl o_f25)), (b 26, .inl (cI, 287, .inl o_f26)), (b 27, .inl (cI, 7, .inl o_f27)), (b 28, .inl (cI, 7, .inl o_f28)), (b 29, .inl (cI, 6, .inl o_f29))]) hP hD hS hA [0, 1] [2, 3, 4, 5, 6, 7, 8, 9, 10, 11, 12] rfl rfl rfl (by decide) (va_runV (As := [.int p0, .int 0]) (rest := []) ⟨hx, hb, hml, hown, hts⟩ (f_X10_widowOf l G cI cJ cZ cB cQ _ h0 p0 a0 0 0 b o_thrown o_taped o_size o_at o_from o_token o_value o_faultKind o_faultPlace o_lawNow o_walkSet o_oneWidow o_oneTurn o_askWorst o_mayWalk o_oftenAll o_oftenRoad o_oftenPegs o_f1 hp0 (by omega) (by omega) ki_0 (by omega) (by omega) hl_o_taped hh_o_taped hl_o_size hh_o_size hl_o_at hh_o_at hl_o_from hh_o_from hl_o_oneTurn hh_o_oneTurn ha_o_f1) (cwV 2 hts (gV w_1469 w_1471 wp_103 w_11 w_1472) rfl rfl rfl ⟨rfl, hd_X10_widowOf⟩ ⟨Nat.le_of_ble_eq_true rfl, Nat.le_of_ble_eq_true rfl⟩) (mV hK hZ hP hD [0, 1] rfl rfl [.int p0, .int 0] 0 10 rfl rfl) rfl rfl hl.1 rfl (lv_room (Nat.le_of_ble_eq_true rfl)) dX10_walk_36 ⟨Nat.le_of_ble_eq_true rfl, Nat.le_of_ble_eq_true rfl⟩) (fun r13 u14 H locs hw15 hP hD hS => ?_)
        try dsimp only at hw15
        have hP : va_P G vwCl [(b 15, .inl (cZ, 80, .inl o_f15)), (b 16, .inl (cI, 7, .inl o_f16)), (b 21, .inl (cZ, 80, .inl o_f21)), (b 22, .inl (cZ, 80, .inl g4)), (b 23, .inl (cZ, 80, .inl g5)), (b 24, .inl (cI, 80, .inl o_f24)), (b 25, .inl (cI, 6, .inl o_f25)), (b 26, .inl (cI, 287, .inl o_f26)), (b 27, .inl (cI, 7, .inl o_f27)), (b 28, .inl (cI, 7, .inl o_f28)), (b 29, .inl (cI, 6, .inl o_f29)), (h0, oX10 b o_thrown o_taped o_size o_at o_from o_token o_value o_faultKind o_faultPlace o_lawNow o_walkSet o_oneWidow o_oneTurn o_askWorst o_mayWalk o_oftenAll o_oftenRoad o_oftenPegs), (b 1, .inl (cI, 149, .inl o_f1))] H := hP
        have hD : va_D A [(b 15, .inl (cZ, 80, .inl o_f15)), (b 16, .inl (cI, 7, .inl o_f16)), (b 21, .inl (cZ, 80, .inl o_f21)), (b 22, .inl (cZ, 80, .inl g4)), (b 23, .inl (cZ, 80, .inl g5)), (b 24, .inl (cI, 80, .inl o_f24)), (b 25, .inl (cI, 6, .inl o_f25)), (b 26, .inl (cI, 287, .inl o_f26)), (b 27, .inl (cI, 7, .inl o_f27)), (b 28, .inl (cI, 7, .inl o_f28)), (b 29, .inl (cI, 6, .inl o_f29)), (h0, oX10 b o_thrown o_taped o_size o_at o_from o_token o_value o_faultKind o_faultPlace o_lawNow o_walkSet o_oneWidow o_oneTurn o_askWorst o_mayWalk o_oftenAll o_oftenRoad o_oftenPegs), (b 1, .inl (cI, 149, .inl o_f1))] := hD
        have w16 : r13.toInt = wv o_f1 a0 0 := hw15
        obtain ⟨ia17, ib18⟩ := wv_0 (a := a0) ha_o_f1.1 (by omega) (by omega)
        obtain ⟨ia19, ib20, ic21⟩ := wv_g (a := a0) ha_o_f1.2 (by omega) (by omega) (by omega)
        refine lv_istore_n (lv' := [(2, .int r13), (0, .ref h0), (1, .int p0)]) hx hb dX10_walk_39 rfl hl (by decide) rfl (fun ls hl => ?_)
        refine lv_aload_n hx hb dX10_walk_40 rfl (lv_at hl 1 rfl) ?_
        refine va_get (D := G) (ci := 10) (v := .ref (b 16)) (C := RX10) (T := TX10) (N := 46) hx hb hts iG_X10 hown hK hP 11 rfl rfl 16 (by decide) (hts _ w_1208) (fun _ h9 => h9) rfl dX10_walk_41 ?_
        refine lv_iload_n hx hb dX10_walk_44 rfl (lv_at hl 2 rfl) ?_
        refine va_iald hx hb hK hP 1 0 rfl rfl (ix_in hp0 (by omega) (by omega)) dX10_walk_45 ?_
        refine lv_topi (fun v22 ev22 => ?_)
        obtain ⟨ia23, ib24⟩ := ai_get ha_o_f16 hp0 (by omega) (by omega) ev22
        have lkv22 : v22.toInt = (o_f16 p0.toNatClampNeg).toInt := by rw [ev22]
        refine lv_istore_n (lv' := [(3, .int v22), (2, .int r13), (0, .ref h0), (1, .int p0)]) hx hb dX10_walk_46 rfl hl (by decide) rfl (fun ls hl => ?_)
        refine lv_bipush (v := 41) hx hb dX10_walk_47 (by decide) ?_
        refine lv_iload_n hx hb dX10_walk_49 rfl (lv_at hl 3 rfl) ?_
        refine lv_imul hx hb dX10_walk_50 ?_
        refine lv_topi (fun v25 ev25 => ?_)
        have tv25 : v25.toInt = 41 * a0 := ti_mul ki_41 hp0 ev25 (by omega) (by omega)
        refine lv_istore (lv' := [(4, .int v25), (3, .int v22), (2, .int r13), (0, .ref h0), (1, .int p0)]) hx hb dX10_walk_51 hl (by decide) rfl (fun ls hl => ?_)
        refine lv_aload_n hx hb dX10_walk_53 rfl (lv_at hl 3 rfl) ?_
        refine va_get (D := G) (ci := 10) (v := .ref (b 26)) (C := RX10) (T := TX10) (N := 46) hx hb hts iG_X10 hown hK hP 11 rfl rfl 26 (by decide) (hts _ w_1218) (fun _ h9 => h9) rfl dX10_walk_54 ?_
        refine lv_iload hx hb dX10_walk_57 (lv_at hl 0 rfl) ?_
        refine lv_iload_n hx hb dX10_walk_59 rfl (lv_at hl 2 rfl) ?_
        refine va_iast hx hb hK hP hD hS 7 0 rfl rfl (ix_in tv25 (by omega) (by omega)) dX10_walk_60 (fun H locs hP hD hS => ?_)
        obtain ⟨f26, qf26⟩ : ∃ g, g = upd o_f26 v25.toNatClampNeg r13 := ⟨_, rfl⟩
        rw [← qf26] at hP hD
        have hi27 : ai f26 287 0 77 := by rw [qf26]; exact ai_put ha_o_f26 w16 (by omega) (by omega)
        have hP : va_P G vwCl [(b 15, .inl (cZ, 80, .inl o_f15)), (b 16, .inl (cI, 7, .inl o_f16)), (b 21, .inl (cZ, 80, .inl o_f21)), (b 22, .inl (cZ, 80, .inl g4)), (b 23, .inl (cZ, 80, .inl g5)), (b 24, .inl (cI, 80, .inl o_f24)), (b 25, .inl (cI, 6, .inl o_f25)), (b 26, .inl (cI, 287, .inl f26)), (b 27, .inl (cI, 7, .inl o_f27)), (b 28, .inl (cI, 7, .inl o_f28)), (b 29, .inl (cI, 6, .inl o_f29)), (h0, oX10 b o_thrown o_taped o_size o_at o_from o_token o_value o_faultKind o_faultPlace o_lawNow o_walkSet o_oneWidow o_oneTurn o_askWorst o_mayWalk o_oftenAll o_oftenRoad o_oftenPegs), (b 1, .inl (cI, 149, .inl o_f1))] H := hP
        have hD : va_D A [(b 15, .inl (cZ, 80, .inl o_f15)), (b 16, .inl (cI, 7, .inl o_f16)), (b 21, .inl (cZ, 80, .inl o_f21)), (b 22, .inl (cZ, 80, .inl g4)), (b 23, .inl (cZ, 80, .inl g5)), (b 24, .inl (cI, 80, .inl o_f24)), (b 25, .inl (cI, 6, .inl o_f25)), (b 26, .inl (cI, 287, .inl f26)), (b 27, .inl (cI, 7, .inl o_f27)), (b 28, .inl (cI, 7, .inl o_f28)), (b 29, .inl (cI, 6, .inl o_f29)), (h0, oX10 b o_thrown o_taped o_size o_at o_from o_token o_value o_faultKind o_faultPlace o_lawNow o_walkSet o_oneWidow o_oneTurn o_askWorst o_mayWalk o_oftenAll o_oftenRoad o_oftenPegs), (b 1, .inl (cI, 149, .inl o_f1))] := hD
        refine lv_aload_n hx hb dX10_walk_61 rfl (lv_at hl 3 rfl) ?_
        refine va_get (D := G) (ci := 10) (v := .ref (b 23)) (C := RX10) (T := TX10) (N := 46) hx hb hts iG_X10 hown hK hP 11 rfl rfl 23 (by decide) (hts _ w_1215) (fun _ h9 => h9) rfl dX10_walk_62 ?_
        refine lv_iload_n hx hb dX10_walk_65 rfl (lv_at hl 2 rfl) ?_
        refine lv_iconst (v := 1) hx hb dX10_walk_66 (by decide) ?_
        refine va_zast hx hb hK hP hD hS 4 2 rfl rfl (ix_in w16 (by omega) (by omega)) dX10_walk_67 (fun H locs hP hD hS => ?_)
        obtain ⟨f28, qf28⟩ : ∃ g, g = upd g5 r13.toNatClampNeg (vp_nar .boolean (1 : Int32)) := ⟨_, rfl⟩
        rw [← qf28] at hP hD
        have hi29 : ai f28 80 0 1 := by rw [qf28]; exact ai_putz k9
        have hP : va_P G vwCl [(b 15, .inl (cZ, 80, .inl o_f15)), (b 16, .inl (cI, 7, .inl o_f16)), (b 21, .inl (cZ, 80, .inl o_f21)), (b 22, .inl (cZ, 80, .inl g4)), (b 23, .inl (cZ, 80, .inl f28)), (b 24, .inl (cI, 80, .inl o_f24)), (b 25, .inl (cI, 6, .inl o_f25)), (b 26, .inl (cI, 287, .inl f26)), (b 27, .inl (cI, 7, .inl o_f27)), (b 28, .inl (cI, 7, .inl o_f28)), (b 29, .inl (cI, 6, .inl o_f29)), (h0, oX10 b o_thrown o_taped o_size o_at o_from o_token o_value o_faultKind o_faultPlace o_lawNow o_walkSet o_oneWidow o_oneTurn o_askWorst o_mayWalk o_oftenAll o_oftenRoad o_oftenPegs), (b 1, .inl (cI, 149, .inl o_f1))] H := hP
        have hD : va_D A [(b 15, .inl (cZ, 80, .inl o_f15)), (b 16, .inl (cI, 7, .inl o_f16)), (b 21, .inl (cZ, 80, .inl o_f21)), (b 22, .inl (cZ, 80, .inl g4)), (b 23, .inl (cZ, 80, .inl f28)), (b 24, .inl (cI, 80, .inl o_f24)), (b 25, .inl (cI, 6, .inl o_f25)), (b 26, .inl (cI, 287, .inl f26)), (b 27, .inl (cI, 7, .inl o_f27)), (b 28, .inl (cI, 7, .inl o_f28)), (b 29, .inl (cI, 6, .inl o_f29)), (h0, oX10 b o_thrown o_taped o_size o_at o_from o_token o_value o_faultKind o_faultPlace o_lawNow o_walkSet o_oneWidow o_oneTurn o_askWorst o_mayWalk o_oftenAll o_oftenRoad o_oftenPegs), (b 1, .inl (cI, 149, .inl o_f1))] := hD
        refine lv_aload_n hx hb dX10_walk_68 rfl (lv_at hl 3 rfl) ?_
        refine va_get (D := G) (ci := 10) (v := .ref (b 27)) (C := RX10) (T := TX10) (N := 46) hx hb hts iG_X10 hown hK hP 11 rfl rfl 27 (by decide) (hts _ w_1219) (fun _ h9 => h9) rfl dX10_walk_69 ?_
        refine lv_iload_n hx hb dX10_walk_72 rfl (lv_at hl 4 rfl) ?_
        refine lv_iconst (v := 0) hx hb dX10_walk_73 (by decide) ?_
        refine va_iast hx hb hK hP hD hS 8 0 rfl rfl (ix_in hp0 (by omega) (by omega)) dX10_walk_74 (fun H locs hP hD hS => ?_)
        obtain ⟨f30, qf30⟩ : ∃ g, g = upd o_f27 p0.toNatClampNeg (0 : Int32) := ⟨_, rfl⟩
        rw [← qf30] at hP hD
        have hi31 : ai f30 7 (-1) 40 := by rw [qf30]; exact ai_put ha_o_f27 ki_0 (by decide) (by decide)
        have ksf30 : (f30 p0.toNatClampNeg).toInt = 0 := by rw [qf30, pk_us]; exact ki_0
        have hP : va_P G vwCl [(b 15, .inl (cZ, 80, .inl o_f15)), (b 16, .inl (cI, 7, .inl o_f16)), (b 21, .inl (cZ, 80, .inl o_f21)), (b 22, .inl (cZ, 80, .inl g4)), (b 23, .inl (cZ, 80, .inl f28)), (b 24, .inl (cI, 80, .inl o_f24)), (b 25, .inl (cI, 6, .inl o_f25)), (b 26, .inl (cI, 287, .inl f26)), (b 27, .inl (cI, 7, .inl f30)), (b 28, .inl (cI, 7, .inl o_f28)), (b 29, .inl (cI, 6, .inl o_f29)), (h0, oX10 b o_thrown o_taped o_size o_at o_from o_token o_value o_faultKind o_faultPlace o_lawNow o_walkSet o_oneWidow o_oneTurn o_askWorst o_mayWalk o_oftenAll o_oftenRoad o_oftenPegs), (b 1, .inl (cI, 149, .inl o_f1))] H := hP
        have hD : va_D A [(b 15, .inl (cZ, 80, .inl o_f15)), (b 16, .inl (cI, 7, .inl o_f16)), (b 21, .inl (cZ, 80, .inl o_f21)), (b 22, .inl (cZ, 80, .inl g4)), (b 23, .inl (cZ, 80, .inl f28)), (b 24, .inl (cI, 80, .inl o_f24)), (b 25, .inl (cI, 6, .inl o_f25)), (b 26, .inl (cI, 287, .inl f26)), (b 27, .inl (cI, 7, .inl f30)), (b 28, .inl (cI, 7, .inl o_f28)), (b 29, .inl (cI, 6, .inl o_f29)), (h0, oX10 b o_thrown o_taped o_size o_at o_from o_token o_value o_faultKind o_faultPlace o_lawNow o_walkSet o_oneWidow o_oneTurn o_askWorst o_mayWalk o_oftenAll o_oftenRoad o_oftenPegs), (b 1, .inl (cI, 149, .inl o_f1))] := hD
        refine lv_iconst (v := 1) hx hb dX10_walk_75 (by decide) ?_
        refine lv_istore (lv' := [(5, .int 1), (4, .int v25), (3, .int v22), (2, .int r13), (0, .ref h0), (1, .int p0)]) hx hb dX10_walk_76 hl (by decide) rfl (fun ls hl => ?_)
        refine lv_iconst (v := 0) hx hb dX10_walk_78 (by decide) ?_
        refine lv_istore (lv' := [(6, .int 0), (5, .int 1), (4, .int v25), (3, .int v22), (2, .int r13), (0, .ref h0), (1, .int p0)]) hx hb dX10_walk_79 hl (by decide) rfl (fun ls hl => ?_)
        have lp32 : ∀ (n33 : Nat) (x34 : Int32) (x35 : Int32) (x36 : Int32) (x37 : Int32) (g38 : Nat → Int32) (g39 : Nat → Int32) (g40 : Nat → Int32) (g41 : Nat → Int32), 0 ≤ x34.toInt → x34.toInt ≤ 77 → 0 ≤ x35.toInt → x35.toInt ≤ 3 → 0 ≤ x36.toInt → x36.toInt ≤ 1 → 0 ≤ x37.toInt → x37.toInt ≤ 40 → ai g38 80 0 1 → PG g39 80 (o_f1 3).toInt (o_f1 4).toInt → ai g40 287 0 77 → ai g41 7 (-1) 40 → x34.toInt / 10 < (o_f1 3).toInt → x34.toInt % 10 < (o_f1 4).toInt → (g41 p0.toNatClampNeg).toInt = x37.toInt → 40 - x37.toInt < (n33 : Int) → ∀ (H : Heap) (locs : List Loc), va_P G vwCl [(b 15, .inl (cZ, 80, .inl o_f15)), (b 16, .inl (cI, 7, .inl o_f16)), (b 21, .inl (cZ, 80, .inl o_f21)), (b 22, .inl (cZ, 80, .inl g4)), (b 23, .inl (cZ, 80, .inl g38)), (b 24, .inl (cI, 80, .inl g39)), (b 25, .inl (cI, 6, .inl o_f25)), (b 26, .inl (cI, 287, .inl g40)), (b 27, .inl (cI, 7, .inl g41)), (b 28, .inl (cI, 7, .inl o_f28)), (b 29, .inl (cI, 6, .inl o_f29)), (h0, oX10 b o_thrown o_taped o_size o_at o_from o_token o_value o_faultKind o_faultPlace o_lawNow o_walkSet o_oneWidow o_oneTurn o_askWorst o_mayWalk o_oftenAll o_oftenRoad o_oftenPegs), (b 1, .inl (cI, 149, .inl o_f1))] H → va_D A [(b 15, .inl (cZ, 80, .inl o_f15)), (b 16, .inl (cI, 7, .inl o_f16)), (b 21, .inl (cZ, 80, .inl o_f21)), (b 22, .inl (cZ, 80, .inl g4)), (b 23, .inl (cZ, 80, .inl g38)), (b 24, .inl (cI, 80, .inl g39)), (b 25, .inl (cI, 6, .inl o_f25)), (b 26, .inl (cI, 287, .inl g40)), (b 27, .inl (cI, 7, .inl g41)), (b 28, .inl (cI, 7, .inl o_f28)), (b 29, .inl (cI, 6, .inl o_f29)), (h0, oX10 b o_thrown o_taped o_size o_at o_from o_token o_value o_faultKind o_faultPlace o_lawNow o_walkSet o_oneWidow o_oneTurn o_askWorst o_mayWalk o_oftenAll o_oftenRoad o_oftenPegs), (b 1, .inl (cI, 149, .inl o_f1))] → va_S A s.heap H locs → ∀ (ls : Array Slot), lv_has ls 10 [(6, .int x37), (5, .int x36), (4, .int v25), (3, .int x35), (2, .int x34), (0, .ref h0), (1, .int p0)] → W p l e ({ frames := 4, cells := 0, slots := 0, locals := 90 } : Room) s m ([.ref h0, .int p0] : List Value).toArray below meth c H locs 0 0 Q (F0 m 81 ls []) := by
          intro n33
          induction n33 with
          | zero =>
            intro x34 x35 x36 x37 g38 g39 g40 g41 k42 k43 k44 k45 k46 k47 k48 k49 k50 k51 k52 k53 wx53 wy53 wz53 mm55
            exact absurd mm55 (by have q9 := fb_rng x37; omega)
          | succ n33 ih54 =>
            intro x34 x35 x36 x37 g38 g39 g40 g41 k42 k43 k44 k45 k46 k47 k48 k49 k50 k51 k52 k53 wx53 wy53 wz53 mm55 H locs hP hD hS ls hl
            refine lv_iload hx hb dX10_walk_81 (lv_at hl 0 rfl) ?_
            refine lv_aload_n hx hb dX10_walk_83 rfl (lv_at hl 5 rfl) ?_
            refine lv_iload_n hx hb dX10_walk_84 rfl (lv_at hl 6 rfl) ?_
            refine lv_iconst (v := 2) hx hb dX10_walk_85 (by decide) ?_
            refine k_i (wc := [(h0, oX10 b o_thrown o_taped o_size o_at o_from o_token o_value o_faultKind o_faultPlace o_lawNow o_walkSet o_oneWidow o_oneTurn o_askWorst o_mayWalk o_oftenAll o_oftenRoad o_oftenPegs), (b 1, .inl (cI, 149, .inl o_f1))]) (wr := [(b 15, .inl (cZ, 80, .inl o_f15)), (b 16, .inl (cI, 7, .inl o_f16)), (b 21, .inl (cZ, 80, .inl o_f21)), (b 22, .inl (cZ, 80, .inl g4)), (b 23, .inl (cZ, 80, .inl g38)), (b 24, .inl (cI, 80, .inl g39)), (b 25, .inl (cI, 6, .inl o_f25)), (b 26, .inl (cI, 287, .inl g40)), (b 27, .inl (cI, 7, .inl g41)), (b 28, .inl (cI, 7, .inl o_f28)), (b 29, .inl (cI, 6, .inl o_f29))]) hP hD hS hA [11, 12] [0, 1, 2, 3, 4, 5, 6, 7, 8, 9, 10] rfl rfl rfl (by decide) (va_runV (As := [.int p0, .int 2]) (rest := [.int x37]) ⟨hx, hb, hml, hown, hts⟩ (f_X10_widowOf l G cI cJ cZ cB cQ _ h0 p0 a0 2 2 b o_thrown o_taped o_size o_at o_from o_token o_value o_faultKind o_faultPlace o_lawNow o_walkSet o_oneWidow o_oneTurn o_askWorst o_mayWalk o_oftenAll o_oftenRoad o_oftenPegs o_f1 hp0 (by omega) (by omega) ki_2 (by omega) (by omega) hl_o_taped hh_o_taped hl_o_size hh_o_size hl_o_at hh_o_at hl_o_from hh_o_from hl_o_oneTurn hh_o_oneTurn ha_o_f1) (cwV 2 hts (gV w_1469 w_1471 wp_103 w_11 w_1472) rfl rfl rfl ⟨rfl, hd_X10_widowOf⟩ ⟨Nat.le_of_ble_eq_true rfl, Nat.le_of_ble_eq_true rfl⟩) (mV hK hZ hP hD [11, 12] rfl rfl [.int p0, .int 2] 11 10 rfl rfl) rfl rfl hl.1 rfl (lv_room (Nat.le_of_ble_eq_true rfl)) dX10_walk_86 ⟨Nat.le_of_ble_eq_true rfl, Nat.le_of_ble_eq_true rfl⟩) (fun r56 u57 H locs hw58 hP hD hS => ?_)
            try dsimp only at hw58
            have hP : va_P G vwCl [(b 15, .inl (cZ, 80, .inl o_f15)), (b 16, .inl (cI, 7, .inl o_f16)), (b 21, .inl (cZ, 80, .inl o_f21)), (b 22, .inl (cZ, 80, .inl g4)), (b 23, .inl (cZ, 80, .inl g38)), (b 24, .inl (cI, 80, .inl g39)), (b 25, .inl (cI, 6, .inl o_f25)), (b 26, .inl (cI, 287, .inl g40)), (b 27, .inl (cI, 7, .inl g41)), (b 28, .inl (cI, 7, .inl o_f28)), (b 29, .inl (cI, 6, .inl o_f29)), (h0, oX10 b o_thrown o_taped o_size o_at o_from o_token o_value o_faultKind o_faultPlace o_lawNow o_walkSet o_oneWidow o_oneTurn o_askWorst o_mayWalk o_oftenAll o_oftenRoad o_oftenPegs), (b 1, .inl (cI, 149, .inl o_f1))] H := hP
            have hD : va_D A [(b 15, .inl (cZ, 80, .inl o_f15)), (b 16, .inl (cI, 7, .inl o_f16)), (b 21, .inl (cZ, 80, .inl o_f21)), (b 22, .inl (cZ, 80, .inl g4)), (b 23, .inl (cZ, 80, .inl g38)), (b 24, .inl (cI, 80, .inl g39)), (b 25, .inl (cI, 6, .inl o_f25)), (b 26, .inl (cI, 287, .inl g40)), (b 27, .inl (cI, 7, .inl g41)), (b 28, .inl (cI, 7, .inl o_f28)), (b 29, .inl (cI, 6, .inl o_f29)), (h0, oX10 b o_thrown o_taped o_size o_at o_from o_token o_value o_faultKind o_faultPlace o_lawNow o_walkSet o_oneWidow o_oneTurn o_askWorst o_mayWalk o_oftenAll o_oftenRoad o_oftenPegs), (b 1, .inl (cI, 149, .inl o_f1))] := hD
            have w59 : r56.toInt = wv o_f1 a0 2 := hw58
            obtain ⟨ia60, ib61⟩ := wv_2 (a := a0) ha_o_f1.1 (by omega) (by omega)
            refine lv_icmp_ge (tgt := 281) hx hb dX10_walk_89 (by decide) (fun c62 => ?_) (fun c62 => ?_)
            · have c62 := i_le w59 rfl c62
              refine lv_iconst (v := 0) hx hb dX10_walk_281 (by decide) ?_
              refine lv_istore (lv' := [(6, .int 0), (5, .int x36), (4, .int v25), (3, .int x35), (2, .int x34), (0, .ref h0), (1, .int p0)]) hx hb dX10_walk_282 hl (by decide) rfl (fun ls hl => ?_)
              have lp63 : ∀ (n64 : Nat) (x65 : Int32) (g66 : Nat → Int32), 0 ≤ x65.toInt → x65.toInt ≤ 80 → ai g66 80 0 1 → 80 - x65.toInt < (n64 : Int) → ∀ (H : Heap) (locs : List Loc), va_P G vwCl [(b 15, .inl (cZ, 80, .inl o_f15)), (b 16, .inl (cI, 7, .inl o_f16)), (b 21, .inl (cZ, 80, .inl g66)), (b 22, .inl (cZ, 80, .inl g4)), (b 23, .inl (cZ, 80, .inl g38)), (b 24, .inl (cI, 80, .inl g39)), (b 25, .inl (cI, 6, .inl o_f25)), (b 26, .inl (cI, 287, .inl g40)), (b 27, .inl (cI, 7, .inl g41)), (b 28, .inl (cI, 7, .inl o_f28)), (b 29, .inl (cI, 6, .inl o_f29)), (h0, oX10 b o_thrown o_taped o_size o_at o_from o_token o_value o_faultKind o_faultPlace o_lawNow o_walkSet o_oneWidow o_oneTurn o_askWorst o_mayWalk o_oftenAll o_oftenRoad o_oftenPegs), (b 1, .inl (cI, 149, .inl o_f1))] H → va_D A [(b 15, .inl (cZ, 80, .inl o_f15)), (b 16, .inl (cI, 7, .inl o_f16)), (b 21, .inl (cZ, 80, .inl g66)), (b 22, .inl (cZ, 80, .inl g4)), (b 23, .inl (cZ, 80, .inl g38)), (b 24, .inl (cI, 80, .inl g39)), (b 25, .inl (cI, 6, .inl o_f25)), (b 26, .inl (cI, 287, .inl g40)), (b 27, .inl (cI, 7, .inl g41)), (b 28, .inl (cI, 7, .inl o_f28)), (b 29, .inl (cI, 6, .inl o_f29)), (h0, oX10 b o_thrown o_taped o_size o_at o_from o_token o_value o_faultKind o_faultPlace o_lawNow o_walkSet o_oneWidow o_oneTurn o_askWorst o_mayWalk o_oftenAll o_oftenRoad o_oftenPegs), (b 1, .inl (cI, 149, .inl o_f1))] → va_S A s.heap H locs → ∀ (ls : Array Slot), lv_has ls 10 [(6, .int x65), (5, .int x36), (4, .int v25), (3, .int x35), (2, .int x34), (0, .ref h0), (1, .int p0)] → W p l e ({ frames := 4, cells := 0, slots := 0, locals := 90 } : Room) s m ([.ref h0, .int p0] : List Value).toArray below meth c H locs 0 0 Q (F0 m 284 ls []) := by
                intro n64
                induction n64 with
                | zero =>
                  intro x65 g66 k67 k68 k69 mm71
                  exact absurd mm71 (by have q9 := fb_rng x65; omega)
                | succ n64 ih70 =>
                  intro x65 g66 k67 k68 k69 mm71 H locs hP hD hS ls hl
                  refine lv_iload hx hb dX10_walk_284 (lv_at hl 0 rfl) ?_
                  refine lv_bipush (v := 80) hx hb dX10_walk_286 (by decide) ?_
                  refine lv_icmp_ge (tgt := 329) hx hb dX10_walk_288 (by decide) (fun c72 => ?_) (fun c72 => ?_)
                  · have c72 := i_le ki_80 rfl c72
                    refine lv_aload_n hx hb dX10_walk_329 rfl (lv_at hl 5 rfl) ?_
                    refine lv_iload_n hx hb dX10_walk_330 rfl (lv_at hl 6 rfl) ?_
                    refine k_v (wc := [(h0, oX10 b o_thrown o_taped o_size o_at o_from o_token o_value o_faultKind o_faultPlace o_lawNow o_walkSet o_oneWidow o_oneTurn o_askWorst o_mayWalk o_oftenAll o_oftenRoad o_oftenPegs), (b 1, .inl (cI, 149, .inl o_f1)), (b 15, .inl (cZ, 80, .inl o_f15)), (b 21, .inl (cZ, 80, .inl g66)), (b 23, .inl (cZ, 80, .inl g38)), (b 25, .inl (cI, 6, .inl o_f25)), (b 28, .inl (cI, 7, .inl o_f28)), (b 29, .inl (cI, 6, .inl o_f29))]) (wr := [(b 16, .inl (cI, 7, .inl o_f16)), (b 22, .inl (cZ, 80, .inl g4)), (b 24, .inl (cI, 80, .inl g39)), (b 26, .inl (cI, 287, .inl g40)), (b 27, .inl (cI, 7, .inl g41))]) hP hD hS hA [11, 12, 0, 2, 4, 6, 9, 10] [1, 3, 5, 7, 8] rfl rfl rfl (by decide) (va_runV (As := [.int p0]) (rest := []) ⟨hx, hb, hml, hown, hts⟩ (f_X10_moveHouses l G cI cJ cZ cB cQ _ h0 p0 a0 b o_thrown o_taped o_size o_at o_from o_token o_value o_faultKind o_faultPlace o_lawNow o_walkSet o_oneWidow o_oneTurn o_askWorst o_mayWalk o_oftenAll o_oftenRoad o_oftenPegs o_f1 o_f15 g66 g38 o_f25 o_f28 o_f29 hp0 (by omega) (by omega) hl_o_taped hh_o_taped hl_o_size hh_o_size hl_o_at hh_o_at hl_o_from hh_o_from hl_o_oneTurn hh_o_oneTurn ha_o_f1 ha_o_f15 k69 k50 ha_o_f25) (cwV 1 hts (gV w_1538 w_1540 wp_116 w_11 w_1541) rfl rfl rfl ⟨rfl, hd_X10_moveHouses⟩ ⟨Nat.le_of_ble_eq_true rfl, Nat.le_of_ble_eq_true rfl⟩) (mV hK hZ hP hD [11, 12, 0, 2, 4, 6, 9, 10] rfl rfl [.int p0] 11 10 rfl rfl) rfl rfl hl.1 rfl (lv_room (Nat.le_of_ble_eq_true rfl)) dX10_walk_331 ⟨Nat.le_of_ble_eq_true rfl, Nat.le_of_ble_eq_true rfl⟩) (fun u74 H locs hw75 hP hD hS => ?_)
                    obtain ⟨o_f25o76, o_f28o77, o_f29o78⟩ := u74
                    try dsimp only at hw75
                    have hP : va_P G vwCl [(b 16, .inl (cI, 7, .inl o_f16)), (b 22, .inl (cZ, 80, .inl g4)), (b 24, .inl (cI, 80, .inl g39)), (b 26, .inl (cI, 287, .inl g40)), (b 27, .inl (cI, 7, .inl g41)), (h0, oX10 b o_thrown o_taped o_size o_at o_from o_token o_value o_faultKind o_faultPlace o_lawNow o_walkSet o_oneWidow o_oneTurn o_askWorst o_mayWalk o_oftenAll o_oftenRoad o_oftenPegs), (b 1, .inl (cI, 149, .inl o_f1)), (b 15, .inl (cZ, 80, .inl o_f15)), (b 21, .inl (cZ, 80, .inl g66)), (b 23, .inl (cZ, 80, .inl g38)), (b 25, .inl (cI, 6, .inl o_f25o76)), (b 28, .inl (cI, 7, .inl o_f28o77)), (b 29, .inl (cI, 6, .inl o_f29o78))] H := hP
                    have hD : va_D A [(b 16, .inl (cI, 7, .inl o_f16)), (b 22, .inl (cZ, 80, .inl g4)), (b 24, .inl (cI, 80, .inl g39)), (b 26, .inl (cI, 287, .inl g40)), (b 27, .inl (cI, 7, .inl g41)), (h0, oX10 b o_thrown o_taped o_size o_at o_from o_token o_value o_faultKind o_faultPlace o_lawNow o_walkSet o_oneWidow o_oneTurn o_askWorst o_mayWalk o_oftenAll o_oftenRoad o_oftenPegs), (b 1, .inl (cI, 149, .inl o_f1)), (b 15, .inl (cZ, 80, .inl o_f15)), (b 21, .inl (cZ, 80, .inl g66)), (b 23, .inl (cZ, 80, .inl g38)), (b 25, .inl (cI, 6, .inl o_f25o76)), (b 28, .inl (cI, 7, .inl o_f28o77)), (b 29, .inl (cI, 6, .inl o_f29o78))] := hD
                    have w79 : ai o_f25o76 6 (-1) 79 := hw75
                    exact hret _ _ _ _ (g66, g4, g38, g39, o_f25o76, g40, g41, o_f28o77, o_f29o78) (hP.sub (ws' := [(h0, oX10 b o_thrown o_taped o_size o_at o_from o_token o_value o_faultKind o_faultPlace o_lawNow o_walkSet o_oneWidow o_oneTurn o_askWorst o_mayWalk o_oftenAll o_oftenRoad o_oftenPegs), (b 1, .inl (cI, 149, .inl o_f1)), (b 15, .inl (cZ, 80, .inl o_f15)), (b 16, .inl (cI, 7, .inl o_f16)), (b 21, .inl (cZ, 80, .inl g66)), (b 22, .inl (cZ, 80, .inl g4)), (b 23, .inl (cZ, 80, .inl g38)), (b 24, .inl (cI, 80, .inl g39)), (b 25, .inl (cI, 6, .inl o_f25o76)), (b 26, .inl (cI, 287, .inl g40)), (b 27, .inl (cI, 7, .inl g41)), (b 28, .inl (cI, 7, .inl o_f28o77)), (b 29, .inl (cI, 6, .inl o_f29o78))]) [5, 6, 7, 0, 8, 1, 9, 2, 10, 3, 4, 11, 12] rfl) (hD.sub (ws' := [(h0, oX10 b o_thrown o_taped o_size o_at o_from o_token o_value o_faultKind o_faultPlace o_lawNow o_walkSet o_oneWidow o_oneTurn o_askWorst o_mayWalk o_oftenAll o_oftenRoad o_oftenPegs), (b 1, .inl (cI, 149, .inl o_f1)), (b 15, .inl (cZ, 80, .inl o_f15)), (b 16, .inl (cI, 7, .inl o_f16)), (b 21, .inl (cZ, 80, .inl g66)), (b 22, .inl (cZ, 80, .inl g4)), (b 23, .inl (cZ, 80, .inl g38)), (b 24, .inl (cI, 80, .inl g39)), (b 25, .inl (cI, 6, .inl o_f25o76)), (b 26, .inl (cI, 287, .inl g40)), (b 27, .inl (cI, 7, .inl g41)), (b 28, .inl (cI, 7, .inl o_f28o77)), (b 29, .inl (cI, 6, .inl o_f29o78))]) [5, 6, 7, 0, 8, 1, 9, 2, 10, 3, 4, 11, 12] rfl rfl) hS dX10_walk_334 (show ai g66 80 0 1 ∧ ai g4 80 0 1 ∧ ai g38 80 0 1 ∧ PG g39 80 (o_f1 3).toInt (o_f1 4).toInt ∧ ai o_f25o76 6 (-1) 79 ∧ ai g40 287 0 77 ∧ ai g41 7 (-1) 40 from ⟨k69, k8, k50, k51, w79, k52, k53⟩)
                  · have c72 := i_nle ki_80 rfl c72
                    refine lv_aload_n hx hb dX10_walk_291 rfl (lv_at hl 5 rfl) ?_
                    refine va_get (D := G) (ci := 10) (v := .ref (b 21)) (C := RX10) (T := TX10) (N := 46) hx hb hts iG_X10 hown hK hP 11 rfl rfl 21 (by decide) (hts _ w_1213) (fun _ h9 => h9) rfl dX10_walk_292 ?_
                    refine lv_iload hx hb dX10_walk_295 (lv_at hl 0 rfl) ?_
                    refine lv_aload_n hx hb dX10_walk_297 rfl (lv_at hl 5 rfl) ?_
                    refine va_get (D := G) (ci := 10) (v := .ref (b 21)) (C := RX10) (T := TX10) (N := 46) hx hb hts iG_X10 hown hK hP 11 rfl rfl 21 (by decide) (hts _ w_1213) (fun _ h9 => h9) rfl dX10_walk_298 ?_
                    refine lv_iload hx hb dX10_walk_301 (lv_at hl 0 rfl) ?_
                    refine va_zald hx hb hK hP 2 2 rfl rfl (ix_in rfl (by omega) (by omega)) dX10_walk_303 ?_
                    refine lv_topi (fun v80 ev80 => ?_)
                    obtain ⟨ia81, ib82⟩ := ai_get k69 rfl (by omega) (by omega) ev80
                    have lkv80 : v80.toInt = (g66 x65.toNatClampNeg).toInt := by rw [ev80]
                    refine lv_if_ne (tgt := 317) hx hb dX10_walk_304 (by decide) (fun c83 => ?_) (fun c83 => ?_)
                    · have c83 := i_ne rfl ki_0 c83
                      refine lv_iconst (v := 1) hx hb dX10_walk_317 (by decide) ?_
                      refine lv_goto (tgt := 322) hx hb dX10_walk_318 (by decide) ?_
                      refine va_zast hx hb hK hP hD hS 2 2 rfl rfl (ix_in rfl (by omega) (by omega)) dX10_walk_322 (fun H locs hP hD hS => ?_)
                      obtain ⟨f84, qf84⟩ : ∃ g, g = upd g66 x65.toNatClampNeg (vp_nar .boolean (1 : Int32)) := ⟨_, rfl⟩
                      rw [← qf84] at hP hD
                      have hi85 : ai f84 80 0 1 := by rw [qf84]; exact ai_putz k69
                      have hP : va_P G vwCl [(b 15, .inl (cZ, 80, .inl o_f15)), (b 16, .inl (cI, 7, .inl o_f16)), (b 21, .inl (cZ, 80, .inl f84)), (b 22, .inl (cZ, 80, .inl g4)), (b 23, .inl (cZ, 80, .inl g38)), (b 24, .inl (cI, 80, .inl g39)), (b 25, .inl (cI, 6, .inl o_f25)), (b 26, .inl (cI, 287, .inl g40)), (b 27, .inl (cI, 7, .inl g41)), (b 28, .inl (cI, 7, .inl o_f28)), (b 29, .inl (cI, 6, .inl o_f29)), (h0, oX10 b o_thrown o_taped o_size o_at o_from o_token o_value o_faultKind o_faultPlace o_lawNow o_walkSet o_oneWidow o_oneTurn o_askWorst o_mayWalk o_oftenAll o_oftenRoad o_oftenPegs), (b 1, .inl (cI, 149, .inl o_f1))] H := hP
                      have hD : va_D A [(b 15, .inl (cZ, 80, .inl o_f15)), (b 16, .inl (cI, 7, .inl o_f16)), (b 21, .inl (cZ, 80, .inl f84)), (b 22, .inl (cZ, 80, .inl g4)), (b 23, .inl (cZ, 80, .inl g38)), (b 24, .inl (cI, 80, .inl g39)), (b 25, .inl (cI, 6, .inl o_f25)), (b 26, .inl (cI, 287, .inl g40)), (b 27, .inl (cI, 7, .inl g41)), (b 28, .inl (cI, 7, .inl o_f28)), (b 29, .inl (cI, 6, .inl o_f29)), (h0, oX10 b o_thrown o_taped o_size o_at o_from o_token o_value o_faultKind o_faultPlace o_lawNow o_walkSet o_oneWidow o_oneTurn o_askWorst o_mayWalk o_oftenAll o_oftenRoad o_oftenPegs), (b 1, .inl (cI, 149, .inl o_f1))] := hD
                      obtain ⟨v86, ev86⟩ : ∃ y : Int32, y = x65 + 1 := ⟨_, rfl⟩
                      have tv86 : v86.toInt = x65.toInt + 1 := ti_add rfl ki_1 ev86 (by omega) (by omega)
                      refine lv_iinc (v := v86) (lv' := [(6, .int v86), (5, .int x36), (4, .int v25), (3, .int x35), (2, .int x34), (0, .ref h0), (1, .int p0)]) hx hb dX10_walk_323 hl (k := 0) rfl (by rw [ev86]; rfl) (by decide) rfl (fun ls hl => ?_)
                      refine lv_goto (tgt := 284) hx hb dX10_walk_326 (by decide) ?_
                      exact ih70 v86 f84 (by omega) (by omega) hi85 (by omega) _ _ hP hD hS ls (lv_sub hl [0, 1, 2, 3, 4, 5, 6] rfl)
                    · have c83 := i_eq rfl ki_0 c83
                      refine lv_aload_n hx hb dX10_walk_307 rfl (lv_at hl 5 rfl) ?_
                      refine va_get (D := G) (ci := 10) (v := .ref (b 23)) (C := RX10) (T := TX10) (N := 46) hx hb hts iG_X10 hown hK hP 11 rfl rfl 23 (by decide) (hts _ w_1215) (fun _ h9 => h9) rfl dX10_walk_308 ?_
                      refine lv_iload hx hb dX10_walk_311 (lv_at hl 0 rfl) ?_
                      refine va_zald hx hb hK hP 4 2 rfl rfl (ix_in rfl (by omega) (by omega)) dX10_walk_313 ?_
                      refine lv_topi (fun v87 ev87 => ?_)
                      obtain ⟨ia88, ib89⟩ := ai_get k50 rfl (by omega) (by omega) ev87
                      have lkv87 : v87.toInt = (g38 x65.toNatClampNeg).toInt := by rw [ev87]
                      refine lv_if_eq (tgt := 321) hx hb dX10_walk_314 (by decide) (fun c90 => ?_) (fun c90 => ?_)
                      · have c90 := i_eq rfl ki_0 c90
                        refine lv_iconst (v := 0) hx hb dX10_walk_321 (by decide) ?_
                        refine va_zast hx hb hK hP hD hS 2 2 rfl rfl (ix_in rfl (by omega) (by omega)) dX10_walk_322 (fun H locs hP hD hS => ?_)
                        obtain ⟨f91, qf91⟩ : ∃ g, g = upd g66 x65.toNatClampNeg (vp_nar .boolean (0 : Int32)) := ⟨_, rfl⟩
                        rw [← qf91] at hP hD
                        have hi92 : ai f91 80 0 1 := by rw [qf91]; exact ai_putz k69
                        have hP : va_P G vwCl [(b 15, .inl (cZ, 80, .inl o_f15)), (b 16, .inl (cI, 7, .inl o_f16)), (b 21, .inl (cZ, 80, .inl f91)), (b 22, .inl (cZ, 80, .inl g4)), (b 23, .inl (cZ, 80, .inl g38)), (b 24, .inl (cI, 80, .inl g39)), (b 25, .inl (cI, 6, .inl o_f25)), (b 26, .inl (cI, 287, .inl g40)), (b 27, .inl (cI, 7, .inl g41)), (b 28, .inl (cI, 7, .inl o_f28)), (b 29, .inl (cI, 6, .inl o_f29)), (h0, oX10 b o_thrown o_taped o_size o_at o_from o_token o_value o_faultKind o_faultPlace o_lawNow o_walkSet o_oneWidow o_oneTurn o_askWorst o_mayWalk o_oftenAll o_oftenRoad o_oftenPegs), (b 1, .inl (cI, 149, .inl o_f1))] H := hP
                        have hD : va_D A [(b 15, .inl (cZ, 80, .inl o_f15)), (b 16, .inl (cI, 7, .inl o_f16)), (b 21, .inl (cZ, 80, .inl f91)), (b 22, .inl (cZ, 80, .inl g4)), (b 23, .inl (cZ, 80, .inl g38)), (b 24, .inl (cI, 80, .inl g39)), (b 25, .inl (cI, 6, .inl o_f25)), (b 26, .inl (cI, 287, .inl g40)), (b 27, .inl (cI, 7, .inl g41)), (b 28, .inl (cI, 7, .inl o_f28)), (b 29, .inl (cI, 6, .inl o_f29)), (h0, oX10 b o_thrown o_taped o_size o_at o_from o_token o_value o_faultKind o_faultPlace o_lawNow o_walkSet o_oneWidow o_oneTurn o_askWorst o_mayWalk o_oftenAll o_oftenRoad o_oftenPegs), (b 1, .inl (cI, 149, .inl o_f1))] := hD
                        obtain ⟨v93, ev93⟩ : ∃ y : Int32, y = x65 + 1 := ⟨_, rfl⟩
                        have tv93 : v93.toInt = x65.toInt + 1 := ti_add rfl ki_1 ev93 (by omega) (by omega)
                        refine lv_iinc (v := v93) (lv' := [(6, .int v93), (5, .int x36), (4, .int v25), (3, .int x35), (2, .int x34), (0, .ref h0), (1, .int p0)]) hx hb dX10_walk_323 hl (k := 0) rfl (by rw [ev93]; rfl) (by decide) rfl (fun ls hl => ?_)
                        refine lv_goto (tgt := 284) hx hb dX10_walk_326 (by decide) ?_
                        exact ih70 v93 f91 (by omega) (by omega) hi92 (by omega) _ _ hP hD hS ls (lv_sub hl [0, 1, 2, 3, 4, 5, 6] rfl)
                      · have c90 := i_ne rfl ki_0 c90
                        refine lv_iconst (v := 1) hx hb dX10_walk_317 (by decide) ?_
                        refine lv_goto (tgt := 322) hx hb dX10_walk_318 (by decide) ?_
                        refine va_zast hx hb hK hP hD hS 2 2 rfl rfl (ix_in rfl (by omega) (by omega)) dX10_walk_322 (fun H locs hP hD hS => ?_)
                        obtain ⟨f94, qf94⟩ : ∃ g, g = upd g66 x65.toNatClampNeg (vp_nar .boolean (1 : Int32)) := ⟨_, rfl⟩
                        rw [← qf94] at hP hD
                        have hi95 : ai f94 80 0 1 := by rw [qf94]; exact ai_putz k69
                        have hP : va_P G vwCl [(b 15, .inl (cZ, 80, .inl o_f15)), (b 16, .inl (cI, 7, .inl o_f16)), (b 21, .inl (cZ, 80, .inl f94)), (b 22, .inl (cZ, 80, .inl g4)), (b 23, .inl (cZ, 80, .inl g38)), (b 24, .inl (cI, 80, .inl g39)), (b 25, .inl (cI, 6, .inl o_f25)), (b 26, .inl (cI, 287, .inl g40)), (b 27, .inl (cI, 7, .inl g41)), (b 28, .inl (cI, 7, .inl o_f28)), (b 29, .inl (cI, 6, .inl o_f29)), (h0, oX10 b o_thrown o_taped o_size o_at o_from o_token o_value o_faultKind o_faultPlace o_lawNow o_walkSet o_oneWidow o_oneTurn o_askWorst o_mayWalk o_oftenAll o_oftenRoad o_oftenPegs), (b 1, .inl (cI, 149, .inl o_f1))] H := hP
                        have hD : va_D A [(b 15, .inl (cZ, 80, .inl o_f15)), (b 16, .inl (cI, 7, .inl o_f16)), (b 21, .inl (cZ, 80, .inl f94)), (b 22, .inl (cZ, 80, .inl g4)), (b 23, .inl (cZ, 80, .inl g38)), (b 24, .inl (cI, 80, .inl g39)), (b 25, .inl (cI, 6, .inl o_f25)), (b 26, .inl (cI, 287, .inl g40)), (b 27, .inl (cI, 7, .inl g41)), (b 28, .inl (cI, 7, .inl o_f28)), (b 29, .inl (cI, 6, .inl o_f29)), (h0, oX10 b o_thrown o_taped o_size o_at o_from o_token o_value o_faultKind o_faultPlace o_lawNow o_walkSet o_oneWidow o_oneTurn o_askWorst o_mayWalk o_oftenAll o_oftenRoad o_oftenPegs), (b 1, .inl (cI, 149, .inl o_f1))] := hD
                        obtain ⟨v96, ev96⟩ : ∃ y : Int32, y = x65 + 1 := ⟨_, rfl⟩
                        have tv96 : v96.toInt = x65.toInt + 1 := ti_add rfl ki_1 ev96 (by omega) (by omega)
                        refine lv_iinc (v := v96) (lv' := [(6, .int v96), (5, .int x36), (4, .int v25), (3, .int x35), (2, .int x34), (0, .ref h0), (1, .int p0)]) hx hb dX10_walk_323 hl (k := 0) rfl (by rw [ev96]; rfl) (by decide) rfl (fun ls hl => ?_)
                        refine lv_goto (tgt := 284) hx hb dX10_walk_326 (by decide) ?_
                        exact ih70 v96 f94 (by omega) (by omega) hi95 (by omega) _ _ hP hD hS ls (lv_sub hl [0, 1, 2, 3, 4, 5, 6] rfl)
              exact lp63 81 0 o_f21 (by rw [ki_0]; decide) (by rw [ki_0]; decide) ha_o_f21 (by rw [ki_0]; decide) _ _ hP hD hS ls (lv_sub hl [0, 1, 2, 3, 4, 5, 6] rfl)
            · have c62 := i_nle w59 rfl c62
              refine lv_iload hx hb dX10_walk_92 (lv_at hl 1 rfl) ?_
              refine lv_if_eq (tgt := 281) hx hb dX10_walk_94 (by decide) (fun c97 => ?_) (fun c97 => ?_)
              · have c97 := i_eq rfl ki_0 c97
                refine lv_iconst (v := 0) hx hb dX10_walk_281 (by decide) ?_
                refine lv_istore (lv' := [(6, .int 0), (5, .int x36), (4, .int v25), (3, .int x35), (2, .int x34), (0, .ref h0), (1, .int p0)]) hx hb dX10_walk_282 hl (by decide) rfl (fun ls hl => ?_)
                have lp98 : ∀ (n99 : Nat) (x100 : Int32) (g101 : Nat → Int32), 0 ≤ x100.toInt → x100.toInt ≤ 80 → ai g101 80 0 1 → 80 - x100.toInt < (n99 : Int) → ∀ (H : Heap) (locs : List Loc), va_P G vwCl [(b 15, .inl (cZ, 80, .inl o_f15)), (b 16, .inl (cI, 7, .inl o_f16)), (b 21, .inl (cZ, 80, .inl g101)), (b 22, .inl (cZ, 80, .inl g4)), (b 23, .inl (cZ, 80, .inl g38)), (b 24, .inl (cI, 80, .inl g39)), (b 25, .inl (cI, 6, .inl o_f25)), (b 26, .inl (cI, 287, .inl g40)), (b 27, .inl (cI, 7, .inl g41)), (b 28, .inl (cI, 7, .inl o_f28)), (b 29, .inl (cI, 6, .inl o_f29)), (h0, oX10 b o_thrown o_taped o_size o_at o_from o_token o_value o_faultKind o_faultPlace o_lawNow o_walkSet o_oneWidow o_oneTurn o_askWorst o_mayWalk o_oftenAll o_oftenRoad o_oftenPegs), (b 1, .inl (cI, 149, .inl o_f1))] H → va_D A [(b 15, .inl (cZ, 80, .inl o_f15)), (b 16, .inl (cI, 7, .inl o_f16)), (b 21, .inl (cZ, 80, .inl g101)), (b 22, .inl (cZ, 80, .inl g4)), (b 23, .inl (cZ, 80, .inl g38)), (b 24, .inl (cI, 80, .inl g39)), (b 25, .inl (cI, 6, .inl o_f25)), (b 26, .inl (cI, 287, .inl g40)), (b 27, .inl (cI, 7, .inl g41)), (b 28, .inl (cI, 7, .inl o_f28)), (b 29, .inl (cI, 6, .inl o_f29)), (h0, oX10 b o_thrown o_taped o_size o_at o_from o_token o_value o_faultKind o_faultPlace o_lawNow o_walkSet o_oneWidow o_oneTurn o_askWorst o_mayWalk o_oftenAll o_oftenRoad o_oftenPegs), (b 1, .inl (cI, 149, .inl o_f1))] → va_S A s.heap H locs → ∀ (ls : Array Slot), lv_has ls 10 [(6, .int x100), (5, .int x36), (4, .int v25), (3, .int x35), (2, .int x34), (0, .ref h0), (1, .int p0)] → W p l e ({ frames := 4, cells := 0, slots := 0, locals := 90 } : Room) s m ([.ref h0, .int p0] : List Value).toArray below meth c H locs 0 0 Q (F0 m 284 ls []) := by
                  intro n99
                  induction n99 with
                  | zero =>
                    intro x100 g101 k102 k103 k104 mm106
                    exact absurd mm106 (by have q9 := fb_rng x100; omega)
                  | succ n99 ih105 =>
                    intro x100 g101 k102 k103 k104 mm106 H locs hP hD hS ls hl
                    refine lv_iload hx hb dX10_walk_284 (lv_at hl 0 rfl) ?_
                    refine lv_bipush (v := 80) hx hb dX10_walk_286 (by decide) ?_
                    refine lv_icmp_ge (tgt := 329) hx hb dX10_walk_288 (by decide) (fun c107 => ?_) (fun c107 => ?_)
                    · have c107 := i_le ki_80 rfl c107
                      refine lv_aload_n hx hb dX10_walk_329 rfl (lv_at hl 5 rfl) ?_
                      refine lv_iload_n hx hb dX10_walk_330 rfl (lv_at hl 6 rfl) ?_
                      refine k_v (wc := [(h0, oX10 b o_thrown o_taped o_size o_at o_from o_token o_value o_faultKind o_faultPlace o_lawNow o_walkSet o_oneWidow o_oneTurn o_askWorst o_mayWalk o_oftenAll o_oftenRoad o_oftenPegs), (b 1, .inl (cI, 149, .inl o_f1)), (b 15, .inl (cZ, 80, .inl o_f15)), (b 21, .inl (cZ, 80, .inl g101)), (b 23, .inl (cZ, 80, .inl g38)), (b 25, .inl (cI, 6, .inl o_f25)), (b 28, .inl (cI, 7, .inl o_f28)), (b 29, .inl (cI, 6, .inl o_f29))]) (wr := [(b 16, .inl (cI, 7, .inl o_f16)), (b 22, .inl (cZ, 80, .inl g4)), (b 24, .inl (cI, 80, .inl g39)), (b 26, .inl (cI, 287, .inl g40)), (b 27, .inl (cI, 7, .inl g41))]) hP hD hS hA [11, 12, 0, 2, 4, 6, 9, 10] [1, 3, 5, 7, 8] rfl rfl rfl (by decide) (va_runV (As := [.int p0]) (rest := []) ⟨hx, hb, hml, hown, hts⟩ (f_X10_moveHouses l G cI cJ cZ cB cQ _ h0 p0 a0 b o_thrown o_taped o_size o_at o_from o_token o_value o_faultKind o_faultPlace o_lawNow o_walkSet o_oneWidow o_oneTurn o_askWorst o_mayWalk o_oftenAll o_oftenRoad o_oftenPegs o_f1 o_f15 g101 g38 o_f25 o_f28 o_f29 hp0 (by omega) (by omega) hl_o_taped hh_o_taped hl_o_size hh_o_size hl_o_at hh_o_at hl_o_from hh_o_from hl_o_oneTurn hh_o_oneTurn ha_o_f1 ha_o_f15 k104 k50 ha_o_f25) (cwV 1 hts (gV w_1538 w_1540 wp_116 w_11 w_1541) rfl rfl rfl ⟨rfl, hd_X10_moveHouses⟩ ⟨Nat.le_of_ble_eq_true rfl, Nat.le_of_ble_eq_true rfl⟩) (mV hK hZ hP hD [11, 12, 0, 2, 4, 6, 9, 10] rfl rfl [.int p0] 11 10 rfl rfl) rfl rfl hl.1 rfl (lv_room (Nat.le_of_ble_eq_true rfl)) dX10_walk_331 ⟨Nat.le_of_ble_eq_true rfl, Nat.le_of_ble_eq_true rfl⟩) (fun u109 H locs hw110 hP hD hS => ?_)
                      obtain ⟨o_f25o111, o_f28o112, o_f29o113⟩ := u109
                      try dsimp only at hw110
                      have hP : va_P G vwCl [(b 16, .inl (cI, 7, .inl o_f16)), (b 22, .inl (cZ, 80, .inl g4)), (b 24, .inl (cI, 80, .inl g39)), (b 26, .inl (cI, 287, .inl g40)), (b 27, .inl (cI, 7, .inl g41)), (h0, oX10 b o_thrown o_taped o_size o_at o_from o_token o_value o_faultKind o_faultPlace o_lawNow o_walkSet o_oneWidow o_oneTurn o_askWorst o_mayWalk o_oftenAll o_oftenRoad o_oftenPegs), (b 1, .inl (cI, 149, .inl o_f1)), (b 15, .inl (cZ, 80, .inl o_f15)), (b 21, .inl (cZ, 80, .inl g101)), (b 23, .inl (cZ, 80, .inl g38)), (b 25, .inl (cI, 6, .inl o_f25o111)), (b 28, .inl (cI, 7, .inl o_f28o112)), (b 29, .inl (cI, 6, .inl o_f29o113))] H := hP
                      have hD : va_D A [(b 16, .inl (cI, 7, .inl o_f16)), (b 22, .inl (cZ, 80, .inl g4)), (b 24, .inl (cI, 80, .inl g39)), (b 26, .inl (cI, 287, .inl g40)), (b 27, .inl (cI, 7, .inl g41)), (h0, oX10 b o_thrown o_taped o_size o_at o_from o_token o_value o_faultKind o_faultPlace o_lawNow o_walkSet o_oneWidow o_oneTurn o_askWorst o_mayWalk o_oftenAll o_oftenRoad o_oftenPegs), (b 1, .inl (cI, 149, .inl o_f1)), (b 15, .inl (cZ, 80, .inl o_f15)), (b 21, .inl (cZ, 80, .inl g101)), (b 23, .inl (cZ, 80, .inl g38)), (b 25, .inl (cI, 6, .inl o_f25o111)), (b 28, .inl (cI, 7, .inl o_f28o112)), (b 29, .inl (cI, 6, .inl o_f29o113))] := hD
                      have w114 : ai o_f25o111 6 (-1) 79 := hw110
                      exact hret _ _ _ _ (g101, g4, g38, g39, o_f25o111, g40, g41, o_f28o112, o_f29o113) (hP.sub (ws' := [(h0, oX10 b o_thrown o_taped o_size o_at o_from o_token o_value o_faultKind o_faultPlace o_lawNow o_walkSet o_oneWidow o_oneTurn o_askWorst o_mayWalk o_oftenAll o_oftenRoad o_oftenPegs), (b 1, .inl (cI, 149, .inl o_f1)), (b 15, .inl (cZ, 80, .inl o_f15)), (b 16, .inl (cI, 7, .inl o_f16)), (b 21, .inl (cZ, 80, .inl g101)), (b 22, .inl (cZ, 80, .inl g4)), (b 23, .inl (cZ, 80, .inl g38)), (b 24, .inl (cI, 80, .inl g39)), (b 25, .inl (cI, 6, .inl o_f25o111)), (b 26, .inl (cI, 287, .inl g40)), (b 27, .inl (cI, 7, .inl g41)), (b 28, .inl (cI, 7, .inl o_f28o112)), (b 29, .inl (cI, 6, .inl o_f29o113))]) [5, 6, 7, 0, 8, 1, 9, 2, 10, 3, 4, 11, 12] rfl) (hD.sub (ws' := [(h0, oX10 b o_thrown o_taped o_size o_at o_from o_token o_value o_faultKind o_faultPlace o_lawNow o_walkSet o_oneWidow o_oneTurn o_askWorst o_mayWalk o_oftenAll o_oftenRoad o_oftenPegs), (b 1, .inl (cI, 149, .inl o_f1)), (b 15, .inl (cZ, 80, .inl o_f15)), (b 16, .inl (cI, 7, .inl o_f16)), (b 21, .inl (cZ, 80, .inl g101)), (b 22, .inl (cZ, 80, .inl g4)), (b 23, .inl (cZ, 80, .inl g38)), (b 24, .inl (cI, 80, .inl g39)), (b 25, .inl (cI, 6, .inl o_f25o111)), (b 26, .inl (cI, 287, .inl g40)), (b 27, .inl (cI, 7, .inl g41)), (b 28, .inl (cI, 7, .inl o_f28o112)), (b 29, .inl (cI, 6, .inl o_f29o113))]) [5, 6, 7, 0, 8, 1, 9, 2, 10, 3, 4, 11, 12] rfl rfl) hS dX10_walk_334 (show ai g101 80 0 1 ∧ ai g4 80 0 1 ∧ ai g38 80 0 1 ∧ PG g39 80 (o_f1 3).toInt (o_f1 4).toInt ∧ ai o_f25o111 6 (-1) 79 ∧ ai g40 287 0 77 ∧ ai g41 7 (-1) 40 from ⟨k104, k8, k50, k51, w114, k52, k53⟩)
                    · have c107 := i_nle ki_80 rfl c107
                      refine lv_aload_n hx hb dX10_walk_291 rfl (lv_at hl 5 rfl) ?_
                      refine va_get (D := G) (ci := 10) (v := .ref (b 21)) (C := RX10) (T := TX10) (N := 46) hx hb hts iG_X10 hown hK hP 11 rfl rfl 21 (by decide) (hts _ w_1213) (fun _ h9 => h9) rfl dX10_walk_292 ?_
                      refine lv_iload hx hb dX10_walk_295 (lv_at hl 0 rfl) ?_
                      refine lv_aload_n hx hb dX10_walk_297 rfl (lv_at hl 5 rfl) ?_
                      refine va_get (D := G) (ci := 10) (v := .ref (b 21)) (C := RX10) (T := TX10) (N := 46) hx hb hts iG_X10 hown hK hP 11 rfl rfl 21 (by decide) (hts _ w_1213) (fun _ h9 => h9) rfl dX10_walk_298 ?_
                      refine lv_iload hx hb dX10_walk_301 (lv_at hl 0 rfl) ?_
                      refine va_zald hx hb hK hP 2 2 rfl rfl (ix_in rfl (by omega) (by omega)) dX10_walk_303 ?_
                      refine lv_topi (fun v115 ev115 => ?_)
                      obtain ⟨ia116, ib117⟩ := ai_get k104 rfl (by omega) (by omega) ev115
                      have lkv115 : v115.toInt = (g101 x100.toNatClampNeg).toInt := by rw [ev115]
                      refine lv_if_ne (tgt := 317) hx hb dX10_walk_304 (by decide) (fun c118 => ?_) (fun c118 => ?_)
                      · have c118 := i_ne rfl ki_0 c118
                        refine lv_iconst (v := 1) hx hb dX10_walk_317 (by decide) ?_
                        refine lv_goto (tgt := 322) hx hb dX10_walk_318 (by decide) ?_
                        refine va_zast hx hb hK hP hD hS 2 2 rfl rfl (ix_in rfl (by omega) (by omega)) dX10_walk_322 (fun H locs hP hD hS => ?_)
                        obtain ⟨f119, qf119⟩ : ∃ g, g = upd g101 x100.toNatClampNeg (vp_nar .boolean (1 : Int32)) := ⟨_, rfl⟩
                        rw [← qf119] at hP hD
                        have hi120 : ai f119 80 0 1 := by rw [qf119]; exact ai_putz k104
                        have hP : va_P G vwCl [(b 15, .inl (cZ, 80, .inl o_f15)), (b 16, .inl (cI, 7, .inl o_f16)), (b 21, .inl (cZ, 80, .inl f119)), (b 22, .inl (cZ, 80, .inl g4)), (b 23, .inl (cZ, 80, .inl g38)), (b 24, .inl (cI, 80, .inl g39)), (b 25, .inl (cI, 6, .inl o_f25)), (b 26, .inl (cI, 287, .inl g40)), (b 27, .inl (cI, 7, .inl g41)), (b 28, .inl (cI, 7, .inl o_f28)), (b 29, .inl (cI, 6, .inl o_f29)), (h0, oX10 b o_thrown o_taped o_size o_at o_from o_token o_value o_faultKind o_faultPlace o_lawNow o_walkSet o_oneWidow o_oneTurn o_askWorst o_mayWalk o_oftenAll o_oftenRoad o_oftenPegs), (b 1, .inl (cI, 149, .inl o_f1))] H := hP
                        have hD : va_D A [(b 15, .inl (cZ, 80, .inl o_f15)), (b 16, .inl (cI, 7, .inl o_f16)), (b 21, .inl (cZ, 80, .inl f119)), (b 22, .inl (cZ, 80, .inl g4)), (b 23, .inl (cZ, 80, .inl g38)), (b 24, .inl (cI, 80, .inl g39)), (b 25, .inl (cI, 6, .inl o_f25)), (b 26, .inl (cI, 287, .inl g40)), (b 27, .inl (cI, 7, .inl g41)), (b 28, .inl (cI, 7, .inl o_f28)), (b 29, .inl (cI, 6, .inl o_f29)), (h0, oX10 b o_thrown o_taped o_size o_at o_from o_token o_value o_faultKind o_faultPlace o_lawNow o_walkSet o_oneWidow o_oneTurn o_askWorst o_mayWalk o_oftenAll o_oftenRoad o_oftenPegs), (b 1, .inl (cI, 149, .inl o_f1))] := hD
                        obtain ⟨v121, ev121⟩ : ∃ y : Int32, y = x100 + 1 := ⟨_, rfl⟩
                        have tv121 : v121.toInt = x100.toInt + 1 := ti_add rfl ki_1 ev121 (by omega) (by omega)
                        refine lv_iinc (v := v121) (lv' := [(6, .int v121), (5, .int x36), (4, .int v25), (3, .int x35), (2, .int x34), (0, .ref h0), (1, .int p0)]) hx hb dX10_walk_323 hl (k := 0) rfl (by rw [ev121]; rfl) (by decide) rfl (fun ls hl => ?_)
                        refine lv_goto (tgt := 284) hx hb dX10_walk_326 (by decide) ?_
                        exact ih105 v121 f119 (by omega) (by omega) hi120 (by omega) _ _ hP hD hS ls (lv_sub hl [0, 1, 2, 3, 4, 5, 6] rfl)
                      · have c118 := i_eq rfl ki_0 c118
                        refine lv_aload_n hx hb dX10_walk_307 rfl (lv_at hl 5 rfl) ?_
                        refine va_get (D := G) (ci := 10) (v := .ref (b 23)) (C := RX10) (T := TX10) (N := 46) hx hb hts iG_X10 hown hK hP 11 rfl rfl 23 (by decide) (hts _ w_1215) (fun _ h9 => h9) rfl dX10_walk_308 ?_
                        refine lv_iload hx hb dX10_walk_311 (lv_at hl 0 rfl) ?_
                        refine va_zald hx hb hK hP 4 2 rfl rfl (ix_in rfl (by omega) (by omega)) dX10_walk_313 ?_
                        refine lv_topi (fun v122 ev122 => ?_)
                        obtain ⟨ia123, ib124⟩ := ai_get k50 rfl (by omega) (by omega) ev122
                        have lkv122 : v122.toInt = (g38 x100.toNatClampNeg).toInt := by rw [ev122]
                        refine lv_if_eq (tgt := 321) hx hb dX10_walk_314 (by decide) (fun c125 => ?_) (fun c125 => ?_)
                        · have c125 := i_eq rfl ki_0 c125
                          refine lv_iconst (v := 0) hx hb dX10_walk_321 (by decide) ?_
                          refine va_zast hx hb hK hP hD hS 2 2 rfl rfl (ix_in rfl (by omega) (by omega)) dX10_walk_322 (fun H locs hP hD hS => ?_)
                          obtain ⟨f126, qf126⟩ : ∃ g, g = upd g101 x100.toNatClampNeg (vp_nar .boolean (0 : Int32)) := ⟨_, rfl⟩
                          rw [← qf126] at hP hD
                          have hi127 : ai f126 80 0 1 := by rw [qf126]; exact ai_putz k104
                          have hP : va_P G vwCl [(b 15, .inl (cZ, 80, .inl o_f15)), (b 16, .inl (cI, 7, .inl o_f16)), (b 21, .inl (cZ, 80, .inl f126)), (b 22, .inl (cZ, 80, .inl g4)), (b 23, .inl (cZ, 80, .inl g38)), (b 24, .inl (cI, 80, .inl g39)), (b 25, .inl (cI, 6, .inl o_f25)), (b 26, .inl (cI, 287, .inl g40)), (b 27, .inl (cI, 7, .inl g41)), (b 28, .inl (cI, 7, .inl o_f28)), (b 29, .inl (cI, 6, .inl o_f29)), (h0, oX10 b o_thrown o_taped o_size o_at o_from o_token o_value o_faultKind o_faultPlace o_lawNow o_walkSet o_oneWidow o_oneTurn o_askWorst o_mayWalk o_oftenAll o_oftenRoad o_oftenPegs), (b 1, .inl (cI, 149, .inl o_f1))] H := hP
                          have hD : va_D A [(b 15, .inl (cZ, 80, .inl o_f15)), (b 16, .inl (cI, 7, .inl o_f16)), (b 21, .inl (cZ, 80, .inl f126)), (b 22, .inl (cZ, 80, .inl g4)), (b 23, .inl (cZ, 80, .inl g38)), (b 24, .inl (cI, 80, .inl g39)), (b 25, .inl (cI, 6, .inl o_f25)), (b 26, .inl (cI, 287, .inl g40)), (b 27, .inl (cI, 7, .inl g41)), (b 28, .inl (cI, 7, .inl o_f28)), (b 29, .inl (cI, 6, .inl o_f29)), (h0, oX10 b o_thrown o_taped o_size o_at o_from o_token o_value o_faultKind o_faultPlace o_lawNow o_walkSet o_oneWidow o_oneTurn o_askWorst o_mayWalk o_oftenAll o_oftenRoad o_oftenPegs), (b 1, .inl (cI, 149, .inl o_f1))] := hD
                          obtain ⟨v128, ev128⟩ : ∃ y : Int32, y = x100 + 1 := ⟨_, rfl⟩
                          have tv128 : v128.toInt = x100.toInt + 1 := ti_add rfl ki_1 ev128 (by omega) (by omega)
                          refine lv_iinc (v := v128) (lv' := [(6, .int v128), (5, .int x36), (4, .int v25), (3, .int x35), (2, .int x34), (0, .ref h0), (1, .int p0)]) hx hb dX10_walk_323 hl (k := 0) rfl (by rw [ev128]; rfl) (by decide) rfl (fun ls hl => ?_)
                          refine lv_goto (tgt := 284) hx hb dX10_walk_326 (by decide) ?_
                          exact ih105 v128 f126 (by omega) (by omega) hi127 (by omega) _ _ hP hD hS ls (lv_sub hl [0, 1, 2, 3, 4, 5, 6] rfl)
                        · have c125 := i_ne rfl ki_0 c125
                          refine lv_iconst (v := 1) hx hb dX10_walk_317 (by decide) ?_
                          refine lv_goto (tgt := 322) hx hb dX10_walk_318 (by decide) ?_
                          refine va_zast hx hb hK hP hD hS 2 2 rfl rfl (ix_in rfl (by omega) (by omega)) dX10_walk_322 (fun H locs hP hD hS => ?_)
                          obtain ⟨f129, qf129⟩ : ∃ g, g = upd g101 x100.toNatClampNeg (vp_nar .boolean (1 : Int32)) := ⟨_, rfl⟩
                          rw [← qf129] at hP hD
                          have hi130 : ai f129 80 0 1 := by rw [qf129]; exact ai_putz k104
                          have hP : va_P G vwCl [(b 15, .inl (cZ, 80, .inl o_f15)), (b 16, .inl (cI, 7, .inl o_f16)), (b 21, .inl (cZ, 80, .inl f129)), (b 22, .inl (cZ, 80, .inl g4)), (b 23, .inl (cZ, 80, .inl g38)), (b 24, .inl (cI, 80, .inl g39)), (b 25, .inl (cI, 6, .inl o_f25)), (b 26, .inl (cI, 287, .inl g40)), (b 27, .inl (cI, 7, .inl g41)), (b 28, .inl (cI, 7, .inl o_f28)), (b 29, .inl (cI, 6, .inl o_f29)), (h0, oX10 b o_thrown o_taped o_size o_at o_from o_token o_value o_faultKind o_faultPlace o_lawNow o_walkSet o_oneWidow o_oneTurn o_askWorst o_mayWalk o_oftenAll o_oftenRoad o_oftenPegs), (b 1, .inl (cI, 149, .inl o_f1))] H := hP
                          have hD : va_D A [(b 15, .inl (cZ, 80, .inl o_f15)), (b 16, .inl (cI, 7, .inl o_f16)), (b 21, .inl (cZ, 80, .inl f129)), (b 22, .inl (cZ, 80, .inl g4)), (b 23, .inl (cZ, 80, .inl g38)), (b 24, .inl (cI, 80, .inl g39)), (b 25, .inl (cI, 6, .inl o_f25)), (b 26, .inl (cI, 287, .inl g40)), (b 27, .inl (cI, 7, .inl g41)), (b 28, .inl (cI, 7, .inl o_f28)), (b 29, .inl (cI, 6, .inl o_f29)), (h0, oX10 b o_thrown o_taped o_size o_at o_from o_token o_value o_faultKind o_faultPlace o_lawNow o_walkSet o_oneWidow o_oneTurn o_askWorst o_mayWalk o_oftenAll o_oftenRoad o_oftenPegs), (b 1, .inl (cI, 149, .inl o_f1))] := hD
                          obtain ⟨v131, ev131⟩ : ∃ y : Int32, y = x100 + 1 := ⟨_, rfl⟩
                          have tv131 : v131.toInt = x100.toInt + 1 := ti_add rfl ki_1 ev131 (by omega) (by omega)
                          refine lv_iinc (v := v131) (lv' := [(6, .int v131), (5, .int x36), (4, .int v25), (3, .int x35), (2, .int x34), (0, .ref h0), (1, .int p0)]) hx hb dX10_walk_323 hl (k := 0) rfl (by rw [ev131]; rfl) (by decide) rfl (fun ls hl => ?_)
                          refine lv_goto (tgt := 284) hx hb dX10_walk_326 (by decide) ?_
                          exact ih105 v131 f129 (by omega) (by omega) hi130 (by omega) _ _ hP hD hS ls (lv_sub hl [0, 1, 2, 3, 4, 5, 6] rfl)
                exact lp98 81 0 o_f21 (by rw [ki_0]; decide) (by rw [ki_0]; decide) ha_o_f21 (by rw [ki_0]; decide) _ _ hP hD hS ls (lv_sub hl [0, 1, 2, 3, 4, 5, 6] rfl)
              · have c97 := i_ne rfl ki_0 c97
                refine lv_iload_n hx hb dX10_walk_97 rfl (lv_at hl 3 rfl) ?_
                refine lv_aload_n hx hb dX10_walk_98 rfl (lv_at hl 5 rfl) ?_
                refine lv_iload_n hx hb dX10_walk_99 rfl (lv_at hl 6 rfl) ?_
                refine lv_iload hx hb dX10_walk_100 (lv_at hl 0 rfl) ?_
                refine k_i (wc := [(h0, oX10 b o_thrown o_taped o_size o_at o_from o_token o_value o_faultKind o_faultPlace o_lawNow o_walkSet o_oneWidow o_oneTurn o_askWorst o_mayWalk o_oftenAll o_oftenRoad o_oftenPegs), (b 1, .inl (cI, 149, .inl o_f1))]) (wr := [(b 15, .inl (cZ, 80, .inl o_f15)), (b 16, .inl (cI, 7, .inl o_f16)), (b 21, .inl (cZ, 80, .inl o_f21)), (b 22, .inl (cZ, 80, .inl g4)), (b 23, .inl (cZ, 80, .inl g38)), (b 24, .inl (cI, 80, .inl g39)), (b 25, .inl (cI, 6, .inl o_f25)), (b 26, .inl (cI, 287, .inl g40)), (b 27, .inl (cI, 7, .inl g41)), (b 28, .inl (cI, 7, .inl o_f28)), (b 29, .inl (cI, 6, .inl o_f29))]) hP hD hS hA [11, 12] [0, 1, 2, 3, 4, 5, 6, 7, 8, 9, 10] rfl rfl rfl (by decide) (va_runV (As := [.int p0, .int x37]) (rest := [.int x35]) ⟨hx, hb, hml, hown, hts⟩ (f_X10_turnAt l G cI cJ cZ cB cQ _ h0 p0 a0 x37 x37.toInt b o_thrown o_taped o_size o_at o_from o_token o_value o_faultKind o_faultPlace o_lawNow o_walkSet o_oneWidow o_oneTurn o_askWorst o_mayWalk o_oftenAll o_oftenRoad o_oftenPegs o_f1 hp0 (by omega) (by omega) rfl (by omega) (by omega) hl_o_taped hh_o_taped hl_o_size hh_o_size hl_o_at hh_o_at hl_o_from hh_o_from hl_o_oneTurn hh_o_oneTurn ha_o_f1) (cwV 2 hts (gV w_1516 w_1518 wp_112 w_11 w_1519) rfl rfl rfl ⟨rfl, hd_X10_turnAt⟩ ⟨Nat.le_of_ble_eq_true rfl, Nat.le_of_ble_eq_true rfl⟩) (mV hK hZ hP hD [11, 12] rfl rfl [.int p0, .int x37] 11 10 rfl rfl) rfl rfl hl.1 rfl (lv_room (Nat.le_of_ble_eq_true rfl)) dX10_walk_102 ⟨Nat.le_of_ble_eq_true rfl, Nat.le_of_ble_eq_true rfl⟩) (fun r132 u133 H locs hw134 hP hD hS => ?_)
                try dsimp only at hw134
                have hP : va_P G vwCl [(b 15, .inl (cZ, 80, .inl o_f15)), (b 16, .inl (cI, 7, .inl o_f16)), (b 21, .inl (cZ, 80, .inl o_f21)), (b 22, .inl (cZ, 80, .inl g4)), (b 23, .inl (cZ, 80, .inl g38)), (b 24, .inl (cI, 80, .inl g39)), (b 25, .inl (cI, 6, .inl o_f25)), (b 26, .inl (cI, 287, .inl g40)), (b 27, .inl (cI, 7, .inl g41)), (b 28, .inl (cI, 7, .inl o_f28)), (b 29, .inl (cI, 6, .inl o_f29)), (h0, oX10 b o_thrown o_taped o_size o_at o_from o_token o_value o_faultKind o_faultPlace o_lawNow o_walkSet o_oneWidow o_oneTurn o_askWorst o_mayWalk o_oftenAll o_oftenRoad o_oftenPegs), (b 1, .inl (cI, 149, .inl o_f1))] H := hP
                have hD : va_D A [(b 15, .inl (cZ, 80, .inl o_f15)), (b 16, .inl (cI, 7, .inl o_f16)), (b 21, .inl (cZ, 80, .inl o_f21)), (b 22, .inl (cZ, 80, .inl g4)), (b 23, .inl (cZ, 80, .inl g38)), (b 24, .inl (cI, 80, .inl g39)), (b 25, .inl (cI, 6, .inl o_f25)), (b 26, .inl (cI, 287, .inl g40)), (b 27, .inl (cI, 7, .inl g41)), (b 28, .inl (cI, 7, .inl o_f28)), (b 29, .inl (cI, 6, .inl o_f29)), (h0, oX10 b o_thrown o_taped o_size o_at o_from o_token o_value o_faultKind o_faultPlace o_lawNow o_walkSet o_oneWidow o_oneTurn o_askWorst o_mayWalk o_oftenAll o_oftenRoad o_oftenPegs), (b 1, .inl (cI, 149, .inl o_f1))] := hD
                obtain ⟨w135, w136⟩ : 0 ≤ r132.toInt ∧ r132.toInt ≤ 4 := hw134
                refine lv_iadd hx hb dX10_walk_105 ?_
                refine lv_topi (fun v137 ev137 => ?_)
                have tv137 : v137.toInt = x35.toInt + r132.toInt := ti_add rfl rfl ev137 (by omega) (by omega)
                refine lv_iconst (v := 4) hx hb dX10_walk_106 (by decide) ?_
                refine lv_irem hx hb dX10_walk_107 (by decide) ?_
                refine lv_topi (fun v138 ev138 => ?_)
                have tv138 : v138.toInt = (x35.toInt + r132.toInt) % 4 := ti_rem tv137 (by omega) (by decide) ki_4 ev138
                refine lv_istore_n (lv' := [(3, .int v138), (6, .int x37), (5, .int x36), (4, .int v25), (2, .int x34), (0, .ref h0), (1, .int p0)]) hx hb dX10_walk_108 rfl hl (by decide) rfl (fun ls hl => ?_)
                refine lv_aload_n hx hb dX10_walk_109 rfl (lv_at hl 5 rfl) ?_
                refine lv_iload_n hx hb dX10_walk_110 rfl (lv_at hl 4 rfl) ?_
                refine lv_aload_n hx hb dX10_walk_111 rfl (lv_at hl 5 rfl) ?_
                refine va_get (D := G) (ci := 10) (v := .int o_lawNow) (C := RX10) (T := TX10) (N := 46) hx hb hts iG_X10 hown hK hP 11 rfl rfl 17 (by decide) (hts _ w_1209) (fun _ h9 => h9) rfl dX10_walk_112 ?_
                refine k_i (wc := [(h0, oX10 b o_thrown o_taped o_size o_at o_from o_token o_value o_faultKind o_faultPlace o_lawNow o_walkSet o_oneWidow o_oneTurn o_askWorst o_mayWalk o_oftenAll o_oftenRoad o_oftenPegs), (b 1, .inl (cI, 149, .inl o_f1)), (b 15, .inl (cZ, 80, .inl o_f15)), (b 22, .inl (cZ, 80, .inl g4)), (b 23, .inl (cZ, 80, .inl g38))]) (wr := [(b 16, .inl (cI, 7, .inl o_f16)), (b 21, .inl (cZ, 80, .inl o_f21)), (b 24, .inl (cI, 80, .inl g39)), (b 25, .inl (cI, 6, .inl o_f25)), (b 26, .inl (cI, 287, .inl g40)), (b 27, .inl (cI, 7, .inl g41)), (b 28, .inl (cI, 7, .inl o_f28)), (b 29, .inl (cI, 6, .inl o_f29))]) hP hD hS hA [11, 12, 0, 3, 4] [1, 2, 5, 6, 7, 8, 9, 10] rfl rfl rfl (by decide) (va_runV (As := [.int x34, .int o_lawNow]) (rest := []) ⟨hx, hb, hml, hown, hts⟩ (f_X10_isAnyFree l G cI cJ cZ cB cQ _ h0 x34 x34.toInt o_lawNow o_lawNow.toInt b o_thrown o_taped o_size o_at o_from o_token o_value o_faultKind o_faultPlace o_lawNow o_walkSet o_oneWidow o_oneTurn o_askWorst o_mayWalk o_oftenAll o_oftenRoad o_oftenPegs o_f1 o_f15 g4 g38 rfl (by omega) (by omega) rfl hl_o_taped hh_o_taped hl_o_size hh_o_size hl_o_at hh_o_at hl_o_from hh_o_from hl_o_oneTurn hh_o_oneTurn ha_o_f1 ha_o_f15 k8 k50) (cwV 2 hts (gV w_1520 w_1522 wp_113 w_11 w_1523) rfl rfl rfl ⟨rfl, hd_X10_isAnyFree⟩ ⟨Nat.le_of_ble_eq_true rfl, Nat.le_of_ble_eq_true rfl⟩) (mV hK hZ hP hD [11, 12, 0, 3, 4] rfl rfl [.int x34, .int o_lawNow] 11 10 rfl rfl) rfl rfl hl.1 rfl (lv_room (Nat.le_of_ble_eq_true rfl)) dX10_walk_115 ⟨Nat.le_of_ble_eq_true rfl, Nat.le_of_ble_eq_true rfl⟩) (fun r139 u140 H locs hw141 hP hD hS => ?_)
                try dsimp only at hw141
                have hP : va_P G vwCl [(b 16, .inl (cI, 7, .inl o_f16)), (b 21, .inl (cZ, 80, .inl o_f21)), (b 24, .inl (cI, 80, .inl g39)), (b 25, .inl (cI, 6, .inl o_f25)), (b 26, .inl (cI, 287, .inl g40)), (b 27, .inl (cI, 7, .inl g41)), (b 28, .inl (cI, 7, .inl o_f28)), (b 29, .inl (cI, 6, .inl o_f29)), (h0, oX10 b o_thrown o_taped o_size o_at o_from o_token o_value o_faultKind o_faultPlace o_lawNow o_walkSet o_oneWidow o_oneTurn o_askWorst o_mayWalk o_oftenAll o_oftenRoad o_oftenPegs), (b 1, .inl (cI, 149, .inl o_f1)), (b 15, .inl (cZ, 80, .inl o_f15)), (b 22, .inl (cZ, 80, .inl g4)), (b 23, .inl (cZ, 80, .inl g38))] H := hP
                have hD : va_D A [(b 16, .inl (cI, 7, .inl o_f16)), (b 21, .inl (cZ, 80, .inl o_f21)), (b 24, .inl (cI, 80, .inl g39)), (b 25, .inl (cI, 6, .inl o_f25)), (b 26, .inl (cI, 287, .inl g40)), (b 27, .inl (cI, 7, .inl g41)), (b 28, .inl (cI, 7, .inl o_f28)), (b 29, .inl (cI, 6, .inl o_f29)), (h0, oX10 b o_thrown o_taped o_size o_at o_from o_token o_value o_faultKind o_faultPlace o_lawNow o_walkSet o_oneWidow o_oneTurn o_askWorst o_mayWalk o_oftenAll o_oftenRoad o_oftenPegs), (b 1, .inl (cI, 149, .inl o_f1)), (b 15, .inl (cZ, 80, .inl o_f15)), (b 22, .inl (cZ, 80, .inl g4)), (b 23, .inl (cZ, 80, .inl g38))] := hD
                obtain ⟨w142, w143⟩ : 0 ≤ r139.toInt ∧ r139.toInt ≤ 1 := hw141
                refine lv_if_eq (tgt := 128) hx hb dX10_walk_118 (by decide) (fun c144 => ?_) (fun c144 => ?_)
                · have c144 := i_eq rfl ki_0 c144
                  refine lv_iconst (v := 0) hx hb dX10_walk_128 (by decide) ?_
                  refine lv_istore (lv' := [(7, .int 0), (3, .int v138), (6, .int x37), (5, .int x36), (4, .int v25), (2, .int x34), (0, .ref h0), (1, .int p0)]) hx hb dX10_walk_129 hl (by decide) rfl (fun ls hl => ?_)
                  refine lv_iconst (v := 0) hx hb dX10_walk_131 (by decide) ?_
                  refine lv_istore (lv' := [(8, .int 0), (7, .int 0), (3, .int v138), (6, .int x37), (5, .int x36), (4, .int v25), (2, .int x34), (0, .ref h0), (1, .int p0)]) hx hb dX10_walk_132 hl (by decide) rfl (fun ls hl => ?_)
                  have lp145 : ∀ (n146 : Nat) (x147 : Int32), 0 ≤ x147.toInt → x147.toInt ≤ 4 → 4 - x147.toInt < (n146 : Int) → ∀ (H : Heap) (locs : List Loc), va_P G vwCl [(b 16, .inl (cI, 7, .inl o_f16)), (b 21, .inl (cZ, 80, .inl o_f21)), (b 24, .inl (cI, 80, .inl g39)), (b 25, .inl (cI, 6, .inl o_f25)), (b 26, .inl (cI, 287, .inl g40)), (b 27, .inl (cI, 7, .inl g41)), (b 28, .inl (cI, 7, .inl o_f28)), (b 29, .inl (cI, 6, .inl o_f29)), (h0, oX10 b o_thrown o_taped o_size o_at o_from o_token o_value o_faultKind o_faultPlace o_lawNow o_walkSet o_oneWidow o_oneTurn o_askWorst o_mayWalk o_oftenAll o_oftenRoad o_oftenPegs), (b 1, .inl (cI, 149, .inl o_f1)), (b 15, .inl (cZ, 80, .inl o_f15)), (b 22, .inl (cZ, 80, .inl g4)), (b 23, .inl (cZ, 80, .inl g38))] H → va_D A [(b 16, .inl (cI, 7, .inl o_f16)), (b 21, .inl (cZ, 80, .inl o_f21)), (b 24, .inl (cI, 80, .inl g39)), (b 25, .inl (cI, 6, .inl o_f25)), (b 26, .inl (cI, 287, .inl g40)), (b 27, .inl (cI, 7, .inl g41)), (b 28, .inl (cI, 7, .inl o_f28)), (b 29, .inl (cI, 6, .inl o_f29)), (h0, oX10 b o_thrown o_taped o_size o_at o_from o_token o_value o_faultKind o_faultPlace o_lawNow o_walkSet o_oneWidow o_oneTurn o_askWorst o_mayWalk o_oftenAll o_oftenRoad o_oftenPegs), (b 1, .inl (cI, 149, .inl o_f1)), (b 15, .inl (cZ, 80, .inl o_f15)), (b 22, .inl (cZ, 80, .inl g4)), (b 23, .inl (cZ, 80, .inl g38))] → va_S A s.heap H locs → ∀ (ls : Array Slot), lv_has ls 10 [(8, .int x147), (7, .int 0), (3, .int v138), (6, .int x37), (5, .int x36), (4, .int v25), (2, .int x34), (0, .ref h0), (1, .int p0)] → W p l e ({ frames := 4, cells := 0, slots := 0, locals := 90 } : Room) s m ([.ref h0, .int p0] : List Value).toArray below meth c H locs 0 0 Q (F0 m 134 ls []) := by
                    intro n146
                    induction n146 with
                    | zero =>
                      intro x147 k148 k149 mm151
                      exact absurd mm151 (by have q9 := fb_rng x147; omega)
                    | succ n146 ih150 =>
                      intro x147 k148 k149 mm151 H locs hP hD hS ls hl
                      refine lv_iload hx hb dX10_walk_134 (lv_at hl 0 rfl) ?_
                      refine lv_iconst (v := 4) hx hb dX10_walk_136 (by decide) ?_
                      refine lv_icmp_ge (tgt := 166) hx hb dX10_walk_137 (by decide) (fun c152 => ?_) (fun c152 => ?_)
                      · have c152 := i_le ki_4 rfl c152
                        refine lv_iload hx hb dX10_walk_166 (lv_at hl 0 rfl) ?_
                        refine lv_iconst (v := 4) hx hb dX10_walk_168 (by decide) ?_
                        refine lv_icmp_ge (tgt := 250) hx hb dX10_walk_169 (by decide) (fun c153 => ?_) (fun c153 => absurd (i_nle ki_4 rfl c153) (by omega))
                        have c153 := i_le ki_4 rfl c153
                        refine lv_aload_n hx hb dX10_walk_250 rfl (lv_at hl 7 rfl) ?_
                        refine va_get (D := G) (ci := 10) (v := .ref (b 27)) (C := RX10) (T := TX10) (N := 46) hx hb hts iG_X10 hown hK hP 8 rfl rfl 27 (by decide) (hts _ w_1219) (fun _ h9 => h9) rfl dX10_walk_251 ?_
                        refine lv_iload_n hx hb dX10_walk_254 rfl (lv_at hl 8 rfl) ?_
                        refine lv_dup2_11 hx hb dX10_walk_255 rfl rfl ?_
                        refine va_iald hx hb hK hP 5 0 rfl rfl (ix_in hp0 (by omega) (by omega)) dX10_walk_256 ?_
                        refine lv_topi (fun v154 ev154 => ?_)
                        obtain ⟨ia155, ib156⟩ := ai_get k53 hp0 (by omega) (by omega) ev154
                        have lkv154 : v154.toInt = (g41 p0.toNatClampNeg).toInt := by rw [ev154]
                        refine lv_iconst (v := 1) hx hb dX10_walk_257 (by decide) ?_
                        refine lv_iadd hx hb dX10_walk_258 ?_
                        refine lv_topi (fun v157 ev157 => ?_)
                        have tv157 : v157.toInt = v154.toInt + 1 := ti_add rfl ki_1 ev157 (by omega) (by omega)
                        refine va_iast hx hb hK hP hD hS 5 0 rfl rfl (ix_in hp0 (by omega) (by omega)) dX10_walk_259 (fun H locs hP hD hS => ?_)
                        obtain ⟨f158, qf158⟩ : ∃ g, g = upd g41 p0.toNatClampNeg v157 := ⟨_, rfl⟩
                        rw [← qf158] at hP hD
                        have hi159 : ai f158 7 (-1) 40 := by rw [qf158]; exact ai_put k53 tv157 (by omega) (by omega)
                        have ksf158 : (f158 p0.toNatClampNeg).toInt = v154.toInt + 1 := by rw [qf158, pk_us]; exact tv157
                        have hP : va_P G vwCl [(b 16, .inl (cI, 7, .inl o_f16)), (b 21, .inl (cZ, 80, .inl o_f21)), (b 24, .inl (cI, 80, .inl g39)), (b 25, .inl (cI, 6, .inl o_f25)), (b 26, .inl (cI, 287, .inl g40)), (b 27, .inl (cI, 7, .inl f158)), (b 28, .inl (cI, 7, .inl o_f28)), (b 29, .inl (cI, 6, .inl o_f29)), (h0, oX10 b o_thrown o_taped o_size o_at o_from o_token o_value o_faultKind o_faultPlace o_lawNow o_walkSet o_oneWidow o_oneTurn o_askWorst o_mayWalk o_oftenAll o_oftenRoad o_oftenPegs), (b 1, .inl (cI, 149, .inl o_f1)), (b 15, .inl (cZ, 80, .inl o_f15)), (b 22, .inl (cZ, 80, .inl g4)), (b 23, .inl (cZ, 80, .inl g38))] H := hP
                        have hD : va_D A [(b 16, .inl (cI, 7, .inl o_f16)), (b 21, .inl (cZ, 80, .inl o_f21)), (b 24, .inl (cI, 80, .inl g39)), (b 25, .inl (cI, 6, .inl o_f25)), (b 26, .inl (cI, 287, .inl g40)), (b 27, .inl (cI, 7, .inl f158)), (b 28, .inl (cI, 7, .inl o_f28)), (b 29, .inl (cI, 6, .inl o_f29)), (h0, oX10 b o_thrown o_taped o_size o_at o_from o_token o_value o_faultKind o_faultPlace o_lawNow o_walkSet o_oneWidow o_oneTurn o_askWorst o_mayWalk o_oftenAll o_oftenRoad o_oftenPegs), (b 1, .inl (cI, 149, .inl o_f1)), (b 15, .inl (cZ, 80, .inl o_f15)), (b 22, .inl (cZ, 80, .inl g4)), (b 23, .inl (cZ, 80, .inl g38))] := hD
                        refine lv_aload_n hx hb dX10_walk_260 rfl (lv_at hl 7 rfl) ?_
                        refine va_get (D := G) (ci := 10) (v := .ref (b 26)) (C := RX10) (T := TX10) (N := 46) hx hb hts iG_X10 hown hK hP 8 rfl rfl 26 (by decide) (hts _ w_1218) (fun _ h9 => h9) rfl dX10_walk_261 ?_
                        refine lv_iload hx hb dX10_walk_264 (lv_at hl 5 rfl) ?_
                        refine lv_aload_n hx hb dX10_walk_266 rfl (lv_at hl 7 rfl) ?_
                        refine va_get (D := G) (ci := 10) (v := .ref (b 27)) (C := RX10) (T := TX10) (N := 46) hx hb hts iG_X10 hown hK hP 8 rfl rfl 27 (by decide) (hts _ w_1219) (fun _ h9 => h9) rfl dX10_walk_267 ?_
                        refine lv_iload_n hx hb dX10_walk_270 rfl (lv_at hl 8 rfl) ?_
                        refine va_iald hx hb hK hP 5 0 rfl rfl (ix_in hp0 (by omega) (by omega)) dX10_walk_271 ?_
                        refine lv_topi (fun v160 ev160 => ?_)
                        obtain ⟨ia161, ib162⟩ := ai_get hi159 hp0 (by omega) (by omega) ev160
                        have lkv160 : v160.toInt = (f158 p0.toNatClampNeg).toInt := by rw [ev160]
                        refine lv_iadd hx hb dX10_walk_272 ?_
                        refine lv_topi (fun v163 ev163 => ?_)
                        have tv163 : v163.toInt = 41 * a0 + v160.toInt := ti_add tv25 rfl ev163 (by omega) (by omega)
                        refine lv_iload_n hx hb dX10_walk_273 rfl (lv_at hl 6 rfl) ?_
                        refine va_iast hx hb hK hP hD hS 4 0 rfl rfl (ix_in tv163 (by omega) (by omega)) dX10_walk_274 (fun H locs hP hD hS => ?_)
                        obtain ⟨f164, qf164⟩ : ∃ g, g = upd g40 v163.toNatClampNeg x34 := ⟨_, rfl⟩
                        rw [← qf164] at hP hD
                        have hi165 : ai f164 287 0 77 := by rw [qf164]; exact ai_put k52 rfl k42 k43
                        have hP : va_P G vwCl [(b 16, .inl (cI, 7, .inl o_f16)), (b 21, .inl (cZ, 80, .inl o_f21)), (b 24, .inl (cI, 80, .inl g39)), (b 25, .inl (cI, 6, .inl o_f25)), (b 26, .inl (cI, 287, .inl f164)), (b 27, .inl (cI, 7, .inl f158)), (b 28, .inl (cI, 7, .inl o_f28)), (b 29, .inl (cI, 6, .inl o_f29)), (h0, oX10 b o_thrown o_taped o_size o_at o_from o_token o_value o_faultKind o_faultPlace o_lawNow o_walkSet o_oneWidow o_oneTurn o_askWorst o_mayWalk o_oftenAll o_oftenRoad o_oftenPegs), (b 1, .inl (cI, 149, .inl o_f1)), (b 15, .inl (cZ, 80, .inl o_f15)), (b 22, .inl (cZ, 80, .inl g4)), (b 23, .inl (cZ, 80, .inl g38))] H := hP
                        have hD : va_D A [(b 16, .inl (cI, 7, .inl o_f16)), (b 21, .inl (cZ, 80, .inl o_f21)), (b 24, .inl (cI, 80, .inl g39)), (b 25, .inl (cI, 6, .inl o_f25)), (b 26, .inl (cI, 287, .inl f164)), (b 27, .inl (cI, 7, .inl f158)), (b 28, .inl (cI, 7, .inl o_f28)), (b 29, .inl (cI, 6, .inl o_f29)), (h0, oX10 b o_thrown o_taped o_size o_at o_from o_token o_value o_faultKind o_faultPlace o_lawNow o_walkSet o_oneWidow o_oneTurn o_askWorst o_mayWalk o_oftenAll o_oftenRoad o_oftenPegs), (b 1, .inl (cI, 149, .inl o_f1)), (b 15, .inl (cZ, 80, .inl o_f15)), (b 22, .inl (cZ, 80, .inl g4)), (b 23, .inl (cZ, 80, .inl g38))] := hD
                        obtain ⟨v166, ev166⟩ : ∃ y : Int32, y = x37 + 1 := ⟨_, rfl⟩
                        have tv166 : v166.toInt = x37.toInt + 1 := ti_add rfl ki_1 ev166 (by omega) (by omega)
                        refine lv_iinc (v := v166) (lv' := [(6, .int v166), (8, .int x147), (7, .int 0), (3, .int v138), (5, .int x36), (4, .int v25), (2, .int x34), (0, .ref h0), (1, .int p0)]) hx hb dX10_walk_275 hl (k := 3) rfl (by rw [ev166]; rfl) (by decide) rfl (fun ls hl => ?_)
                        refine lv_goto (tgt := 81) hx hb dX10_walk_278 (by decide) ?_
                        exact ih54 x34 v138 x36 v166 g38 g39 f164 f158 k42 k43 (by omega) (by omega) (by omega) k47 (by omega) (by omega) k50 k51 hi165 hi159 (by omega) (by omega) (by omega) (by omega) _ _ (hP.sub (ws' := [(b 15, .inl (cZ, 80, .inl o_f15)), (b 16, .inl (cI, 7, .inl o_f16)), (b 21, .inl (cZ, 80, .inl o_f21)), (b 22, .inl (cZ, 80, .inl g4)), (b 23, .inl (cZ, 80, .inl g38)), (b 24, .inl (cI, 80, .inl g39)), (b 25, .inl (cI, 6, .inl o_f25)), (b 26, .inl (cI, 287, .inl f164)), (b 27, .inl (cI, 7, .inl f158)), (b 28, .inl (cI, 7, .inl o_f28)), (b 29, .inl (cI, 6, .inl o_f29)), (h0, oX10 b o_thrown o_taped o_size o_at o_from o_token o_value o_faultKind o_faultPlace o_lawNow o_walkSet o_oneWidow o_oneTurn o_askWorst o_mayWalk o_oftenAll o_oftenRoad o_oftenPegs), (b 1, .inl (cI, 149, .inl o_f1))]) [10, 0, 1, 11, 12, 2, 3, 4, 5, 6, 7, 8, 9] rfl) (hD.sub (ws' := [(b 15, .inl (cZ, 80, .inl o_f15)), (b 16, .inl (cI, 7, .inl o_f16)), (b 21, .inl (cZ, 80, .inl o_f21)), (b 22, .inl (cZ, 80, .inl g4)), (b 23, .inl (cZ, 80, .inl g38)), (b 24, .inl (cI, 80, .inl g39)), (b 25, .inl (cI, 6, .inl o_f25)), (b 26, .inl (cI, 287, .inl f164)), (b 27, .inl (cI, 7, .inl f158)), (b 28, .inl (cI, 7, .inl o_f28)), (b 29, .inl (cI, 6, .inl o_f29)), (h0, oX10 b o_thrown o_taped o_size o_at o_from o_token o_value o_faultKind o_faultPlace o_lawNow o_walkSet o_oneWidow o_oneTurn o_askWorst o_mayWalk o_oftenAll o_oftenRoad o_oftenPegs), (b 1, .inl (cI, 149, .inl o_f1))]) [10, 0, 1, 11, 12, 2, 3, 4, 5, 6, 7, 8, 9] rfl rfl) hS ls (lv_sub hl [0, 4, 5, 3, 6, 7, 8] rfl)
                      · have c152 := i_nle ki_4 rfl c152
                        refine lv_aload_n hx hb dX10_walk_140 rfl (lv_at hl 7 rfl) ?_
                        refine lv_aload_n hx hb dX10_walk_141 rfl (lv_at hl 7 rfl) ?_
                        refine lv_iload_n hx hb dX10_walk_142 rfl (lv_at hl 6 rfl) ?_
                        refine lv_iload_n hx hb dX10_walk_143 rfl (lv_at hl 2 rfl) ?_
                        refine lv_iload hx hb dX10_walk_144 (lv_at hl 0 rfl) ?_
                        refine lv_iadd hx hb dX10_walk_146 ?_
                        refine lv_topi (fun v167 ev167 => ?_)
                        have tv167 : v167.toInt = (x35.toInt + r132.toInt) % 4 + x147.toInt := ti_add tv138 rfl ev167 (by omega) (by omega)
                        refine lv_iconst (v := 4) hx hb dX10_walk_147 (by decide) ?_
                        refine lv_irem hx hb dX10_walk_148 (by decide) ?_
                        refine lv_topi (fun v168 ev168 => ?_)
                        have tv168 : v168.toInt = ((x35.toInt + r132.toInt) % 4 + x147.toInt) % 4 := ti_rem tv167 (by omega) (by decide) ki_4 ev168
                        refine k_i (wc := [(h0, oX10 b o_thrown o_taped o_size o_at o_from o_token o_value o_faultKind o_faultPlace o_lawNow o_walkSet o_oneWidow o_oneTurn o_askWorst o_mayWalk o_oftenAll o_oftenRoad o_oftenPegs), (b 1, .inl (cI, 149, .inl o_f1))]) (wr := [(b 16, .inl (cI, 7, .inl o_f16)), (b 21, .inl (cZ, 80, .inl o_f21)), (b 24, .inl (cI, 80, .inl g39)), (b 25, .inl (cI, 6, .inl o_f25)), (b 26, .inl (cI, 287, .inl g40)), (b 27, .inl (cI, 7, .inl g41)), (b 28, .inl (cI, 7, .inl o_f28)), (b 29, .inl (cI, 6, .inl o_f29)), (b 15, .inl (cZ, 80, .inl o_f15)), (b 22, .inl (cZ, 80, .inl g4)), (b 23, .inl (cZ, 80, .inl g38))]) hP hD hS hA [8, 9] [0, 1, 2, 3, 4, 5, 6, 7, 10, 11, 12] rfl rfl rfl (by decide) (va_runV (As := [.int x34, .int v168]) (rest := [.ref h0]) ⟨hx, hb, hml, hown, hts⟩ (f_X10_beside l G cI cJ cZ cB cQ _ h0 x34 x34.toInt v168 (((x35.toInt + r132.toInt) % 4 + x147.toInt) % 4) b o_thrown o_taped o_size o_at o_from o_token o_value o_faultKind o_faultPlace o_lawNow o_walkSet o_oneWidow o_oneTurn o_askWorst o_mayWalk o_oftenAll o_oftenRoad o_oftenPegs o_f1 rfl (by omega) (by omega) tv168 hl_o_taped hh_o_taped hl_o_size hh_o_size hl_o_at hh_o_at hl_o_from hh_o_from hl_o_oneTurn hh_o_oneTurn ha_o_f1) (cwV 2 hts (gV w_1524 w_1526 wp_114 w_11 w_1527) rfl rfl rfl ⟨rfl, hd_X10_beside⟩ ⟨Nat.le_of_ble_eq_true rfl, Nat.le_of_ble_eq_true rfl⟩) (mV hK hZ hP hD [8, 9] rfl rfl [.int x34, .int v168] 8 10 rfl rfl) rfl rfl hl.1 rfl (lv_room (Nat.le_of_ble_eq_true rfl)) dX10_walk_149 ⟨Nat.le_of_ble_eq_true rfl, Nat.le_of_ble_eq_true rfl⟩) (fun r169 u170 H locs hw171 hP hD hS => ?_)
                        try dsimp only at hw171
                        have hP : va_P G vwCl [(b 16, .inl (cI, 7, .inl o_f16)), (b 21, .inl (cZ, 80, .inl o_f21)), (b 24, .inl (cI, 80, .inl g39)), (b 25, .inl (cI, 6, .inl o_f25)), (b 26, .inl (cI, 287, .inl g40)), (b 27, .inl (cI, 7, .inl g41)), (b 28, .inl (cI, 7, .inl o_f28)), (b 29, .inl (cI, 6, .inl o_f29)), (b 15, .inl (cZ, 80, .inl o_f15)), (b 22, .inl (cZ, 80, .inl g4)), (b 23, .inl (cZ, 80, .inl g38)), (h0, oX10 b o_thrown o_taped o_size o_at o_from o_token o_value o_faultKind o_faultPlace o_lawNow o_walkSet o_oneWidow o_oneTurn o_askWorst o_mayWalk o_oftenAll o_oftenRoad o_oftenPegs), (b 1, .inl (cI, 149, .inl o_f1))] H := hP
                        have hD : va_D A [(b 16, .inl (cI, 7, .inl o_f16)), (b 21, .inl (cZ, 80, .inl o_f21)), (b 24, .inl (cI, 80, .inl g39)), (b 25, .inl (cI, 6, .inl o_f25)), (b 26, .inl (cI, 287, .inl g40)), (b 27, .inl (cI, 7, .inl g41)), (b 28, .inl (cI, 7, .inl o_f28)), (b 29, .inl (cI, 6, .inl o_f29)), (b 15, .inl (cZ, 80, .inl o_f15)), (b 22, .inl (cZ, 80, .inl g4)), (b 23, .inl (cZ, 80, .inl g38)), (h0, oX10 b o_thrown o_taped o_size o_at o_from o_token o_value o_faultKind o_faultPlace o_lawNow o_walkSet o_oneWidow o_oneTurn o_askWorst o_mayWalk o_oftenAll o_oftenRoad o_oftenPegs), (b 1, .inl (cI, 149, .inl o_f1))] := hD
                        obtain ⟨w172, w173, w174⟩ : (-1) ≤ r169.toInt ∧ r169.toInt ≤ 77 ∧ r169.toInt = bsd (o_f1 3).toInt (o_f1 4).toInt x34.toInt (((x35.toInt + r132.toInt) % 4 + x147.toInt) % 4) := hw171
                        refine lv_iload hx hb dX10_walk_152 (lv_at hl 1 rfl) ?_
                        refine k_i (wc := [(h0, oX10 b o_thrown o_taped o_size o_at o_from o_token o_value o_faultKind o_faultPlace o_lawNow o_walkSet o_oneWidow o_oneTurn o_askWorst o_mayWalk o_oftenAll o_oftenRoad o_oftenPegs), (b 15, .inl (cZ, 80, .inl o_f15)), (b 22, .inl (cZ, 80, .inl g4)), (b 23, .inl (cZ, 80, .inl g38))]) (wr := [(b 16, .inl (cI, 7, .inl o_f16)), (b 21, .inl (cZ, 80, .inl o_f21)), (b 24, .inl (cI, 80, .inl g39)), (b 25, .inl (cI, 6, .inl o_f25)), (b 26, .inl (cI, 287, .inl g40)), (b 27, .inl (cI, 7, .inl g41)), (b 28, .inl (cI, 7, .inl o_f28)), (b 29, .inl (cI, 6, .inl o_f29)), (b 1, .inl (cI, 149, .inl o_f1))]) hP hD hS hA [11, 8, 9, 10] [0, 1, 2, 3, 4, 5, 6, 7, 12] rfl rfl rfl (by decide) (va_runV (As := [.int r169, .int 0]) (rest := []) ⟨hx, hb, hml, hown, hts⟩ (f_X10_isFree l G cI cJ cZ cB cQ _ h0 r169 (bsd (o_f1 3).toInt (o_f1 4).toInt x34.toInt (((x35.toInt + r132.toInt) % 4 + x147.toInt) % 4)) 0 0 b o_thrown o_taped o_size o_at o_from o_token o_value o_faultKind o_faultPlace o_lawNow o_walkSet o_oneWidow o_oneTurn o_askWorst o_mayWalk o_oftenAll o_oftenRoad o_oftenPegs o_f15 g4 g38 w174 (by omega) (by omega) ki_0 hl_o_taped hh_o_taped hl_o_size hh_o_size hl_o_at hh_o_at hl_o_from hh_o_from hl_o_oneTurn hh_o_oneTurn ha_o_f15 k8 k50) (cwV 2 hts (gV w_1534 w_1536 wp_115 w_11 w_1537) rfl rfl rfl ⟨rfl, hd_X10_isFree⟩ ⟨Nat.le_of_ble_eq_true rfl, Nat.le_of_ble_eq_true rfl⟩) (mV hK hZ hP hD [11, 8, 9, 10] rfl rfl [.int r169, .int 0] 11 10 rfl rfl) rfl rfl hl.1 rfl (lv_room (Nat.le_of_ble_eq_true rfl)) dX10_walk_154 ⟨Nat.le_of_ble_eq_true rfl, Nat.le_of_ble_eq_true rfl⟩) (fun r175 u176 H locs hw177 hP hD hS => ?_)
                        try dsimp only at hw177
                        have hP : va_P G vwCl [(b 16, .inl (cI, 7, .inl o_f16)), (b 21, .inl (cZ, 80, .inl o_f21)), (b 24, .inl (cI, 80, .inl g39)), (b 25, .inl (cI, 6, .inl o_f25)), (b 26, .inl (cI, 287, .inl g40)), (b 27, .inl (cI, 7, .inl g41)), (b 28, .inl (cI, 7, .inl o_f28)), (b 29, .inl (cI, 6, .inl o_f29)), (b 1, .inl (cI, 149, .inl o_f1)), (h0, oX10 b o_thrown o_taped o_size o_at o_from o_token o_value o_faultKind o_faultPlace o_lawNow o_walkSet o_oneWidow o_oneTurn o_askWorst o_mayWalk o_oftenAll o_oftenRoad o_oftenPegs), (b 15, .inl (cZ, 80, .inl o_f15)), (b 22, .inl (cZ, 80, .inl g4)), (b 23, .inl (cZ, 80, .inl g38))] H := hP
                        have hD : va_D A [(b 16, .inl (cI, 7, .inl o_f16)), (b 21, .inl (cZ, 80, .inl o_f21)), (b 24, .inl (cI, 80, .inl g39)), (b 25, .inl (cI, 6, .inl o_f25)), (b 26, .inl (cI, 287, .inl g40)), (b 27, .inl (cI, 7, .inl g41)), (b 28, .inl (cI, 7, .inl o_f28)), (b 29, .inl (cI, 6, .inl o_f29)), (b 1, .inl (cI, 149, .inl o_f1)), (h0, oX10 b o_thrown o_taped o_size o_at o_from o_token o_value o_faultKind o_faultPlace o_lawNow o_walkSet o_oneWidow o_oneTurn o_askWorst o_mayWalk o_oftenAll o_oftenRoad o_oftenPegs), (b 15, .inl (cZ, 80, .inl o_f15)), (b 22, .inl (cZ, 80, .inl g4)), (b 23, .inl (cZ, 80, .inl g38))] := hD
                        rcases hw177 with ⟨rfl, a179⟩ | rfl
                        · skip
                          refine lv_if_ne (tgt := 166) hx hb dX10_walk_157 (by decide) (fun c180 => ?_) (fun c180 => absurd c180 (by decide))
                          refine lv_iload hx hb dX10_walk_166 (lv_at hl 0 rfl) ?_
                          refine lv_iconst (v := 4) hx hb dX10_walk_168 (by decide) ?_
                          refine lv_icmp_ge (tgt := 250) hx hb dX10_walk_169 (by decide) (fun c181 => absurd (i_le ki_4 rfl c181) (by omega)) (fun c181 => ?_)
                          have c181 := i_nle ki_4 rfl c181
                          refine lv_iload_n hx hb dX10_walk_172 rfl (lv_at hl 2 rfl) ?_
                          refine lv_iload hx hb dX10_walk_173 (lv_at hl 0 rfl) ?_
                          refine lv_iadd hx hb dX10_walk_175 ?_
                          refine lv_topi (fun v182 ev182 => ?_)
                          have tv182 : v182.toInt = (x35.toInt + r132.toInt) % 4 + x147.toInt := ti_add tv138 rfl ev182 (by omega) (by omega)
                          refine lv_iconst (v := 4) hx hb dX10_walk_176 (by decide) ?_
                          refine lv_irem hx hb dX10_walk_177 (by decide) ?_
                          refine lv_topi (fun v183 ev183 => ?_)
                          have tv183 : v183.toInt = ((x35.toInt + r132.toInt) % 4 + x147.toInt) % 4 := ti_rem tv182 (by omega) (by decide) ki_4 ev183
                          refine lv_istore_n (lv' := [(3, .int v183), (8, .int x147), (7, .int 0), (6, .int x37), (5, .int x36), (4, .int v25), (2, .int x34), (0, .ref h0), (1, .int p0)]) hx hb dX10_walk_178 rfl hl (by decide) rfl (fun ls hl => ?_)
                          refine lv_aload_n hx hb dX10_walk_179 rfl (lv_at hl 7 rfl) ?_
                          refine lv_iload_n hx hb dX10_walk_180 rfl (lv_at hl 6 rfl) ?_
                          refine lv_iload_n hx hb dX10_walk_181 rfl (lv_at hl 0 rfl) ?_
                          refine k_i (wc := [(h0, oX10 b o_thrown o_taped o_size o_at o_from o_token o_value o_faultKind o_faultPlace o_lawNow o_walkSet o_oneWidow o_oneTurn o_askWorst o_mayWalk o_oftenAll o_oftenRoad o_oftenPegs), (b 1, .inl (cI, 149, .inl o_f1))]) (wr := [(b 16, .inl (cI, 7, .inl o_f16)), (b 21, .inl (cZ, 80, .inl o_f21)), (b 24, .inl (cI, 80, .inl g39)), (b 25, .inl (cI, 6, .inl o_f25)), (b 26, .inl (cI, 287, .inl g40)), (b 27, .inl (cI, 7, .inl g41)), (b 28, .inl (cI, 7, .inl o_f28)), (b 29, .inl (cI, 6, .inl o_f29)), (b 15, .inl (cZ, 80, .inl o_f15)), (b 22, .inl (cZ, 80, .inl g4)), (b 23, .inl (cZ, 80, .inl g38))]) hP hD hS hA [9, 8] [0, 1, 2, 3, 4, 5, 6, 7, 10, 11, 12] rfl rfl rfl (by decide) (va_runV (As := [.int x34, .int v183]) (rest := []) ⟨hx, hb, hml, hown, hts⟩ (f_X10_beside l G cI cJ cZ cB cQ _ h0 x34 x34.toInt v183 (((x35.toInt + r132.toInt) % 4 + x147.toInt) % 4) b o_thrown o_taped o_size o_at o_from o_token o_value o_faultKind o_faultPlace o_lawNow o_walkSet o_oneWidow o_oneTurn o_askWorst o_mayWalk o_oftenAll o_oftenRoad o_oftenPegs o_f1 rfl (by omega) (by omega) tv183 hl_o_taped hh_o_taped hl_o_size hh_o_size hl_o_at hh_o_at hl_o_from hh_o_from hl_o_oneTurn hh_o_oneTurn ha_o_f1) (cwV 2 hts (gV w_1524 w_1526 wp_114 w_11 w_1527) rfl rfl rfl ⟨rfl, hd_X10_beside⟩ ⟨Nat.le_of_ble_eq_true rfl, Nat.le_of_ble_eq_true rfl⟩) (mV hK hZ hP hD [9, 8] rfl rfl [.int x34, .int v183] 9 10 rfl rfl) rfl rfl hl.1 rfl (lv_room (Nat.le_of_ble_eq_true rfl)) dX10_walk_182 ⟨Nat.le_of_ble_eq_true rfl, Nat.le_of_ble_eq_true rfl⟩) (fun r184 u185 H locs hw186 hP hD hS => ?_)
                          try dsimp only at hw186
                          have hP : va_P G vwCl [(b 16, .inl (cI, 7, .inl o_f16)), (b 21, .inl (cZ, 80, .inl o_f21)), (b 24, .inl (cI, 80, .inl g39)), (b 25, .inl (cI, 6, .inl o_f25)), (b 26, .inl (cI, 287, .inl g40)), (b 27, .inl (cI, 7, .inl g41)), (b 28, .inl (cI, 7, .inl o_f28)), (b 29, .inl (cI, 6, .inl o_f29)), (b 15, .inl (cZ, 80, .inl o_f15)), (b 22, .inl (cZ, 80, .inl g4)), (b 23, .inl (cZ, 80, .inl g38)), (h0, oX10 b o_thrown o_taped o_size o_at o_from o_token o_value o_faultKind o_faultPlace o_lawNow o_walkSet o_oneWidow o_oneTurn o_askWorst o_mayWalk o_oftenAll o_oftenRoad o_oftenPegs), (b 1, .inl (cI, 149, .inl o_f1))] H := hP
                          have hD : va_D A [(b 16, .inl (cI, 7, .inl o_f16)), (b 21, .inl (cZ, 80, .inl o_f21)), (b 24, .inl (cI, 80, .inl g39)), (b 25, .inl (cI, 6, .inl o_f25)), (b 26, .inl (cI, 287, .inl g40)), (b 27, .inl (cI, 7, .inl g41)), (b 28, .inl (cI, 7, .inl o_f28)), (b 29, .inl (cI, 6, .inl o_f29)), (b 15, .inl (cZ, 80, .inl o_f15)), (b 22, .inl (cZ, 80, .inl g4)), (b 23, .inl (cZ, 80, .inl g38)), (h0, oX10 b o_thrown o_taped o_size o_at o_from o_token o_value o_faultKind o_faultPlace o_lawNow o_walkSet o_oneWidow o_oneTurn o_askWorst o_mayWalk o_oftenAll o_oftenRoad o_oftenPegs), (b 1, .inl (cI, 149, .inl o_f1))] := hD
                          obtain ⟨w187, w188, w189⟩ : (-1) ≤ r184.toInt ∧ r184.toInt ≤ 77 ∧ r184.toInt = bsd (o_f1 3).toInt (o_f1 4).toInt x34.toInt (((x35.toInt + r132.toInt) % 4 + x147.toInt) % 4) := hw186
                          refine lv_istore (lv' := [(9, .int r184), (3, .int v183), (8, .int x147), (7, .int 0), (6, .int x37), (5, .int x36), (4, .int v25), (2, .int x34), (0, .ref h0), (1, .int p0)]) hx hb dX10_walk_185 hl (by decide) rfl (fun ls hl => ?_)
                          refine lv_aload_n hx hb dX10_walk_187 rfl (lv_at hl 8 rfl) ?_
                          refine va_get (D := G) (ci := 10) (v := .ref (b 24)) (C := RX10) (T := TX10) (N := 46) hx hb hts iG_X10 hown hK hP 11 rfl rfl 24 (by decide) (hts _ w_1216) (fun _ h9 => h9) rfl dX10_walk_188 ?_
                          refine lv_iload_n hx hb dX10_walk_191 rfl (lv_at hl 7 rfl) ?_
                          refine lv_dup2_11 hx hb dX10_walk_192 rfl rfl ?_
                          refine va_iald hx hb hK hP 2 0 rfl rfl (ix_in rfl (by omega) (by omega)) dX10_walk_193 ?_
                          refine lv_topi (fun v190 ev190 => ?_)
                          have lkv190 : v190.toInt = (g39 x34.toNatClampNeg).toInt := by rw [ev190]
                          refine lv_iconst (v := 1) hx hb dX10_walk_194 (by decide) ?_
                          refine lv_iload_n hx hb dX10_walk_195 rfl (lv_at hl 1 rfl) ?_
                          refine lv_ishl hx hb dX10_walk_196 ?_
                          refine lv_topi (fun v191 ev191 => ?_)
                          obtain ⟨sa192, sb193⟩ : 1 ≤ v191.toInt ∧ v191.toInt ≤ 8 := shl1 3 tv183 (by omega) (by omega) (by decide) ev191
                          refine lv_ior hx hb dX10_walk_197 ?_
                          refine lv_topi (fun v194 ev194 => ?_)
                          refine va_iast hx hb hK hP hD hS 2 0 rfl rfl (ix_in rfl (by omega) (by omega)) dX10_walk_198 (fun H locs hP hD hS => ?_)
                          obtain ⟨f195, qf195⟩ : ∃ g, g = upd g39 x34.toNatClampNeg v194 := ⟨_, rfl⟩
                          rw [← qf195] at hP hD
                          have okn : okp (o_f1 3).toInt (o_f1 4).toInt (x34.toInt) (((x35.toInt + r132.toInt) % 4 + x147.toInt) % 4) := ⟨by omega, by omega, by omega⟩
                          have hb195 : PG f195 80 (o_f1 3).toInt (o_f1 4).toInt := by rw [qf195]; exact PG_or k51 rfl (by omega) (by omega) ev190 ev191 ev194 tv183 (by omega) (by omega) okn
                          have hP : va_P G vwCl [(b 16, .inl (cI, 7, .inl o_f16)), (b 21, .inl (cZ, 80, .inl o_f21)), (b 24, .inl (cI, 80, .inl f195)), (b 25, .inl (cI, 6, .inl o_f25)), (b 26, .inl (cI, 287, .inl g40)), (b 27, .inl (cI, 7, .inl g41)), (b 28, .inl (cI, 7, .inl o_f28)), (b 29, .inl (cI, 6, .inl o_f29)), (b 15, .inl (cZ, 80, .inl o_f15)), (b 22, .inl (cZ, 80, .inl g4)), (b 23, .inl (cZ, 80, .inl g38)), (h0, oX10 b o_thrown o_taped o_size o_at o_from o_token o_value o_faultKind o_faultPlace o_lawNow o_walkSet o_oneWidow o_oneTurn o_askWorst o_mayWalk o_oftenAll o_oftenRoad o_oftenPegs), (b 1, .inl (cI, 149, .inl o_f1))] H := hP
                          have hD : va_D A [(b 16, .inl (cI, 7, .inl o_f16)), (b 21, .inl (cZ, 80, .inl o_f21)), (b 24, .inl (cI, 80, .inl f195)), (b 25, .inl (cI, 6, .inl o_f25)), (b 26, .inl (cI, 287, .inl g40)), (b 27, .inl (cI, 7, .inl g41)), (b 28, .inl (cI, 7, .inl o_f28)), (b 29, .inl (cI, 6, .inl o_f29)), (b 15, .inl (cZ, 80, .inl o_f15)), (b 22, .inl (cZ, 80, .inl g4)), (b 23, .inl (cZ, 80, .inl g38)), (h0, oX10 b o_thrown o_taped o_size o_at o_from o_token o_value o_faultKind o_faultPlace o_lawNow o_walkSet o_oneWidow o_oneTurn o_askWorst o_mayWalk o_oftenAll o_oftenRoad o_oftenPegs), (b 1, .inl (cI, 149, .inl o_f1))] := hD
                          refine lv_aload_n hx hb dX10_walk_199 rfl (lv_at hl 8 rfl) ?_
                          refine va_get (D := G) (ci := 10) (v := .ref (b 24)) (C := RX10) (T := TX10) (N := 46) hx hb hts iG_X10 hown hK hP 11 rfl rfl 24 (by decide) (hts _ w_1216) (fun _ h9 => h9) rfl dX10_walk_200 ?_
                          refine lv_iload hx hb dX10_walk_203 (lv_at hl 0 rfl) ?_
                          refine lv_dup2_11 hx hb dX10_walk_205 rfl rfl ?_
                          refine va_iald hx hb hK hP 2 0 rfl rfl (ix_in w189 (by omega) (by omega)) dX10_walk_206 ?_
                          refine lv_topi (fun v197 ev197 => ?_)
                          have lkv197 : v197.toInt = (f195 r184.toNatClampNeg).toInt := by rw [ev197]
                          refine lv_iconst (v := 1) hx hb dX10_walk_207 (by decide) ?_
                          refine lv_iload_n hx hb dX10_walk_208 rfl (lv_at hl 1 rfl) ?_
                          refine lv_iconst (v := 2) hx hb dX10_walk_209 (by decide) ?_
                          refine lv_iadd hx hb dX10_walk_210 ?_
                          refine lv_topi (fun v198 ev198 => ?_)
                          have tv198 : v198.toInt = ((x35.toInt + r132.toInt) % 4 + x147.toInt) % 4 + 2 := ti_add tv183 ki_2 ev198 (by omega) (by omega)
                          refine lv_iconst (v := 4) hx hb dX10_walk_211 (by decide) ?_
                          refine lv_irem hx hb dX10_walk_212 (by decide) ?_
                          refine lv_topi (fun v199 ev199 => ?_)
                          have tv199 : v199.toInt = (((x35.toInt + r132.toInt) % 4 + x147.toInt) % 4 + 2) % 4 := ti_rem tv198 (by omega) (by decide) ki_4 ev199
                          refine lv_ishl hx hb dX10_walk_213 ?_
                          refine lv_topi (fun v200 ev200 => ?_)
                          obtain ⟨sa201, sb202⟩ : 1 ≤ v200.toInt ∧ v200.toInt ≤ 8 := shl1 3 tv199 (by omega) (by omega) (by decide) ev200
                          refine lv_ior hx hb dX10_walk_214 ?_
                          refine lv_topi (fun v203 ev203 => ?_)
                          refine va_iast hx hb hK hP hD hS 2 0 rfl rfl (ix_in w189 (by omega) (by omega)) dX10_walk_215 (fun H locs hP hD hS => ?_)
                          obtain ⟨f204, qf204⟩ : ∃ g, g = upd f195 r184.toNatClampNeg v203 := ⟨_, rfl⟩
                          rw [← qf204] at hP hD
                          obtain ⟨okb, okt⟩ := okp_back (c := x34.toInt) (d := ((x35.toInt + r132.toInt) % 4 + x147.toInt) % 4) (t := bsd (o_f1 3).toInt (o_f1 4).toInt x34.toInt (((x35.toInt + r132.toInt) % 4 + x147.toInt) % 4)) (e := (((x35.toInt + r132.toInt) % 4 + x147.toInt) % 4 + 2) % 4) (by omega) (by omega) (by omega) okn rfl (by omega) rfl
                          obtain ⟨gr0, gr1, gr2⟩ := bsd_grid (wd := (o_f1 3).toInt) (hi := (o_f1 4).toInt) (c := x34.toInt) (d := ((x35.toInt + r132.toInt) % 4 + x147.toInt) % 4) (t := bsd (o_f1 3).toInt (o_f1 4).toInt x34.toInt (((x35.toInt + r132.toInt) % 4 + x147.toInt) % 4)) rfl (by omega) (by omega)
                          have hb204 : PG f204 80 (o_f1 3).toInt (o_f1 4).toInt := by rw [qf204]; exact PG_or hb195 w189 (by omega) (by omega) ev197 ev200 ev203 tv199 (by omega) (by omega) okb
                          have hP : va_P G vwCl [(b 16, .inl (cI, 7, .inl o_f16)), (b 21, .inl (cZ, 80, .inl o_f21)), (b 24, .inl (cI, 80, .inl f204)), (b 25, .inl (cI, 6, .inl o_f25)), (b 26, .inl (cI, 287, .inl g40)), (b 27, .inl (cI, 7, .inl g41)), (b 28, .inl (cI, 7, .inl o_f28)), (b 29, .inl (cI, 6, .inl o_f29)), (b 15, .inl (cZ, 80, .inl o_f15)), (b 22, .inl (cZ, 80, .inl g4)), (b 23, .inl (cZ, 80, .inl g38)), (h0, oX10 b o_thrown o_taped o_size o_at o_from o_token o_value o_faultKind o_faultPlace o_lawNow o_walkSet o_oneWidow o_oneTurn o_askWorst o_mayWalk o_oftenAll o_oftenRoad o_oftenPegs), (b 1, .inl (cI, 149, .inl o_f1))] H := hP
                          have hD : va_D A [(b 16, .inl (cI, 7, .inl o_f16)), (b 21, .inl (cZ, 80, .inl o_f21)), (b 24, .inl (cI, 80, .inl f204)), (b 25, .inl (cI, 6, .inl o_f25)), (b 26, .inl (cI, 287, .inl g40)), (b 27, .inl (cI, 7, .inl g41)), (b 28, .inl (cI, 7, .inl o_f28)), (b 29, .inl (cI, 6, .inl o_f29)), (b 15, .inl (cZ, 80, .inl o_f15)), (b 22, .inl (cZ, 80, .inl g4)), (b 23, .inl (cZ, 80, .inl g38)), (h0, oX10 b o_thrown o_taped o_size o_at o_from o_token o_value o_faultKind o_faultPlace o_lawNow o_walkSet o_oneWidow o_oneTurn o_askWorst o_mayWalk o_oftenAll o_oftenRoad o_oftenPegs), (b 1, .inl (cI, 149, .inl o_f1))] := hD
                          refine lv_iload hx hb dX10_walk_216 (lv_at hl 0 rfl) ?_
                          refine lv_istore_n (lv' := [(2, .int r184), (9, .int r184), (3, .int v183), (8, .int x147), (7, .int 0), (6, .int x37), (5, .int x36), (4, .int v25), (0, .ref h0), (1, .int p0)]) hx hb dX10_walk_218 rfl hl (by decide) rfl (fun ls hl => ?_)
                          refine lv_aload_n hx hb dX10_walk_219 rfl (lv_at hl 8 rfl) ?_
                          refine va_get (D := G) (ci := 10) (v := .ref (b 23)) (C := RX10) (T := TX10) (N := 46) hx hb hts iG_X10 hown hK hP 11 rfl rfl 23 (by decide) (hts _ w_1215) (fun _ h9 => h9) rfl dX10_walk_220 ?_
                          refine lv_iload_n hx hb dX10_walk_223 rfl (lv_at hl 0 rfl) ?_
                          refine lv_iconst (v := 1) hx hb dX10_walk_224 (by decide) ?_
                          refine va_zast hx hb hK hP hD hS 10 2 rfl rfl (ix_in w189 (by omega) (by omega)) dX10_walk_225 (fun H locs hP hD hS => ?_)
                          obtain ⟨f206, qf206⟩ : ∃ g, g = upd g38 r184.toNatClampNeg (vp_nar .boolean (1 : Int32)) := ⟨_, rfl⟩
                          rw [← qf206] at hP hD
                          have hi207 : ai f206 80 0 1 := by rw [qf206]; exact ai_putz k50
                          have hP : va_P G vwCl [(b 16, .inl (cI, 7, .inl o_f16)), (b 21, .inl (cZ, 80, .inl o_f21)), (b 24, .inl (cI, 80, .inl f204)), (b 25, .inl (cI, 6, .inl o_f25)), (b 26, .inl (cI, 287, .inl g40)), (b 27, .inl (cI, 7, .inl g41)), (b 28, .inl (cI, 7, .inl o_f28)), (b 29, .inl (cI, 6, .inl o_f29)), (b 15, .inl (cZ, 80, .inl o_f15)), (b 22, .inl (cZ, 80, .inl g4)), (b 23, .inl (cZ, 80, .inl f206)), (h0, oX10 b o_thrown o_taped o_size o_at o_from o_token o_value o_faultKind o_faultPlace o_lawNow o_walkSet o_oneWidow o_oneTurn o_askWorst o_mayWalk o_oftenAll o_oftenRoad o_oftenPegs), (b 1, .inl (cI, 149, .inl o_f1))] H := hP
                          have hD : va_D A [(b 16, .inl (cI, 7, .inl o_f16)), (b 21, .inl (cZ, 80, .inl o_f21)), (b 24, .inl (cI, 80, .inl f204)), (b 25, .inl (cI, 6, .inl o_f25)), (b 26, .inl (cI, 287, .inl g40)), (b 27, .inl (cI, 7, .inl g41)), (b 28, .inl (cI, 7, .inl o_f28)), (b 29, .inl (cI, 6, .inl o_f29)), (b 15, .inl (cZ, 80, .inl o_f15)), (b 22, .inl (cZ, 80, .inl g4)), (b 23, .inl (cZ, 80, .inl f206)), (h0, oX10 b o_thrown o_taped o_size o_at o_from o_token o_value o_faultKind o_faultPlace o_lawNow o_walkSet o_oneWidow o_oneTurn o_askWorst o_mayWalk o_oftenAll o_oftenRoad o_oftenPegs), (b 1, .inl (cI, 149, .inl o_f1))] := hD
                          refine lv_aload_n hx hb dX10_walk_226 rfl (lv_at hl 8 rfl) ?_
                          refine va_get (D := G) (ci := 10) (v := .int o_lawNow) (C := RX10) (T := TX10) (N := 46) hx hb hts iG_X10 hown hK hP 11 rfl rfl 17 (by decide) (hts _ w_1209) (fun _ h9 => h9) rfl dX10_walk_227 ?_
                          refine lv_iconst (v := 3) hx hb dX10_walk_230 (by decide) ?_
                          refine lv_icmp_ne (tgt := 243) hx hb dX10_walk_231 (by decide) (fun c208 => ?_) (fun c208 => ?_)
                          · have c208 := i_ne rfl ki_3 c208
                            refine lv_iconst (v := 1) hx hb dX10_walk_243 (by decide) ?_
                            refine lv_goto (tgt := 248) hx hb dX10_walk_244 (by decide) ?_
                            refine lv_istore (lv' := [(5, .int 1), (2, .int r184), (9, .int r184), (3, .int v183), (8, .int x147), (7, .int 0), (6, .int x37), (4, .int v25), (0, .ref h0), (1, .int p0)]) hx hb dX10_walk_248 hl (by decide) rfl (fun ls hl => ?_)
                            refine lv_aload_n hx hb dX10_walk_250 rfl (lv_at hl 8 rfl) ?_
                            refine va_get (D := G) (ci := 10) (v := .ref (b 27)) (C := RX10) (T := TX10) (N := 46) hx hb hts iG_X10 hown hK hP 11 rfl rfl 27 (by decide) (hts _ w_1219) (fun _ h9 => h9) rfl dX10_walk_251 ?_
                            refine lv_iload_n hx hb dX10_walk_254 rfl (lv_at hl 9 rfl) ?_
                            refine lv_dup2_11 hx hb dX10_walk_255 rfl rfl ?_
                            refine va_iald hx hb hK hP 5 0 rfl rfl (ix_in hp0 (by omega) (by omega)) dX10_walk_256 ?_
                            refine lv_topi (fun v209 ev209 => ?_)
                            obtain ⟨ia210, ib211⟩ := ai_get k53 hp0 (by omega) (by omega) ev209
                            have lkv209 : v209.toInt = (g41 p0.toNatClampNeg).toInt := by rw [ev209]
                            refine lv_iconst (v := 1) hx hb dX10_walk_257 (by decide) ?_
                            refine lv_iadd hx hb dX10_walk_258 ?_
                            refine lv_topi (fun v212 ev212 => ?_)
                            have tv212 : v212.toInt = v209.toInt + 1 := ti_add rfl ki_1 ev212 (by omega) (by omega)
                            refine va_iast hx hb hK hP hD hS 5 0 rfl rfl (ix_in hp0 (by omega) (by omega)) dX10_walk_259 (fun H locs hP hD hS => ?_)
                            obtain ⟨f213, qf213⟩ : ∃ g, g = upd g41 p0.toNatClampNeg v212 := ⟨_, rfl⟩
                            rw [← qf213] at hP hD
                            have hi214 : ai f213 7 (-1) 40 := by rw [qf213]; exact ai_put k53 tv212 (by omega) (by omega)
                            have ksf213 : (f213 p0.toNatClampNeg).toInt = v209.toInt + 1 := by rw [qf213, pk_us]; exact tv212
                            have hP : va_P G vwCl [(b 16, .inl (cI, 7, .inl o_f16)), (b 21, .inl (cZ, 80, .inl o_f21)), (b 24, .inl (cI, 80, .inl f204)), (b 25, .inl (cI, 6, .inl o_f25)), (b 26, .inl (cI, 287, .inl g40)), (b 27, .inl (cI, 7, .inl f213)), (b 28, .inl (cI, 7, .inl o_f28)), (b 29, .inl (cI, 6, .inl o_f29)), (b 15, .inl (cZ, 80, .inl o_f15)), (b 22, .inl (cZ, 80, .inl g4)), (b 23, .inl (cZ, 80, .inl f206)), (h0, oX10 b o_thrown o_taped o_size o_at o_from o_token o_value o_faultKind o_faultPlace o_lawNow o_walkSet o_oneWidow o_oneTurn o_askWorst o_mayWalk o_oftenAll o_oftenRoad o_oftenPegs), (b 1, .inl (cI, 149, .inl o_f1))] H := hP
                            have hD : va_D A [(b 16, .inl (cI, 7, .inl o_f16)), (b 21, .inl (cZ, 80, .inl o_f21)), (b 24, .inl (cI, 80, .inl f204)), (b 25, .inl (cI, 6, .inl o_f25)), (b 26, .inl (cI, 287, .inl g40)), (b 27, .inl (cI, 7, .inl f213)), (b 28, .inl (cI, 7, .inl o_f28)), (b 29, .inl (cI, 6, .inl o_f29)), (b 15, .inl (cZ, 80, .inl o_f15)), (b 22, .inl (cZ, 80, .inl g4)), (b 23, .inl (cZ, 80, .inl f206)), (h0, oX10 b o_thrown o_taped o_size o_at o_from o_token o_value o_faultKind o_faultPlace o_lawNow o_walkSet o_oneWidow o_oneTurn o_askWorst o_mayWalk o_oftenAll o_oftenRoad o_oftenPegs), (b 1, .inl (cI, 149, .inl o_f1))] := hD
                            refine lv_aload_n hx hb dX10_walk_260 rfl (lv_at hl 8 rfl) ?_
                            refine va_get (D := G) (ci := 10) (v := .ref (b 26)) (C := RX10) (T := TX10) (N := 46) hx hb hts iG_X10 hown hK hP 11 rfl rfl 26 (by decide) (hts _ w_1218) (fun _ h9 => h9) rfl dX10_walk_261 ?_
                            refine lv_iload hx hb dX10_walk_264 (lv_at hl 7 rfl) ?_
                            refine lv_aload_n hx hb dX10_walk_266 rfl (lv_at hl 8 rfl) ?_
                            refine va_get (D := G) (ci := 10) (v := .ref (b 27)) (C := RX10) (T := TX10) (N := 46) hx hb hts iG_X10 hown hK hP 11 rfl rfl 27 (by decide) (hts _ w_1219) (fun _ h9 => h9) rfl dX10_walk_267 ?_
                            refine lv_iload_n hx hb dX10_walk_270 rfl (lv_at hl 9 rfl) ?_
                            refine va_iald hx hb hK hP 5 0 rfl rfl (ix_in hp0 (by omega) (by omega)) dX10_walk_271 ?_
                            refine lv_topi (fun v215 ev215 => ?_)
                            obtain ⟨ia216, ib217⟩ := ai_get hi214 hp0 (by omega) (by omega) ev215
                            have lkv215 : v215.toInt = (f213 p0.toNatClampNeg).toInt := by rw [ev215]
                            refine lv_iadd hx hb dX10_walk_272 ?_
                            refine lv_topi (fun v218 ev218 => ?_)
                            have tv218 : v218.toInt = 41 * a0 + v215.toInt := ti_add tv25 rfl ev218 (by omega) (by omega)
                            refine lv_iload_n hx hb dX10_walk_273 rfl (lv_at hl 1 rfl) ?_
                            refine va_iast hx hb hK hP hD hS 4 0 rfl rfl (ix_in tv218 (by omega) (by omega)) dX10_walk_274 (fun H locs hP hD hS => ?_)
                            obtain ⟨f219, qf219⟩ : ∃ g, g = upd g40 v218.toNatClampNeg r184 := ⟨_, rfl⟩
                            rw [← qf219] at hP hD
                            have hi220 : ai f219 287 0 77 := by rw [qf219]; exact ai_put k52 w189 (by omega) (by omega)
                            have hP : va_P G vwCl [(b 16, .inl (cI, 7, .inl o_f16)), (b 21, .inl (cZ, 80, .inl o_f21)), (b 24, .inl (cI, 80, .inl f204)), (b 25, .inl (cI, 6, .inl o_f25)), (b 26, .inl (cI, 287, .inl f219)), (b 27, .inl (cI, 7, .inl f213)), (b 28, .inl (cI, 7, .inl o_f28)), (b 29, .inl (cI, 6, .inl o_f29)), (b 15, .inl (cZ, 80, .inl o_f15)), (b 22, .inl (cZ, 80, .inl g4)), (b 23, .inl (cZ, 80, .inl f206)), (h0, oX10 b o_thrown o_taped o_size o_at o_from o_token o_value o_faultKind o_faultPlace o_lawNow o_walkSet o_oneWidow o_oneTurn o_askWorst o_mayWalk o_oftenAll o_oftenRoad o_oftenPegs), (b 1, .inl (cI, 149, .inl o_f1))] H := hP
                            have hD : va_D A [(b 16, .inl (cI, 7, .inl o_f16)), (b 21, .inl (cZ, 80, .inl o_f21)), (b 24, .inl (cI, 80, .inl f204)), (b 25, .inl (cI, 6, .inl o_f25)), (b 26, .inl (cI, 287, .inl f219)), (b 27, .inl (cI, 7, .inl f213)), (b 28, .inl (cI, 7, .inl o_f28)), (b 29, .inl (cI, 6, .inl o_f29)), (b 15, .inl (cZ, 80, .inl o_f15)), (b 22, .inl (cZ, 80, .inl g4)), (b 23, .inl (cZ, 80, .inl f206)), (h0, oX10 b o_thrown o_taped o_size o_at o_from o_token o_value o_faultKind o_faultPlace o_lawNow o_walkSet o_oneWidow o_oneTurn o_askWorst o_mayWalk o_oftenAll o_oftenRoad o_oftenPegs), (b 1, .inl (cI, 149, .inl o_f1))] := hD
                            obtain ⟨v221, ev221⟩ : ∃ y : Int32, y = x37 + 1 := ⟨_, rfl⟩
                            have tv221 : v221.toInt = x37.toInt + 1 := ti_add rfl ki_1 ev221 (by omega) (by omega)
                            refine lv_iinc (v := v221) (lv' := [(6, .int v221), (5, .int 1), (2, .int r184), (9, .int r184), (3, .int v183), (8, .int x147), (7, .int 0), (4, .int v25), (0, .ref h0), (1, .int p0)]) hx hb dX10_walk_275 hl (k := 6) rfl (by rw [ev221]; rfl) (by decide) rfl (fun ls hl => ?_)
                            refine lv_goto (tgt := 81) hx hb dX10_walk_278 (by decide) ?_
                            exact ih54 r184 v183 1 v221 f206 f204 f219 f213 (by omega) (by omega) (by omega) (by omega) (by rw [ki_1]; decide) (by rw [ki_1]; decide) (by omega) (by omega) hi207 hb204 hi220 hi214 (by rw [w189]; omega) (by rw [w189]; omega) (by omega) (by omega) _ _ (hP.sub (ws' := [(b 15, .inl (cZ, 80, .inl o_f15)), (b 16, .inl (cI, 7, .inl o_f16)), (b 21, .inl (cZ, 80, .inl o_f21)), (b 22, .inl (cZ, 80, .inl g4)), (b 23, .inl (cZ, 80, .inl f206)), (b 24, .inl (cI, 80, .inl f204)), (b 25, .inl (cI, 6, .inl o_f25)), (b 26, .inl (cI, 287, .inl f219)), (b 27, .inl (cI, 7, .inl f213)), (b 28, .inl (cI, 7, .inl o_f28)), (b 29, .inl (cI, 6, .inl o_f29)), (h0, oX10 b o_thrown o_taped o_size o_at o_from o_token o_value o_faultKind o_faultPlace o_lawNow o_walkSet o_oneWidow o_oneTurn o_askWorst o_mayWalk o_oftenAll o_oftenRoad o_oftenPegs), (b 1, .inl (cI, 149, .inl o_f1))]) [8, 0, 1, 9, 10, 2, 3, 4, 5, 6, 7, 11, 12] rfl) (hD.sub (ws' := [(b 15, .inl (cZ, 80, .inl o_f15)), (b 16, .inl (cI, 7, .inl o_f16)), (b 21, .inl (cZ, 80, .inl o_f21)), (b 22, .inl (cZ, 80, .inl g4)), (b 23, .inl (cZ, 80, .inl f206)), (b 24, .inl (cI, 80, .inl f204)), (b 25, .inl (cI, 6, .inl o_f25)), (b 26, .inl (cI, 287, .inl f219)), (b 27, .inl (cI, 7, .inl f213)), (b 28, .inl (cI, 7, .inl o_f28)), (b 29, .inl (cI, 6, .inl o_f29)), (h0, oX10 b o_thrown o_taped o_size o_at o_from o_token o_value o_faultKind o_faultPlace o_lawNow o_walkSet o_oneWidow o_oneTurn o_askWorst o_mayWalk o_oftenAll o_oftenRoad o_oftenPegs), (b 1, .inl (cI, 149, .inl o_f1))]) [8, 0, 1, 9, 10, 2, 3, 4, 5, 6, 7, 11, 12] rfl rfl) hS ls (lv_sub hl [0, 1, 7, 4, 2, 8, 9] rfl)
                          · have c208 := i_eq rfl ki_3 c208
                            refine lv_aload_n hx hb dX10_walk_234 rfl (lv_at hl 8 rfl) ?_
                            refine va_get (D := G) (ci := 10) (v := .ref (b 22)) (C := RX10) (T := TX10) (N := 46) hx hb hts iG_X10 hown hK hP 11 rfl rfl 22 (by decide) (hts _ w_1214) (fun _ h9 => h9) rfl dX10_walk_235 ?_
                            refine lv_iload_n hx hb dX10_walk_238 rfl (lv_at hl 0 rfl) ?_
                            refine va_zald hx hb hK hP 9 2 rfl rfl (ix_in w189 (by omega) (by omega)) dX10_walk_239 ?_
                            refine lv_topi (fun v222 ev222 => ?_)
                            obtain ⟨ia223, ib224⟩ := ai_get k8 w189 (by omega) (by omega) ev222
                            have lkv222 : v222.toInt = (g4 r184.toNatClampNeg).toInt := by rw [ev222]
                            refine lv_if_ne (tgt := 247) hx hb dX10_walk_240 (by decide) (fun c225 => ?_) (fun c225 => ?_)
                            · have c225 := i_ne rfl ki_0 c225
                              refine lv_iconst (v := 0) hx hb dX10_walk_247 (by decide) ?_
                              refine lv_istore (lv' := [(5, .int 0), (2, .int r184), (9, .int r184), (3, .int v183), (8, .int x147), (7, .int 0), (6, .int x37), (4, .int v25), (0, .ref h0), (1, .int p0)]) hx hb dX10_walk_248 hl (by decide) rfl (fun ls hl => ?_)
                              refine lv_aload_n hx hb dX10_walk_250 rfl (lv_at hl 8 rfl) ?_
                              refine va_get (D := G) (ci := 10) (v := .ref (b 27)) (C := RX10) (T := TX10) (N := 46) hx hb hts iG_X10 hown hK hP 11 rfl rfl 27 (by decide) (hts _ w_1219) (fun _ h9 => h9) rfl dX10_walk_251 ?_
                              refine lv_iload_n hx hb dX10_walk_254 rfl (lv_at hl 9 rfl) ?_
                              refine lv_dup2_11 hx hb dX10_walk_255 rfl rfl ?_
                              refine va_iald hx hb hK hP 5 0 rfl rfl (ix_in hp0 (by omega) (by omega)) dX10_walk_256 ?_
                              refine lv_topi (fun v226 ev226 => ?_)
                              obtain ⟨ia227, ib228⟩ := ai_get k53 hp0 (by omega) (by omega) ev226
                              have lkv226 : v226.toInt = (g41 p0.toNatClampNeg).toInt := by rw [ev226]
                              refine lv_iconst (v := 1) hx hb dX10_walk_257 (by decide) ?_
                              refine lv_iadd hx hb dX10_walk_258 ?_
                              refine lv_topi (fun v229 ev229 => ?_)
                              have tv229 : v229.toInt = v226.toInt + 1 := ti_add rfl ki_1 ev229 (by omega) (by omega)
                              refine va_iast hx hb hK hP hD hS 5 0 rfl rfl (ix_in hp0 (by omega) (by omega)) dX10_walk_259 (fun H locs hP hD hS => ?_)
                              obtain ⟨f230, qf230⟩ : ∃ g, g = upd g41 p0.toNatClampNeg v229 := ⟨_, rfl⟩
                              rw [← qf230] at hP hD
                              have hi231 : ai f230 7 (-1) 40 := by rw [qf230]; exact ai_put k53 tv229 (by omega) (by omega)
                              have ksf230 : (f230 p0.toNatClampNeg).toInt = v226.toInt + 1 := by rw [qf230, pk_us]; exact tv229
                              have hP : va_P G vwCl [(b 16, .inl (cI, 7, .inl o_f16)), (b 21, .inl (cZ, 80, .inl o_f21)), (b 24, .inl (cI, 80, .inl f204)), (b 25, .inl (cI, 6, .inl o_f25)), (b 26, .inl (cI, 287, .inl g40)), (b 27, .inl (cI, 7, .inl f230)), (b 28, .inl (cI, 7, .inl o_f28)), (b 29, .inl (cI, 6, .inl o_f29)), (b 15, .inl (cZ, 80, .inl o_f15)), (b 22, .inl (cZ, 80, .inl g4)), (b 23, .inl (cZ, 80, .inl f206)), (h0, oX10 b o_thrown o_taped o_size o_at o_from o_token o_value o_faultKind o_faultPlace o_lawNow o_walkSet o_oneWidow o_oneTurn o_askWorst o_mayWalk o_oftenAll o_oftenRoad o_oftenPegs), (b 1, .inl (cI, 149, .inl o_f1))] H := hP
                              have hD : va_D A [(b 16, .inl (cI, 7, .inl o_f16)), (b 21, .inl (cZ, 80, .inl o_f21)), (b 24, .inl (cI, 80, .inl f204)), (b 25, .inl (cI, 6, .inl o_f25)), (b 26, .inl (cI, 287, .inl g40)), (b 27, .inl (cI, 7, .inl f230)), (b 28, .inl (cI, 7, .inl o_f28)), (b 29, .inl (cI, 6, .inl o_f29)), (b 15, .inl (cZ, 80, .inl o_f15)), (b 22, .inl (cZ, 80, .inl g4)), (b 23, .inl (cZ, 80, .inl f206)), (h0, oX10 b o_thrown o_taped o_size o_at o_from o_token o_value o_faultKind o_faultPlace o_lawNow o_walkSet o_oneWidow o_oneTurn o_askWorst o_mayWalk o_oftenAll o_oftenRoad o_oftenPegs), (b 1, .inl (cI, 149, .inl o_f1))] := hD
                              refine lv_aload_n hx hb dX10_walk_260 rfl (lv_at hl 8 rfl) ?_
                              refine va_get (D := G) (ci := 10) (v := .ref (b 26)) (C := RX10) (T := TX10) (N := 46) hx hb hts iG_X10 hown hK hP 11 rfl rfl 26 (by decide) (hts _ w_1218) (fun _ h9 => h9) rfl dX10_walk_261 ?_
                              refine lv_iload hx hb dX10_walk_264 (lv_at hl 7 rfl) ?_
                              refine lv_aload_n hx hb dX10_walk_266 rfl (lv_at hl 8 rfl) ?_
                              refine va_get (D := G) (ci := 10) (v := .ref (b 27)) (C := RX10) (T := TX10) (N := 46) hx hb hts iG_X10 hown hK hP 11 rfl rfl 27 (by decide) (hts _ w_1219) (fun _ h9 => h9) rfl dX10_walk_267 ?_
                              refine lv_iload_n hx hb dX10_walk_270 rfl (lv_at hl 9 rfl) ?_
                              refine va_iald hx hb hK hP 5 0 rfl rfl (ix_in hp0 (by omega) (by omega)) dX10_walk_271 ?_
                              refine lv_topi (fun v232 ev232 => ?_)
                              obtain ⟨ia233, ib234⟩ := ai_get hi231 hp0 (by omega) (by omega) ev232
                              have lkv232 : v232.toInt = (f230 p0.toNatClampNeg).toInt := by rw [ev232]
                              refine lv_iadd hx hb dX10_walk_272 ?_
                              refine lv_topi (fun v235 ev235 => ?_)
                              have tv235 : v235.toInt = 41 * a0 + v232.toInt := ti_add tv25 rfl ev235 (by omega) (by omega)
                              refine lv_iload_n hx hb dX10_walk_273 rfl (lv_at hl 1 rfl) ?_
                              refine va_iast hx hb hK hP hD hS 4 0 rfl rfl (ix_in tv235 (by omega) (by omega)) dX10_walk_274 (fun H locs hP hD hS => ?_)
                              obtain ⟨f236, qf236⟩ : ∃ g, g = upd g40 v235.toNatClampNeg r184 := ⟨_, rfl⟩
                              rw [← qf236] at hP hD
                              have hi237 : ai f236 287 0 77 := by rw [qf236]; exact ai_put k52 w189 (by omega) (by omega)
                              have hP : va_P G vwCl [(b 16, .inl (cI, 7, .inl o_f16)), (b 21, .inl (cZ, 80, .inl o_f21)), (b 24, .inl (cI, 80, .inl f204)), (b 25, .inl (cI, 6, .inl o_f25)), (b 26, .inl (cI, 287, .inl f236)), (b 27, .inl (cI, 7, .inl f230)), (b 28, .inl (cI, 7, .inl o_f28)), (b 29, .inl (cI, 6, .inl o_f29)), (b 15, .inl (cZ, 80, .inl o_f15)), (b 22, .inl (cZ, 80, .inl g4)), (b 23, .inl (cZ, 80, .inl f206)), (h0, oX10 b o_thrown o_taped o_size o_at o_from o_token o_value o_faultKind o_faultPlace o_lawNow o_walkSet o_oneWidow o_oneTurn o_askWorst o_mayWalk o_oftenAll o_oftenRoad o_oftenPegs), (b 1, .inl (cI, 149, .inl o_f1))] H := hP
                              have hD : va_D A [(b 16, .inl (cI, 7, .inl o_f16)), (b 21, .inl (cZ, 80, .inl o_f21)), (b 24, .inl (cI, 80, .inl f204)), (b 25, .inl (cI, 6, .inl o_f25)), (b 26, .inl (cI, 287, .inl f236)), (b 27, .inl (cI, 7, .inl f230)), (b 28, .inl (cI, 7, .inl o_f28)), (b 29, .inl (cI, 6, .inl o_f29)), (b 15, .inl (cZ, 80, .inl o_f15)), (b 22, .inl (cZ, 80, .inl g4)), (b 23, .inl (cZ, 80, .inl f206)), (h0, oX10 b o_thrown o_taped o_size o_at o_from o_token o_value o_faultKind o_faultPlace o_lawNow o_walkSet o_oneWidow o_oneTurn o_askWorst o_mayWalk o_oftenAll o_oftenRoad o_oftenPegs), (b 1, .inl (cI, 149, .inl o_f1))] := hD
                              obtain ⟨v238, ev238⟩ : ∃ y : Int32, y = x37 + 1 := ⟨_, rfl⟩
                              have tv238 : v238.toInt = x37.toInt + 1 := ti_add rfl ki_1 ev238 (by omega) (by omega)
                              refine lv_iinc (v := v238) (lv' := [(6, .int v238), (5, .int 0), (2, .int r184), (9, .int r184), (3, .int v183), (8, .int x147), (7, .int 0), (4, .int v25), (0, .ref h0), (1, .int p0)]) hx hb dX10_walk_275 hl (k := 6) rfl (by rw [ev238]; rfl) (by decide) rfl (fun ls hl => ?_)
                              refine lv_goto (tgt := 81) hx hb dX10_walk_278 (by decide) ?_
                              exact ih54 r184 v183 0 v238 f206 f204 f236 f230 (by omega) (by omega) (by omega) (by omega) (by rw [ki_0]; decide) (by rw [ki_0]; decide) (by omega) (by omega) hi207 hb204 hi237 hi231 (by rw [w189]; omega) (by rw [w189]; omega) (by omega) (by omega) _ _ (hP.sub (ws' := [(b 15, .inl (cZ, 80, .inl o_f15)), (b 16, .inl (cI, 7, .inl o_f16)), (b 21, .inl (cZ, 80, .inl o_f21)), (b 22, .inl (cZ, 80, .inl g4)), (b 23, .inl (cZ, 80, .inl f206)), (b 24, .inl (cI, 80, .inl f204)), (b 25, .inl (cI, 6, .inl o_f25)), (b 26, .inl (cI, 287, .inl f236)), (b 27, .inl (cI, 7, .inl f230)), (b 28, .inl (cI, 7, .inl o_f28)), (b 29, .inl (cI, 6, .inl o_f29)), (h0, oX10 b o_thrown o_taped o_size o_at o_from o_token o_value o_faultKind o_faultPlace o_lawNow o_walkSet o_oneWidow o_oneTurn o_askWorst o_mayWalk o_oftenAll o_oftenRoad o_oftenPegs), (b 1, .inl (cI, 149, .inl o_f1))]) [8, 0, 1, 9, 10, 2, 3, 4, 5, 6, 7, 11, 12] rfl) (hD.sub (ws' := [(b 15, .inl (cZ, 80, .inl o_f15)), (b 16, .inl (cI, 7, .inl o_f16)), (b 21, .inl (cZ, 80, .inl o_f21)), (b 22, .inl (cZ, 80, .inl g4)), (b 23, .inl (cZ, 80, .inl f206)), (b 24, .inl (cI, 80, .inl f204)), (b 25, .inl (cI, 6, .inl o_f25)), (b 26, .inl (cI, 287, .inl f236)), (b 27, .inl (cI, 7, .inl f230)), (b 28, .inl (cI, 7, .inl o_f28)), (b 29, .inl (cI, 6, .inl o_f29)), (h0, oX10 b o_thrown o_taped o_size o_at o_from o_token o_value o_faultKind o_faultPlace o_lawNow o_walkSet o_oneWidow o_oneTurn o_askWorst o_mayWalk o_oftenAll o_oftenRoad o_oftenPegs), (b 1, .inl (cI, 149, .inl o_f1))]) [8, 0, 1, 9, 10, 2, 3, 4, 5, 6, 7, 11, 12] rfl rfl) hS ls (lv_sub hl [0, 1, 7, 4, 2, 8, 9] rfl)
                            · have c225 := i_eq rfl ki_0 c225
                              refine lv_iconst (v := 1) hx hb dX10_walk_243 (by decide) ?_
                              refine lv_goto (tgt := 248) hx hb dX10_walk_244 (by decide) ?_
                              refine lv_istore (lv' := [(5, .int 1), (2, .int r184), (9, .int r184), (3, .int v183), (8, .int x147), (7, .int 0), (6, .int x37), (4, .int v25), (0, .ref h0), (1, .int p0)]) hx hb dX10_walk_248 hl (by decide) rfl (fun ls hl => ?_)
                              refine lv_aload_n hx hb dX10_walk_250 rfl (lv_at hl 8 rfl) ?_
                              refine va_get (D := G) (ci := 10) (v := .ref (b 27)) (C := RX10) (T := TX10) (N := 46) hx hb hts iG_X10 hown hK hP 11 rfl rfl 27 (by decide) (hts _ w_1219) (fun _ h9 => h9) rfl dX10_walk_251 ?_
                              refine lv_iload_n hx hb dX10_walk_254 rfl (lv_at hl 9 rfl) ?_
                              refine lv_dup2_11 hx hb dX10_walk_255 rfl rfl ?_
                              refine va_iald hx hb hK hP 5 0 rfl rfl (ix_in hp0 (by omega) (by omega)) dX10_walk_256 ?_
                              refine lv_topi (fun v239 ev239 => ?_)
                              obtain ⟨ia240, ib241⟩ := ai_get k53 hp0 (by omega) (by omega) ev239
                              have lkv239 : v239.toInt = (g41 p0.toNatClampNeg).toInt := by rw [ev239]
                              refine lv_iconst (v := 1) hx hb dX10_walk_257 (by decide) ?_
                              refine lv_iadd hx hb dX10_walk_258 ?_
                              refine lv_topi (fun v242 ev242 => ?_)
                              have tv242 : v242.toInt = v239.toInt + 1 := ti_add rfl ki_1 ev242 (by omega) (by omega)
                              refine va_iast hx hb hK hP hD hS 5 0 rfl rfl (ix_in hp0 (by omega) (by omega)) dX10_walk_259 (fun H locs hP hD hS => ?_)
                              obtain ⟨f243, qf243⟩ : ∃ g, g = upd g41 p0.toNatClampNeg v242 := ⟨_, rfl⟩
                              rw [← qf243] at hP hD
                              have hi244 : ai f243 7 (-1) 40 := by rw [qf243]; exact ai_put k53 tv242 (by omega) (by omega)
                              have ksf243 : (f243 p0.toNatClampNeg).toInt = v239.toInt + 1 := by rw [qf243, pk_us]; exact tv242
                              have hP : va_P G vwCl [(b 16, .inl (cI, 7, .inl o_f16)), (b 21, .inl (cZ, 80, .inl o_f21)), (b 24, .inl (cI, 80, .inl f204)), (b 25, .inl (cI, 6, .inl o_f25)), (b 26, .inl (cI, 287, .inl g40)), (b 27, .inl (cI, 7, .inl f243)), (b 28, .inl (cI, 7, .inl o_f28)), (b 29, .inl (cI, 6, .inl o_f29)), (b 15, .inl (cZ, 80, .inl o_f15)), (b 22, .inl (cZ, 80, .inl g4)), (b 23, .inl (cZ, 80, .inl f206)), (h0, oX10 b o_thrown o_taped o_size o_at o_from o_token o_value o_faultKind o_faultPlace o_lawNow o_walkSet o_oneWidow o_oneTurn o_askWorst o_mayWalk o_oftenAll o_oftenRoad o_oftenPegs), (b 1, .inl (cI, 149, .inl o_f1))] H := hP
                              have hD : va_D A [(b 16, .inl (cI, 7, .inl o_f16)), (b 21, .inl (cZ, 80, .inl o_f21)), (b 24, .inl (cI, 80, .inl f204)), (b 25, .inl (cI, 6, .inl o_f25)), (b 26, .inl (cI, 287, .inl g40)), (b 27, .inl (cI, 7, .inl f243)), (b 28, .inl (cI, 7, .inl o_f28)), (b 29, .inl (cI, 6, .inl o_f29)), (b 15, .inl (cZ, 80, .inl o_f15)), (b 22, .inl (cZ, 80, .inl g4)), (b 23, .inl (cZ, 80, .inl f206)), (h0, oX10 b o_thrown o_taped o_size o_at o_from o_token o_value o_faultKind o_faultPlace o_lawNow o_walkSet o_oneWidow o_oneTurn o_askWorst o_mayWalk o_oftenAll o_oftenRoad o_oftenPegs), (b 1, .inl (cI, 149, .inl o_f1))] := hD
                              refine lv_aload_n hx hb dX10_walk_260 rfl (lv_at hl 8 rfl) ?_
                              refine va_get (D := G) (ci := 10) (v := .ref (b 26)) (C := RX10) (T := TX10) (N := 46) hx hb hts iG_X10 hown hK hP 11 rfl rfl 26 (by decide) (hts _ w_1218) (fun _ h9 => h9) rfl dX10_walk_261 ?_
                              refine lv_iload hx hb dX10_walk_264 (lv_at hl 7 rfl) ?_
                              refine lv_aload_n hx hb dX10_walk_266 rfl (lv_at hl 8 rfl) ?_
                              refine va_get (D := G) (ci := 10) (v := .ref (b 27)) (C := RX10) (T := TX10) (N := 46) hx hb hts iG_X10 hown hK hP 11 rfl rfl 27 (by decide) (hts _ w_1219) (fun _ h9 => h9) rfl dX10_walk_267 ?_
                              refine lv_iload_n hx hb dX10_walk_270 rfl (lv_at hl 9 rfl) ?_
                              refine va_iald hx hb hK hP 5 0 rfl rfl (ix_in hp0 (by omega) (by omega)) dX10_walk_271 ?_
                              refine lv_topi (fun v245 ev245 => ?_)
                              obtain ⟨ia246, ib247⟩ := ai_get hi244 hp0 (by omega) (by omega) ev245
                              have lkv245 : v245.toInt = (f243 p0.toNatClampNeg).toInt := by rw [ev245]
                              refine lv_iadd hx hb dX10_walk_272 ?_
                              refine lv_topi (fun v248 ev248 => ?_)
                              have tv248 : v248.toInt = 41 * a0 + v245.toInt := ti_add tv25 rfl ev248 (by omega) (by omega)
                              refine lv_iload_n hx hb dX10_walk_273 rfl (lv_at hl 1 rfl) ?_
                              refine va_iast hx hb hK hP hD hS 4 0 rfl rfl (ix_in tv248 (by omega) (by omega)) dX10_walk_274 (fun H locs hP hD hS => ?_)
                              obtain ⟨f249, qf249⟩ : ∃ g, g = upd g40 v248.toNatClampNeg r184 := ⟨_, rfl⟩
                              rw [← qf249] at hP hD
                              have hi250 : ai f249 287 0 77 := by rw [qf249]; exact ai_put k52 w189 (by omega) (by omega)
                              have hP : va_P G vwCl [(b 16, .inl (cI, 7, .inl o_f16)), (b 21, .inl (cZ, 80, .inl o_f21)), (b 24, .inl (cI, 80, .inl f204)), (b 25, .inl (cI, 6, .inl o_f25)), (b 26, .inl (cI, 287, .inl f249)), (b 27, .inl (cI, 7, .inl f243)), (b 28, .inl (cI, 7, .inl o_f28)), (b 29, .inl (cI, 6, .inl o_f29)), (b 15, .inl (cZ, 80, .inl o_f15)), (b 22, .inl (cZ, 80, .inl g4)), (b 23, .inl (cZ, 80, .inl f206)), (h0, oX10 b o_thrown o_taped o_size o_at o_from o_token o_value o_faultKind o_faultPlace o_lawNow o_walkSet o_oneWidow o_oneTurn o_askWorst o_mayWalk o_oftenAll o_oftenRoad o_oftenPegs), (b 1, .inl (cI, 149, .inl o_f1))] H := hP
                              have hD : va_D A [(b 16, .inl (cI, 7, .inl o_f16)), (b 21, .inl (cZ, 80, .inl o_f21)), (b 24, .inl (cI, 80, .inl f204)), (b 25, .inl (cI, 6, .inl o_f25)), (b 26, .inl (cI, 287, .inl f249)), (b 27, .inl (cI, 7, .inl f243)), (b 28, .inl (cI, 7, .inl o_f28)), (b 29, .inl (cI, 6, .inl o_f29)), (b 15, .inl (cZ, 80, .inl o_f15)), (b 22, .inl (cZ, 80, .inl g4)), (b 23, .inl (cZ, 80, .inl f206)), (h0, oX10 b o_thrown o_taped o_size o_at o_from o_token o_value o_faultKind o_faultPlace o_lawNow o_walkSet o_oneWidow o_oneTurn o_askWorst o_mayWalk o_oftenAll o_oftenRoad o_oftenPegs), (b 1, .inl (cI, 149, .inl o_f1))] := hD
                              obtain ⟨v251, ev251⟩ : ∃ y : Int32, y = x37 + 1 := ⟨_, rfl⟩
                              have tv251 : v251.toInt = x37.toInt + 1 := ti_add rfl ki_1 ev251 (by omega) (by omega)
                              refine lv_iinc (v := v251) (lv' := [(6, .int v251), (5, .int 1), (2, .int r184), (9, .int r184), (3, .int v183), (8, .int x147), (7, .int 0), (4, .int v25), (0, .ref h0), (1, .int p0)]) hx hb dX10_walk_275 hl (k := 6) rfl (by rw [ev251]; rfl) (by decide) rfl (fun ls hl => ?_)
                              refine lv_goto (tgt := 81) hx hb dX10_walk_278 (by decide) ?_
                              exact ih54 r184 v183 1 v251 f206 f204 f249 f243 (by omega) (by omega) (by omega) (by omega) (by rw [ki_1]; decide) (by rw [ki_1]; decide) (by omega) (by omega) hi207 hb204 hi250 hi244 (by rw [w189]; omega) (by rw [w189]; omega) (by omega) (by omega) _ _ (hP.sub (ws' := [(b 15, .inl (cZ, 80, .inl o_f15)), (b 16, .inl (cI, 7, .inl o_f16)), (b 21, .inl (cZ, 80, .inl o_f21)), (b 22, .inl (cZ, 80, .inl g4)), (b 23, .inl (cZ, 80, .inl f206)), (b 24, .inl (cI, 80, .inl f204)), (b 25, .inl (cI, 6, .inl o_f25)), (b 26, .inl (cI, 287, .inl f249)), (b 27, .inl (cI, 7, .inl f243)), (b 28, .inl (cI, 7, .inl o_f28)), (b 29, .inl (cI, 6, .inl o_f29)), (h0, oX10 b o_thrown o_taped o_size o_at o_from o_token o_value o_faultKind o_faultPlace o_lawNow o_walkSet o_oneWidow o_oneTurn o_askWorst o_mayWalk o_oftenAll o_oftenRoad o_oftenPegs), (b 1, .inl (cI, 149, .inl o_f1))]) [8, 0, 1, 9, 10, 2, 3, 4, 5, 6, 7, 11, 12] rfl) (hD.sub (ws' := [(b 15, .inl (cZ, 80, .inl o_f15)), (b 16, .inl (cI, 7, .inl o_f16)), (b 21, .inl (cZ, 80, .inl o_f21)), (b 22, .inl (cZ, 80, .inl g4)), (b 23, .inl (cZ, 80, .inl f206)), (b 24, .inl (cI, 80, .inl f204)), (b 25, .inl (cI, 6, .inl o_f25)), (b 26, .inl (cI, 287, .inl f249)), (b 27, .inl (cI, 7, .inl f243)), (b 28, .inl (cI, 7, .inl o_f28)), (b 29, .inl (cI, 6, .inl o_f29)), (h0, oX10 b o_thrown o_taped o_size o_at o_from o_token o_value o_faultKind o_faultPlace o_lawNow o_walkSet o_oneWidow o_oneTurn o_askWorst o_mayWalk o_oftenAll o_oftenRoad o_oftenPegs), (b 1, .inl (cI, 149, .inl o_f1))]) [8, 0, 1, 9, 10, 2, 3, 4, 5, 6, 7, 11, 12] rfl rfl) hS ls (lv_sub hl [0, 1, 7, 4, 2, 8, 9] rfl)
                        · skip
                          refine lv_if_ne (tgt := 166) hx hb dX10_walk_157 (by decide) (fun c252 => absurd (by decide) c252) (fun c252 => ?_)
                          obtain ⟨v253, ev253⟩ : ∃ y : Int32, y = x147 + 1 := ⟨_, rfl⟩
                          have tv253 : v253.toInt = x147.toInt + 1 := ti_add rfl ki_1 ev253 (by omega) (by omega)
                          refine lv_iinc (v := v253) (lv' := [(8, .int v253), (7, .int 0), (3, .int v138), (6, .int x37), (5, .int x36), (4, .int v25), (2, .int x34), (0, .ref h0), (1, .int p0)]) hx hb dX10_walk_160 hl (k := 0) rfl (by rw [ev253]; rfl) (by decide) rfl (fun ls hl => ?_)
                          refine lv_goto (tgt := 134) hx hb dX10_walk_163 (by decide) ?_
                          exact ih150 v253 (by omega) (by omega) (by omega) _ _ (hP.sub (ws' := [(b 16, .inl (cI, 7, .inl o_f16)), (b 21, .inl (cZ, 80, .inl o_f21)), (b 24, .inl (cI, 80, .inl g39)), (b 25, .inl (cI, 6, .inl o_f25)), (b 26, .inl (cI, 287, .inl g40)), (b 27, .inl (cI, 7, .inl g41)), (b 28, .inl (cI, 7, .inl o_f28)), (b 29, .inl (cI, 6, .inl o_f29)), (h0, oX10 b o_thrown o_taped o_size o_at o_from o_token o_value o_faultKind o_faultPlace o_lawNow o_walkSet o_oneWidow o_oneTurn o_askWorst o_mayWalk o_oftenAll o_oftenRoad o_oftenPegs), (b 1, .inl (cI, 149, .inl o_f1)), (b 15, .inl (cZ, 80, .inl o_f15)), (b 22, .inl (cZ, 80, .inl g4)), (b 23, .inl (cZ, 80, .inl g38))]) [0, 1, 2, 3, 4, 5, 6, 7, 9, 8, 10, 11, 12] rfl) (hD.sub (ws' := [(b 16, .inl (cI, 7, .inl o_f16)), (b 21, .inl (cZ, 80, .inl o_f21)), (b 24, .inl (cI, 80, .inl g39)), (b 25, .inl (cI, 6, .inl o_f25)), (b 26, .inl (cI, 287, .inl g40)), (b 27, .inl (cI, 7, .inl g41)), (b 28, .inl (cI, 7, .inl o_f28)), (b 29, .inl (cI, 6, .inl o_f29)), (h0, oX10 b o_thrown o_taped o_size o_at o_from o_token o_value o_faultKind o_faultPlace o_lawNow o_walkSet o_oneWidow o_oneTurn o_askWorst o_mayWalk o_oftenAll o_oftenRoad o_oftenPegs), (b 1, .inl (cI, 149, .inl o_f1)), (b 15, .inl (cZ, 80, .inl o_f15)), (b 22, .inl (cZ, 80, .inl g4)), (b 23, .inl (cZ, 80, .inl g38))]) [0, 1, 2, 3, 4, 5, 6, 7, 9, 8, 10, 11, 12] rfl rfl) hS ls (lv_sub hl [0, 1, 2, 3, 4, 5, 6, 7, 8] rfl)
                  exact lp145 5 0 (by rw [ki_0]; decide) (by rw [ki_0]; decide) (by rw [ki_0]; decide) _ _ hP hD hS ls (lv_sub hl [0, 1, 2, 3, 4, 5, 6, 7, 8] rfl)
                · have c144 := i_ne rfl ki_0 c144
                  refine lv_aload_n hx hb dX10_walk_121 rfl (lv_at hl 5 rfl) ?_
                  refine va_get (D := G) (ci := 10) (v := .int o_lawNow) (C := RX10) (T := TX10) (N := 46) hx hb hts iG_X10 hown hK hP 8 rfl rfl 17 (by decide) (hts _ w_1209) (fun _ h9 => h9) rfl dX10_walk_122 ?_
                  refine lv_goto (tgt := 129) hx hb dX10_walk_125 (by decide) ?_
                  refine lv_istore (lv' := [(7, .int o_lawNow), (3, .int v138), (6, .int x37), (5, .int x36), (4, .int v25), (2, .int x34), (0, .ref h0), (1, .int p0)]) hx hb dX10_walk_129 hl (by decide) rfl (fun ls hl => ?_)
                  refine lv_iconst (v := 0) hx hb dX10_walk_131 (by decide) ?_
                  refine lv_istore (lv' := [(8, .int 0), (7, .int o_lawNow), (3, .int v138), (6, .int x37), (5, .int x36), (4, .int v25), (2, .int x34), (0, .ref h0), (1, .int p0)]) hx hb dX10_walk_132 hl (by decide) rfl (fun ls hl => ?_)
                  have lp254 : ∀ (n255 : Nat) (x256 : Int32), 0 ≤ x256.toInt → x256.toInt ≤ 4 → 4 - x256.toInt < (n255 : Int) → ∀ (H : Heap) (locs : List Loc), va_P G vwCl [(b 16, .inl (cI, 7, .inl o_f16)), (b 21, .inl (cZ, 80, .inl o_f21)), (b 24, .inl (cI, 80, .inl g39)), (b 25, .inl (cI, 6, .inl o_f25)), (b 26, .inl (cI, 287, .inl g40)), (b 27, .inl (cI, 7, .inl g41)), (b 28, .inl (cI, 7, .inl o_f28)), (b 29, .inl (cI, 6, .inl o_f29)), (h0, oX10 b o_thrown o_taped o_size o_at o_from o_token o_value o_faultKind o_faultPlace o_lawNow o_walkSet o_oneWidow o_oneTurn o_askWorst o_mayWalk o_oftenAll o_oftenRoad o_oftenPegs), (b 1, .inl (cI, 149, .inl o_f1)), (b 15, .inl (cZ, 80, .inl o_f15)), (b 22, .inl (cZ, 80, .inl g4)), (b 23, .inl (cZ, 80, .inl g38))] H → va_D A [(b 16, .inl (cI, 7, .inl o_f16)), (b 21, .inl (cZ, 80, .inl o_f21)), (b 24, .inl (cI, 80, .inl g39)), (b 25, .inl (cI, 6, .inl o_f25)), (b 26, .inl (cI, 287, .inl g40)), (b 27, .inl (cI, 7, .inl g41)), (b 28, .inl (cI, 7, .inl o_f28)), (b 29, .inl (cI, 6, .inl o_f29)), (h0, oX10 b o_thrown o_taped o_size o_at o_from o_token o_value o_faultKind o_faultPlace o_lawNow o_walkSet o_oneWidow o_oneTurn o_askWorst o_mayWalk o_oftenAll o_oftenRoad o_oftenPegs), (b 1, .inl (cI, 149, .inl o_f1)), (b 15, .inl (cZ, 80, .inl o_f15)), (b 22, .inl (cZ, 80, .inl g4)), (b 23, .inl (cZ, 80, .inl g38))] → va_S A s.heap H locs → ∀ (ls : Array Slot), lv_has ls 10 [(8, .int x256), (7, .int o_lawNow), (3, .int v138), (6, .int x37), (5, .int x36), (4, .int v25), (2, .int x34), (0, .ref h0), (1, .int p0)] → W p l e ({ frames := 4, cells := 0, slots := 0, locals := 90 } : Room) s m ([.ref h0, .int p0] : List Value).toArray below meth c H locs 0 0 Q (F0 m 134 ls []) := by
                    intro n255
                    induction n255 with
                    | zero =>
                      intro x256 k257 k258 mm260
                      exact absurd mm260 (by have q9 := fb_rng x256; omega)
                    | succ n255 ih259 =>
                      intro x256 k257 k258 mm260 H locs hP hD hS ls hl
                      refine lv_iload hx hb dX10_walk_134 (lv_at hl 0 rfl) ?_
                      refine lv_iconst (v := 4) hx hb dX10_walk_136 (by decide) ?_
                      refine lv_icmp_ge (tgt := 166) hx hb dX10_walk_137 (by decide) (fun c261 => ?_) (fun c261 => ?_)
                      · have c261 := i_le ki_4 rfl c261
                        refine lv_iload hx hb dX10_walk_166 (lv_at hl 0 rfl) ?_
                        refine lv_iconst (v := 4) hx hb dX10_walk_168 (by decide) ?_
                        refine lv_icmp_ge (tgt := 250) hx hb dX10_walk_169 (by decide) (fun c262 => ?_) (fun c262 => absurd (i_nle ki_4 rfl c262) (by omega))
                        have c262 := i_le ki_4 rfl c262
                        refine lv_aload_n hx hb dX10_walk_250 rfl (lv_at hl 7 rfl) ?_
                        refine va_get (D := G) (ci := 10) (v := .ref (b 27)) (C := RX10) (T := TX10) (N := 46) hx hb hts iG_X10 hown hK hP 8 rfl rfl 27 (by decide) (hts _ w_1219) (fun _ h9 => h9) rfl dX10_walk_251 ?_
                        refine lv_iload_n hx hb dX10_walk_254 rfl (lv_at hl 8 rfl) ?_
                        refine lv_dup2_11 hx hb dX10_walk_255 rfl rfl ?_
                        refine va_iald hx hb hK hP 5 0 rfl rfl (ix_in hp0 (by omega) (by omega)) dX10_walk_256 ?_
                        refine lv_topi (fun v263 ev263 => ?_)
                        obtain ⟨ia264, ib265⟩ := ai_get k53 hp0 (by omega) (by omega) ev263
                        have lkv263 : v263.toInt = (g41 p0.toNatClampNeg).toInt := by rw [ev263]
                        refine lv_iconst (v := 1) hx hb dX10_walk_257 (by decide) ?_
                        refine lv_iadd hx hb dX10_walk_258 ?_
                        refine lv_topi (fun v266 ev266 => ?_)
                        have tv266 : v266.toInt = v263.toInt + 1 := ti_add rfl ki_1 ev266 (by omega) (by omega)
                        refine va_iast hx hb hK hP hD hS 5 0 rfl rfl (ix_in hp0 (by omega) (by omega)) dX10_walk_259 (fun H locs hP hD hS => ?_)
                        obtain ⟨f267, qf267⟩ : ∃ g, g = upd g41 p0.toNatClampNeg v266 := ⟨_, rfl⟩
                        rw [← qf267] at hP hD
                        have hi268 : ai f267 7 (-1) 40 := by rw [qf267]; exact ai_put k53 tv266 (by omega) (by omega)
                        have ksf267 : (f267 p0.toNatClampNeg).toInt = v263.toInt + 1 := by rw [qf267, pk_us]; exact tv266
                        have hP : va_P G vwCl [(b 16, .inl (cI, 7, .inl o_f16)), (b 21, .inl (cZ, 80, .inl o_f21)), (b 24, .inl (cI, 80, .inl g39)), (b 25, .inl (cI, 6, .inl o_f25)), (b 26, .inl (cI, 287, .inl g40)), (b 27, .inl (cI, 7, .inl f267)), (b 28, .inl (cI, 7, .inl o_f28)), (b 29, .inl (cI, 6, .inl o_f29)), (h0, oX10 b o_thrown o_taped o_size o_at o_from o_token o_value o_faultKind o_faultPlace o_lawNow o_walkSet o_oneWidow o_oneTurn o_askWorst o_mayWalk o_oftenAll o_oftenRoad o_oftenPegs), (b 1, .inl (cI, 149, .inl o_f1)), (b 15, .inl (cZ, 80, .inl o_f15)), (b 22, .inl (cZ, 80, .inl g4)), (b 23, .inl (cZ, 80, .inl g38))] H := hP
                        have hD : va_D A [(b 16, .inl (cI, 7, .inl o_f16)), (b 21, .inl (cZ, 80, .inl o_f21)), (b 24, .inl (cI, 80, .inl g39)), (b 25, .inl (cI, 6, .inl o_f25)), (b 26, .inl (cI, 287, .inl g40)), (b 27, .inl (cI, 7, .inl f267)), (b 28, .inl (cI, 7, .inl o_f28)), (b 29, .inl (cI, 6, .inl o_f29)), (h0, oX10 b o_thrown o_taped o_size o_at o_from o_token o_value o_faultKind o_faultPlace o_lawNow o_walkSet o_oneWidow o_oneTurn o_askWorst o_mayWalk o_oftenAll o_oftenRoad o_oftenPegs), (b 1, .inl (cI, 149, .inl o_f1)), (b 15, .inl (cZ, 80, .inl o_f15)), (b 22, .inl (cZ, 80, .inl g4)), (b 23, .inl (cZ, 80, .inl g38))] := hD
                        refine lv_aload_n hx hb dX10_walk_260 rfl (lv_at hl 7 rfl) ?_
                        refine va_get (D := G) (ci := 10) (v := .ref (b 26)) (C := RX10) (T := TX10) (N := 46) hx hb hts iG_X10 hown hK hP 8 rfl rfl 26 (by decide) (hts _ w_1218) (fun _ h9 => h9) rfl dX10_walk_261 ?_
                        refine lv_iload hx hb dX10_walk_264 (lv_at hl 5 rfl) ?_
                        refine lv_aload_n hx hb dX10_walk_266 rfl (lv_at hl 7 rfl) ?_
                        refine va_get (D := G) (ci := 10) (v := .ref (b 27)) (C := RX10) (T := TX10) (N := 46) hx hb hts iG_X10 hown hK hP 8 rfl rfl 27 (by decide) (hts _ w_1219) (fun _ h9 => h9) rfl dX10_walk_267 ?_
                        refine lv_iload_n hx hb dX10_walk_270 rfl (lv_at hl 8 rfl) ?_
                        refine va_iald hx hb hK hP 5 0 rfl rfl (ix_in hp0 (by omega) (by omega)) dX10_walk_271 ?_
                        refine lv_topi (fun v269 ev269 => ?_)
                        obtain ⟨ia270, ib271⟩ := ai_get hi268 hp0 (by omega) (by omega) ev269
                        have lkv269 : v269.toInt = (f267 p0.toNatClampNeg).toInt := by rw [ev269]
                        refine lv_iadd hx hb dX10_walk_272 ?_
                        refine lv_topi (fun v272 ev272 => ?_)
                        have tv272 : v272.toInt = 41 * a0 + v269.toInt := ti_add tv25 rfl ev272 (by omega) (by omega)
                        refine lv_iload_n hx hb dX10_walk_273 rfl (lv_at hl 6 rfl) ?_
                        refine va_iast hx hb hK hP hD hS 4 0 rfl rfl (ix_in tv272 (by omega) (by omega)) dX10_walk_274 (fun H locs hP hD hS => ?_)
                        obtain ⟨f273, qf273⟩ : ∃ g, g = upd g40 v272.toNatClampNeg x34 := ⟨_, rfl⟩
                        rw [← qf273] at hP hD
                        have hi274 : ai f273 287 0 77 := by rw [qf273]; exact ai_put k52 rfl k42 k43
                        have hP : va_P G vwCl [(b 16, .inl (cI, 7, .inl o_f16)), (b 21, .inl (cZ, 80, .inl o_f21)), (b 24, .inl (cI, 80, .inl g39)), (b 25, .inl (cI, 6, .inl o_f25)), (b 26, .inl (cI, 287, .inl f273)), (b 27, .inl (cI, 7, .inl f267)), (b 28, .inl (cI, 7, .inl o_f28)), (b 29, .inl (cI, 6, .inl o_f29)), (h0, oX10 b o_thrown o_taped o_size o_at o_from o_token o_value o_faultKind o_faultPlace o_lawNow o_walkSet o_oneWidow o_oneTurn o_askWorst o_mayWalk o_oftenAll o_oftenRoad o_oftenPegs), (b 1, .inl (cI, 149, .inl o_f1)), (b 15, .inl (cZ, 80, .inl o_f15)), (b 22, .inl (cZ, 80, .inl g4)), (b 23, .inl (cZ, 80, .inl g38))] H := hP
                        have hD : va_D A [(b 16, .inl (cI, 7, .inl o_f16)), (b 21, .inl (cZ, 80, .inl o_f21)), (b 24, .inl (cI, 80, .inl g39)), (b 25, .inl (cI, 6, .inl o_f25)), (b 26, .inl (cI, 287, .inl f273)), (b 27, .inl (cI, 7, .inl f267)), (b 28, .inl (cI, 7, .inl o_f28)), (b 29, .inl (cI, 6, .inl o_f29)), (h0, oX10 b o_thrown o_taped o_size o_at o_from o_token o_value o_faultKind o_faultPlace o_lawNow o_walkSet o_oneWidow o_oneTurn o_askWorst o_mayWalk o_oftenAll o_oftenRoad o_oftenPegs), (b 1, .inl (cI, 149, .inl o_f1)), (b 15, .inl (cZ, 80, .inl o_f15)), (b 22, .inl (cZ, 80, .inl g4)), (b 23, .inl (cZ, 80, .inl g38))] := hD
                        obtain ⟨v275, ev275⟩ : ∃ y : Int32, y = x37 + 1 := ⟨_, rfl⟩
                        have tv275 : v275.toInt = x37.toInt + 1 := ti_add rfl ki_1 ev275 (by omega) (by omega)
                        refine lv_iinc (v := v275) (lv' := [(6, .int v275), (8, .int x256), (7, .int o_lawNow), (3, .int v138), (5, .int x36), (4, .int v25), (2, .int x34), (0, .ref h0), (1, .int p0)]) hx hb dX10_walk_275 hl (k := 3) rfl (by rw [ev275]; rfl) (by decide) rfl (fun ls hl => ?_)
                        refine lv_goto (tgt := 81) hx hb dX10_walk_278 (by decide) ?_
                        exact ih54 x34 v138 x36 v275 g38 g39 f273 f267 k42 k43 (by omega) (by omega) (by omega) k47 (by omega) (by omega) k50 k51 hi274 hi268 (by omega) (by omega) (by omega) (by omega) _ _ (hP.sub (ws' := [(b 15, .inl (cZ, 80, .inl o_f15)), (b 16, .inl (cI, 7, .inl o_f16)), (b 21, .inl (cZ, 80, .inl o_f21)), (b 22, .inl (cZ, 80, .inl g4)), (b 23, .inl (cZ, 80, .inl g38)), (b 24, .inl (cI, 80, .inl g39)), (b 25, .inl (cI, 6, .inl o_f25)), (b 26, .inl (cI, 287, .inl f273)), (b 27, .inl (cI, 7, .inl f267)), (b 28, .inl (cI, 7, .inl o_f28)), (b 29, .inl (cI, 6, .inl o_f29)), (h0, oX10 b o_thrown o_taped o_size o_at o_from o_token o_value o_faultKind o_faultPlace o_lawNow o_walkSet o_oneWidow o_oneTurn o_askWorst o_mayWalk o_oftenAll o_oftenRoad o_oftenPegs), (b 1, .inl (cI, 149, .inl o_f1))]) [10, 0, 1, 11, 12, 2, 3, 4, 5, 6, 7, 8, 9] rfl) (hD.sub (ws' := [(b 15, .inl (cZ, 80, .inl o_f15)), (b 16, .inl (cI, 7, .inl o_f16)), (b 21, .inl (cZ, 80, .inl o_f21)), (b 22, .inl (cZ, 80, .inl g4)), (b 23, .inl (cZ, 80, .inl g38)), (b 24, .inl (cI, 80, .inl g39)), (b 25, .inl (cI, 6, .inl o_f25)), (b 26, .inl (cI, 287, .inl f273)), (b 27, .inl (cI, 7, .inl f267)), (b 28, .inl (cI, 7, .inl o_f28)), (b 29, .inl (cI, 6, .inl o_f29)), (h0, oX10 b o_thrown o_taped o_size o_at o_from o_token o_value o_faultKind o_faultPlace o_lawNow o_walkSet o_oneWidow o_oneTurn o_askWorst o_mayWalk o_oftenAll o_oftenRoad o_oftenPegs), (b 1, .inl (cI, 149, .inl o_f1))]) [10, 0, 1, 11, 12, 2, 3, 4, 5, 6, 7, 8, 9] rfl rfl) hS ls (lv_sub hl [0, 4, 5, 3, 6, 7, 8] rfl)
                      · have c261 := i_nle ki_4 rfl c261
                        refine lv_aload_n hx hb dX10_walk_140 rfl (lv_at hl 7 rfl) ?_
                        refine lv_aload_n hx hb dX10_walk_141 rfl (lv_at hl 7 rfl) ?_
                        refine lv_iload_n hx hb dX10_walk_142 rfl (lv_at hl 6 rfl) ?_
                        refine lv_iload_n hx hb dX10_walk_143 rfl (lv_at hl 2 rfl) ?_
                        refine lv_iload hx hb dX10_walk_144 (lv_at hl 0 rfl) ?_
                        refine lv_iadd hx hb dX10_walk_146 ?_
                        refine lv_topi (fun v276 ev276 => ?_)
                        have tv276 : v276.toInt = (x35.toInt + r132.toInt) % 4 + x256.toInt := ti_add tv138 rfl ev276 (by omega) (by omega)
                        refine lv_iconst (v := 4) hx hb dX10_walk_147 (by decide) ?_
                        refine lv_irem hx hb dX10_walk_148 (by decide) ?_
                        refine lv_topi (fun v277 ev277 => ?_)
                        have tv277 : v277.toInt = ((x35.toInt + r132.toInt) % 4 + x256.toInt) % 4 := ti_rem tv276 (by omega) (by decide) ki_4 ev277
                        refine k_i (wc := [(h0, oX10 b o_thrown o_taped o_size o_at o_from o_token o_value o_faultKind o_faultPlace o_lawNow o_walkSet o_oneWidow o_oneTurn o_askWorst o_mayWalk o_oftenAll o_oftenRoad o_oftenPegs), (b 1, .inl (cI, 149, .inl o_f1))]) (wr := [(b 16, .inl (cI, 7, .inl o_f16)), (b 21, .inl (cZ, 80, .inl o_f21)), (b 24, .inl (cI, 80, .inl g39)), (b 25, .inl (cI, 6, .inl o_f25)), (b 26, .inl (cI, 287, .inl g40)), (b 27, .inl (cI, 7, .inl g41)), (b 28, .inl (cI, 7, .inl o_f28)), (b 29, .inl (cI, 6, .inl o_f29)), (b 15, .inl (cZ, 80, .inl o_f15)), (b 22, .inl (cZ, 80, .inl g4)), (b 23, .inl (cZ, 80, .inl g38))]) hP hD hS hA [8, 9] [0, 1, 2, 3, 4, 5, 6, 7, 10, 11, 12] rfl rfl rfl (by decide) (va_runV (As := [.int x34, .int v277]) (rest := [.ref h0]) ⟨hx, hb, hml, hown, hts⟩ (f_X10_beside l G cI cJ cZ cB cQ _ h0 x34 x34.toInt v277 (((x35.toInt + r132.toInt) % 4 + x256.toInt) % 4) b o_thrown o_taped o_size o_at o_from o_token o_value o_faultKind o_faultPlace o_lawNow o_walkSet o_oneWidow o_oneTurn o_askWorst o_mayWalk o_oftenAll o_oftenRoad o_oftenPegs o_f1 rfl (by omega) (by omega) tv277 hl_o_taped hh_o_taped hl_o_size hh_o_size hl_o_at hh_o_at hl_o_from hh_o_from hl_o_oneTurn hh_o_oneTurn ha_o_f1) (cwV 2 hts (gV w_1524 w_1526 wp_114 w_11 w_1527) rfl rfl rfl ⟨rfl, hd_X10_beside⟩ ⟨Nat.le_of_ble_eq_true rfl, Nat.le_of_ble_eq_true rfl⟩) (mV hK hZ hP hD [8, 9] rfl rfl [.int x34, .int v277] 8 10 rfl rfl) rfl rfl hl.1 rfl (lv_room (Nat.le_of_ble_eq_true rfl)) dX10_walk_149 ⟨Nat.le_of_ble_eq_true rfl, Nat.le_of_ble_eq_true rfl⟩) (fun r278 u279 H locs hw280 hP hD hS => ?_)
                        try dsimp only at hw280
                        have hP : va_P G vwCl [(b 16, .inl (cI, 7, .inl o_f16)), (b 21, .inl (cZ, 80, .inl o_f21)), (b 24, .inl (cI, 80, .inl g39)), (b 25, .inl (cI, 6, .inl o_f25)), (b 26, .inl (cI, 287, .inl g40)), (b 27, .inl (cI, 7, .inl g41)), (b 28, .inl (cI, 7, .inl o_f28)), (b 29, .inl (cI, 6, .inl o_f29)), (b 15, .inl (cZ, 80, .inl o_f15)), (b 22, .inl (cZ, 80, .inl g4)), (b 23, .inl (cZ, 80, .inl g38)), (h0, oX10 b o_thrown o_taped o_size o_at o_from o_token o_value o_faultKind o_faultPlace o_lawNow o_walkSet o_oneWidow o_oneTurn o_askWorst o_mayWalk o_oftenAll o_oftenRoad o_oftenPegs), (b 1, .inl (cI, 149, .inl o_f1))] H := hP
                        have hD : va_D A [(b 16, .inl (cI, 7, .inl o_f16)), (b 21, .inl (cZ, 80, .inl o_f21)), (b 24, .inl (cI, 80, .inl g39)), (b 25, .inl (cI, 6, .inl o_f25)), (b 26, .inl (cI, 287, .inl g40)), (b 27, .inl (cI, 7, .inl g41)), (b 28, .inl (cI, 7, .inl o_f28)), (b 29, .inl (cI, 6, .inl o_f29)), (b 15, .inl (cZ, 80, .inl o_f15)), (b 22, .inl (cZ, 80, .inl g4)), (b 23, .inl (cZ, 80, .inl g38)), (h0, oX10 b o_thrown o_taped o_size o_at o_from o_token o_value o_faultKind o_faultPlace o_lawNow o_walkSet o_oneWidow o_oneTurn o_askWorst o_mayWalk o_oftenAll o_oftenRoad o_oftenPegs), (b 1, .inl (cI, 149, .inl o_f1))] := hD
                        obtain ⟨w281, w282, w283⟩ : (-1) ≤ r278.toInt ∧ r278.toInt ≤ 77 ∧ r278.toInt = bsd (o_f1 3).toInt (o_f1 4).toInt x34.toInt (((x35.toInt + r132.toInt) % 4 + x256.toInt) % 4) := hw280
                        refine lv_iload hx hb dX10_walk_152 (lv_at hl 1 rfl) ?_
                        refine k_i (wc := [(h0, oX10 b o_thrown o_taped o_size o_at o_from o_token o_value o_faultKind o_faultPlace o_lawNow o_walkSet o_oneWidow o_oneTurn o_askWorst o_mayWalk o_oftenAll o_oftenRoad o_oftenPegs), (b 15, .inl (cZ, 80, .inl o_f15)), (b 22, .inl (cZ, 80, .inl g4)), (b 23, .inl (cZ, 80, .inl g38))]) (wr := [(b 16, .inl (cI, 7, .inl o_f16)), (b 21, .inl (cZ, 80, .inl o_f21)), (b 24, .inl (cI, 80, .inl g39)), (b 25, .inl (cI, 6, .inl o_f25)), (b 26, .inl (cI, 287, .inl g40)), (b 27, .inl (cI, 7, .inl g41)), (b 28, .inl (cI, 7, .inl o_f28)), (b 29, .inl (cI, 6, .inl o_f29)), (b 1, .inl (cI, 149, .inl o_f1))]) hP hD hS hA [11, 8, 9, 10] [0, 1, 2, 3, 4, 5, 6, 7, 12] rfl rfl rfl (by decide) (va_runV (As := [.int r278, .int o_lawNow]) (rest := []) ⟨hx, hb, hml, hown, hts⟩ (f_X10_isFree l G cI cJ cZ cB cQ _ h0 r278 (bsd (o_f1 3).toInt (o_f1 4).toInt x34.toInt (((x35.toInt + r132.toInt) % 4 + x256.toInt) % 4)) o_lawNow o_lawNow.toInt b o_thrown o_taped o_size o_at o_from o_token o_value o_faultKind o_faultPlace o_lawNow o_walkSet o_oneWidow o_oneTurn o_askWorst o_mayWalk o_oftenAll o_oftenRoad o_oftenPegs o_f15 g4 g38 w283 (by omega) (by omega) rfl hl_o_taped hh_o_taped hl_o_size hh_o_size hl_o_at hh_o_at hl_o_from hh_o_from hl_o_oneTurn hh_o_oneTurn ha_o_f15 k8 k50) (cwV 2 hts (gV w_1534 w_1536 wp_115 w_11 w_1537) rfl rfl rfl ⟨rfl, hd_X10_isFree⟩ ⟨Nat.le_of_ble_eq_true rfl, Nat.le_of_ble_eq_true rfl⟩) (mV hK hZ hP hD [11, 8, 9, 10] rfl rfl [.int r278, .int o_lawNow] 11 10 rfl rfl) rfl rfl hl.1 rfl (lv_room (Nat.le_of_ble_eq_true rfl)) dX10_walk_154 ⟨Nat.le_of_ble_eq_true rfl, Nat.le_of_ble_eq_true rfl⟩) (fun r284 u285 H locs hw286 hP hD hS => ?_)
                        try dsimp only at hw286
                        have hP : va_P G vwCl [(b 16, .inl (cI, 7, .inl o_f16)), (b 21, .inl (cZ, 80, .inl o_f21)), (b 24, .inl (cI, 80, .inl g39)), (b 25, .inl (cI, 6, .inl o_f25)), (b 26, .inl (cI, 287, .inl g40)), (b 27, .inl (cI, 7, .inl g41)), (b 28, .inl (cI, 7, .inl o_f28)), (b 29, .inl (cI, 6, .inl o_f29)), (b 1, .inl (cI, 149, .inl o_f1)), (h0, oX10 b o_thrown o_taped o_size o_at o_from o_token o_value o_faultKind o_faultPlace o_lawNow o_walkSet o_oneWidow o_oneTurn o_askWorst o_mayWalk o_oftenAll o_oftenRoad o_oftenPegs), (b 15, .inl (cZ, 80, .inl o_f15)), (b 22, .inl (cZ, 80, .inl g4)), (b 23, .inl (cZ, 80, .inl g38))] H := hP
                        have hD : va_D A [(b 16, .inl (cI, 7, .inl o_f16)), (b 21, .inl (cZ, 80, .inl o_f21)), (b 24, .inl (cI, 80, .inl g39)), (b 25, .inl (cI, 6, .inl o_f25)), (b 26, .inl (cI, 287, .inl g40)), (b 27, .inl (cI, 7, .inl g41)), (b 28, .inl (cI, 7, .inl o_f28)), (b 29, .inl (cI, 6, .inl o_f29)), (b 1, .inl (cI, 149, .inl o_f1)), (h0, oX10 b o_thrown o_taped o_size o_at o_from o_token o_value o_faultKind o_faultPlace o_lawNow o_walkSet o_oneWidow o_oneTurn o_askWorst o_mayWalk o_oftenAll o_oftenRoad o_oftenPegs), (b 15, .inl (cZ, 80, .inl o_f15)), (b 22, .inl (cZ, 80, .inl g4)), (b 23, .inl (cZ, 80, .inl g38))] := hD
                        rcases hw286 with ⟨rfl, a288⟩ | rfl
                        · skip
                          refine lv_if_ne (tgt := 166) hx hb dX10_walk_157 (by decide) (fun c289 => ?_) (fun c289 => absurd c289 (by decide))
                          refine lv_iload hx hb dX10_walk_166 (lv_at hl 0 rfl) ?_
                          refine lv_iconst (v := 4) hx hb dX10_walk_168 (by decide) ?_
                          refine lv_icmp_ge (tgt := 250) hx hb dX10_walk_169 (by decide) (fun c290 => absurd (i_le ki_4 rfl c290) (by omega)) (fun c290 => ?_)
                          have c290 := i_nle ki_4 rfl c290
                          refine lv_iload_n hx hb dX10_walk_172 rfl (lv_at hl 2 rfl) ?_
                          refine lv_iload hx hb dX10_walk_173 (lv_at hl 0 rfl) ?_
                          refine lv_iadd hx hb dX10_walk_175 ?_
                          refine lv_topi (fun v291 ev291 => ?_)
                          have tv291 : v291.toInt = (x35.toInt + r132.toInt) % 4 + x256.toInt := ti_add tv138 rfl ev291 (by omega) (by omega)
                          refine lv_iconst (v := 4) hx hb dX10_walk_176 (by decide) ?_
                          refine lv_irem hx hb dX10_walk_177 (by decide) ?_
                          refine lv_topi (fun v292 ev292 => ?_)
                          have tv292 : v292.toInt = ((x35.toInt + r132.toInt) % 4 + x256.toInt) % 4 := ti_rem tv291 (by omega) (by decide) ki_4 ev292
                          refine lv_istore_n (lv' := [(3, .int v292), (8, .int x256), (7, .int o_lawNow), (6, .int x37), (5, .int x36), (4, .int v25), (2, .int x34), (0, .ref h0), (1, .int p0)]) hx hb dX10_walk_178 rfl hl (by decide) rfl (fun ls hl => ?_)
                          refine lv_aload_n hx hb dX10_walk_179 rfl (lv_at hl 7 rfl) ?_
                          refine lv_iload_n hx hb dX10_walk_180 rfl (lv_at hl 6 rfl) ?_
                          refine lv_iload_n hx hb dX10_walk_181 rfl (lv_at hl 0 rfl) ?_
                          refine k_i (wc := [(h0, oX10 b o_thrown o_taped o_size o_at o_from o_token o_value o_faultKind o_faultPlace o_lawNow o_walkSet o_oneWidow o_oneTurn o_askWorst o_mayWalk o_oftenAll o_oftenRoad o_oftenPegs), (b 1, .inl (cI, 149, .inl o_f1))]) (wr := [(b 16, .inl (cI, 7, .inl o_f16)), (b 21, .inl (cZ, 80, .inl o_f21)), (b 24, .inl (cI, 80, .inl g39)), (b 25, .inl (cI, 6, .inl o_f25)), (b 26, .inl (cI, 287, .inl g40)), (b 27, .inl (cI, 7, .inl g41)), (b 28, .inl (cI, 7, .inl o_f28)), (b 29, .inl (cI, 6, .inl o_f29)), (b 15, .inl (cZ, 80, .inl o_f15)), (b 22, .inl (cZ, 80, .inl g4)), (b 23, .inl (cZ, 80, .inl g38))]) hP hD hS hA [9, 8] [0, 1, 2, 3, 4, 5, 6, 7, 10, 11, 12] rfl rfl rfl (by decide) (va_runV (As := [.int x34, .int v292]) (rest := []) ⟨hx, hb, hml, hown, hts⟩ (f_X10_beside l G cI cJ cZ cB cQ _ h0 x34 x34.toInt v292 (((x35.toInt + r132.toInt) % 4 + x256.toInt) % 4) b o_thrown o_taped o_size o_at o_from o_token o_value o_faultKind o_faultPlace o_lawNow o_walkSet o_oneWidow o_oneTurn o_askWorst o_mayWalk o_oftenAll o_oftenRoad o_oftenPegs o_f1 rfl (by omega) (by omega) tv292 hl_o_taped hh_o_taped hl_o_size hh_o_size hl_o_at hh_o_at hl_o_from hh_o_from hl_o_oneTurn hh_o_oneTurn ha_o_f1) (cwV 2 hts (gV w_1524 w_1526 wp_114 w_11 w_1527) rfl rfl rfl ⟨rfl, hd_X10_beside⟩ ⟨Nat.le_of_ble_eq_true rfl, Nat.le_of_ble_eq_true rfl⟩) (mV hK hZ hP hD [9, 8] rfl rfl [.int x34, .int v292] 9 10 rfl rfl) rfl rfl hl.1 rfl (lv_room (Nat.le_of_ble_eq_true rfl)) dX10_walk_182 ⟨Nat.le_of_ble_eq_true rfl, Nat.le_of_ble_eq_true rfl⟩) (fun r293 u294 H locs hw295 hP hD hS => ?_)
                          try dsimp only at hw295
                          have hP : va_P G vwCl [(b 16, .inl (cI, 7, .inl o_f16)), (b 21, .inl (cZ, 80, .inl o_f21)), (b 24, .inl (cI, 80, .inl g39)), (b 25, .inl (cI, 6, .inl o_f25)), (b 26, .inl (cI, 287, .inl g40)), (b 27, .inl (cI, 7, .inl g41)), (b 28, .inl (cI, 7, .inl o_f28)), (b 29, .inl (cI, 6, .inl o_f29)), (b 15, .inl (cZ, 80, .inl o_f15)), (b 22, .inl (cZ, 80, .inl g4)), (b 23, .inl (cZ, 80, .inl g38)), (h0, oX10 b o_thrown o_taped o_size o_at o_from o_token o_value o_faultKind o_faultPlace o_lawNow o_walkSet o_oneWidow o_oneTurn o_askWorst o_mayWalk o_oftenAll o_oftenRoad o_oftenPegs), (b 1, .inl (cI, 149, .inl o_f1))] H := hP
                          have hD : va_D A [(b 16, .inl (cI, 7, .inl o_f16)), (b 21, .inl (cZ, 80, .inl o_f21)), (b 24, .inl (cI, 80, .inl g39)), (b 25, .inl (cI, 6, .inl o_f25)), (b 26, .inl (cI, 287, .inl g40)), (b 27, .inl (cI, 7, .inl g41)), (b 28, .inl (cI, 7, .inl o_f28)), (b 29, .inl (cI, 6, .inl o_f29)), (b 15, .inl (cZ, 80, .inl o_f15)), (b 22, .inl (cZ, 80, .inl g4)), (b 23, .inl (cZ, 80, .inl g38)), (h0, oX10 b o_thrown o_taped o_size o_at o_from o_token o_value o_faultKind o_faultPlace o_lawNow o_walkSet o_oneWidow o_oneTurn o_askWorst o_mayWalk o_oftenAll o_oftenRoad o_oftenPegs), (b 1, .inl (cI, 149, .inl o_f1))] := hD
                          obtain ⟨w296, w297, w298⟩ : (-1) ≤ r293.toInt ∧ r293.toInt ≤ 77 ∧ r293.toInt = bsd (o_f1 3).toInt (o_f1 4).toInt x34.toInt (((x35.toInt + r132.toInt) % 4 + x256.toInt) % 4) := hw295
                          refine lv_istore (lv' := [(9, .int r293), (3, .int v292), (8, .int x256), (7, .int o_lawNow), (6, .int x37), (5, .int x36), (4, .int v25), (2, .int x34), (0, .ref h0), (1, .int p0)]) hx hb dX10_walk_185 hl (by decide) rfl (fun ls hl => ?_)
                          refine lv_aload_n hx hb dX10_walk_187 rfl (lv_at hl 8 rfl) ?_
                          refine va_get (D := G) (ci := 10) (v := .ref (b 24)) (C := RX10) (T := TX10) (N := 46) hx hb hts iG_X10 hown hK hP 11 rfl rfl 24 (by decide) (hts _ w_1216) (fun _ h9 => h9) rfl dX10_walk_188 ?_
                          refine lv_iload_n hx hb dX10_walk_191 rfl (lv_at hl 7 rfl) ?_
                          refine lv_dup2_11 hx hb dX10_walk_192 rfl rfl ?_
                          refine va_iald hx hb hK hP 2 0 rfl rfl (ix_in rfl (by omega) (by omega)) dX10_walk_193 ?_
                          refine lv_topi (fun v299 ev299 => ?_)
                          have lkv299 : v299.toInt = (g39 x34.toNatClampNeg).toInt := by rw [ev299]
                          refine lv_iconst (v := 1) hx hb dX10_walk_194 (by decide) ?_
                          refine lv_iload_n hx hb dX10_walk_195 rfl (lv_at hl 1 rfl) ?_
                          refine lv_ishl hx hb dX10_walk_196 ?_
                          refine lv_topi (fun v300 ev300 => ?_)
                          obtain ⟨sa301, sb302⟩ : 1 ≤ v300.toInt ∧ v300.toInt ≤ 8 := shl1 3 tv292 (by omega) (by omega) (by decide) ev300
                          refine lv_ior hx hb dX10_walk_197 ?_
                          refine lv_topi (fun v303 ev303 => ?_)
                          refine va_iast hx hb hK hP hD hS 2 0 rfl rfl (ix_in rfl (by omega) (by omega)) dX10_walk_198 (fun H locs hP hD hS => ?_)
                          obtain ⟨f304, qf304⟩ : ∃ g, g = upd g39 x34.toNatClampNeg v303 := ⟨_, rfl⟩
                          rw [← qf304] at hP hD
                          have okn : okp (o_f1 3).toInt (o_f1 4).toInt (x34.toInt) (((x35.toInt + r132.toInt) % 4 + x256.toInt) % 4) := ⟨by omega, by omega, by omega⟩
                          have hb304 : PG f304 80 (o_f1 3).toInt (o_f1 4).toInt := by rw [qf304]; exact PG_or k51 rfl (by omega) (by omega) ev299 ev300 ev303 tv292 (by omega) (by omega) okn
                          have hP : va_P G vwCl [(b 16, .inl (cI, 7, .inl o_f16)), (b 21, .inl (cZ, 80, .inl o_f21)), (b 24, .inl (cI, 80, .inl f304)), (b 25, .inl (cI, 6, .inl o_f25)), (b 26, .inl (cI, 287, .inl g40)), (b 27, .inl (cI, 7, .inl g41)), (b 28, .inl (cI, 7, .inl o_f28)), (b 29, .inl (cI, 6, .inl o_f29)), (b 15, .inl (cZ, 80, .inl o_f15)), (b 22, .inl (cZ, 80, .inl g4)), (b 23, .inl (cZ, 80, .inl g38)), (h0, oX10 b o_thrown o_taped o_size o_at o_from o_token o_value o_faultKind o_faultPlace o_lawNow o_walkSet o_oneWidow o_oneTurn o_askWorst o_mayWalk o_oftenAll o_oftenRoad o_oftenPegs), (b 1, .inl (cI, 149, .inl o_f1))] H := hP
                          have hD : va_D A [(b 16, .inl (cI, 7, .inl o_f16)), (b 21, .inl (cZ, 80, .inl o_f21)), (b 24, .inl (cI, 80, .inl f304)), (b 25, .inl (cI, 6, .inl o_f25)), (b 26, .inl (cI, 287, .inl g40)), (b 27, .inl (cI, 7, .inl g41)), (b 28, .inl (cI, 7, .inl o_f28)), (b 29, .inl (cI, 6, .inl o_f29)), (b 15, .inl (cZ, 80, .inl o_f15)), (b 22, .inl (cZ, 80, .inl g4)), (b 23, .inl (cZ, 80, .inl g38)), (h0, oX10 b o_thrown o_taped o_size o_at o_from o_token o_value o_faultKind o_faultPlace o_lawNow o_walkSet o_oneWidow o_oneTurn o_askWorst o_mayWalk o_oftenAll o_oftenRoad o_oftenPegs), (b 1, .inl (cI, 149, .inl o_f1))] := hD
                          refine lv_aload_n hx hb dX10_walk_199 rfl (lv_at hl 8 rfl) ?_
                          refine va_get (D := G) (ci := 10) (v := .ref (b 24)) (C := RX10) (T := TX10) (N := 46) hx hb hts iG_X10 hown hK hP 11 rfl rfl 24 (by decide) (hts _ w_1216) (fun _ h9 => h9) rfl dX10_walk_200 ?_
                          refine lv_iload hx hb dX10_walk_203 (lv_at hl 0 rfl) ?_
                          refine lv_dup2_11 hx hb dX10_walk_205 rfl rfl ?_
                          refine va_iald hx hb hK hP 2 0 rfl rfl (ix_in w298 (by omega) (by omega)) dX10_walk_206 ?_
                          refine lv_topi (fun v306 ev306 => ?_)
                          have lkv306 : v306.toInt = (f304 r293.toNatClampNeg).toInt := by rw [ev306]
                          refine lv_iconst (v := 1) hx hb dX10_walk_207 (by decide) ?_
                          refine lv_iload_n hx hb dX10_walk_208 rfl (lv_at hl 1 rfl) ?_
                          refine lv_iconst (v := 2) hx hb dX10_walk_209 (by decide) ?_
                          refine lv_iadd hx hb dX10_walk_210 ?_
                          refine lv_topi (fun v307 ev307 => ?_)
                          have tv307 : v307.toInt = ((x35.toInt + r132.toInt) % 4 + x256.toInt) % 4 + 2 := ti_add tv292 ki_2 ev307 (by omega) (by omega)
                          refine lv_iconst (v := 4) hx hb dX10_walk_211 (by decide) ?_
                          refine lv_irem hx hb dX10_walk_212 (by decide) ?_
                          refine lv_topi (fun v308 ev308 => ?_)
                          have tv308 : v308.toInt = (((x35.toInt + r132.toInt) % 4 + x256.toInt) % 4 + 2) % 4 := ti_rem tv307 (by omega) (by decide) ki_4 ev308
                          refine lv_ishl hx hb dX10_walk_213 ?_
                          refine lv_topi (fun v309 ev309 => ?_)
                          obtain ⟨sa310, sb311⟩ : 1 ≤ v309.toInt ∧ v309.toInt ≤ 8 := shl1 3 tv308 (by omega) (by omega) (by decide) ev309
                          refine lv_ior hx hb dX10_walk_214 ?_
                          refine lv_topi (fun v312 ev312 => ?_)
                          refine va_iast hx hb hK hP hD hS 2 0 rfl rfl (ix_in w298 (by omega) (by omega)) dX10_walk_215 (fun H locs hP hD hS => ?_)
                          obtain ⟨f313, qf313⟩ : ∃ g, g = upd f304 r293.toNatClampNeg v312 := ⟨_, rfl⟩
                          rw [← qf313] at hP hD
                          obtain ⟨okb, okt⟩ := okp_back (c := x34.toInt) (d := ((x35.toInt + r132.toInt) % 4 + x256.toInt) % 4) (t := bsd (o_f1 3).toInt (o_f1 4).toInt x34.toInt (((x35.toInt + r132.toInt) % 4 + x256.toInt) % 4)) (e := (((x35.toInt + r132.toInt) % 4 + x256.toInt) % 4 + 2) % 4) (by omega) (by omega) (by omega) okn rfl (by omega) rfl
                          obtain ⟨gr0, gr1, gr2⟩ := bsd_grid (wd := (o_f1 3).toInt) (hi := (o_f1 4).toInt) (c := x34.toInt) (d := ((x35.toInt + r132.toInt) % 4 + x256.toInt) % 4) (t := bsd (o_f1 3).toInt (o_f1 4).toInt x34.toInt (((x35.toInt + r132.toInt) % 4 + x256.toInt) % 4)) rfl (by omega) (by omega)
                          have hb313 : PG f313 80 (o_f1 3).toInt (o_f1 4).toInt := by rw [qf313]; exact PG_or hb304 w298 (by omega) (by omega) ev306 ev309 ev312 tv308 (by omega) (by omega) okb
                          have hP : va_P G vwCl [(b 16, .inl (cI, 7, .inl o_f16)), (b 21, .inl (cZ, 80, .inl o_f21)), (b 24, .inl (cI, 80, .inl f313)), (b 25, .inl (cI, 6, .inl o_f25)), (b 26, .inl (cI, 287, .inl g40)), (b 27, .inl (cI, 7, .inl g41)), (b 28, .inl (cI, 7, .inl o_f28)), (b 29, .inl (cI, 6, .inl o_f29)), (b 15, .inl (cZ, 80, .inl o_f15)), (b 22, .inl (cZ, 80, .inl g4)), (b 23, .inl (cZ, 80, .inl g38)), (h0, oX10 b o_thrown o_taped o_size o_at o_from o_token o_value o_faultKind o_faultPlace o_lawNow o_walkSet o_oneWidow o_oneTurn o_askWorst o_mayWalk o_oftenAll o_oftenRoad o_oftenPegs), (b 1, .inl (cI, 149, .inl o_f1))] H := hP
                          have hD : va_D A [(b 16, .inl (cI, 7, .inl o_f16)), (b 21, .inl (cZ, 80, .inl o_f21)), (b 24, .inl (cI, 80, .inl f313)), (b 25, .inl (cI, 6, .inl o_f25)), (b 26, .inl (cI, 287, .inl g40)), (b 27, .inl (cI, 7, .inl g41)), (b 28, .inl (cI, 7, .inl o_f28)), (b 29, .inl (cI, 6, .inl o_f29)), (b 15, .inl (cZ, 80, .inl o_f15)), (b 22, .inl (cZ, 80, .inl g4)), (b 23, .inl (cZ, 80, .inl g38)), (h0, oX10 b o_thrown o_taped o_size o_at o_from o_token o_value o_faultKind o_faultPlace o_lawNow o_walkSet o_oneWidow o_oneTurn o_askWorst o_mayWalk o_oftenAll o_oftenRoad o_oftenPegs), (b 1, .inl (cI, 149, .inl o_f1))] := hD
                          refine lv_iload hx hb dX10_walk_216 (lv_at hl 0 rfl) ?_
                          refine lv_istore_n (lv' := [(2, .int r293), (9, .int r293), (3, .int v292), (8, .int x256), (7, .int o_lawNow), (6, .int x37), (5, .int x36), (4, .int v25), (0, .ref h0), (1, .int p0)]) hx hb dX10_walk_218 rfl hl (by decide) rfl (fun ls hl => ?_)
                          refine lv_aload_n hx hb dX10_walk_219 rfl (lv_at hl 8 rfl) ?_
                          refine va_get (D := G) (ci := 10) (v := .ref (b 23)) (C := RX10) (T := TX10) (N := 46) hx hb hts iG_X10 hown hK hP 11 rfl rfl 23 (by decide) (hts _ w_1215) (fun _ h9 => h9) rfl dX10_walk_220 ?_
                          refine lv_iload_n hx hb dX10_walk_223 rfl (lv_at hl 0 rfl) ?_
                          refine lv_iconst (v := 1) hx hb dX10_walk_224 (by decide) ?_
                          refine va_zast hx hb hK hP hD hS 10 2 rfl rfl (ix_in w298 (by omega) (by omega)) dX10_walk_225 (fun H locs hP hD hS => ?_)
                          obtain ⟨f315, qf315⟩ : ∃ g, g = upd g38 r293.toNatClampNeg (vp_nar .boolean (1 : Int32)) := ⟨_, rfl⟩
                          rw [← qf315] at hP hD
                          have hi316 : ai f315 80 0 1 := by rw [qf315]; exact ai_putz k50
                          have hP : va_P G vwCl [(b 16, .inl (cI, 7, .inl o_f16)), (b 21, .inl (cZ, 80, .inl o_f21)), (b 24, .inl (cI, 80, .inl f313)), (b 25, .inl (cI, 6, .inl o_f25)), (b 26, .inl (cI, 287, .inl g40)), (b 27, .inl (cI, 7, .inl g41)), (b 28, .inl (cI, 7, .inl o_f28)), (b 29, .inl (cI, 6, .inl o_f29)), (b 15, .inl (cZ, 80, .inl o_f15)), (b 22, .inl (cZ, 80, .inl g4)), (b 23, .inl (cZ, 80, .inl f315)), (h0, oX10 b o_thrown o_taped o_size o_at o_from o_token o_value o_faultKind o_faultPlace o_lawNow o_walkSet o_oneWidow o_oneTurn o_askWorst o_mayWalk o_oftenAll o_oftenRoad o_oftenPegs), (b 1, .inl (cI, 149, .inl o_f1))] H := hP
                          have hD : va_D A [(b 16, .inl (cI, 7, .inl o_f16)), (b 21, .inl (cZ, 80, .inl o_f21)), (b 24, .inl (cI, 80, .inl f313)), (b 25, .inl (cI, 6, .inl o_f25)), (b 26, .inl (cI, 287, .inl g40)), (b 27, .inl (cI, 7, .inl g41)), (b 28, .inl (cI, 7, .inl o_f28)), (b 29, .inl (cI, 6, .inl o_f29)), (b 15, .inl (cZ, 80, .inl o_f15)), (b 22, .inl (cZ, 80, .inl g4)), (b 23, .inl (cZ, 80, .inl f315)), (h0, oX10 b o_thrown o_taped o_size o_at o_from o_token o_value o_faultKind o_faultPlace o_lawNow o_walkSet o_oneWidow o_oneTurn o_askWorst o_mayWalk o_oftenAll o_oftenRoad o_oftenPegs), (b 1, .inl (cI, 149, .inl o_f1))] := hD
                          refine lv_aload_n hx hb dX10_walk_226 rfl (lv_at hl 8 rfl) ?_
                          refine va_get (D := G) (ci := 10) (v := .int o_lawNow) (C := RX10) (T := TX10) (N := 46) hx hb hts iG_X10 hown hK hP 11 rfl rfl 17 (by decide) (hts _ w_1209) (fun _ h9 => h9) rfl dX10_walk_227 ?_
                          refine lv_iconst (v := 3) hx hb dX10_walk_230 (by decide) ?_
                          refine lv_icmp_ne (tgt := 243) hx hb dX10_walk_231 (by decide) (fun c317 => ?_) (fun c317 => ?_)
                          · have c317 := i_ne rfl ki_3 c317
                            refine lv_iconst (v := 1) hx hb dX10_walk_243 (by decide) ?_
                            refine lv_goto (tgt := 248) hx hb dX10_walk_244 (by decide) ?_
                            refine lv_istore (lv' := [(5, .int 1), (2, .int r293), (9, .int r293), (3, .int v292), (8, .int x256), (7, .int o_lawNow), (6, .int x37), (4, .int v25), (0, .ref h0), (1, .int p0)]) hx hb dX10_walk_248 hl (by decide) rfl (fun ls hl => ?_)
                            refine lv_aload_n hx hb dX10_walk_250 rfl (lv_at hl 8 rfl) ?_
                            refine va_get (D := G) (ci := 10) (v := .ref (b 27)) (C := RX10) (T := TX10) (N := 46) hx hb hts iG_X10 hown hK hP 11 rfl rfl 27 (by decide) (hts _ w_1219) (fun _ h9 => h9) rfl dX10_walk_251 ?_
                            refine lv_iload_n hx hb dX10_walk_254 rfl (lv_at hl 9 rfl) ?_
                            refine lv_dup2_11 hx hb dX10_walk_255 rfl rfl ?_
                            refine va_iald hx hb hK hP 5 0 rfl rfl (ix_in hp0 (by omega) (by omega)) dX10_walk_256 ?_
                            refine lv_topi (fun v318 ev318 => ?_)
                            obtain ⟨ia319, ib320⟩ := ai_get k53 hp0 (by omega) (by omega) ev318
                            have lkv318 : v318.toInt = (g41 p0.toNatClampNeg).toInt := by rw [ev318]
                            refine lv_iconst (v := 1) hx hb dX10_walk_257 (by decide) ?_
                            refine lv_iadd hx hb dX10_walk_258 ?_
                            refine lv_topi (fun v321 ev321 => ?_)
                            have tv321 : v321.toInt = v318.toInt + 1 := ti_add rfl ki_1 ev321 (by omega) (by omega)
                            refine va_iast hx hb hK hP hD hS 5 0 rfl rfl (ix_in hp0 (by omega) (by omega)) dX10_walk_259 (fun H locs hP hD hS => ?_)
                            obtain ⟨f322, qf322⟩ : ∃ g, g = upd g41 p0.toNatClampNeg v321 := ⟨_, rfl⟩
                            rw [← qf322] at hP hD
                            have hi323 : ai f322 7 (-1) 40 := by rw [qf322]; exact ai_put k53 tv321 (by omega) (by omega)
                            have ksf322 : (f322 p0.toNatClampNeg).toInt = v318.toInt + 1 := by rw [qf322, pk_us]; exact tv321
                            have hP : va_P G vwCl [(b 16, .inl (cI, 7, .inl o_f16)), (b 21, .inl (cZ, 80, .inl o_f21)), (b 24, .inl (cI, 80, .inl f313)), (b 25, .inl (cI, 6, .inl o_f25)), (b 26, .inl (cI, 287, .inl g40)), (b 27, .inl (cI, 7, .inl f322)), (b 28, .inl (cI, 7, .inl o_f28)), (b 29, .inl (cI, 6, .inl o_f29)), (b 15, .inl (cZ, 80, .inl o_f15)), (b 22, .inl (cZ, 80, .inl g4)), (b 23, .inl (cZ, 80, .inl f315)), (h0, oX10 b o_thrown o_taped o_size o_at o_from o_token o_value o_faultKind o_faultPlace o_lawNow o_walkSet o_oneWidow o_oneTurn o_askWorst o_mayWalk o_oftenAll o_oftenRoad o_oftenPegs), (b 1, .inl (cI, 149, .inl o_f1))] H := hP
                            have hD : va_D A [(b 16, .inl (cI, 7, .inl o_f16)), (b 21, .inl (cZ, 80, .inl o_f21)), (b 24, .inl (cI, 80, .inl f313)), (b 25, .inl (cI, 6, .inl o_f25)), (b 26, .inl (cI, 287, .inl g40)), (b 27, .inl (cI, 7, .inl f322)), (b 28, .inl (cI, 7, .inl o_f28)), (b 29, .inl (cI, 6, .inl o_f29)), (b 15, .inl (cZ, 80, .inl o_f15)), (b 22, .inl (cZ, 80, .inl g4)), (b 23, .inl (cZ, 80, .inl f315)), (h0, oX10 b o_thrown o_taped o_size o_at o_from o_token o_value o_faultKind o_faultPlace o_lawNow o_walkSet o_oneWidow o_oneTurn o_askWorst o_mayWalk o_oftenAll o_oftenRoad o_oftenPegs), (b 1, .inl (cI, 149, .inl o_f1))] := hD
                            refine lv_aload_n hx hb dX10_walk_260 rfl (lv_at hl 8 rfl) ?_
                            refine va_get (D := G) (ci := 10) (v := .ref (b 26)) (C := RX10) (T := TX10) (N := 46) hx hb hts iG_X10 hown hK hP 11 rfl rfl 26 (by decide) (hts _ w_1218) (fun _ h9 => h9) rfl dX10_walk_261 ?_
                            refine lv_iload hx hb dX10_walk_264 (lv_at hl 7 rfl) ?_
                            refine lv_aload_n hx hb dX10_walk_266 rfl (lv_at hl 8 rfl) ?_
                            refine va_get (D := G) (ci := 10) (v := .ref (b 27)) (C := RX10) (T := TX10) (N := 46) hx hb hts iG_X10 hown hK hP 11 rfl rfl 27 (by decide) (hts _ w_1219) (fun _ h9 => h9) rfl dX10_walk_267 ?_
                            refine lv_iload_n hx hb dX10_walk_270 rfl (lv_at hl 9 rfl) ?_
                            refine va_iald hx hb hK hP 5 0 rfl rfl (ix_in hp0 (by omega) (by omega)) dX10_walk_271 ?_
                            refine lv_topi (fun v324 ev324 => ?_)
                            obtain ⟨ia325, ib326⟩ := ai_get hi323 hp0 (by omega) (by omega) ev324
                            have lkv324 : v324.toInt = (f322 p0.toNatClampNeg).toInt := by rw [ev324]
                            refine lv_iadd hx hb dX10_walk_272 ?_
                            refine lv_topi (fun v327 ev327 => ?_)
                            have tv327 : v327.toInt = 41 * a0 + v324.toInt := ti_add tv25 rfl ev327 (by omega) (by omega)
                            refine lv_iload_n hx hb dX10_walk_273 rfl (lv_at hl 1 rfl) ?_
                            refine va_iast hx hb hK hP hD hS 4 0 rfl rfl (ix_in tv327 (by omega) (by omega)) dX10_walk_274 (fun H locs hP hD hS => ?_)
                            obtain ⟨f328, qf328⟩ : ∃ g, g = upd g40 v327.toNatClampNeg r293 := ⟨_, rfl⟩
                            rw [← qf328] at hP hD
                            have hi329 : ai f328 287 0 77 := by rw [qf328]; exact ai_put k52 w298 (by omega) (by omega)
                            have hP : va_P G vwCl [(b 16, .inl (cI, 7, .inl o_f16)), (b 21, .inl (cZ, 80, .inl o_f21)), (b 24, .inl (cI, 80, .inl f313)), (b 25, .inl (cI, 6, .inl o_f25)), (b 26, .inl (cI, 287, .inl f328)), (b 27, .inl (cI, 7, .inl f322)), (b 28, .inl (cI, 7, .inl o_f28)), (b 29, .inl (cI, 6, .inl o_f29)), (b 15, .inl (cZ, 80, .inl o_f15)), (b 22, .inl (cZ, 80, .inl g4)), (b 23, .inl (cZ, 80, .inl f315)), (h0, oX10 b o_thrown o_taped o_size o_at o_from o_token o_value o_faultKind o_faultPlace o_lawNow o_walkSet o_oneWidow o_oneTurn o_askWorst o_mayWalk o_oftenAll o_oftenRoad o_oftenPegs), (b 1, .inl (cI, 149, .inl o_f1))] H := hP
                            have hD : va_D A [(b 16, .inl (cI, 7, .inl o_f16)), (b 21, .inl (cZ, 80, .inl o_f21)), (b 24, .inl (cI, 80, .inl f313)), (b 25, .inl (cI, 6, .inl o_f25)), (b 26, .inl (cI, 287, .inl f328)), (b 27, .inl (cI, 7, .inl f322)), (b 28, .inl (cI, 7, .inl o_f28)), (b 29, .inl (cI, 6, .inl o_f29)), (b 15, .inl (cZ, 80, .inl o_f15)), (b 22, .inl (cZ, 80, .inl g4)), (b 23, .inl (cZ, 80, .inl f315)), (h0, oX10 b o_thrown o_taped o_size o_at o_from o_token o_value o_faultKind o_faultPlace o_lawNow o_walkSet o_oneWidow o_oneTurn o_askWorst o_mayWalk o_oftenAll o_oftenRoad o_oftenPegs), (b 1, .inl (cI, 149, .inl o_f1))] := hD
                            obtain ⟨v330, ev330⟩ : ∃ y : Int32, y = x37 + 1 := ⟨_, rfl⟩
                            have tv330 : v330.toInt = x37.toInt + 1 := ti_add rfl ki_1 ev330 (by omega) (by omega)
                            refine lv_iinc (v := v330) (lv' := [(6, .int v330), (5, .int 1), (2, .int r293), (9, .int r293), (3, .int v292), (8, .int x256), (7, .int o_lawNow), (4, .int v25), (0, .ref h0), (1, .int p0)]) hx hb dX10_walk_275 hl (k := 6) rfl (by rw [ev330]; rfl) (by decide) rfl (fun ls hl => ?_)
                            refine lv_goto (tgt := 81) hx hb dX10_walk_278 (by decide) ?_
                            exact ih54 r293 v292 1 v330 f315 f313 f328 f322 (by omega) (by omega) (by omega) (by omega) (by rw [ki_1]; decide) (by rw [ki_1]; decide) (by omega) (by omega) hi316 hb313 hi329 hi323 (by rw [w298]; omega) (by rw [w298]; omega) (by omega) (by omega) _ _ (hP.sub (ws' := [(b 15, .inl (cZ, 80, .inl o_f15)), (b 16, .inl (cI, 7, .inl o_f16)), (b 21, .inl (cZ, 80, .inl o_f21)), (b 22, .inl (cZ, 80, .inl g4)), (b 23, .inl (cZ, 80, .inl f315)), (b 24, .inl (cI, 80, .inl f313)), (b 25, .inl (cI, 6, .inl o_f25)), (b 26, .inl (cI, 287, .inl f328)), (b 27, .inl (cI, 7, .inl f322)), (b 28, .inl (cI, 7, .inl o_f28)), (b 29, .inl (cI, 6, .inl o_f29)), (h0, oX10 b o_thrown o_taped o_size o_at o_from o_token o_value o_faultKind o_faultPlace o_lawNow o_walkSet o_oneWidow o_oneTurn o_askWorst o_mayWalk o_oftenAll o_oftenRoad o_oftenPegs), (b 1, .inl (cI, 149, .inl o_f1))]) [8, 0, 1, 9, 10, 2, 3, 4, 5, 6, 7, 11, 12] rfl) (hD.sub (ws' := [(b 15, .inl (cZ, 80, .inl o_f15)), (b 16, .inl (cI, 7, .inl o_f16)), (b 21, .inl (cZ, 80, .inl o_f21)), (b 22, .inl (cZ, 80, .inl g4)), (b 23, .inl (cZ, 80, .inl f315)), (b 24, .inl (cI, 80, .inl f313)), (b 25, .inl (cI, 6, .inl o_f25)), (b 26, .inl (cI, 287, .inl f328)), (b 27, .inl (cI, 7, .inl f322)), (b 28, .inl (cI, 7, .inl o_f28)), (b 29, .inl (cI, 6, .inl o_f29)), (h0, oX10 b o_thrown o_taped o_size o_at o_from o_token o_value o_faultKind o_faultPlace o_lawNow o_walkSet o_oneWidow o_oneTurn o_askWorst o_mayWalk o_oftenAll o_oftenRoad o_oftenPegs), (b 1, .inl (cI, 149, .inl o_f1))]) [8, 0, 1, 9, 10, 2, 3, 4, 5, 6, 7, 11, 12] rfl rfl) hS ls (lv_sub hl [0, 1, 7, 4, 2, 8, 9] rfl)
                          · have c317 := i_eq rfl ki_3 c317
                            refine lv_aload_n hx hb dX10_walk_234 rfl (lv_at hl 8 rfl) ?_
                            refine va_get (D := G) (ci := 10) (v := .ref (b 22)) (C := RX10) (T := TX10) (N := 46) hx hb hts iG_X10 hown hK hP 11 rfl rfl 22 (by decide) (hts _ w_1214) (fun _ h9 => h9) rfl dX10_walk_235 ?_
                            refine lv_iload_n hx hb dX10_walk_238 rfl (lv_at hl 0 rfl) ?_
                            refine va_zald hx hb hK hP 9 2 rfl rfl (ix_in w298 (by omega) (by omega)) dX10_walk_239 ?_
                            refine lv_topi (fun v331 ev331 => ?_)
                            obtain ⟨ia332, ib333⟩ := ai_get k8 w298 (by omega) (by omega) ev331
                            have lkv331 : v331.toInt = (g4 r293.toNatClampNeg).toInt := by rw [ev331]
                            refine lv_if_ne (tgt := 247) hx hb dX10_walk_240 (by decide) (fun c334 => ?_) (fun c334 => ?_)
                            · have c334 := i_ne rfl ki_0 c334
                              refine lv_iconst (v := 0) hx hb dX10_walk_247 (by decide) ?_
                              refine lv_istore (lv' := [(5, .int 0), (2, .int r293), (9, .int r293), (3, .int v292), (8, .int x256), (7, .int o_lawNow), (6, .int x37), (4, .int v25), (0, .ref h0), (1, .int p0)]) hx hb dX10_walk_248 hl (by decide) rfl (fun ls hl => ?_)
                              refine lv_aload_n hx hb dX10_walk_250 rfl (lv_at hl 8 rfl) ?_
                              refine va_get (D := G) (ci := 10) (v := .ref (b 27)) (C := RX10) (T := TX10) (N := 46) hx hb hts iG_X10 hown hK hP 11 rfl rfl 27 (by decide) (hts _ w_1219) (fun _ h9 => h9) rfl dX10_walk_251 ?_
                              refine lv_iload_n hx hb dX10_walk_254 rfl (lv_at hl 9 rfl) ?_
                              refine lv_dup2_11 hx hb dX10_walk_255 rfl rfl ?_
                              refine va_iald hx hb hK hP 5 0 rfl rfl (ix_in hp0 (by omega) (by omega)) dX10_walk_256 ?_
                              refine lv_topi (fun v335 ev335 => ?_)
                              obtain ⟨ia336, ib337⟩ := ai_get k53 hp0 (by omega) (by omega) ev335
                              have lkv335 : v335.toInt = (g41 p0.toNatClampNeg).toInt := by rw [ev335]
                              refine lv_iconst (v := 1) hx hb dX10_walk_257 (by decide) ?_
                              refine lv_iadd hx hb dX10_walk_258 ?_
                              refine lv_topi (fun v338 ev338 => ?_)
                              have tv338 : v338.toInt = v335.toInt + 1 := ti_add rfl ki_1 ev338 (by omega) (by omega)
                              refine va_iast hx hb hK hP hD hS 5 0 rfl rfl (ix_in hp0 (by omega) (by omega)) dX10_walk_259 (fun H locs hP hD hS => ?_)
                              obtain ⟨f339, qf339⟩ : ∃ g, g = upd g41 p0.toNatClampNeg v338 := ⟨_, rfl⟩
                              rw [← qf339] at hP hD
                              have hi340 : ai f339 7 (-1) 40 := by rw [qf339]; exact ai_put k53 tv338 (by omega) (by omega)
                              have ksf339 : (f339 p0.toNatClampNeg).toInt = v335.toInt + 1 := by rw [qf339, pk_us]; exact tv338
                              have hP : va_P G vwCl [(b 16, .inl (cI, 7, .inl o_f16)), (b 21, .inl (cZ, 80, .inl o_f21)), (b 24, .inl (cI, 80, .inl f313)), (b 25, .inl (cI, 6, .inl o_f25)), (b 26, .inl (cI, 287, .inl g40)), (b 27, .inl (cI, 7, .inl f339)), (b 28, .inl (cI, 7, .inl o_f28)), (b 29, .inl (cI, 6, .inl o_f29)), (b 15, .inl (cZ, 80, .inl o_f15)), (b 22, .inl (cZ, 80, .inl g4)), (b 23, .inl (cZ, 80, .inl f315)), (h0, oX10 b o_thrown o_taped o_size o_at o_from o_token o_value o_faultKind o_faultPlace o_lawNow o_walkSet o_oneWidow o_oneTurn o_askWorst o_mayWalk o_oftenAll o_oftenRoad o_oftenPegs), (b 1, .inl (cI, 149, .inl o_f1))] H := hP
                              have hD : va_D A [(b 16, .inl (cI, 7, .inl o_f16)), (b 21, .inl (cZ, 80, .inl o_f21)), (b 24, .inl (cI, 80, .inl f313)), (b 25, .inl (cI, 6, .inl o_f25)), (b 26, .inl (cI, 287, .inl g40)), (b 27, .inl (cI, 7, .inl f339)), (b 28, .inl (cI, 7, .inl o_f28)), (b 29, .inl (cI, 6, .inl o_f29)), (b 15, .inl (cZ, 80, .inl o_f15)), (b 22, .inl (cZ, 80, .inl g4)), (b 23, .inl (cZ, 80, .inl f315)), (h0, oX10 b o_thrown o_taped o_size o_at o_from o_token o_value o_faultKind o_faultPlace o_lawNow o_walkSet o_oneWidow o_oneTurn o_askWorst o_mayWalk o_oftenAll o_oftenRoad o_oftenPegs), (b 1, .inl (cI, 149, .inl o_f1))] := hD
                              refine lv_aload_n hx hb dX10_walk_260 rfl (lv_at hl 8 rfl) ?_
                              refine va_get (D := G) (ci := 10) (v := .ref (b 26)) (C := RX10) (T := TX10) (N := 46) hx hb hts iG_X10 hown hK hP 11 rfl rfl 26 (by decide) (hts _ w_1218) (fun _ h9 => h9) rfl dX10_walk_261 ?_
                              refine lv_iload hx hb dX10_walk_264 (lv_at hl 7 rfl) ?_
                              refine lv_aload_n hx hb dX10_walk_266 rfl (lv_at hl 8 rfl) ?_
                              refine va_get (D := G) (ci := 10) (v := .ref (b 27)) (C := RX10) (T := TX10) (N := 46) hx hb hts iG_X10 hown hK hP 11 rfl rfl 27 (by decide) (hts _ w_1219) (fun _ h9 => h9) rfl dX10_walk_267 ?_
                              refine lv_iload_n hx hb dX10_walk_270 rfl (lv_at hl 9 rfl) ?_
                              refine va_iald hx hb hK hP 5 0 rfl rfl (ix_in hp0 (by omega) (by omega)) dX10_walk_271 ?_
                              refine lv_topi (fun v341 ev341 => ?_)
                              obtain ⟨ia342, ib343⟩ := ai_get hi340 hp0 (by omega) (by omega) ev341
                              have lkv341 : v341.toInt = (f339 p0.toNatClampNeg).toInt := by rw [ev341]
                              refine lv_iadd hx hb dX10_walk_272 ?_
                              refine lv_topi (fun v344 ev344 => ?_)
                              have tv344 : v344.toInt = 41 * a0 + v341.toInt := ti_add tv25 rfl ev344 (by omega) (by omega)
                              refine lv_iload_n hx hb dX10_walk_273 rfl (lv_at hl 1 rfl) ?_
                              refine va_iast hx hb hK hP hD hS 4 0 rfl rfl (ix_in tv344 (by omega) (by omega)) dX10_walk_274 (fun H locs hP hD hS => ?_)
                              obtain ⟨f345, qf345⟩ : ∃ g, g = upd g40 v344.toNatClampNeg r293 := ⟨_, rfl⟩
                              rw [← qf345] at hP hD
                              have hi346 : ai f345 287 0 77 := by rw [qf345]; exact ai_put k52 w298 (by omega) (by omega)
                              have hP : va_P G vwCl [(b 16, .inl (cI, 7, .inl o_f16)), (b 21, .inl (cZ, 80, .inl o_f21)), (b 24, .inl (cI, 80, .inl f313)), (b 25, .inl (cI, 6, .inl o_f25)), (b 26, .inl (cI, 287, .inl f345)), (b 27, .inl (cI, 7, .inl f339)), (b 28, .inl (cI, 7, .inl o_f28)), (b 29, .inl (cI, 6, .inl o_f29)), (b 15, .inl (cZ, 80, .inl o_f15)), (b 22, .inl (cZ, 80, .inl g4)), (b 23, .inl (cZ, 80, .inl f315)), (h0, oX10 b o_thrown o_taped o_size o_at o_from o_token o_value o_faultKind o_faultPlace o_lawNow o_walkSet o_oneWidow o_oneTurn o_askWorst o_mayWalk o_oftenAll o_oftenRoad o_oftenPegs), (b 1, .inl (cI, 149, .inl o_f1))] H := hP
                              have hD : va_D A [(b 16, .inl (cI, 7, .inl o_f16)), (b 21, .inl (cZ, 80, .inl o_f21)), (b 24, .inl (cI, 80, .inl f313)), (b 25, .inl (cI, 6, .inl o_f25)), (b 26, .inl (cI, 287, .inl f345)), (b 27, .inl (cI, 7, .inl f339)), (b 28, .inl (cI, 7, .inl o_f28)), (b 29, .inl (cI, 6, .inl o_f29)), (b 15, .inl (cZ, 80, .inl o_f15)), (b 22, .inl (cZ, 80, .inl g4)), (b 23, .inl (cZ, 80, .inl f315)), (h0, oX10 b o_thrown o_taped o_size o_at o_from o_token o_value o_faultKind o_faultPlace o_lawNow o_walkSet o_oneWidow o_oneTurn o_askWorst o_mayWalk o_oftenAll o_oftenRoad o_oftenPegs), (b 1, .inl (cI, 149, .inl o_f1))] := hD
                              obtain ⟨v347, ev347⟩ : ∃ y : Int32, y = x37 + 1 := ⟨_, rfl⟩
                              have tv347 : v347.toInt = x37.toInt + 1 := ti_add rfl ki_1 ev347 (by omega) (by omega)
                              refine lv_iinc (v := v347) (lv' := [(6, .int v347), (5, .int 0), (2, .int r293), (9, .int r293), (3, .int v292), (8, .int x256), (7, .int o_lawNow), (4, .int v25), (0, .ref h0), (1, .int p0)]) hx hb dX10_walk_275 hl (k := 6) rfl (by rw [ev347]; rfl) (by decide) rfl (fun ls hl => ?_)
                              refine lv_goto (tgt := 81) hx hb dX10_walk_278 (by decide) ?_
                              exact ih54 r293 v292 0 v347 f315 f313 f345 f339 (by omega) (by omega) (by omega) (by omega) (by rw [ki_0]; decide) (by rw [ki_0]; decide) (by omega) (by omega) hi316 hb313 hi346 hi340 (by rw [w298]; omega) (by rw [w298]; omega) (by omega) (by omega) _ _ (hP.sub (ws' := [(b 15, .inl (cZ, 80, .inl o_f15)), (b 16, .inl (cI, 7, .inl o_f16)), (b 21, .inl (cZ, 80, .inl o_f21)), (b 22, .inl (cZ, 80, .inl g4)), (b 23, .inl (cZ, 80, .inl f315)), (b 24, .inl (cI, 80, .inl f313)), (b 25, .inl (cI, 6, .inl o_f25)), (b 26, .inl (cI, 287, .inl f345)), (b 27, .inl (cI, 7, .inl f339)), (b 28, .inl (cI, 7, .inl o_f28)), (b 29, .inl (cI, 6, .inl o_f29)), (h0, oX10 b o_thrown o_taped o_size o_at o_from o_token o_value o_faultKind o_faultPlace o_lawNow o_walkSet o_oneWidow o_oneTurn o_askWorst o_mayWalk o_oftenAll o_oftenRoad o_oftenPegs), (b 1, .inl (cI, 149, .inl o_f1))]) [8, 0, 1, 9, 10, 2, 3, 4, 5, 6, 7, 11, 12] rfl) (hD.sub (ws' := [(b 15, .inl (cZ, 80, .inl o_f15)), (b 16, .inl (cI, 7, .inl o_f16)), (b 21, .inl (cZ, 80, .inl o_f21)), (b 22, .inl (cZ, 80, .inl g4)), (b 23, .inl (cZ, 80, .inl f315)), (b 24, .inl (cI, 80, .inl f313)), (b 25, .inl (cI, 6, .inl o_f25)), (b 26, .inl (cI, 287, .inl f345)), (b 27, .inl (cI, 7, .inl f339)), (b 28, .inl (cI, 7, .inl o_f28)), (b 29, .inl (cI, 6, .inl o_f29)), (h0, oX10 b o_thrown o_taped o_size o_at o_from o_token o_value o_faultKind o_faultPlace o_lawNow o_walkSet o_oneWidow o_oneTurn o_askWorst o_mayWalk o_oftenAll o_oftenRoad o_oftenPegs), (b 1, .inl (cI, 149, .inl o_f1))]) [8, 0, 1, 9, 10, 2, 3, 4, 5, 6, 7, 11, 12] rfl rfl) hS ls (lv_sub hl [0, 1, 7, 4, 2, 8, 9] rfl)
                            · have c334 := i_eq rfl ki_0 c334
                              refine lv_iconst (v := 1) hx hb dX10_walk_243 (by decide) ?_
                              refine lv_goto (tgt := 248) hx hb dX10_walk_244 (by decide) ?_
                              refine lv_istore (lv' := [(5, .int 1), (2, .int r293), (9, .int r293), (3, .int v292), (8, .int x256), (7, .int o_lawNow), (6, .int x37), (4, .int v25), (0, .ref h0), (1, .int p0)]) hx hb dX10_walk_248 hl (by decide) rfl (fun ls hl => ?_)
                              refine lv_aload_n hx hb dX10_walk_250 rfl (lv_at hl 8 rfl) ?_
                              refine va_get (D := G) (ci := 10) (v := .ref (b 27)) (C := RX10) (T := TX10) (N := 46) hx hb hts iG_X10 hown hK hP 11 rfl rfl 27 (by decide) (hts _ w_1219) (fun _ h9 => h9) rfl dX10_walk_251 ?_
                              refine lv_iload_n hx hb dX10_walk_254 rfl (lv_at hl 9 rfl) ?_
                              refine lv_dup2_11 hx hb dX10_walk_255 rfl rfl ?_
                              refine va_iald hx hb hK hP 5 0 rfl rfl (ix_in hp0 (by omega) (by omega)) dX10_walk_256 ?_
                              refine lv_topi (fun v348 ev348 => ?_)
                              obtain ⟨ia349, ib350⟩ := ai_get k53 hp0 (by omega) (by omega) ev348
                              have lkv348 : v348.toInt = (g41 p0.toNatClampNeg).toInt := by rw [ev348]
                              refine lv_iconst (v := 1) hx hb dX10_walk_257 (by decide) ?_
                              refine lv_iadd hx hb dX10_walk_258 ?_
                              refine lv_topi (fun v351 ev351 => ?_)
                              have tv351 : v351.toInt = v348.toInt + 1 := ti_add rfl ki_1 ev351 (by omega) (by omega)
                              refine va_iast hx hb hK hP hD hS 5 0 rfl rfl (ix_in hp0 (by omega) (by omega)) dX10_walk_259 (fun H locs hP hD hS => ?_)
                              obtain ⟨f352, qf352⟩ : ∃ g, g = upd g41 p0.toNatClampNeg v351 := ⟨_, rfl⟩
                              rw [← qf352] at hP hD
                              have hi353 : ai f352 7 (-1) 40 := by rw [qf352]; exact ai_put k53 tv351 (by omega) (by omega)
                              have ksf352 : (f352 p0.toNatClampNeg).toInt = v348.toInt + 1 := by rw [qf352, pk_us]; exact tv351
                              have hP : va_P G vwCl [(b 16, .inl (cI, 7, .inl o_f16)), (b 21, .inl (cZ, 80, .inl o_f21)), (b 24, .inl (cI, 80, .inl f313)), (b 25, .inl (cI, 6, .inl o_f25)), (b 26, .inl (cI, 287, .inl g40)), (b 27, .inl (cI, 7, .inl f352)), (b 28, .inl (cI, 7, .inl o_f28)), (b 29, .inl (cI, 6, .inl o_f29)), (b 15, .inl (cZ, 80, .inl o_f15)), (b 22, .inl (cZ, 80, .inl g4)), (b 23, .inl (cZ, 80, .inl f315)), (h0, oX10 b o_thrown o_taped o_size o_at o_from o_token o_value o_faultKind o_faultPlace o_lawNow o_walkSet o_oneWidow o_oneTurn o_askWorst o_mayWalk o_oftenAll o_oftenRoad o_oftenPegs), (b 1, .inl (cI, 149, .inl o_f1))] H := hP
                              have hD : va_D A [(b 16, .inl (cI, 7, .inl o_f16)), (b 21, .inl (cZ, 80, .inl o_f21)), (b 24, .inl (cI, 80, .inl f313)), (b 25, .inl (cI, 6, .inl o_f25)), (b 26, .inl (cI, 287, .inl g40)), (b 27, .inl (cI, 7, .inl f352)), (b 28, .inl (cI, 7, .inl o_f28)), (b 29, .inl (cI, 6, .inl o_f29)), (b 15, .inl (cZ, 80, .inl o_f15)), (b 22, .inl (cZ, 80, .inl g4)), (b 23, .inl (cZ, 80, .inl f315)), (h0, oX10 b o_thrown o_taped o_size o_at o_from o_token o_value o_faultKind o_faultPlace o_lawNow o_walkSet o_oneWidow o_oneTurn o_askWorst o_mayWalk o_oftenAll o_oftenRoad o_oftenPegs), (b 1, .inl (cI, 149, .inl o_f1))] := hD
                              refine lv_aload_n hx hb dX10_walk_260 rfl (lv_at hl 8 rfl) ?_
                              refine va_get (D := G) (ci := 10) (v := .ref (b 26)) (C := RX10) (T := TX10) (N := 46) hx hb hts iG_X10 hown hK hP 11 rfl rfl 26 (by decide) (hts _ w_1218) (fun _ h9 => h9) rfl dX10_walk_261 ?_
                              refine lv_iload hx hb dX10_walk_264 (lv_at hl 7 rfl) ?_
                              refine lv_aload_n hx hb dX10_walk_266 rfl (lv_at hl 8 rfl) ?_
                              refine va_get (D := G) (ci := 10) (v := .ref (b 27)) (C := RX10) (T := TX10) (N := 46) hx hb hts iG_X10 hown hK hP 11 rfl rfl 27 (by decide) (hts _ w_1219) (fun _ h9 => h9) rfl dX10_walk_267 ?_
                              refine lv_iload_n hx hb dX10_walk_270 rfl (lv_at hl 9 rfl) ?_
                              refine va_iald hx hb hK hP 5 0 rfl rfl (ix_in hp0 (by omega) (by omega)) dX10_walk_271 ?_
                              refine lv_topi (fun v354 ev354 => ?_)
                              obtain ⟨ia355, ib356⟩ := ai_get hi353 hp0 (by omega) (by omega) ev354
                              have lkv354 : v354.toInt = (f352 p0.toNatClampNeg).toInt := by rw [ev354]
                              refine lv_iadd hx hb dX10_walk_272 ?_
                              refine lv_topi (fun v357 ev357 => ?_)
                              have tv357 : v357.toInt = 41 * a0 + v354.toInt := ti_add tv25 rfl ev357 (by omega) (by omega)
                              refine lv_iload_n hx hb dX10_walk_273 rfl (lv_at hl 1 rfl) ?_
                              refine va_iast hx hb hK hP hD hS 4 0 rfl rfl (ix_in tv357 (by omega) (by omega)) dX10_walk_274 (fun H locs hP hD hS => ?_)
                              obtain ⟨f358, qf358⟩ : ∃ g, g = upd g40 v357.toNatClampNeg r293 := ⟨_, rfl⟩
                              rw [← qf358] at hP hD
                              have hi359 : ai f358 287 0 77 := by rw [qf358]; exact ai_put k52 w298 (by omega) (by omega)
                              have hP : va_P G vwCl [(b 16, .inl (cI, 7, .inl o_f16)), (b 21, .inl (cZ, 80, .inl o_f21)), (b 24, .inl (cI, 80, .inl f313)), (b 25, .inl (cI, 6, .inl o_f25)), (b 26, .inl (cI, 287, .inl f358)), (b 27, .inl (cI, 7, .inl f352)), (b 28, .inl (cI, 7, .inl o_f28)), (b 29, .inl (cI, 6, .inl o_f29)), (b 15, .inl (cZ, 80, .inl o_f15)), (b 22, .inl (cZ, 80, .inl g4)), (b 23, .inl (cZ, 80, .inl f315)), (h0, oX10 b o_thrown o_taped o_size o_at o_from o_token o_value o_faultKind o_faultPlace o_lawNow o_walkSet o_oneWidow o_oneTurn o_askWorst o_mayWalk o_oftenAll o_oftenRoad o_oftenPegs), (b 1, .inl (cI, 149, .inl o_f1))] H := hP
                              have hD : va_D A [(b 16, .inl (cI, 7, .inl o_f16)), (b 21, .inl (cZ, 80, .inl o_f21)), (b 24, .inl (cI, 80, .inl f313)), (b 25, .inl (cI, 6, .inl o_f25)), (b 26, .inl (cI, 287, .inl f358)), (b 27, .inl (cI, 7, .inl f352)), (b 28, .inl (cI, 7, .inl o_f28)), (b 29, .inl (cI, 6, .inl o_f29)), (b 15, .inl (cZ, 80, .inl o_f15)), (b 22, .inl (cZ, 80, .inl g4)), (b 23, .inl (cZ, 80, .inl f315)), (h0, oX10 b o_thrown o_taped o_size o_at o_from o_token o_value o_faultKind o_faultPlace o_lawNow o_walkSet o_oneWidow o_oneTurn o_askWorst o_mayWalk o_oftenAll o_oftenRoad o_oftenPegs), (b 1, .inl (cI, 149, .inl o_f1))] := hD
                              obtain ⟨v360, ev360⟩ : ∃ y : Int32, y = x37 + 1 := ⟨_, rfl⟩
                              have tv360 : v360.toInt = x37.toInt + 1 := ti_add rfl ki_1 ev360 (by omega) (by omega)
                              refine lv_iinc (v := v360) (lv' := [(6, .int v360), (5, .int 1), (2, .int r293), (9, .int r293), (3, .int v292), (8, .int x256), (7, .int o_lawNow), (4, .int v25), (0, .ref h0), (1, .int p0)]) hx hb dX10_walk_275 hl (k := 6) rfl (by rw [ev360]; rfl) (by decide) rfl (fun ls hl => ?_)
                              refine lv_goto (tgt := 81) hx hb dX10_walk_278 (by decide) ?_
                              exact ih54 r293 v292 1 v360 f315 f313 f358 f352 (by omega) (by omega) (by omega) (by omega) (by rw [ki_1]; decide) (by rw [ki_1]; decide) (by omega) (by omega) hi316 hb313 hi359 hi353 (by rw [w298]; omega) (by rw [w298]; omega) (by omega) (by omega) _ _ (hP.sub (ws' := [(b 15, .inl (cZ, 80, .inl o_f15)), (b 16, .inl (cI, 7, .inl o_f16)), (b 21, .inl (cZ, 80, .inl o_f21)), (b 22, .inl (cZ, 80, .inl g4)), (b 23, .inl (cZ, 80, .inl f315)), (b 24, .inl (cI, 80, .inl f313)), (b 25, .inl (cI, 6, .inl o_f25)), (b 26, .inl (cI, 287, .inl f358)), (b 27, .inl (cI, 7, .inl f352)), (b 28, .inl (cI, 7, .inl o_f28)), (b 29, .inl (cI, 6, .inl o_f29)), (h0, oX10 b o_thrown o_taped o_size o_at o_from o_token o_value o_faultKind o_faultPlace o_lawNow o_walkSet o_oneWidow o_oneTurn o_askWorst o_mayWalk o_oftenAll o_oftenRoad o_oftenPegs), (b 1, .inl (cI, 149, .inl o_f1))]) [8, 0, 1, 9, 10, 2, 3, 4, 5, 6, 7, 11, 12] rfl) (hD.sub (ws' := [(b 15, .inl (cZ, 80, .inl o_f15)), (b 16, .inl (cI, 7, .inl o_f16)), (b 21, .inl (cZ, 80, .inl o_f21)), (b 22, .inl (cZ, 80, .inl g4)), (b 23, .inl (cZ, 80, .inl f315)), (b 24, .inl (cI, 80, .inl f313)), (b 25, .inl (cI, 6, .inl o_f25)), (b 26, .inl (cI, 287, .inl f358)), (b 27, .inl (cI, 7, .inl f352)), (b 28, .inl (cI, 7, .inl o_f28)), (b 29, .inl (cI, 6, .inl o_f29)), (h0, oX10 b o_thrown o_taped o_size o_at o_from o_token o_value o_faultKind o_faultPlace o_lawNow o_walkSet o_oneWidow o_oneTurn o_askWorst o_mayWalk o_oftenAll o_oftenRoad o_oftenPegs), (b 1, .inl (cI, 149, .inl o_f1))]) [8, 0, 1, 9, 10, 2, 3, 4, 5, 6, 7, 11, 12] rfl rfl) hS ls (lv_sub hl [0, 1, 7, 4, 2, 8, 9] rfl)
                        · skip
                          refine lv_if_ne (tgt := 166) hx hb dX10_walk_157 (by decide) (fun c361 => absurd (by decide) c361) (fun c361 => ?_)
                          obtain ⟨v362, ev362⟩ : ∃ y : Int32, y = x256 + 1 := ⟨_, rfl⟩
                          have tv362 : v362.toInt = x256.toInt + 1 := ti_add rfl ki_1 ev362 (by omega) (by omega)
                          refine lv_iinc (v := v362) (lv' := [(8, .int v362), (7, .int o_lawNow), (3, .int v138), (6, .int x37), (5, .int x36), (4, .int v25), (2, .int x34), (0, .ref h0), (1, .int p0)]) hx hb dX10_walk_160 hl (k := 0) rfl (by rw [ev362]; rfl) (by decide) rfl (fun ls hl => ?_)
                          refine lv_goto (tgt := 134) hx hb dX10_walk_163 (by decide) ?_
                          exact ih259 v362 (by omega) (by omega) (by omega) _ _ (hP.sub (ws' := [(b 16, .inl (cI, 7, .inl o_f16)), (b 21, .inl (cZ, 80, .inl o_f21)), (b 24, .inl (cI, 80, .inl g39)), (b 25, .inl (cI, 6, .inl o_f25)), (b 26, .inl (cI, 287, .inl g40)), (b 27, .inl (cI, 7, .inl g41)), (b 28, .inl (cI, 7, .inl o_f28)), (b 29, .inl (cI, 6, .inl o_f29)), (h0, oX10 b o_thrown o_taped o_size o_at o_from o_token o_value o_faultKind o_faultPlace o_lawNow o_walkSet o_oneWidow o_oneTurn o_askWorst o_mayWalk o_oftenAll o_oftenRoad o_oftenPegs), (b 1, .inl (cI, 149, .inl o_f1)), (b 15, .inl (cZ, 80, .inl o_f15)), (b 22, .inl (cZ, 80, .inl g4)), (b 23, .inl (cZ, 80, .inl g38))]) [0, 1, 2, 3, 4, 5, 6, 7, 9, 8, 10, 11, 12] rfl) (hD.sub (ws' := [(b 16, .inl (cI, 7, .inl o_f16)), (b 21, .inl (cZ, 80, .inl o_f21)), (b 24, .inl (cI, 80, .inl g39)), (b 25, .inl (cI, 6, .inl o_f25)), (b 26, .inl (cI, 287, .inl g40)), (b 27, .inl (cI, 7, .inl g41)), (b 28, .inl (cI, 7, .inl o_f28)), (b 29, .inl (cI, 6, .inl o_f29)), (h0, oX10 b o_thrown o_taped o_size o_at o_from o_token o_value o_faultKind o_faultPlace o_lawNow o_walkSet o_oneWidow o_oneTurn o_askWorst o_mayWalk o_oftenAll o_oftenRoad o_oftenPegs), (b 1, .inl (cI, 149, .inl o_f1)), (b 15, .inl (cZ, 80, .inl o_f15)), (b 22, .inl (cZ, 80, .inl g4)), (b 23, .inl (cZ, 80, .inl g38))]) [0, 1, 2, 3, 4, 5, 6, 7, 9, 8, 10, 11, 12] rfl rfl) hS ls (lv_sub hl [0, 1, 2, 3, 4, 5, 6, 7, 8] rfl)
                  exact lp254 5 0 (by rw [ki_0]; decide) (by rw [ki_0]; decide) (by rw [ki_0]; decide) _ _ hP hD hS ls (lv_sub hl [0, 1, 2, 3, 4, 5, 6, 7, 8] rfl)
        exact lp32 41 r13 v22 1 0 f28 o_f24 f26 f30 (by omega) (by omega) ia23 ib24 (by rw [ki_1]; decide) (by rw [ki_1]; decide) (by rw [ki_0]; decide) (by rw [ki_0]; decide) hi29 ha_o_f24 hi27 hi31 (by rw [w16]; omega) (by rw [w16]; omega) (by rw [ki_0]; omega) (by rw [ki_0]; decide) _ _ hP hD hS ls (lv_sub hl [0, 1, 2, 3, 4, 5, 6] rfl)
      · have c12 := i_nle ki_80 rfl c12
        refine lv_aload_n hx hb dX10_walk_8 rfl (lv_at hl 1 rfl) ?_
        refine va_get (D := G) (ci := 10) (v := .ref (b 22)) (C := RX10) (T := TX10) (N := 46) hx hb hts iG_X10 hown hK hP 0 rfl rfl 22 (by decide) (hts _ w_1214) (fun _ h9 => h9) rfl dX10_walk_9 ?_
        refine lv_iload_n hx hb dX10_walk_12 rfl (lv_at hl 0 rfl) ?_
        refine lv_aload_n hx hb dX10_walk_13 rfl (lv_at hl 1 rfl) ?_
        refine va_get (D := G) (ci := 10) (v := .ref (b 21)) (C := RX10) (T := TX10) (N := 46) hx hb hts iG_X10 hown hK hP 0 rfl rfl 21 (by decide) (hts _ w_1213) (fun _ h9 => h9) rfl dX10_walk_14 ?_
        refine lv_iload_n hx hb dX10_walk_17 rfl (lv_at hl 0 rfl) ?_
        refine va_zald hx hb hK hP 4 2 rfl rfl (ix_in rfl (by omega) (by omega)) dX10_walk_18 ?_
        refine lv_topi (fun v363 ev363 => ?_)
        obtain ⟨ia364, ib365⟩ := ai_get ha_o_f21 rfl (by omega) (by omega) ev363
        have lkv363 : v363.toInt = (o_f21 x3.toNatClampNeg).toInt := by rw [ev363]
        refine va_zast hx hb hK hP hD hS 5 2 rfl rfl (ix_in rfl (by omega) (by omega)) dX10_walk_19 (fun H locs hP hD hS => ?_)
        obtain ⟨f366, qf366⟩ : ∃ g, g = upd g4 x3.toNatClampNeg (vp_nar .boolean v363) := ⟨_, rfl⟩
        rw [← qf366] at hP hD
        have hi367 : ai f366 80 0 1 := by rw [qf366]; exact ai_putz k8
        have hP : va_P G vwCl [(h0, oX10 b o_thrown o_taped o_size o_at o_from o_token o_value o_faultKind o_faultPlace o_lawNow o_walkSet o_oneWidow o_oneTurn o_askWorst o_mayWalk o_oftenAll o_oftenRoad o_oftenPegs), (b 1, .inl (cI, 149, .inl o_f1)), (b 15, .inl (cZ, 80, .inl o_f15)), (b 16, .inl (cI, 7, .inl o_f16)), (b 21, .inl (cZ, 80, .inl o_f21)), (b 22, .inl (cZ, 80, .inl f366)), (b 23, .inl (cZ, 80, .inl g5)), (b 24, .inl (cI, 80, .inl o_f24)), (b 25, .inl (cI, 6, .inl o_f25)), (b 26, .inl (cI, 287, .inl o_f26)), (b 27, .inl (cI, 7, .inl o_f27)), (b 28, .inl (cI, 7, .inl o_f28)), (b 29, .inl (cI, 6, .inl o_f29))] H := hP
        have hD : va_D A [(h0, oX10 b o_thrown o_taped o_size o_at o_from o_token o_value o_faultKind o_faultPlace o_lawNow o_walkSet o_oneWidow o_oneTurn o_askWorst o_mayWalk o_oftenAll o_oftenRoad o_oftenPegs), (b 1, .inl (cI, 149, .inl o_f1)), (b 15, .inl (cZ, 80, .inl o_f15)), (b 16, .inl (cI, 7, .inl o_f16)), (b 21, .inl (cZ, 80, .inl o_f21)), (b 22, .inl (cZ, 80, .inl f366)), (b 23, .inl (cZ, 80, .inl g5)), (b 24, .inl (cI, 80, .inl o_f24)), (b 25, .inl (cI, 6, .inl o_f25)), (b 26, .inl (cI, 287, .inl o_f26)), (b 27, .inl (cI, 7, .inl o_f27)), (b 28, .inl (cI, 7, .inl o_f28)), (b 29, .inl (cI, 6, .inl o_f29))] := hD
        refine lv_aload_n hx hb dX10_walk_20 rfl (lv_at hl 1 rfl) ?_
        refine va_get (D := G) (ci := 10) (v := .ref (b 23)) (C := RX10) (T := TX10) (N := 46) hx hb hts iG_X10 hown hK hP 0 rfl rfl 23 (by decide) (hts _ w_1215) (fun _ h9 => h9) rfl dX10_walk_21 ?_
        refine lv_iload_n hx hb dX10_walk_24 rfl (lv_at hl 0 rfl) ?_
        refine lv_iconst (v := 0) hx hb dX10_walk_25 (by decide) ?_
        refine va_zast hx hb hK hP hD hS 6 2 rfl rfl (ix_in rfl (by omega) (by omega)) dX10_walk_26 (fun H locs hP hD hS => ?_)
        obtain ⟨f368, qf368⟩ : ∃ g, g = upd g5 x3.toNatClampNeg (vp_nar .boolean (0 : Int32)) := ⟨_, rfl⟩
        rw [← qf368] at hP hD
        have hi369 : ai f368 80 0 1 := by rw [qf368]; exact ai_putz k9
        have hP : va_P G vwCl [(h0, oX10 b o_thrown o_taped o_size o_at o_from o_token o_value o_faultKind o_faultPlace o_lawNow o_walkSet o_oneWidow o_oneTurn o_askWorst o_mayWalk o_oftenAll o_oftenRoad o_oftenPegs), (b 1, .inl (cI, 149, .inl o_f1)), (b 15, .inl (cZ, 80, .inl o_f15)), (b 16, .inl (cI, 7, .inl o_f16)), (b 21, .inl (cZ, 80, .inl o_f21)), (b 22, .inl (cZ, 80, .inl f366)), (b 23, .inl (cZ, 80, .inl f368)), (b 24, .inl (cI, 80, .inl o_f24)), (b 25, .inl (cI, 6, .inl o_f25)), (b 26, .inl (cI, 287, .inl o_f26)), (b 27, .inl (cI, 7, .inl o_f27)), (b 28, .inl (cI, 7, .inl o_f28)), (b 29, .inl (cI, 6, .inl o_f29))] H := hP
        have hD : va_D A [(h0, oX10 b o_thrown o_taped o_size o_at o_from o_token o_value o_faultKind o_faultPlace o_lawNow o_walkSet o_oneWidow o_oneTurn o_askWorst o_mayWalk o_oftenAll o_oftenRoad o_oftenPegs), (b 1, .inl (cI, 149, .inl o_f1)), (b 15, .inl (cZ, 80, .inl o_f15)), (b 16, .inl (cI, 7, .inl o_f16)), (b 21, .inl (cZ, 80, .inl o_f21)), (b 22, .inl (cZ, 80, .inl f366)), (b 23, .inl (cZ, 80, .inl f368)), (b 24, .inl (cI, 80, .inl o_f24)), (b 25, .inl (cI, 6, .inl o_f25)), (b 26, .inl (cI, 287, .inl o_f26)), (b 27, .inl (cI, 7, .inl o_f27)), (b 28, .inl (cI, 7, .inl o_f28)), (b 29, .inl (cI, 6, .inl o_f29))] := hD
        obtain ⟨v370, ev370⟩ : ∃ y : Int32, y = x3 + 1 := ⟨_, rfl⟩
        have tv370 : v370.toInt = x3.toInt + 1 := ti_add rfl ki_1 ev370 (by omega) (by omega)
        refine lv_iinc (v := v370) (lv' := [(2, .int v370), (0, .ref h0), (1, .int p0)]) hx hb dX10_walk_27 hl (k := 0) rfl (by rw [ev370]; rfl) (by decide) rfl (fun ls hl => ?_)
        refine lv_goto (tgt := 2) hx hb dX10_walk_30 (by decide) ?_
        exact ih10 v370 f366 f368 (by omega) (by omega) hi367 hi369 (by omega) _ _ hP hD hS ls (lv_sub hl [0, 1, 2] rfl)
  exact lp1 81 0 o_f22 o_f23 (by rw [ki_0]; decide) (by rw [ki_0]; decide) ha_o_f22 ha_o_f23 (by rw [ki_0]; decide) _ _ hP hD hS ls (lv_sub hl [0, 1, 2] rfl)
set_option maxHeartbeats 4000000 in
set_option maxRecDepth 100000 in
theorem f_X10_keepYear (l : Launch) (G : va_G) (cI cJ cZ cB cQ : ClassId) (sz : Nat) (h0 : Nat) (p0 : Int32) (a0 : Int) (wd : Int) (hi : Int) (b : Nat → Nat) (o_thrown : Int32) (o_taped : Int32) (o_size : Int32) (o_at : Int32) (o_from : Int32) (o_token : Int32) (o_value : Int32) (o_faultKind : Int32) (o_faultPlace : Int32) (o_lawNow : Int32) (o_walkSet : Int32) (o_oneWidow : Int32) (o_oneTurn : Int32) (o_askWorst : Int32) (o_mayWalk : Int32) (o_oftenAll : Int64) (o_oftenRoad : Int64) (o_oftenPegs : Int64) (o_f21 : Nat → Int32) (o_f24 : Nat → Int32) (o_f25 : Nat → Int32) (o_f30 : Nat → Int32) (o_f31 : Nat → Int32) (o_f32 : Nat → Int32) (hp0 : p0.toInt = a0) (la0 : 0 ≤ a0) (ha0 : a0 ≤ 12) (hq24 : PG o_f24 80 wd hi) (hp31 : PG o_f31 (80 * a0) wd hi) (hl_o_taped : 0 ≤ o_taped.toInt) (hh_o_taped : o_taped.toInt ≤ 900) (hl_o_size : 0 ≤ o_size.toInt) (hh_o_size : o_size.toInt ≤ 900) (hl_o_at : 0 ≤ o_at.toInt) (hh_o_at : o_at.toInt ≤ 900) (hl_o_from : 0 ≤ o_from.toInt) (hh_o_from : o_from.toInt ≤ 900) (hl_o_oneTurn : 0 ≤ o_oneTurn.toInt) (hh_o_oneTurn : o_oneTurn.toInt ≤ 4) (ha_o_f21 : ai o_f21 80 0 1) (ha_o_f25 : ai o_f25 6 (-1) 79) (ha_o_f30 : ai o_f30 1040 0 1) (ha_o_f32 : ai o_f32 78 (-1) 79) : CV l yX10_keepYear (wl_ yX10_keepYear cX10_keepYear 3 none) ({ frames := 0, cells := 0, slots := 0, locals := 0 } : Room) G (TY cI cJ cZ cB cQ) [.ref h0, .int p0] [(h0, oX10 b o_thrown o_taped o_size o_at o_from o_token o_value o_faultKind o_faultPlace o_lawNow o_walkSet o_oneWidow o_oneTurn o_askWorst o_mayWalk o_oftenAll o_oftenRoad o_oftenPegs), (b 21, .inl (cZ, 80, .inl o_f21)), (b 24, .inl (cI, 80, .inl o_f24)), (b 25, .inl (cI, 6, .inl o_f25)), (b 30, .inl (cZ, 1040, .inl o_f30)), (b 31, .inl (cI, 1040, .inl o_f31)), (b 32, .inl (cI, 78, .inl o_f32))] sz (fun (u : (Nat → Int32) × (Nat → Int32) × (Nat → Int32)) => ai u.1 1040 0 1 ∧ ai u.2.2 78 (-1) 79 ∧ PG u.2.1 (80 * a0 + 80) wd hi) (fun u : (Nat → Int32) × (Nat → Int32) × (Nat → Int32) => [(h0, oX10 b o_thrown o_taped o_size o_at o_from o_token o_value o_faultKind o_faultPlace o_lawNow o_walkSet o_oneWidow o_oneTurn o_askWorst o_mayWalk o_oftenAll o_oftenRoad o_oftenPegs), (b 21, .inl (cZ, 80, .inl o_f21)), (b 24, .inl (cI, 80, .inl o_f24)), (b 25, .inl (cI, 6, .inl o_f25)), (b 30, .inl (cZ, 1040, .inl u.1)), (b 31, .inl (cI, 1040, .inl u.2.1)), (b 32, .inl (cI, 78, .inl u.2.2))]) 0 0 := by
  refine CV.go (cc := cX10_keepYear) (maxL := 3) (ret := none) (by decide) rfl (Nat.le_of_ble_eq_true rfl) ?_
  intro p e s m below meth c A ls Q hBd hret
  obtain ⟨hx, hb, hr, hml, hts, hown, hlk, hnm, hP, hK, hD, hA, hZ, hl⟩ := hBd
  have hown : s.vm.findClass RX10 = some m.cls := hown
  have hl : lv_has ls 3 [(0, .ref h0), (1, .int p0)] := hl
  have hS : va_S A s.heap s.heap [] := va_S.rf
  refine lv_iconst (v := 0) hx hb dX10_keepYear_0 (by decide) ?_
  refine lv_istore_n (lv' := [(2, .int 0), (0, .ref h0), (1, .int p0)]) hx hb dX10_keepYear_1 rfl hl (by decide) rfl (fun ls hl => ?_)
  have lp1 : ∀ (n2 : Nat) (x3 : Int32) (g4 : Nat → Int32) (g5 : Nat → Int32), 0 ≤ x3.toInt → x3.toInt ≤ 80 → ai g4 1040 0 1 → PG g5 (80 * a0 + x3.toInt) wd hi → 80 - x3.toInt < (n2 : Int) → ∀ (H : Heap) (locs : List Loc), va_P G vwCl [(h0, oX10 b o_thrown o_taped o_size o_at o_from o_token o_value o_faultKind o_faultPlace o_lawNow o_walkSet o_oneWidow o_oneTurn o_askWorst o_mayWalk o_oftenAll o_oftenRoad o_oftenPegs), (b 21, .inl (cZ, 80, .inl o_f21)), (b 24, .inl (cI, 80, .inl o_f24)), (b 25, .inl (cI, 6, .inl o_f25)), (b 30, .inl (cZ, 1040, .inl g4)), (b 31, .inl (cI, 1040, .inl g5)), (b 32, .inl (cI, 78, .inl o_f32))] H → va_D A [(h0, oX10 b o_thrown o_taped o_size o_at o_from o_token o_value o_faultKind o_faultPlace o_lawNow o_walkSet o_oneWidow o_oneTurn o_askWorst o_mayWalk o_oftenAll o_oftenRoad o_oftenPegs), (b 21, .inl (cZ, 80, .inl o_f21)), (b 24, .inl (cI, 80, .inl o_f24)), (b 25, .inl (cI, 6, .inl o_f25)), (b 30, .inl (cZ, 1040, .inl g4)), (b 31, .inl (cI, 1040, .inl g5)), (b 32, .inl (cI, 78, .inl o_f32))] → va_S A s.heap H locs → ∀ (ls : Array Slot), lv_has ls 3 [(2, .int x3), (0, .ref h0), (1, .int p0)] → W p l e ({ frames := 0, cells := 0, slots := 0, locals := 0 } : Room) s m ([.ref h0, .int p0] : List Value).toArray below meth c H locs 0 0 Q (F0 m 2 ls []) := by
    intro n2
    induction n2 with
    | zero =>
      intro x3 g4 g5 k6 k7 k8 pl8 mm10
      exact absurd mm10 (by have q9 := fb_rng x3; omega)
    | succ n2 ih9 =>
      intro x3 g4 g5 k6 k7 k8 pl8 mm10 H locs hP hD hS ls hl
      refine lv_iload_n hx hb dX10_keepYear_2 rfl (lv_at hl 0 rfl) ?_
      refine lv_bipush (v := 80) hx hb dX10_keepYear_3 (by decide) ?_
      refine lv_icmp_ge (tgt := 48) hx hb dX10_keepYear_5 (by decide) (fun c11 => ?_) (fun c11 => ?_)
      · have c11 := i_le ki_80 rfl c11
        refine lv_iconst (v := 0) hx hb dX10_keepYear_48 (by decide) ?_
        refine lv_istore_n (lv' := [(2, .int 0), (0, .ref h0), (1, .int p0)]) hx hb dX10_keepYear_49 rfl hl (by decide) rfl (fun ls hl => ?_)
        have lp12 : ∀ (n13 : Nat) (x14 : Int32) (g15 : Nat → Int32), 0 ≤ x14.toInt → x14.toInt ≤ 6 → ai g15 78 (-1) 79 → 6 - x14.toInt < (n13 : Int) → ∀ (H : Heap) (locs : List Loc), va_P G vwCl [(h0, oX10 b o_thrown o_taped o_size o_at o_from o_token o_value o_faultKind o_faultPlace o_lawNow o_walkSet o_oneWidow o_oneTurn o_askWorst o_mayWalk o_oftenAll o_oftenRoad o_oftenPegs), (b 21, .inl (cZ, 80, .inl o_f21)), (b 24, .inl (cI, 80, .inl o_f24)), (b 25, .inl (cI, 6, .inl o_f25)), (b 30, .inl (cZ, 1040, .inl g4)), (b 31, .inl (cI, 1040, .inl g5)), (b 32, .inl (cI, 78, .inl g15))] H → va_D A [(h0, oX10 b o_thrown o_taped o_size o_at o_from o_token o_value o_faultKind o_faultPlace o_lawNow o_walkSet o_oneWidow o_oneTurn o_askWorst o_mayWalk o_oftenAll o_oftenRoad o_oftenPegs), (b 21, .inl (cZ, 80, .inl o_f21)), (b 24, .inl (cI, 80, .inl o_f24)), (b 25, .inl (cI, 6, .inl o_f25)), (b 30, .inl (cZ, 1040, .inl g4)), (b 31, .inl (cI, 1040, .inl g5)), (b 32, .inl (cI, 78, .inl g15))] → va_S A s.heap H locs → ∀ (ls : Array Slot), lv_has ls 3 [(2, .int x14), (0, .ref h0), (1, .int p0)] → W p l e ({ frames := 0, cells := 0, slots := 0, locals := 0 } : Room) s m ([.ref h0, .int p0] : List Value).toArray below meth c H locs 0 0 Q (F0 m 50 ls []) := by
          intro n13
          induction n13 with
          | zero =>
            intro x14 g15 k16 k17 k18 mm20
            exact absurd mm20 (by have q9 := fb_rng x14; omega)
          | succ n13 ih19 =>
            intro x14 g15 k16 k17 k18 mm20 H locs hP hD hS ls hl
            refine lv_iload_n hx hb dX10_keepYear_50 rfl (lv_at hl 0 rfl) ?_
            refine lv_bipush (v := 6) hx hb dX10_keepYear_51 (by decide) ?_
            refine lv_icmp_ge (tgt := 79) hx hb dX10_keepYear_53 (by decide) (fun c21 => ?_) (fun c21 => ?_)
            · have c21 := i_le ki_6 rfl c21
              exact hret _ _ _ _ (g4, g5, g15) hP hD hS dX10_keepYear_79 (show ai g4 1040 0 1 ∧ ai g15 78 (-1) 79 ∧ PG g5 (80 * a0 + 80) wd hi from ⟨k8, k18, (PG_le pl8 (by omega))⟩)
            · have c21 := i_nle ki_6 rfl c21
              refine lv_aload_n hx hb dX10_keepYear_56 rfl (lv_at hl 1 rfl) ?_
              refine va_get (D := G) (ci := 10) (v := .ref (b 32)) (C := RX10) (T := TX10) (N := 46) hx hb hts iG_X10 hown hK hP 0 rfl rfl 32 (by decide) (hts _ w_1224) (fun _ h9 => h9) rfl dX10_keepYear_57 ?_
              refine lv_bipush (v := 6) hx hb dX10_keepYear_60 (by decide) ?_
              refine lv_iload_n hx hb dX10_keepYear_62 rfl (lv_at hl 2 rfl) ?_
              refine lv_imul hx hb dX10_keepYear_63 ?_
              refine lv_topi (fun v22 ev22 => ?_)
              have tv22 : v22.toInt = 6 * a0 := ti_mul ki_6 hp0 ev22 (by omega) (by omega)
              refine lv_iload_n hx hb dX10_keepYear_64 rfl (lv_at hl 0 rfl) ?_
              refine lv_iadd hx hb dX10_keepYear_65 ?_
              refine lv_topi (fun v23 ev23 => ?_)
              have tv23 : v23.toInt = 6 * a0 + x14.toInt := ti_add tv22 rfl ev23 (by omega) (by omega)
              refine lv_aload_n hx hb dX10_keepYear_66 rfl (lv_at hl 1 rfl) ?_
              refine va_get (D := G) (ci := 10) (v := .ref (b 25)) (C := RX10) (T := TX10) (N := 46) hx hb hts iG_X10 hown hK hP 0 rfl rfl 25 (by decide) (hts _ w_1217) (fun _ h9 => h9) rfl dX10_keepYear_67 ?_
              refine lv_iload_n hx hb dX10_keepYear_70 rfl (lv_at hl 0 rfl) ?_
              refine va_iald hx hb hK hP 3 0 rfl rfl (ix_in rfl (by omega) (by omega)) dX10_keepYear_71 ?_
              refine lv_topi (fun v24 ev24 => ?_)
              obtain ⟨ia25, ib26⟩ := ai_get ha_o_f25 rfl (by omega) (by omega) ev24
              refine va_iast hx hb hK hP hD hS 6 0 rfl rfl (ix_in tv23 (by omega) (by omega)) dX10_keepYear_72 (fun H locs hP hD hS => ?_)
              obtain ⟨f27, qf27⟩ : ∃ g, g = upd g15 v23.toNatClampNeg v24 := ⟨_, rfl⟩
              rw [← qf27] at hP hD
              have hi28 : ai f27 78 (-1) 79 := by rw [qf27]; exact ai_put k18 rfl ia25 ib26
              have hP : va_P G vwCl [(h0, oX10 b o_thrown o_taped o_size o_at o_from o_token o_value o_faultKind o_faultPlace o_lawNow o_walkSet o_oneWidow o_oneTurn o_askWorst o_mayWalk o_oftenAll o_oftenRoad o_oftenPegs), (b 21, .inl (cZ, 80, .inl o_f21)), (b 24, .inl (cI, 80, .inl o_f24)), (b 25, .inl (cI, 6, .inl o_f25)), (b 30, .inl (cZ, 1040, .inl g4)), (b 31, .inl (cI, 1040, .inl g5)), (b 32, .inl (cI, 78, .inl f27))] H := hP
              have hD : va_D A [(h0, oX10 b o_thrown o_taped o_size o_at o_from o_token o_value o_faultKind o_faultPlace o_lawNow o_walkSet o_oneWidow o_oneTurn o_askWorst o_mayWalk o_oftenAll o_oftenRoad o_oftenPegs), (b 21, .inl (cZ, 80, .inl o_f21)), (b 24, .inl (cI, 80, .inl o_f24)), (b 25, .inl (cI, 6, .inl o_f25)), (b 30, .inl (cZ, 1040, .inl g4)), (b 31, .inl (cI, 1040, .inl g5)), (b 32, .inl (cI, 78, .inl f27))] := hD
              obtain ⟨v29, ev29⟩ : ∃ y : Int32, y = x14 + 1 := ⟨_, rfl⟩
              have tv29 : v29.toInt = x14.toInt + 1 := ti_add rfl ki_1 ev29 (by omega) (by omega)
              refine lv_iinc (v := v29) (lv' := [(2, .int v29), (0, .ref h0), (1, .int p0)]) hx hb dX10_keepYear_73 hl (k := 0) rfl (by rw [ev29]; rfl) (by decide) rfl (fun ls hl => ?_)
              refine lv_goto (tgt := 50) hx hb dX10_keepYear_76 (by decide) ?_
              exact ih19 v29 f27 (by omega) (by omega) hi28 (by omega) _ _ hP hD hS ls (lv_sub hl [0, 1, 2] rfl)
        exact lp12 7 0 o_f32 (by rw [ki_0]; decide) (by rw [ki_0]; decide) ha_o_f32 (by rw [ki_0]; decide) _ _ hP hD hS ls (lv_sub hl [0, 1, 2] rfl)
      · have c11 := i_nle ki_80 rfl c11
        refine lv_aload_n hx hb dX10_keepYear_8 rfl (lv_at hl 1 rfl) ?_
        refine va_get (D := G) (ci := 10) (v := .ref (b 30)) (C := RX10) (T := TX10) (N := 46) hx hb hts iG_X10 hown hK hP 0 rfl rfl 30 (by decide) (hts _ w_1222) (fun _ h9 => h9) rfl dX10_keepYear_9 ?_
        refine lv_bipush (v := 80) hx hb dX10_keepYear_12 (by decide) ?_
        refine lv_iload_n hx hb dX10_keepYear_14 rfl (lv_at hl 2 rfl) ?_
        refine lv_imul hx hb dX10_keepYear_15 ?_
        refine lv_topi (fun v30 ev30 => ?_)
        have tv30 : v30.toInt = 80 * a0 := ti_mul ki_80 hp0 ev30 (by omega) (by omega)
        refine lv_iload_n hx hb dX10_keepYear_16 rfl (lv_at hl 0 rfl) ?_
        refine lv_iadd hx hb dX10_keepYear_17 ?_
        refine lv_topi (fun v31 ev31 => ?_)
        have tv31 : v31.toInt = 80 * a0 + x3.toInt := ti_add tv30 rfl ev31 (by omega) (by omega)
        refine lv_aload_n hx hb dX10_keepYear_18 rfl (lv_at hl 1 rfl) ?_
        refine va_get (D := G) (ci := 10) (v := .ref (b 21)) (C := RX10) (T := TX10) (N := 46) hx hb hts iG_X10 hown hK hP 0 rfl rfl 21 (by decide) (hts _ w_1213) (fun _ h9 => h9) rfl dX10_keepYear_19 ?_
        refine lv_iload_n hx hb dX10_keepYear_22 rfl (lv_at hl 0 rfl) ?_
        refine va_zald hx hb hK hP 1 2 rfl rfl (ix_in rfl (by omega) (by omega)) dX10_keepYear_23 ?_
        refine lv_topi (fun v32 ev32 => ?_)
        obtain ⟨ia33, ib34⟩ := ai_get ha_o_f21 rfl (by omega) (by omega) ev32
        refine va_zast hx hb hK hP hD hS 4 2 rfl rfl (ix_in tv31 (by omega) (by omega)) dX10_keepYear_24 (fun H locs hP hD hS => ?_)
        obtain ⟨f35, qf35⟩ : ∃ g, g = upd g4 v31.toNatClampNeg (vp_nar .boolean v32) := ⟨_, rfl⟩
        rw [← qf35] at hP hD
        have hi36 : ai f35 1040 0 1 := by rw [qf35]; exact ai_putz k8
        have hP : va_P G vwCl [(h0, oX10 b o_thrown o_taped o_size o_at o_from o_token o_value o_faultKind o_faultPlace o_lawNow o_walkSet o_oneWidow o_oneTurn o_askWorst o_mayWalk o_oftenAll o_oftenRoad o_oftenPegs), (b 21, .inl (cZ, 80, .inl o_f21)), (b 24, .inl (cI, 80, .inl o_f24)), (b 25, .inl (cI, 6, .inl o_f25)), (b 30, .inl (cZ, 1040, .inl f35)), (b 31, .inl (cI, 1040, .inl g5)), (b 32, .inl (cI, 78, .inl o_f32))] H := hP
        have hD : va_D A [(h0, oX10 b o_thrown o_taped o_size o_at o_from o_token o_value o_faultKind o_faultPlace o_lawNow o_walkSet o_oneWidow o_oneTurn o_askWorst o_mayWalk o_oftenAll o_oftenRoad o_oftenPegs), (b 21, .inl (cZ, 80, .inl o_f21)), (b 24, .inl (cI, 80, .inl o_f24)), (b 25, .inl (cI, 6, .inl o_f25)), (b 30, .inl (cZ, 1040, .inl f35)), (b 31, .inl (cI, 1040, .inl g5)), (b 32, .inl (cI, 78, .inl o_f32))] := hD
        refine lv_aload_n hx hb dX10_keepYear_25 rfl (lv_at hl 1 rfl) ?_
        refine va_get (D := G) (ci := 10) (v := .ref (b 31)) (C := RX10) (T := TX10) (N := 46) hx hb hts iG_X10 hown hK hP 0 rfl rfl 31 (by decide) (hts _ w_1223) (fun _ h9 => h9) rfl dX10_keepYear_26 ?_
        refine lv_bipush (v := 80) hx hb dX10_keepYear_29 (by decide) ?_
        refine lv_iload_n hx hb dX10_keepYear_31 rfl (lv_at hl 2 rfl) ?_
        refine lv_imul hx hb dX10_keepYear_32 ?_
        refine lv_topi (fun v37 ev37 => ?_)
        have tv37 : v37.toInt = 80 * a0 := ti_mul ki_80 hp0 ev37 (by omega) (by omega)
        refine lv_iload_n hx hb dX10_keepYear_33 rfl (lv_at hl 0 rfl) ?_
        refine lv_iadd hx hb dX10_keepYear_34 ?_
        refine lv_topi (fun v38 ev38 => ?_)
        have tv38 : v38.toInt = 80 * a0 + x3.toInt := ti_add tv37 rfl ev38 (by omega) (by omega)
        refine lv_aload_n hx hb dX10_keepYear_35 rfl (lv_at hl 1 rfl) ?_
        refine va_get (D := G) (ci := 10) (v := .ref (b 24)) (C := RX10) (T := TX10) (N := 46) hx hb hts iG_X10 hown hK hP 0 rfl rfl 24 (by decide) (hts _ w_1216) (fun _ h9 => h9) rfl dX10_keepYear_36 ?_
        refine lv_iload_n hx hb dX10_keepYear_39 rfl (lv_at hl 0 rfl) ?_
        refine va_iald hx hb hK hP 2 0 rfl rfl (ix_in rfl (by omega) (by omega)) dX10_keepYear_40 ?_
        refine lv_topi (fun v39 ev39 => ?_)
        refine va_iast hx hb hK hP hD hS 5 0 rfl rfl (ix_in tv38 (by omega) (by omega)) dX10_keepYear_41 (fun H locs hP hD hS => ?_)
        obtain ⟨f40, qf40⟩ : ∃ g, g = upd g5 v38.toNatClampNeg v39 := ⟨_, rfl⟩
        rw [← qf40] at hP hD
        have pn41 : PG f40 (80 * a0 + x3.toInt + 1) wd hi := by rw [qf40]; exact PG_keep (y := a0) (c := x3.toInt) pl8 hq24 tv38 (by omega) rfl (by omega) (by omega) (by omega) (by omega) (by omega) ev39 (by omega) (by omega)
        have hP : va_P G vwCl [(h0, oX10 b o_thrown o_taped o_size o_at o_from o_token o_value o_faultKind o_faultPlace o_lawNow o_walkSet o_oneWidow o_oneTurn o_askWorst o_mayWalk o_oftenAll o_oftenRoad o_oftenPegs), (b 21, .inl (cZ, 80, .inl o_f21)), (b 24, .inl (cI, 80, .inl o_f24)), (b 25, .inl (cI, 6, .inl o_f25)), (b 30, .inl (cZ, 1040, .inl f35)), (b 31, .inl (cI, 1040, .inl f40)), (b 32, .inl (cI, 78, .inl o_f32))] H := hP
        have hD : va_D A [(h0, oX10 b o_thrown o_taped o_size o_at o_from o_token o_value o_faultKind o_faultPlace o_lawNow o_walkSet o_oneWidow o_oneTurn o_askWorst o_mayWalk o_oftenAll o_oftenRoad o_oftenPegs), (b 21, .inl (cZ, 80, .inl o_f21)), (b 24, .inl (cI, 80, .inl o_f24)), (b 25, .inl (cI, 6, .inl o_f25)), (b 30, .inl (cZ, 1040, .inl f35)), (b 31, .inl (cI, 1040, .inl f40)), (b 32, .inl (cI, 78, .inl o_f32))] := hD
        obtain ⟨v42, ev42⟩ : ∃ y : Int32, y = x3 + 1 := ⟨_, rfl⟩
        have tv42 : v42.toInt = x3.toInt + 1 := ti_add rfl ki_1 ev42 (by omega) (by omega)
        refine lv_iinc (v := v42) (lv' := [(2, .int v42), (0, .ref h0), (1, .int p0)]) hx hb dX10_keepYear_42 hl (k := 0) rfl (by rw [ev42]; rfl) (by decide) rfl (fun ls hl => ?_)
        refine lv_goto (tgt := 2) hx hb dX10_keepYear_45 (by decide) ?_
        exact ih9 v42 f35 f40 (by omega) (by omega) hi36 (PG_le pn41 (by omega)) (by omega) _ _ hP hD hS ls (lv_sub hl [0, 1, 2] rfl)
  exact lp1 81 0 o_f30 o_f31 (by rw [ki_0]; decide) (by rw [ki_0]; decide) ha_o_f30 (PG_le hp31 (by rw [ki_0]; omega)) (by rw [ki_0]; decide) _ _ hP hD hS ls (lv_sub hl [0, 1, 2] rfl)
set_option maxHeartbeats 4000000 in
set_option maxRecDepth 100000 in
theorem f_X10_goAll (l : Launch) (G : va_G) (cI cJ cZ cB cQ : ClassId) (sz : Nat) (h0 : Nat) (b : Nat → Nat) (o_thrown : Int32) (o_taped : Int32) (o_size : Int32) (o_at : Int32) (o_from : Int32) (o_token : Int32) (o_value : Int32) (o_faultKind : Int32) (o_faultPlace : Int32) (o_lawNow : Int32) (o_walkSet : Int32) (o_oneWidow : Int32) (o_oneTurn : Int32) (o_askWorst : Int32) (o_mayWalk : Int32) (o_oftenAll : Int64) (o_oftenRoad : Int64) (o_oftenPegs : Int64) (o_f1 : Nat → Int32) (o_f15 : Nat → Int32) (o_f16 : Nat → Int32) (o_f21 : Nat → Int32) (o_f22 : Nat → Int32) (o_f23 : Nat → Int32) (o_f24 : Nat → Int32) (o_f25 : Nat → Int32) (o_f26 : Nat → Int32) (o_f27 : Nat → Int32) (o_f28 : Nat → Int32) (o_f29 : Nat → Int32) (o_f30 : Nat → Int32) (o_f31 : Nat → Int32) (o_f32 : Nat → Int32) (hl_o_taped : 0 ≤ o_taped.toInt) (hh_o_taped : o_taped.toInt ≤ 900) (hl_o_size : 0 ≤ o_size.toInt) (hh_o_size : o_size.toInt ≤ 900) (hl_o_at : 0 ≤ o_at.toInt) (hh_o_at : o_at.toInt ≤ 900) (hl_o_from : 0 ≤ o_from.toInt) (hh_o_from : o_from.toInt ≤ 900) (hl_o_oneTurn : 0 ≤ o_oneTurn.toInt) (hh_o_oneTurn : o_oneTurn.toInt ≤ 4) (ha_o_f1 : WI o_f1) (ha_o_f15 : ai o_f15 80 0 1) (ha_o_f16 : ai o_f16 7 0 3) (ha_o_f21 : ai o_f21 80 0 1) (ha_o_f22 : ai o_f22 80 0 1) (ha_o_f23 : ai o_f23 80 0 1) (ha_o_f25 : ai o_f25 6 (-1) 79) (ha_o_f26 : ai o_f26 287 0 77) (ha_o_f27 : ai o_f27 7 (-1) 40) (ha_o_f30 : ai o_f30 1040 0 1) (ha_o_f32 : ai o_f32 78 (-1) 79) : CV l yX10_goAll (wl_ yX10_goAll cX10_goAll 3 none) ({ frames := 5, cells := 0, slots := 0, locals := 119 } : Room) G (TY cI cJ cZ cB cQ) [.ref h0] [(h0, oX10 b o_thrown o_taped o_size o_at o_from o_token o_value o_faultKind o_faultPlace o_lawNow o_walkSet o_oneWidow o_oneTurn o_askWorst o_mayWalk o_oftenAll o_oftenRoad o_oftenPegs), (b 1, .inl (cI, 149, .inl o_f1)), (b 15, .inl (cZ, 80, .inl o_f15)), (b 16, .inl (cI, 7, .inl o_f16)), (b 21, .inl (cZ, 80, .inl o_f21)), (b 22, .inl (cZ, 80, .inl o_f22)), (b 23, .inl (cZ, 80, .inl o_f23)), (b 24, .inl (cI, 80, .inl o_f24)), (b 25, .inl (cI, 6, .inl o_f25)), (b 26, .inl (cI, 287, .inl o_f26)), (b 27, .inl (cI, 7, .inl o_f27)), (b 28, .inl (cI, 7, .inl o_f28)), (b 29, .inl (cI, 6, .inl o_f29)), (b 30, .inl (cZ, 1040, .inl o_f30)), (b 31, .inl (cI, 1040, .inl o_f31)), (b 32, .inl (cI, 78, .inl o_f32))] sz (fun (u : (Nat → Int32) × (Nat → Int32) × (Nat → Int32) × (Nat → Int32) × (Nat → Int32) × (Nat → Int32) × (Nat → Int32) × (Nat → Int32) × (Nat → Int32) × (Nat → Int32) × (Nat → Int32) × (Nat → Int32)) => ai u.1 80 0 1 ∧ ai u.2.1 80 0 1 ∧ ai u.2.2.1 80 0 1 ∧ ai u.2.2.2.2.1 6 (-1) 79 ∧ ai u.2.2.2.2.2.1 287 0 77 ∧ ai u.2.2.2.2.2.2.1 7 (-1) 40 ∧ ai u.2.2.2.2.2.2.2.2.2.1 1040 0 1 ∧ ai u.2.2.2.2.2.2.2.2.2.2.2 78 (-1) 79 ∧ PG u.2.2.2.2.2.2.2.2.2.2.1 (80 * (o_f1 0).toInt + 80) (o_f1 3).toInt (o_f1 4).toInt) (fun u : (Nat → Int32) × (Nat → Int32) × (Nat → Int32) × (Nat → Int32) × (Nat → Int32) × (Nat → Int32) × (Nat → Int32) × (Nat → Int32) × (Nat → Int32) × (Nat → Int32) × (Nat → Int32) × (Nat → Int32) => [(h0, oX10 b o_thrown o_taped o_size o_at o_from o_token o_value o_faultKind o_faultPlace o_lawNow o_walkSet o_oneWidow o_oneTurn o_askWorst o_mayWalk o_oftenAll o_oftenRoad o_oftenPegs), (b 1, .inl (cI, 149, .inl o_f1)), (b 15, .inl (cZ, 80, .inl o_f15)), (b 16, .inl (cI, 7, .inl o_f16)), (b 21, .inl (cZ, 80, .inl u.1)), (b 22, .inl (cZ, 80, .inl u.2.1)), (b 23, .inl (cZ, 80, .inl u.2.2.1)), (b 24, .inl (cI, 80, .inl u.2.2.2.1)), (b 25, .inl (cI, 6, .inl u.2.2.2.2.1)), (b 26, .inl (cI, 287, .inl u.2.2.2.2.2.1)), (b 27, .inl (cI, 7, .inl u.2.2.2.2.2.2.1)), (b 28, .inl (cI, 7, .inl u.2.2.2.2.2.2.2.1)), (b 29, .inl (cI, 6, .inl u.2.2.2.2.2.2.2.2.1)), (b 30, .inl (cZ, 1040, .inl u.2.2.2.2.2.2.2.2.2.1)), (b 31, .inl (cI, 1040, .inl u.2.2.2.2.2.2.2.2.2.2.1)), (b 32, .inl (cI, 78, .inl u.2.2.2.2.2.2.2.2.2.2.2))]) 0 0 := by
  refine CV.go (cc := cX10_goAll) (maxL := 3) (ret := none) (by decide) rfl (Nat.le_of_ble_eq_true rfl) ?_
  intro p e s m below meth c A ls Q hBd hret
  obtain ⟨hx, hb, hr, hml, hts, hown, hlk, hnm, hP, hK, hD, hA, hZ, hl⟩ := hBd
  have hown : s.vm.findClass RX10 = some m.cls := hown
  have hl : lv_has ls 3 [(0, .ref h0)] := hl
  have hS : va_S A s.heap s.heap [] := va_S.rf
  refine lv_iconst (v := 0) hx hb dX10_goAll_0 (by decide) ?_
  refine lv_istore_n (lv' := [(1, .int 0), (0, .ref h0)]) hx hb dX10_goAll_1 rfl hl (by decide) rfl (fun ls hl => ?_)
  have lp1 : ∀ (n2 : Nat) (x3 : Int32) (g4 : Nat → Int32) (g5 : Nat → Int32), 0 ≤ x3.toInt → x3.toInt ≤ 80 → ai g4 80 0 1 → PG g5 x3.toInt (o_f1 3).toInt (o_f1 4).toInt → 80 - x3.toInt < (n2 : Int) → ∀ (H : Heap) (locs : List Loc), va_P G vwCl [(h0, oX10 b o_thrown o_taped o_size o_at o_from o_token o_value o_faultKind o_faultPlace o_lawNow o_walkSet o_oneWidow o_oneTurn o_askWorst o_mayWalk o_oftenAll o_oftenRoad o_oftenPegs), (b 1, .inl (cI, 149, .inl o_f1)), (b 15, .inl (cZ, 80, .inl o_f15)), (b 16, .inl (cI, 7, .inl o_f16)), (b 21, .inl (cZ, 80, .inl g4)), (b 22, .inl (cZ, 80, .inl o_f22)), (b 23, .inl (cZ, 80, .inl o_f23)), (b 24, .inl (cI, 80, .inl g5)), (b 25, .inl (cI, 6, .inl o_f25)), (b 26, .inl (cI, 287, .inl o_f26)), (b 27, .inl (cI, 7, .inl o_f27)), (b 28, .inl (cI, 7, .inl o_f28)), (b 29, .inl (cI, 6, .inl o_f29)), (b 30, .inl (cZ, 1040, .inl o_f30)), (b 31, .inl (cI, 1040, .inl o_f31)), (b 32, .inl (cI, 78, .inl o_f32))] H → va_D A [(h0, oX10 b o_thrown o_taped o_size o_at o_from o_token o_value o_faultKind o_faultPlace o_lawNow o_walkSet o_oneWidow o_oneTurn o_askWorst o_mayWalk o_oftenAll o_oftenRoad o_oftenPegs), (b 1, .inl (cI, 149, .inl o_f1)), (b 15, .inl (cZ, 80, .inl o_f15)), (b 16, .inl (cI, 7, .inl o_f16)), (b 21, .inl (cZ, 80, .inl g4)), (b 22, .inl (cZ, 80, .inl o_f22)), (b 23, .inl (cZ, 80, .inl o_f23)), (b 24, .inl (cI, 80, .inl g5)), (b 25, .inl (cI, 6, .inl o_f25)), (b 26, .inl (cI, 287, .inl o_f26)), (b 27, .inl (cI, 7, .inl o_f27)), (b 28, .inl (cI, 7, .inl o_f28)), (b 29, .inl (cI, 6, .inl o_f29)), (b 30, .inl (cZ, 1040, .inl o_f30)), (b 31, .inl (cI, 1040, .inl o_f31)), (b 32, .inl (cI, 78, .inl o_f32))] → va_S A s.heap H locs → ∀ (ls : Array Slot), lv_has ls 3 [(1, .int x3), (0, .ref h0)] → W p l e ({ frames := 5, cells := 0, slots := 0, locals := 119 } : Room) s m ([.ref h0] : List Value).toArray below meth c H locs 0 0 Q (F0 m 2 ls []) := by
    intro n2
    induction n2 with
    | zero =>
      intro x3 g4 g5 k6 k7 k8 pz8 mm10
      exact absurd mm10 (by have q9 := fb_rng x3; omega)
    | succ n2 ih9 =>
      intro x3 g4 g5 k6 k7 k8 pz8 mm10 H locs hP hD hS ls hl
      refine lv_iload_n hx hb dX10_goAll_2 rfl (lv_at hl 0 rfl) ?_
      refine lv_bipush (v := 80) hx hb dX10_goAll_3 (by decide) ?_
      refine lv_icmp_ge (tgt := 28) hx hb dX10_goAll_5 (by decide) (fun c11 => ?_) (fun c11 => ?_)
      · have c11 := i_le ki_80 rfl c11
        have pg24 : PG g5 80 (o_f1 3).toInt (o_f1 4).toInt := PG_le pz8 (by omega)
        refine lv_iconst (v := 0) hx hb dX10_goAll_28 (by decide) ?_
        refine lv_istore_n (lv' := [(1, .int 0), (0, .ref h0)]) hx hb dX10_goAll_29 rfl hl (by decide) rfl (fun ls hl => ?_)
        have lp12 : ∀ (n13 : Nat) (x14 : Int32) (g15 : Nat → Int32) (g16 : Nat → Int32), 0 ≤ x14.toInt → x14.toInt ≤ 6 → ai g15 6 (-1) 79 → 6 - x14.toInt < (n13 : Int) → ∀ (H : Heap) (locs : List Loc), va_P G vwCl [(h0, oX10 b o_thrown o_taped o_size o_at o_from o_token o_value o_faultKind o_faultPlace o_lawNow o_walkSet o_oneWidow o_oneTurn o_askWorst o_mayWalk o_oftenAll o_oftenRoad o_oftenPegs), (b 1, .inl (cI, 149, .inl o_f1)), (b 15, .inl (cZ, 80, .inl o_f15)), (b 16, .inl (cI, 7, .inl o_f16)), (b 21, .inl (cZ, 80, .inl g4)), (b 22, .inl (cZ, 80, .inl o_f22)), (b 23, .inl (cZ, 80, .inl o_f23)), (b 24, .inl (cI, 80, .inl g5)), (b 25, .inl (cI, 6, .inl g15)), (b 26, .inl (cI, 287, .inl o_f26)), (b 27, .inl (cI, 7, .inl o_f27)), (b 28, .inl (cI, 7, .inl o_f28)), (b 29, .inl (cI, 6, .inl g16)), (b 30, .inl (cZ, 1040, .inl o_f30)), (b 31, .inl (cI, 1040, .inl o_f31)), (b 32, .inl (cI, 78, .inl o_f32))] H → va_D A [(h0, oX10 b o_thrown o_taped o_size o_at o_from o_token o_value o_faultKind o_faultPlace o_lawNow o_walkSet o_oneWidow o_oneTurn o_askWorst o_mayWalk o_oftenAll o_oftenRoad o_oftenPegs), (b 1, .inl (cI, 149, .inl o_f1)), (b 15, .inl (cZ, 80, .inl o_f15)), (b 16, .inl (cI, 7, .inl o_f16)), (b 21, .inl (cZ, 80, .inl g4)), (b 22, .inl (cZ, 80, .inl o_f22)), (b 23, .inl (cZ, 80, .inl o_f23)), (b 24, .inl (cI, 80, .inl g5)), (b 25, .inl (cI, 6, .inl g15)), (b 26, .inl (cI, 287, .inl o_f26)), (b 27, .inl (cI, 7, .inl o_f27)), (b 28, .inl (cI, 7, .inl o_f28)), (b 29, .inl (cI, 6, .inl g16)), (b 30, .inl (cZ, 1040, .inl o_f30)), (b 31, .inl (cI, 1040, .inl o_f31)), (b 32, .inl (cI, 78, .inl o_f32))] → va_S A s.heap H locs → ∀ (ls : Array Slot), lv_has ls 3 [(1, .int x14), (0, .ref h0)] → W p l e ({ frames := 5, cells := 0, slots := 0, locals := 119 } : Room) s m ([.ref h0] : List Value).toArray below meth c H locs 0 0 Q (F0 m 30 ls []) := by
          intro n13
          induction n13 with
          | zero =>
            intro x14 g15 g16 k17 k18 k19 mm21
            exact absurd mm21 (by have q9 := fb_rng x14; omega)
          | succ n13 ih20 =>
            intro x14 g15 g16 k17 k18 k19 mm21 H locs hP hD hS ls hl
            refine lv_iload_n hx hb dX10_goAll_30 rfl (lv_at hl 0 rfl) ?_
            refine lv_bipush (v := 6) hx hb dX10_goAll_31 (by decide) ?_
            refine lv_icmp_ge (tgt := 64) hx hb dX10_goAll_33 (by decide) (fun c22 => ?_) (fun c22 => ?_)
            · have c22 := i_le ki_6 rfl c22
              refine lv_iconst (v := 0) hx hb dX10_goAll_64 (by decide) ?_
              refine lv_istore_n (lv' := [(1, .int 0), (0, .ref h0)]) hx hb dX10_goAll_65 rfl hl (by decide) rfl (fun ls hl => ?_)
              have lp23 : ∀ (n24 : Nat) (x25 : Int32) (g26 : Nat → Int32), 0 ≤ x25.toInt → x25.toInt ≤ 7 → ai g26 7 (-1) 40 → 7 - x25.toInt < (n24 : Int) → ∀ (H : Heap) (locs : List Loc), va_P G vwCl [(h0, oX10 b o_thrown o_taped o_size o_at o_from o_token o_value o_faultKind o_faultPlace o_lawNow o_walkSet o_oneWidow o_oneTurn o_askWorst o_mayWalk o_oftenAll o_oftenRoad o_oftenPegs), (b 1, .inl (cI, 149, .inl o_f1)), (b 15, .inl (cZ, 80, .inl o_f15)), (b 16, .inl (cI, 7, .inl o_f16)), (b 21, .inl (cZ, 80, .inl g4)), (b 22, .inl (cZ, 80, .inl o_f22)), (b 23, .inl (cZ, 80, .inl o_f23)), (b 24, .inl (cI, 80, .inl g5)), (b 25, .inl (cI, 6, .inl g15)), (b 26, .inl (cI, 287, .inl o_f26)), (b 27, .inl (cI, 7, .inl g26)), (b 28, .inl (cI, 7, .inl o_f28)), (b 29, .inl (cI, 6, .inl g16)), (b 30, .inl (cZ, 1040, .inl o_f30)), (b 31, .inl (cI, 1040, .inl o_f31)), (b 32, .inl (cI, 78, .inl o_f32))] H → va_D A [(h0, oX10 b o_thrown o_taped o_size o_at o_from o_token o_value o_faultKind o_faultPlace o_lawNow o_walkSet o_oneWidow o_oneTurn o_askWorst o_mayWalk o_oftenAll o_oftenRoad o_oftenPegs), (b 1, .inl (cI, 149, .inl o_f1)), (b 15, .inl (cZ, 80, .inl o_f15)), (b 16, .inl (cI, 7, .inl o_f16)), (b 21, .inl (cZ, 80, .inl g4)), (b 22, .inl (cZ, 80, .inl o_f22)), (b 23, .inl (cZ, 80, .inl o_f23)), (b 24, .inl (cI, 80, .inl g5)), (b 25, .inl (cI, 6, .inl g15)), (b 26, .inl (cI, 287, .inl o_f26)), (b 27, .inl (cI, 7, .inl g26)), (b 28, .inl (cI, 7, .inl o_f28)), (b 29, .inl (cI, 6, .inl g16)), (b 30, .inl (cZ, 1040, .inl o_f30)), (b 31, .inl (cI, 1040, .inl o_f31)), (b 32, .inl (cI, 78, .inl o_f32))] → va_S A s.heap H locs → ∀ (ls : Array Slot), lv_has ls 3 [(1, .int x25), (0, .ref h0)] → W p l e ({ frames := 5, cells := 0, slots := 0, locals := 119 } : Room) s m ([.ref h0] : List Value).toArray below meth c H locs 0 0 Q (F0 m 66 ls []) := by
                intro n24
                induction n24 with
                | zero =>
                  intro x25 g26 k27 k28 k29 mm31
                  exact absurd mm31 (by have q9 := fb_rng x25; omega)
                | succ n24 ih30 =>
                  intro x25 g26 k27 k28 k29 mm31 H locs hP hD hS ls hl
                  refine lv_iload_n hx hb dX10_goAll_66 rfl (lv_at hl 0 rfl) ?_
                  refine lv_bipush (v := 7) hx hb dX10_goAll_67 (by decide) ?_
                  refine lv_icmp_ge (tgt := 85) hx hb dX10_goAll_69 (by decide) (fun c32 => ?_) (fun c32 => ?_)
                  · have c32 := i_le ki_7 rfl c32
                    refine lv_iconst (v := 0) hx hb dX10_goAll_85 (by decide) ?_
                    refine lv_istore_n (lv' := [(1, .int 0), (0, .ref h0)]) hx hb dX10_goAll_86 rfl hl (by decide) rfl (fun ls hl => ?_)
                    have lp33 : ∀ (n34 : Nat) (x35 : Int32) (g36 : Nat → Int32) (g37 : Nat → Int32) (g38 : Nat → Int32) (g39 : Nat → Int32) (g40 : Nat → Int32) (g41 : Nat → Int32) (g42 : Nat → Int32) (g43 : Nat → Int32) (g44 : Nat → Int32) (g45 : Nat → Int32) (g46 : Nat → Int32) (g47 : Nat → Int32), 0 ≤ x35.toInt → x35.toInt ≤ 13 → ai g36 80 0 1 → ai g37 80 0 1 → ai g38 80 0 1 → PG g39 80 (o_f1 3).toInt (o_f1 4).toInt → ai g40 6 (-1) 79 → ai g41 287 0 77 → ai g42 7 (-1) 40 → ai g45 1040 0 1 → ai g47 78 (-1) 79 → PG g46 (80 * x35.toInt) (o_f1 3).toInt (o_f1 4).toInt → 13 - x35.toInt < (n34 : Int) → ∀ (H : Heap) (locs : List Loc), va_P G vwCl [(h0, oX10 b o_thrown o_taped o_size o_at o_from o_token o_value o_faultKind o_faultPlace o_lawNow o_walkSet o_oneWidow o_oneTurn o_askWorst o_mayWalk o_oftenAll o_oftenRoad o_oftenPegs), (b 1, .inl (cI, 149, .inl o_f1)), (b 15, .inl (cZ, 80, .inl o_f15)), (b 16, .inl (cI, 7, .inl o_f16)), (b 21, .inl (cZ, 80, .inl g36)), (b 22, .inl (cZ, 80, .inl g37)), (b 23, .inl (cZ, 80, .inl g38)), (b 24, .inl (cI, 80, .inl g39)), (b 25, .inl (cI, 6, .inl g40)), (b 26, .inl (cI, 287, .inl g41)), (b 27, .inl (cI, 7, .inl g42)), (b 28, .inl (cI, 7, .inl g43)), (b 29, .inl (cI, 6, .inl g44)), (b 30, .inl (cZ, 1040, .inl g45)), (b 31, .inl (cI, 1040, .inl g46)), (b 32, .inl (cI, 78, .inl g47))] H → va_D A [(h0, oX10 b o_thrown o_taped o_size o_at o_from o_token o_value o_faultKind o_faultPlace o_lawNow o_walkSet o_oneWidow o_oneTurn o_askWorst o_mayWalk o_oftenAll o_oftenRoad o_oftenPegs), (b 1, .inl (cI, 149, .inl o_f1)), (b 15, .inl (cZ, 80, .inl o_f15)), (b 16, .inl (cI, 7, .inl o_f16)), (b 21, .inl (cZ, 80, .inl g36)), (b 22, .inl (cZ, 80, .inl g37)), (b 23, .inl (cZ, 80, .inl g38)), (b 24, .inl (cI, 80, .inl g39)), (b 25, .inl (cI, 6, .inl g40)), (b 26, .inl (cI, 287, .inl g41)), (b 27, .inl (cI, 7, .inl g42)), (b 28, .inl (cI, 7, .inl g43)), (b 29, .inl (cI, 6, .inl g44)), (b 30, .inl (cZ, 1040, .inl g45)), (b 31, .inl (cI, 1040, .inl g46)), (b 32, .inl (cI, 78, .inl g47))] → va_S A s.heap H locs → ∀ (ls : Array Slot), lv_has ls 3 [(1, .int x35), (0, .ref h0)] → W p l e ({ frames := 5, cells := 0, slots := 0, locals := 119 } : Room) s m ([.ref h0] : List Value).toArray below meth c H locs 0 0 Q (F0 m 87 ls []) := by
                      intro n34
                      induction n34 with
                      | zero =>
                        intro x35 g36 g37 g38 g39 g40 g41 g42 g43 g44 g45 g46 g47 k48 k49 k50 k51 k52 k53 k54 k55 k56 k57 k58 py58 mm60
                        exact absurd mm60 (by have q9 := fb_rng x35; omega)
                      | succ n34 ih59 =>
                        intro x35 g36 g37 g38 g39 g40 g41 g42 g43 g44 g45 g46 g47 k48 k49 k50 k51 k52 k53 k54 k55 k56 k57 k58 py58 mm60 H locs hP hD hS ls hl
                        refine lv_iload_n hx hb dX10_goAll_87 rfl (lv_at hl 0 rfl) ?_
                        refine lv_aload_n hx hb dX10_goAll_88 rfl (lv_at hl 1 rfl) ?_
                        refine k_i (wc := [(h0, oX10 b o_thrown o_taped o_size o_at o_from o_token o_value o_faultKind o_faultPlace o_lawNow o_walkSet o_oneWidow o_oneTurn o_askWorst o_mayWalk o_oftenAll o_oftenRoad o_oftenPegs), (b 1, .inl (cI, 149, .inl o_f1))]) (wr := [(b 15, .inl (cZ, 80, .inl o_f15)), (b 16, .inl (cI, 7, .inl o_f16)), (b 21, .inl (cZ, 80, .inl g36)), (b 22, .inl (cZ, 80, .inl g37)), (b 23, .inl (cZ, 80, .inl g38)), (b 24, .inl (cI, 80, .inl g39)), (b 25, .inl (cI, 6, .inl g40)), (b 26, .inl (cI, 287, .inl g41)), (b 27, .inl (cI, 7, .inl g42)), (b 28, .inl (cI, 7, .inl g43)), (b 29, .inl (cI, 6, .inl g44)), (b 30, .inl (cZ, 1040, .inl g45)), (b 31, .inl (cI, 1040, .inl g46)), (b 32, .inl (cI, 78, .inl g47))]) hP hD hS hA [0, 1] [2, 3, 4, 5, 6, 7, 8, 9, 10, 11, 12, 13, 14, 15] rfl rfl rfl (by decide) (va_runV (As := []) (rest := [.int x35]) ⟨hx, hb, hml, hown, hts⟩ (f_X10_years l G cI cJ cZ cB cQ _ h0 b o_thrown o_taped o_size o_at o_from o_token o_value o_faultKind o_faultPlace o_lawNow o_walkSet o_oneWidow o_oneTurn o_askWorst o_mayWalk o_oftenAll o_oftenRoad o_oftenPegs o_f1 hl_o_taped hh_o_taped hl_o_size hh_o_size hl_o_at hh_o_at hl_o_from hh_o_from hl_o_oneTurn hh_o_oneTurn ha_o_f1) (cwV 0 hts (gV w_1501 w_1503 wp_109 w_11 w_1504) rfl rfl rfl ⟨rfl, hd_X10_years⟩ ⟨Nat.le_of_ble_eq_true rfl, Nat.le_of_ble_eq_true rfl⟩) (mV hK hZ hP hD [0, 1] rfl rfl [] 0 10 rfl rfl) rfl rfl hl.1 rfl (lv_room (Nat.le_of_ble_eq_true rfl)) dX10_goAll_89 ⟨Nat.le_of_ble_eq_true rfl, Nat.le_of_ble_eq_true rfl⟩) (fun r61 u62 H locs hw63 hP hD hS => ?_)
                        try dsimp only at hw63
                        have hP : va_P G vwCl [(b 15, .inl (cZ, 80, .inl o_f15)), (b 16, .inl (cI, 7, .inl o_f16)), (b 21, .inl (cZ, 80, .inl g36)), (b 22, .inl (cZ, 80, .inl g37)), (b 23, .inl (cZ, 80, .inl g38)), (b 24, .inl (cI, 80, .inl g39)), (b 25, .inl (cI, 6, .inl g40)), (b 26, .inl (cI, 287, .inl g41)), (b 27, .inl (cI, 7, .inl g42)), (b 28, .inl (cI, 7, .inl g43)), (b 29, .inl (cI, 6, .inl g44)), (b 30, .inl (cZ, 1040, .inl g45)), (b 31, .inl (cI, 1040, .inl g46)), (b 32, .inl (cI, 78, .inl g47)), (h0, oX10 b o_thrown o_taped o_size o_at o_from o_token o_value o_faultKind o_faultPlace o_lawNow o_walkSet o_oneWidow o_oneTurn o_askWorst o_mayWalk o_oftenAll o_oftenRoad o_oftenPegs), (b 1, .inl (cI, 149, .inl o_f1))] H := hP
                        have hD : va_D A [(b 15, .inl (cZ, 80, .inl o_f15)), (b 16, .inl (cI, 7, .inl o_f16)), (b 21, .inl (cZ, 80, .inl g36)), (b 22, .inl (cZ, 80, .inl g37)), (b 23, .inl (cZ, 80, .inl g38)), (b 24, .inl (cI, 80, .inl g39)), (b 25, .inl (cI, 6, .inl g40)), (b 26, .inl (cI, 287, .inl g41)), (b 27, .inl (cI, 7, .inl g42)), (b 28, .inl (cI, 7, .inl g43)), (b 29, .inl (cI, 6, .inl g44)), (b 30, .inl (cZ, 1040, .inl g45)), (b 31, .inl (cI, 1040, .inl g46)), (b 32, .inl (cI, 78, .inl g47)), (h0, oX10 b o_thrown o_taped o_size o_at o_from o_token o_value o_faultKind o_faultPlace o_lawNow o_walkSet o_oneWidow o_oneTurn o_askWorst o_mayWalk o_oftenAll o_oftenRoad o_oftenPegs), (b 1, .inl (cI, 149, .inl o_f1))] := hD
                        obtain ⟨w64, w65, w66⟩ : 0 ≤ r61.toInt ∧ r61.toInt ≤ 12 ∧ r61.toInt = (o_f1 0).toInt := hw63
                        refine lv_icmp_gt (tgt := 157) hx hb dX10_goAll_92 (by decide) (fun c67 => ?_) (fun c67 => ?_)
                        · have c67 := i_lt w66 rfl c67
                          exact hret _ _ _ _ (g36, g37, g38, g39, g40, g41, g42, g43, g44, g45, g46, g47) (hP.sub (ws' := [(h0, oX10 b o_thrown o_taped o_size o_at o_from o_token o_value o_faultKind o_faultPlace o_lawNow o_walkSet o_oneWidow o_oneTurn o_askWorst o_mayWalk o_oftenAll o_oftenRoad o_oftenPegs), (b 1, .inl (cI, 149, .inl o_f1)), (b 15, .inl (cZ, 80, .inl o_f15)), (b 16, .inl (cI, 7, .inl o_f16)), (b 21, .inl (cZ, 80, .inl g36)), (b 22, .inl (cZ, 80, .inl g37)), (b 23, .inl (cZ, 80, .inl g38)), (b 24, .inl (cI, 80, .inl g39)), (b 25, .inl (cI, 6, .inl g40)), (b 26, .inl (cI, 287, .inl g41)), (b 27, .inl (cI, 7, .inl g42)), (b 28, .inl (cI, 7, .inl g43)), (b 29, .inl (cI, 6, .inl g44)), (b 30, .inl (cZ, 1040, .inl g45)), (b 31, .inl (cI, 1040, .inl g46)), (b 32, .inl (cI, 78, .inl g47))]) [14, 15, 0, 1, 2, 3, 4, 5, 6, 7, 8, 9, 10, 11, 12, 13] rfl) (hD.sub (ws' := [(h0, oX10 b o_thrown o_taped o_size o_at o_from o_token o_value o_faultKind o_faultPlace o_lawNow o_walkSet o_oneWidow o_oneTurn o_askWorst o_mayWalk o_oftenAll o_oftenRoad o_oftenPegs), (b 1, .inl (cI, 149, .inl o_f1)), (b 15, .inl (cZ, 80, .inl o_f15)), (b 16, .inl (cI, 7, .inl o_f16)), (b 21, .inl (cZ, 80, .inl g36)), (b 22, .inl (cZ, 80, .inl g37)), (b 23, .inl (cZ, 80, .inl g38)), (b 24, .inl (cI, 80, .inl g39)), (b 25, .inl (cI, 6, .inl g40)), (b 26, .inl (cI, 287, .inl g41)), (b 27, .inl (cI, 7, .inl g42)), (b 28, .inl (cI, 7, .inl g43)), (b 29, .inl (cI, 6, .inl g44)), (b 30, .inl (cZ, 1040, .inl g45)), (b 31, .inl (cI, 1040, .inl g46)), (b 32, .inl (cI, 78, .inl g47))]) [14, 15, 0, 1, 2, 3, 4, 5, 6, 7, 8, 9, 10, 11, 12, 13] rfl rfl) hS dX10_goAll_157 (show ai g36 80 0 1 ∧ ai g37 80 0 1 ∧ ai g38 80 0 1 ∧ ai g40 6 (-1) 79 ∧ ai g41 287 0 77 ∧ ai g42 7 (-1) 40 ∧ ai g45 1040 0 1 ∧ ai g47 78 (-1) 79 ∧ PG g46 (80 * (o_f1 0).toInt + 80) (o_f1 3).toInt (o_f1 4).toInt from ⟨k50, k51, k52, k54, k55, k56, k57, k58, (PG_le py58 (by omega))⟩)
                        · have c67 := i_nlt w66 rfl c67
                          refine lv_aload_n hx hb dX10_goAll_95 rfl (lv_at hl 1 rfl) ?_
                          refine lv_iload_n hx hb dX10_goAll_96 rfl (lv_at hl 0 rfl) ?_
                          refine k_v (wc := [(h0, oX10 b o_thrown o_taped o_size o_at o_from o_token o_value o_faultKind o_faultPlace o_lawNow o_walkSet o_oneWidow o_oneTurn o_askWorst o_mayWalk o_oftenAll o_oftenRoad o_oftenPegs), (b 21, .inl (cZ, 80, .inl g36)), (b 24, .inl (cI, 80, .inl g39)), (b 25, .inl (cI, 6, .inl g40)), (b 30, .inl (cZ, 1040, .inl g45)), (b 31, .inl (cI, 1040, .inl g46)), (b 32, .inl (cI, 78, .inl g47))]) (wr := [(b 15, .inl (cZ, 80, .inl o_f15)), (b 16, .inl (cI, 7, .inl o_f16)), (b 22, .inl (cZ, 80, .inl g37)), (b 23, .inl (cZ, 80, .inl g38)), (b 26, .inl (cI, 287, .inl g41)), (b 27, .inl (cI, 7, .inl g42)), (b 28, .inl (cI, 7, .inl g43)), (b 29, .inl (cI, 6, .inl g44)), (b 1, .inl (cI, 149, .inl o_f1))]) hP hD hS hA [14, 2, 5, 6, 11, 12, 13] [0, 1, 3, 4, 7, 8, 9, 10, 15] rfl rfl rfl (by decide) (va_runV (As := [.int x35]) (rest := []) ⟨hx, hb, hml, hown, hts⟩ (f_X10_keepYear l G cI cJ cZ cB cQ _ h0 x35 x35.toInt ((o_f1 3).toInt) ((o_f1 4).toInt) b o_thrown o_taped o_size o_at o_from o_token o_value o_faultKind o_faultPlace o_lawNow o_walkSet o_oneWidow o_oneTurn o_askWorst o_mayWalk o_oftenAll o_oftenRoad o_oftenPegs g36 g39 g40 g45 g46 g47 rfl (by omega) (by omega) k53 (PG_le py58 (by omega)) hl_o_taped hh_o_taped hl_o_size hh_o_size hl_o_at hh_o_at hl_o_from hh_o_from hl_o_oneTurn hh_o_oneTurn k50 k54 k57 k58) (cwV 1 hts (gV w_1505 w_1507 wp_110 w_11 w_1508) rfl rfl rfl ⟨rfl, hd_X10_keepYear⟩ ⟨Nat.le_of_ble_eq_true rfl, Nat.le_of_ble_eq_true rfl⟩) (mV hK hZ hP hD [14, 2, 5, 6, 11, 12, 13] rfl rfl [.int x35] 14 10 rfl rfl) rfl rfl hl.1 rfl (lv_room (Nat.le_of_ble_eq_true rfl)) dX10_goAll_97 ⟨Nat.le_of_ble_eq_true rfl, Nat.le_of_ble_eq_true rfl⟩) (fun u69 H locs hw70 hP hD hS => ?_)
                          obtain ⟨o_f30o71, o_f31o72, o_f32o73⟩ := u69
                          try dsimp only at hw70
                          have hP : va_P G vwCl [(b 15, .inl (cZ, 80, .inl o_f15)), (b 16, .inl (cI, 7, .inl o_f16)), (b 22, .inl (cZ, 80, .inl g37)), (b 23, .inl (cZ, 80, .inl g38)), (b 26, .inl (cI, 287, .inl g41)), (b 27, .inl (cI, 7, .inl g42)), (b 28, .inl (cI, 7, .inl g43)), (b 29, .inl (cI, 6, .inl g44)), (b 1, .inl (cI, 149, .inl o_f1)), (h0, oX10 b o_thrown o_taped o_size o_at o_from o_token o_value o_faultKind o_faultPlace o_lawNow o_walkSet o_oneWidow o_oneTurn o_askWorst o_mayWalk o_oftenAll o_oftenRoad o_oftenPegs), (b 21, .inl (cZ, 80, .inl g36)), (b 24, .inl (cI, 80, .inl g39)), (b 25, .inl (cI, 6, .inl g40)), (b 30, .inl (cZ, 1040, .inl o_f30o71)), (b 31, .inl (cI, 1040, .inl o_f31o72)), (b 32, .inl (cI, 78, .inl o_f32o73))] H := hP
                          have hD : va_D A [(b 15, .inl (cZ, 80, .inl o_f15)), (b 16, .inl (cI, 7, .inl o_f16)), (b 22, .inl (cZ, 80, .inl g37)), (b 23, .inl (cZ, 80, .inl g38)), (b 26, .inl (cI, 287, .inl g41)), (b 27, .inl (cI, 7, .inl g42)), (b 28, .inl (cI, 7, .inl g43)), (b 29, .inl (cI, 6, .inl g44)), (b 1, .inl (cI, 149, .inl o_f1)), (h0, oX10 b o_thrown o_taped o_size o_at o_from o_token o_value o_faultKind o_faultPlace o_lawNow o_walkSet o_oneWidow o_oneTurn o_askWorst o_mayWalk o_oftenAll o_oftenRoad o_oftenPegs), (b 21, .inl (cZ, 80, .inl g36)), (b 24, .inl (cI, 80, .inl g39)), (b 25, .inl (cI, 6, .inl g40)), (b 30, .inl (cZ, 1040, .inl o_f30o71)), (b 31, .inl (cI, 1040, .inl o_f31o72)), (b 32, .inl (cI, 78, .inl o_f32o73))] := hD
                          obtain ⟨w74, w75, w76⟩ : ai o_f30o71 1040 0 1 ∧ ai o_f32o73 78 (-1) 79 ∧ PG o_f31o72 (80 * x35.toInt + 80) ((o_f1 3).toInt) ((o_f1 4).toInt) := hw70
                          refine lv_iconst (v := 0) hx hb dX10_goAll_100 (by decide) ?_
                          refine lv_istore_n (lv' := [(2, .int 0), (1, .int x35), (0, .ref h0)]) hx hb dX10_goAll_101 rfl hl (by decide) rfl (fun ls hl => ?_)
                          have lp77 : ∀ (n78 : Nat) (x79 : Int32) (g80 : Nat → Int32) (g81 : Nat → Int32) (g82 : Nat → Int32) (g83 : Nat → Int32) (g84 : Nat → Int32) (g85 : Nat → Int32) (g86 : Nat → Int32) (g87 : Nat → Int32) (g88 : Nat → Int32), 0 ≤ x79.toInt → x79.toInt ≤ 7 → ai g80 80 0 1 → ai g81 80 0 1 → ai g82 80 0 1 → PG g83 80 (o_f1 3).toInt (o_f1 4).toInt → ai g84 6 (-1) 79 → ai g85 287 0 77 → ai g86 7 (-1) 40 → 7 - x79.toInt < (n78 : Int) → ∀ (H : Heap) (locs : List Loc), va_P G vwCl [(b 15, .inl (cZ, 80, .inl o_f15)), (b 16, .inl (cI, 7, .inl o_f16)), (b 22, .inl (cZ, 80, .inl g81)), (b 23, .inl (cZ, 80, .inl g82)), (b 26, .inl (cI, 287, .inl g85)), (b 27, .inl (cI, 7, .inl g86)), (b 28, .inl (cI, 7, .inl g87)), (b 29, .inl (cI, 6, .inl g88)), (b 1, .inl (cI, 149, .inl o_f1)), (h0, oX10 b o_thrown o_taped o_size o_at o_from o_token o_value o_faultKind o_faultPlace o_lawNow o_walkSet o_oneWidow o_oneTurn o_askWorst o_mayWalk o_oftenAll o_oftenRoad o_oftenPegs), (b 21, .inl (cZ, 80, .inl g80)), (b 24, .inl (cI, 80, .inl g83)), (b 25, .inl (cI, 6, .inl g84)), (b 30, .inl (cZ, 1040, .inl o_f30o71)), (b 31, .inl (cI, 1040, .inl o_f31o72)), (b 32, .inl (cI, 78, .inl o_f32o73))] H → va_D A [(b 15, .inl (cZ, 80, .inl o_f15)), (b 16, .inl (cI, 7, .inl o_f16)), (b 22, .inl (cZ, 80, .inl g81)), (b 23, .inl (cZ, 80, .inl g82)), (b 26, .inl (cI, 287, .inl g85)), (b 27, .inl (cI, 7, .inl g86)), (b 28, .inl (cI, 7, .inl g87)), (b 29, .inl (cI, 6, .inl g88)), (b 1, .inl (cI, 149, .inl o_f1)), (h0, oX10 b o_thrown o_taped o_size o_at o_from o_token o_value o_faultKind o_faultPlace o_lawNow o_walkSet o_oneWidow o_oneTurn o_askWorst o_mayWalk o_oftenAll o_oftenRoad o_oftenPegs), (b 21, .inl (cZ, 80, .inl g80)), (b 24, .inl (cI, 80, .inl g83)), (b 25, .inl (cI, 6, .inl g84)), (b 30, .inl (cZ, 1040, .inl o_f30o71)), (b 31, .inl (cI, 1040, .inl o_f31o72)), (b 32, .inl (cI, 78, .inl o_f32o73))] → va_S A s.heap H locs → ∀ (ls : Array Slot), lv_has ls 3 [(2, .int x79), (1, .int x35), (0, .ref h0)] → W p l e ({ frames := 5, cells := 0, slots := 0, locals := 119 } : Room) s m ([.ref h0] : List Value).toArray below meth c H locs 0 0 Q (F0 m 102 ls []) := by
                            intro n78
                            induction n78 with
                            | zero =>
                              intro x79 g80 g81 g82 g83 g84 g85 g86 g87 g88 k89 k90 k91 k92 k93 k94 k95 k96 k97 mm99
                              exact absurd mm99 (by have q9 := fb_rng x79; omega)
                            | succ n78 ih98 =>
                              intro x79 g80 g81 g82 g83 g84 g85 g86 g87 g88 k89 k90 k91 k92 k93 k94 k95 k96 k97 mm99 H locs hP hD hS ls hl
                              refine lv_iload_n hx hb dX10_goAll_102 rfl (lv_at hl 0 rfl) ?_
                              refine lv_aload_n hx hb dX10_goAll_103 rfl (lv_at hl 2 rfl) ?_
                              refine k_i (wc := [(h0, oX10 b o_thrown o_taped o_size o_at o_from o_token o_value o_faultKind o_faultPlace o_lawNow o_walkSet o_oneWidow o_oneTurn o_askWorst o_mayWalk o_oftenAll o_oftenRoad o_oftenPegs), (b 1, .inl (cI, 149, .inl o_f1))]) (wr := [(b 15, .inl (cZ, 80, .inl o_f15)), (b 16, .inl (cI, 7, .inl o_f16)), (b 22, .inl (cZ, 80, .inl g81)), (b 23, .inl (cZ, 80, .inl g82)), (b 26, .inl (cI, 287, .inl g85)), (b 27, .inl (cI, 7, .inl g86)), (b 28, .inl (cI, 7, .inl g87)), (b 29, .inl (cI, 6, .inl g88)), (b 21, .inl (cZ, 80, .inl g80)), (b 24, .inl (cI, 80, .inl g83)), (b 25, .inl (cI, 6, .inl g84)), (b 30, .inl (cZ, 1040, .inl o_f30o71)), (b 31, .inl (cI, 1040, .inl o_f31o72)), (b 32, .inl (cI, 78, .inl o_f32o73))]) hP hD hS hA [9, 8] [0, 1, 2, 3, 4, 5, 6, 7, 10, 11, 12, 13, 14, 15] rfl rfl rfl (by decide) (va_runV (As := []) (rest := [.int x79]) ⟨hx, hb, hml, hown, hts⟩ (f_X10_widows l G cI cJ cZ cB cQ _ h0 b o_thrown o_taped o_size o_at o_from o_token o_value o_faultKind o_faultPlace o_lawNow o_walkSet o_oneWidow o_oneTurn o_askWorst o_mayWalk o_oftenAll o_oftenRoad o_oftenPegs o_f1 hl_o_taped hh_o_taped hl_o_size hh_o_size hl_o_at hh_o_at hl_o_from hh_o_from hl_o_oneTurn hh_o_oneTurn ha_o_f1) (cwV 0 hts (gV w_1464 w_1466 wp_102 w_11 w_1467) rfl rfl rfl ⟨rfl, hd_X10_widows⟩ ⟨Nat.le_of_ble_eq_true rfl, Nat.le_of_ble_eq_true rfl⟩) (mV hK hZ hP hD [9, 8] rfl rfl [] 9 10 rfl rfl) rfl rfl hl.1 rfl (lv_room (Nat.le_of_ble_eq_true rfl)) dX10_goAll_104 ⟨Nat.le_of_ble_eq_true rfl, Nat.le_of_ble_eq_true rfl⟩) (fun r100 u101 H locs hw102 hP hD hS => ?_)
                              try dsimp only at hw102
                              have hP : va_P G vwCl [(b 15, .inl (cZ, 80, .inl o_f15)), (b 16, .inl (cI, 7, .inl o_f16)), (b 22, .inl (cZ, 80, .inl g81)), (b 23, .inl (cZ, 80, .inl g82)), (b 26, .inl (cI, 287, .inl g85)), (b 27, .inl (cI, 7, .inl g86)), (b 28, .inl (cI, 7, .inl g87)), (b 29, .inl (cI, 6, .inl g88)), (b 21, .inl (cZ, 80, .inl g80)), (b 24, .inl (cI, 80, .inl g83)), (b 25, .inl (cI, 6, .inl g84)), (b 30, .inl (cZ, 1040, .inl o_f30o71)), (b 31, .inl (cI, 1040, .inl o_f31o72)), (b 32, .inl (cI, 78, .inl o_f32o73)), (h0, oX10 b o_thrown o_taped o_size o_at o_from o_token o_value o_faultKind o_faultPlace o_lawNow o_walkSet o_oneWidow o_oneTurn o_askWorst o_mayWalk o_oftenAll o_oftenRoad o_oftenPegs), (b 1, .inl (cI, 149, .inl o_f1))] H := hP
                              have hD : va_D A [(b 15, .inl (cZ, 80, .inl o_f15)), (b 16, .inl (cI, 7, .inl o_f16)), (b 22, .inl (cZ, 80, .inl g81)), (b 23, .inl (cZ, 80, .inl g82)), (b 26, .inl (cI, 287, .inl g85)), (b 27, .inl (cI, 7, .inl g86)), (b 28, .inl (cI, 7, .inl g87)), (b 29, .inl (cI, 6, .inl g88)), (b 21, .inl (cZ, 80, .inl g80)), (b 24, .inl (cI, 80, .inl g83)), (b 25, .inl (cI, 6, .inl g84)), (b 30, .inl (cZ, 1040, .inl o_f30o71)), (b 31, .inl (cI, 1040, .inl o_f31o72)), (b 32, .inl (cI, 78, .inl o_f32o73)), (h0, oX10 b o_thrown o_taped o_size o_at o_from o_token o_value o_faultKind o_faultPlace o_lawNow o_walkSet o_oneWidow o_oneTurn o_askWorst o_mayWalk o_oftenAll o_oftenRoad o_oftenPegs), (b 1, .inl (cI, 149, .inl o_f1))] := hD
                              obtain ⟨w103, w104, w105⟩ : 0 ≤ r100.toInt ∧ r100.toInt ≤ 7 ∧ r100.toInt = (o_f1 7).toInt := hw102
                              refine lv_icmp_ge (tgt := 151) hx hb dX10_goAll_107 (by decide) (fun c106 => ?_) (fun c106 => ?_)
                              · have c106 := i_le w105 rfl c106
                                obtain ⟨v107, ev107⟩ : ∃ y : Int32, y = x35 + 1 := ⟨_, rfl⟩
                                have tv107 : v107.toInt = x35.toInt + 1 := ti_add rfl ki_1 ev107 (by omega) (by omega)
                                refine lv_iinc (v := v107) (lv' := [(1, .int v107), (2, .int x79), (0, .ref h0)]) hx hb dX10_goAll_151 hl (k := 1) rfl (by rw [ev107]; rfl) (by decide) rfl (fun ls hl => ?_)
                                refine lv_goto (tgt := 87) hx hb dX10_goAll_154 (by decide) ?_
                                exact ih59 v107 g80 g81 g82 g83 g84 g85 g86 g87 g88 o_f30o71 o_f31o72 o_f32o73 (by omega) (by omega) k91 k92 k93 k94 k95 k96 k97 w74 w75 (PG_le w76 (by omega)) (by omega) _ _ (hP.sub (ws' := [(h0, oX10 b o_thrown o_taped o_size o_at o_from o_token o_value o_faultKind o_faultPlace o_lawNow o_walkSet o_oneWidow o_oneTurn o_askWorst o_mayWalk o_oftenAll o_oftenRoad o_oftenPegs), (b 1, .inl (cI, 149, .inl o_f1)), (b 15, .inl (cZ, 80, .inl o_f15)), (b 16, .inl (cI, 7, .inl o_f16)), (b 21, .inl (cZ, 80, .inl g80)), (b 22, .inl (cZ, 80, .inl g81)), (b 23, .inl (cZ, 80, .inl g82)), (b 24, .inl (cI, 80, .inl g83)), (b 25, .inl (cI, 6, .inl g84)), (b 26, .inl (cI, 287, .inl g85)), (b 27, .inl (cI, 7, .inl g86)), (b 28, .inl (cI, 7, .inl g87)), (b 29, .inl (cI, 6, .inl g88)), (b 30, .inl (cZ, 1040, .inl o_f30o71)), (b 31, .inl (cI, 1040, .inl o_f31o72)), (b 32, .inl (cI, 78, .inl o_f32o73))]) [14, 15, 0, 1, 8, 2, 3, 9, 10, 4, 5, 6, 7, 11, 12, 13] rfl) (hD.sub (ws' := [(h0, oX10 b o_thrown o_taped o_size o_at o_from o_token o_value o_faultKind o_faultPlace o_lawNow o_walkSet o_oneWidow o_oneTurn o_askWorst o_mayWalk o_oftenAll o_oftenRoad o_oftenPegs), (b 1, .inl (cI, 149, .inl o_f1)), (b 15, .inl (cZ, 80, .inl o_f15)), (b 16, .inl (cI, 7, .inl o_f16)), (b 21, .inl (cZ, 80, .inl g80)), (b 22, .inl (cZ, 80, .inl g81)), (b 23, .inl (cZ, 80, .inl g82)), (b 24, .inl (cI, 80, .inl g83)), (b 25, .inl (cI, 6, .inl g84)), (b 26, .inl (cI, 287, .inl g85)), (b 27, .inl (cI, 7, .inl g86)), (b 28, .inl (cI, 7, .inl g87)), (b 29, .inl (cI, 6, .inl g88)), (b 30, .inl (cZ, 1040, .inl o_f30o71)), (b 31, .inl (cI, 1040, .inl o_f31o72)), (b 32, .inl (cI, 78, .inl o_f32o73))]) [14, 15, 0, 1, 8, 2, 3, 9, 10, 4, 5, 6, 7, 11, 12, 13] rfl rfl) hS ls (lv_sub hl [0, 2] rfl)
                              · have c106 := i_nle w105 rfl c106
                                refine lv_iload_n hx hb dX10_goAll_110 rfl (lv_at hl 1 rfl) ?_
                                refine lv_aload_n hx hb dX10_goAll_111 rfl (lv_at hl 2 rfl) ?_
                                refine k_i (wc := [(h0, oX10 b o_thrown o_taped o_size o_at o_from o_token o_value o_faultKind o_faultPlace o_lawNow o_walkSet o_oneWidow o_oneTurn o_askWorst o_mayWalk o_oftenAll o_oftenRoad o_oftenPegs), (b 1, .inl (cI, 149, .inl o_f1))]) (wr := [(b 15, .inl (cZ, 80, .inl o_f15)), (b 16, .inl (cI, 7, .inl o_f16)), (b 22, .inl (cZ, 80, .inl g81)), (b 23, .inl (cZ, 80, .inl g82)), (b 26, .inl (cI, 287, .inl g85)), (b 27, .inl (cI, 7, .inl g86)), (b 28, .inl (cI, 7, .inl g87)), (b 29, .inl (cI, 6, .inl g88)), (b 21, .inl (cZ, 80, .inl g80)), (b 24, .inl (cI, 80, .inl g83)), (b 25, .inl (cI, 6, .inl g84)), (b 30, .inl (cZ, 1040, .inl o_f30o71)), (b 31, .inl (cI, 1040, .inl o_f31o72)), (b 32, .inl (cI, 78, .inl o_f32o73))]) hP hD hS hA [14, 15] [0, 1, 2, 3, 4, 5, 6, 7, 8, 9, 10, 11, 12, 13] rfl rfl rfl (by decide) (va_runV (As := []) (rest := [.int x35]) ⟨hx, hb, hml, hown, hts⟩ (f_X10_years l G cI cJ cZ cB cQ _ h0 b o_thrown o_taped o_size o_at o_from o_token o_value o_faultKind o_faultPlace o_lawNow o_walkSet o_oneWidow o_oneTurn o_askWorst o_mayWalk o_oftenAll o_oftenRoad o_oftenPegs o_f1 hl_o_taped hh_o_taped hl_o_size hh_o_size hl_o_at hh_o_at hl_o_from hh_o_from hl_o_oneTurn hh_o_oneTurn ha_o_f1) (cwV 0 hts (gV w_1501 w_1503 wp_109 w_11 w_1504) rfl rfl rfl ⟨rfl, hd_X10_years⟩ ⟨Nat.le_of_ble_eq_true rfl, Nat.le_of_ble_eq_true rfl⟩) (mV hK hZ hP hD [14, 15] rfl rfl [] 14 10 rfl rfl) rfl rfl hl.1 rfl (lv_room (Nat.le_of_ble_eq_true rfl)) dX10_goAll_112 ⟨Nat.le_of_ble_eq_true rfl, Nat.le_of_ble_eq_true rfl⟩) (fun r108 u109 H locs hw110 hP hD hS => ?_)
                                try dsimp only at hw110
                                have hP : va_P G vwCl [(b 15, .inl (cZ, 80, .inl o_f15)), (b 16, .inl (cI, 7, .inl o_f16)), (b 22, .inl (cZ, 80, .inl g81)), (b 23, .inl (cZ, 80, .inl g82)), (b 26, .inl (cI, 287, .inl g85)), (b 27, .inl (cI, 7, .inl g86)), (b 28, .inl (cI, 7, .inl g87)), (b 29, .inl (cI, 6, .inl g88)), (b 21, .inl (cZ, 80, .inl g80)), (b 24, .inl (cI, 80, .inl g83)), (b 25, .inl (cI, 6, .inl g84)), (b 30, .inl (cZ, 1040, .inl o_f30o71)), (b 31, .inl (cI, 1040, .inl o_f31o72)), (b 32, .inl (cI, 78, .inl o_f32o73)), (h0, oX10 b o_thrown o_taped o_size o_at o_from o_token o_value o_faultKind o_faultPlace o_lawNow o_walkSet o_oneWidow o_oneTurn o_askWorst o_mayWalk o_oftenAll o_oftenRoad o_oftenPegs), (b 1, .inl (cI, 149, .inl o_f1))] H := hP
                                have hD : va_D A [(b 15, .inl (cZ, 80, .inl o_f15)), (b 16, .inl (cI, 7, .inl o_f16)), (b 22, .inl (cZ, 80, .inl g81)), (b 23, .inl (cZ, 80, .inl g82)), (b 26, .inl (cI, 287, .inl g85)), (b 27, .inl (cI, 7, .inl g86)), (b 28, .inl (cI, 7, .inl g87)), (b 29, .inl (cI, 6, .inl g88)), (b 21, .inl (cZ, 80, .inl g80)), (b 24, .inl (cI, 80, .inl g83)), (b 25, .inl (cI, 6, .inl g84)), (b 30, .inl (cZ, 1040, .inl o_f30o71)), (b 31, .inl (cI, 1040, .inl o_f31o72)), (b 32, .inl (cI, 78, .inl o_f32o73)), (h0, oX10 b o_thrown o_taped o_size o_at o_from o_token o_value o_faultKind o_faultPlace o_lawNow o_walkSet o_oneWidow o_oneTurn o_askWorst o_mayWalk o_oftenAll o_oftenRoad o_oftenPegs), (b 1, .inl (cI, 149, .inl o_f1))] := hD
                                obtain ⟨w111, w112, w113⟩ : 0 ≤ r108.toInt ∧ r108.toInt ≤ 12 ∧ r108.toInt = (o_f1 0).toInt := hw110
                                refine lv_icmp_ge (tgt := 151) hx hb dX10_goAll_115 (by decide) (fun c114 => ?_) (fun c114 => ?_)
                                · have c114 := i_le w113 rfl c114
                                  obtain ⟨v115, ev115⟩ : ∃ y : Int32, y = x35 + 1 := ⟨_, rfl⟩
                                  have tv115 : v115.toInt = x35.toInt + 1 := ti_add rfl ki_1 ev115 (by omega) (by omega)
                                  refine lv_iinc (v := v115) (lv' := [(1, .int v115), (2, .int x79), (0, .ref h0)]) hx hb dX10_goAll_151 hl (k := 1) rfl (by rw [ev115]; rfl) (by decide) rfl (fun ls hl => ?_)
                                  refine lv_goto (tgt := 87) hx hb dX10_goAll_154 (by decide) ?_
                                  exact ih59 v115 g80 g81 g82 g83 g84 g85 g86 g87 g88 o_f30o71 o_f31o72 o_f32o73 (by omega) (by omega) k91 k92 k93 k94 k95 k96 k97 w74 w75 (PG_le w76 (by omega)) (by omega) _ _ (hP.sub (ws' := [(h0, oX10 b o_thrown o_taped o_size o_at o_from o_token o_value o_faultKind o_faultPlace o_lawNow o_walkSet o_oneWidow o_oneTurn o_askWorst o_mayWalk o_oftenAll o_oftenRoad o_oftenPegs), (b 1, .inl (cI, 149, .inl o_f1)), (b 15, .inl (cZ, 80, .inl o_f15)), (b 16, .inl (cI, 7, .inl o_f16)), (b 21, .inl (cZ, 80, .inl g80)), (b 22, .inl (cZ, 80, .inl g81)), (b 23, .inl (cZ, 80, .inl g82)), (b 24, .inl (cI, 80, .inl g83)), (b 25, .inl (cI, 6, .inl g84)), (b 26, .inl (cI, 287, .inl g85)), (b 27, .inl (cI, 7, .inl g86)), (b 28, .inl (cI, 7, .inl g87)), (b 29, .inl (cI, 6, .inl g88)), (b 30, .inl (cZ, 1040, .inl o_f30o71)), (b 31, .inl (cI, 1040, .inl o_f31o72)), (b 32, .inl (cI, 78, .inl o_f32o73))]) [14, 15, 0, 1, 8, 2, 3, 9, 10, 4, 5, 6, 7, 11, 12, 13] rfl) (hD.sub (ws' := [(h0, oX10 b o_thrown o_taped o_size o_at o_from o_token o_value o_faultKind o_faultPlace o_lawNow o_walkSet o_oneWidow o_oneTurn o_askWorst o_mayWalk o_oftenAll o_oftenRoad o_oftenPegs), (b 1, .inl (cI, 149, .inl o_f1)), (b 15, .inl (cZ, 80, .inl o_f15)), (b 16, .inl (cI, 7, .inl o_f16)), (b 21, .inl (cZ, 80, .inl g80)), (b 22, .inl (cZ, 80, .inl g81)), (b 23, .inl (cZ, 80, .inl g82)), (b 24, .inl (cI, 80, .inl g83)), (b 25, .inl (cI, 6, .inl g84)), (b 26, .inl (cI, 287, .inl g85)), (b 27, .inl (cI, 7, .inl g86)), (b 28, .inl (cI, 7, .inl g87)), (b 29, .inl (cI, 6, .inl g88)), (b 30, .inl (cZ, 1040, .inl o_f30o71)), (b 31, .inl (cI, 1040, .inl o_f31o72)), (b 32, .inl (cI, 78, .inl o_f32o73))]) [14, 15, 0, 1, 8, 2, 3, 9, 10, 4, 5, 6, 7, 11, 12, 13] rfl rfl) hS ls (lv_sub hl [0, 2] rfl)
                                · have c114 := i_nle w113 rfl c114
                                  refine lv_aload_n hx hb dX10_goAll_118 rfl (lv_at hl 2 rfl) ?_
                                  refine lv_iload_n hx hb dX10_goAll_119 rfl (lv_at hl 0 rfl) ?_
                                  refine lv_iconst (v := 3) hx hb dX10_goAll_120 (by decide) ?_
                                  refine k_i (wc := [(h0, oX10 b o_thrown o_taped o_size o_at o_from o_token o_value o_faultKind o_faultPlace o_lawNow o_walkSet o_oneWidow o_oneTurn o_askWorst o_mayWalk o_oftenAll o_oftenRoad o_oftenPegs), (b 1, .inl (cI, 149, .inl o_f1))]) (wr := [(b 15, .inl (cZ, 80, .inl o_f15)), (b 16, .inl (cI, 7, .inl o_f16)), (b 22, .inl (cZ, 80, .inl g81)), (b 23, .inl (cZ, 80, .inl g82)), (b 26, .inl (cI, 287, .inl g85)), (b 27, .inl (cI, 7, .inl g86)), (b 28, .inl (cI, 7, .inl g87)), (b 29, .inl (cI, 6, .inl g88)), (b 21, .inl (cZ, 80, .inl g80)), (b 24, .inl (cI, 80, .inl g83)), (b 25, .inl (cI, 6, .inl g84)), (b 30, .inl (cZ, 1040, .inl o_f30o71)), (b 31, .inl (cI, 1040, .inl o_f31o72)), (b 32, .inl (cI, 78, .inl o_f32o73))]) hP hD hS hA [14, 15] [0, 1, 2, 3, 4, 5, 6, 7, 8, 9, 10, 11, 12, 13] rfl rfl rfl (by decide) (va_runV (As := [.int x79, .int 3]) (rest := []) ⟨hx, hb, hml, hown, hts⟩ (f_X10_widowOf l G cI cJ cZ cB cQ _ h0 x79 x79.toInt 3 3 b o_thrown o_taped o_size o_at o_from o_token o_value o_faultKind o_faultPlace o_lawNow o_walkSet o_oneWidow o_oneTurn o_askWorst o_mayWalk o_oftenAll o_oftenRoad o_oftenPegs o_f1 rfl (by omega) (by omega) ki_3 (by omega) (by omega) hl_o_taped hh_o_taped hl_o_size hh_o_size hl_o_at hh_o_at hl_o_from hh_o_from hl_o_oneTurn hh_o_oneTurn ha_o_f1) (cwV 2 hts (gV w_1469 w_1471 wp_103 w_11 w_1472) rfl rfl rfl ⟨rfl, hd_X10_widowOf⟩ ⟨Nat.le_of_ble_eq_true rfl, Nat.le_of_ble_eq_true rfl⟩) (mV hK hZ hP hD [14, 15] rfl rfl [.int x79, .int 3] 14 10 rfl rfl) rfl rfl hl.1 rfl (lv_room (Nat.le_of_ble_eq_true rfl)) dX10_goAll_121 ⟨Nat.le_of_ble_eq_true rfl, Nat.le_of_ble_eq_true rfl⟩) (fun r116 u117 H locs hw118 hP hD hS => ?_)
                                  try dsimp only at hw118
                                  have hP : va_P G vwCl [(b 15, .inl (cZ, 80, .inl o_f15)), (b 16, .inl (cI, 7, .inl o_f16)), (b 22, .inl (cZ, 80, .inl g81)), (b 23, .inl (cZ, 80, .inl g82)), (b 26, .inl (cI, 287, .inl g85)), (b 27, .inl (cI, 7, .inl g86)), (b 28, .inl (cI, 7, .inl g87)), (b 29, .inl (cI, 6, .inl g88)), (b 21, .inl (cZ, 80, .inl g80)), (b 24, .inl (cI, 80, .inl g83)), (b 25, .inl (cI, 6, .inl g84)), (b 30, .inl (cZ, 1040, .inl o_f30o71)), (b 31, .inl (cI, 1040, .inl o_f31o72)), (b 32, .inl (cI, 78, .inl o_f32o73)), (h0, oX10 b o_thrown o_taped o_size o_at o_from o_token o_value o_faultKind o_faultPlace o_lawNow o_walkSet o_oneWidow o_oneTurn o_askWorst o_mayWalk o_oftenAll o_oftenRoad o_oftenPegs), (b 1, .inl (cI, 149, .inl o_f1))] H := hP
                                  have hD : va_D A [(b 15, .inl (cZ, 80, .inl o_f15)), (b 16, .inl (cI, 7, .inl o_f16)), (b 22, .inl (cZ, 80, .inl g81)), (b 23, .inl (cZ, 80, .inl g82)), (b 26, .inl (cI, 287, .inl g85)), (b 27, .inl (cI, 7, .inl g86)), (b 28, .inl (cI, 7, .inl g87)), (b 29, .inl (cI, 6, .inl g88)), (b 21, .inl (cZ, 80, .inl g80)), (b 24, .inl (cI, 80, .inl g83)), (b 25, .inl (cI, 6, .inl g84)), (b 30, .inl (cZ, 1040, .inl o_f30o71)), (b 31, .inl (cI, 1040, .inl o_f31o72)), (b 32, .inl (cI, 78, .inl o_f32o73)), (h0, oX10 b o_thrown o_taped o_size o_at o_from o_token o_value o_faultKind o_faultPlace o_lawNow o_walkSet o_oneWidow o_oneTurn o_askWorst o_mayWalk o_oftenAll o_oftenRoad o_oftenPegs), (b 1, .inl (cI, 149, .inl o_f1))] := hD
                                  have w119 : r116.toInt = wv o_f1 x79.toInt 3 := hw118
                                  obtain ⟨ia120, ib121⟩ := wv_3 (a := x79.toInt) ha_o_f1.1 (by omega) (by omega)
                                  refine lv_iload_n hx hb dX10_goAll_124 rfl (lv_at hl 1 rfl) ?_
                                  refine lv_icmp_ne (tgt := 145) hx hb dX10_goAll_125 (by decide) (fun c122 => ?_) (fun c122 => ?_)
                                  · have c122 := i_ne w119 rfl c122
                                    obtain ⟨v123, ev123⟩ : ∃ y : Int32, y = x79 + 1 := ⟨_, rfl⟩
                                    have tv123 : v123.toInt = x79.toInt + 1 := ti_add rfl ki_1 ev123 (by omega) (by omega)
                                    refine lv_iinc (v := v123) (lv' := [(2, .int v123), (1, .int x35), (0, .ref h0)]) hx hb dX10_goAll_145 hl (k := 0) rfl (by rw [ev123]; rfl) (by decide) rfl (fun ls hl => ?_)
                                    refine lv_goto (tgt := 102) hx hb dX10_goAll_148 (by decide) ?_
                                    exact ih98 v123 g80 g81 g82 g83 g84 g85 g86 g87 g88 (by omega) (by omega) k91 k92 k93 k94 k95 k96 k97 (by omega) _ _ (hP.sub (ws' := [(b 15, .inl (cZ, 80, .inl o_f15)), (b 16, .inl (cI, 7, .inl o_f16)), (b 22, .inl (cZ, 80, .inl g81)), (b 23, .inl (cZ, 80, .inl g82)), (b 26, .inl (cI, 287, .inl g85)), (b 27, .inl (cI, 7, .inl g86)), (b 28, .inl (cI, 7, .inl g87)), (b 29, .inl (cI, 6, .inl g88)), (b 1, .inl (cI, 149, .inl o_f1)), (h0, oX10 b o_thrown o_taped o_size o_at o_from o_token o_value o_faultKind o_faultPlace o_lawNow o_walkSet o_oneWidow o_oneTurn o_askWorst o_mayWalk o_oftenAll o_oftenRoad o_oftenPegs), (b 21, .inl (cZ, 80, .inl g80)), (b 24, .inl (cI, 80, .inl g83)), (b 25, .inl (cI, 6, .inl g84)), (b 30, .inl (cZ, 1040, .inl o_f30o71)), (b 31, .inl (cI, 1040, .inl o_f31o72)), (b 32, .inl (cI, 78, .inl o_f32o73))]) [0, 1, 2, 3, 4, 5, 6, 7, 15, 14, 8, 9, 10, 11, 12, 13] rfl) (hD.sub (ws' := [(b 15, .inl (cZ, 80, .inl o_f15)), (b 16, .inl (cI, 7, .inl o_f16)), (b 22, .inl (cZ, 80, .inl g81)), (b 23, .inl (cZ, 80, .inl g82)), (b 26, .inl (cI, 287, .inl g85)), (b 27, .inl (cI, 7, .inl g86)), (b 28, .inl (cI, 7, .inl g87)), (b 29, .inl (cI, 6, .inl g88)), (b 1, .inl (cI, 149, .inl o_f1)), (h0, oX10 b o_thrown o_taped o_size o_at o_from o_token o_value o_faultKind o_faultPlace o_lawNow o_walkSet o_oneWidow o_oneTurn o_askWorst o_mayWalk o_oftenAll o_oftenRoad o_oftenPegs), (b 21, .inl (cZ, 80, .inl g80)), (b 24, .inl (cI, 80, .inl g83)), (b 25, .inl (cI, 6, .inl g84)), (b 30, .inl (cZ, 1040, .inl o_f30o71)), (b 31, .inl (cI, 1040, .inl o_f31o72)), (b 32, .inl (cI, 78, .inl o_f32o73))]) [0, 1, 2, 3, 4, 5, 6, 7, 15, 14, 8, 9, 10, 11, 12, 13] rfl rfl) hS ls (lv_sub hl [0, 1, 2] rfl)
                                  · have c122 := i_eq w119 rfl c122
                                    refine lv_aload_n hx hb dX10_goAll_128 rfl (lv_at hl 2 rfl) ?_
                                    refine va_get (D := G) (ci := 10) (v := .int o_walkSet) (C := RX10) (T := TX10) (N := 46) hx hb hts iG_X10 hown hK hP 14 rfl rfl 18 (by decide) (hts _ w_1210) (fun _ h9 => h9) rfl dX10_goAll_129 ?_
                                    refine lv_iload_n hx hb dX10_goAll_132 rfl (lv_at hl 0 rfl) ?_
                                    refine k_i (wc := []) (wr := [(b 15, .inl (cZ, 80, .inl o_f15)), (b 16, .inl (cI, 7, .inl o_f16)), (b 22, .inl (cZ, 80, .inl g81)), (b 23, .inl (cZ, 80, .inl g82)), (b 26, .inl (cI, 287, .inl g85)), (b 27, .inl (cI, 7, .inl g86)), (b 28, .inl (cI, 7, .inl g87)), (b 29, .inl (cI, 6, .inl g88)), (b 21, .inl (cZ, 80, .inl g80)), (b 24, .inl (cI, 80, .inl g83)), (b 25, .inl (cI, 6, .inl g84)), (b 30, .inl (cZ, 1040, .inl o_f30o71)), (b 31, .inl (cI, 1040, .inl o_f31o72)), (b 32, .inl (cI, 78, .inl o_f32o73)), (h0, oX10 b o_thrown o_taped o_size o_at o_from o_token o_value o_faultKind o_faultPlace o_lawNow o_walkSet o_oneWidow o_oneTurn o_askWorst o_mayWalk o_oftenAll o_oftenRoad o_oftenPegs), (b 1, .inl (cI, 149, .inl o_f1))]) hP hD hS hA [] [0, 1, 2, 3, 4, 5, 6, 7, 8, 9, 10, 11, 12, 13, 14, 15] rfl rfl rfl (by decide) (va_runS (As := [.int o_walkSet, .int x79]) (rest := []) ⟨hx, hb, hml, hown, hts⟩ (f_X10_bit l G cI cJ cZ cB cQ _ o_walkSet o_walkSet.toInt x79 x79.toInt rfl rfl) (va_cwS 2 hts (gS w_1509 w_1510 w_11 w_1511) rfl rfl rfl hd_X10_bit ⟨Nat.le_of_ble_eq_true rfl, Nat.le_of_ble_eq_true rfl⟩) (mS hK hZ hP hD [] rfl rfl [.int o_walkSet, .int x79]) rfl rfl hl.1 rfl (lv_room (Nat.le_of_ble_eq_true rfl)) dX10_goAll_133 ⟨Nat.le_of_ble_eq_true rfl, Nat.le_of_ble_eq_true rfl⟩) (fun r124 u125 H locs hw126 hP hD hS => ?_)
                                    try dsimp only at hw126
                                    have hP : va_P G vwCl [(b 15, .inl (cZ, 80, .inl o_f15)), (b 16, .inl (cI, 7, .inl o_f16)), (b 22, .inl (cZ, 80, .inl g81)), (b 23, .inl (cZ, 80, .inl g82)), (b 26, .inl (cI, 287, .inl g85)), (b 27, .inl (cI, 7, .inl g86)), (b 28, .inl (cI, 7, .inl g87)), (b 29, .inl (cI, 6, .inl g88)), (b 21, .inl (cZ, 80, .inl g80)), (b 24, .inl (cI, 80, .inl g83)), (b 25, .inl (cI, 6, .inl g84)), (b 30, .inl (cZ, 1040, .inl o_f30o71)), (b 31, .inl (cI, 1040, .inl o_f31o72)), (b 32, .inl (cI, 78, .inl o_f32o73)), (h0, oX10 b o_thrown o_taped o_size o_at o_from o_token o_value o_faultKind o_faultPlace o_lawNow o_walkSet o_oneWidow o_oneTurn o_askWorst o_mayWalk o_oftenAll o_oftenRoad o_oftenPegs), (b 1, .inl (cI, 149, .inl o_f1))] H := hP
                                    have hD : va_D A [(b 15, .inl (cZ, 80, .inl o_f15)), (b 16, .inl (cI, 7, .inl o_f16)), (b 22, .inl (cZ, 80, .inl g81)), (b 23, .inl (cZ, 80, .inl g82)), (b 26, .inl (cI, 287, .inl g85)), (b 27, .inl (cI, 7, .inl g86)), (b 28, .inl (cI, 7, .inl g87)), (b 29, .inl (cI, 6, .inl g88)), (b 21, .inl (cZ, 80, .inl g80)), (b 24, .inl (cI, 80, .inl g83)), (b 25, .inl (cI, 6, .inl g84)), (b 30, .inl (cZ, 1040, .inl o_f30o71)), (b 31, .inl (cI, 1040, .inl o_f31o72)), (b 32, .inl (cI, 78, .inl o_f32o73)), (h0, oX10 b o_thrown o_taped o_size o_at o_from o_token o_value o_faultKind o_faultPlace o_lawNow o_walkSet o_oneWidow o_oneTurn o_askWorst o_mayWalk o_oftenAll o_oftenRoad o_oftenPegs), (b 1, .inl (cI, 149, .inl o_f1))] := hD
                                    obtain ⟨w127, w128, w129⟩ : 0 ≤ r124.toInt ∧ r124.toInt ≤ 1 ∧ r124 = bitF o_walkSet x79 := hw126
                                    refine lv_iconst (v := 1) hx hb dX10_goAll_136 (by decide) ?_
                                    refine lv_icmp_ne (tgt := 145) hx hb dX10_goAll_137 (by decide) (fun c130 => ?_) (fun c130 => ?_)
                                    · have c130 := i_ne rfl ki_1 c130
                                      obtain ⟨v131, ev131⟩ : ∃ y : Int32, y = x79 + 1 := ⟨_, rfl⟩
                                      have tv131 : v131.toInt = x79.toInt + 1 := ti_add rfl ki_1 ev131 (by omega) (by omega)
                                      refine lv_iinc (v := v131) (lv' := [(2, .int v131), (1, .int x35), (0, .ref h0)]) hx hb dX10_goAll_145 hl (k := 0) rfl (by rw [ev131]; rfl) (by decide) rfl (fun ls hl => ?_)
                                      refine lv_goto (tgt := 102) hx hb dX10_goAll_148 (by decide) ?_
                                      exact ih98 v131 g80 g81 g82 g83 g84 g85 g86 g87 g88 (by omega) (by omega) k91 k92 k93 k94 k95 k96 k97 (by omega) _ _ (hP.sub (ws' := [(b 15, .inl (cZ, 80, .inl o_f15)), (b 16, .inl (cI, 7, .inl o_f16)), (b 22, .inl (cZ, 80, .inl g81)), (b 23, .inl (cZ, 80, .inl g82)), (b 26, .inl (cI, 287, .inl g85)), (b 27, .inl (cI, 7, .inl g86)), (b 28, .inl (cI, 7, .inl g87)), (b 29, .inl (cI, 6, .inl g88)), (b 1, .inl (cI, 149, .inl o_f1)), (h0, oX10 b o_thrown o_taped o_size o_at o_from o_token o_value o_faultKind o_faultPlace o_lawNow o_walkSet o_oneWidow o_oneTurn o_askWorst o_mayWalk o_oftenAll o_oftenRoad o_oftenPegs), (b 21, .inl (cZ, 80, .inl g80)), (b 24, .inl (cI, 80, .inl g83)), (b 25, .inl (cI, 6, .inl g84)), (b 30, .inl (cZ, 1040, .inl o_f30o71)), (b 31, .inl (cI, 1040, .inl o_f31o72)), (b 32, .inl (cI, 78, .inl o_f32o73))]) [0, 1, 2, 3, 4, 5, 6, 7, 15, 14, 8, 9, 10, 11, 12, 13] rfl) (hD.sub (ws' := [(b 15, .inl (cZ, 80, .inl o_f15)), (b 16, .inl (cI, 7, .inl o_f16)), (b 22, .inl (cZ, 80, .inl g81)), (b 23, .inl (cZ, 80, .inl g82)), (b 26, .inl (cI, 287, .inl g85)), (b 27, .inl (cI, 7, .inl g86)), (b 28, .inl (cI, 7, .inl g87)), (b 29, .inl (cI, 6, .inl g88)), (b 1, .inl (cI, 149, .inl o_f1)), (h0, oX10 b o_thrown o_taped o_size o_at o_from o_token o_value o_faultKind o_faultPlace o_lawNow o_walkSet o_oneWidow o_oneTurn o_askWorst o_mayWalk o_oftenAll o_oftenRoad o_oftenPegs), (b 21, .inl (cZ, 80, .inl g80)), (b 24, .inl (cI, 80, .inl g83)), (b 25, .inl (cI, 6, .inl g84)), (b 30, .inl (cZ, 1040, .inl o_f30o71)), (b 31, .inl (cI, 1040, .inl o_f31o72)), (b 32, .inl (cI, 78, .inl o_f32o73))]) [0, 1, 2, 3, 4, 5, 6, 7, 15, 14, 8, 9, 10, 11, 12, 13] rfl rfl) hS ls (lv_sub hl [0, 1, 2] rfl)
                                    · have c130 := i_eq rfl ki_1 c130
                                      refine lv_aload_n hx hb dX10_goAll_140 rfl (lv_at hl 2 rfl) ?_
                                      refine lv_iload_n hx hb dX10_goAll_141 rfl (lv_at hl 0 rfl) ?_
                                      refine k_v (wc := [(h0, oX10 b o_thrown o_taped o_size o_at o_from o_token o_value o_faultKind o_faultPlace o_lawNow o_walkSet o_oneWidow o_oneTurn o_askWorst o_mayWalk o_oftenAll o_oftenRoad o_oftenPegs), (b 1, .inl (cI, 149, .inl o_f1)), (b 15, .inl (cZ, 80, .inl o_f15)), (b 16, .inl (cI, 7, .inl o_f16)), (b 21, .inl (cZ, 80, .inl g80)), (b 22, .inl (cZ, 80, .inl g81)), (b 23, .inl (cZ, 80, .inl g82)), (b 24, .inl (cI, 80, .inl g83)), (b 25, .inl (cI, 6, .inl g84)), (b 26, .inl (cI, 287, .inl g85)), (b 27, .inl (cI, 7, .inl g86)), (b 28, .inl (cI, 7, .inl g87)), (b 29, .inl (cI, 6, .inl g88))]) (wr := [(b 30, .inl (cZ, 1040, .inl o_f30o71)), (b 31, .inl (cI, 1040, .inl o_f31o72)), (b 32, .inl (cI, 78, .inl o_f32o73))]) hP hD hS hA [14, 15, 0, 1, 8, 2, 3, 9, 10, 4, 5, 6, 7] [11, 12, 13] rfl rfl rfl (by decide) (va_runV (As := [.int x79]) (rest := []) ⟨hx, hb, hml, hown, hts⟩ (f_X10_walk l G cI cJ cZ cB cQ _ h0 x79 x79.toInt b o_thrown o_taped o_size o_at o_from o_token o_value o_faultKind o_faultPlace o_lawNow o_walkSet o_oneWidow o_oneTurn o_askWorst o_mayWalk o_oftenAll o_oftenRoad o_oftenPegs o_f1 o_f15 o_f16 g80 g81 g82 g83 g84 g85 g86 g87 g88 rfl (by omega) (by omega) (by omega) hl_o_taped hh_o_taped hl_o_size hh_o_size hl_o_at hh_o_at hl_o_from hh_o_from hl_o_oneTurn hh_o_oneTurn ha_o_f1 ha_o_f15 ha_o_f16 k91 k92 k93 k94 k95 k96 k97) (cwV 1 hts (gV w_1512 w_1514 wp_111 w_11 w_1515) rfl rfl rfl ⟨rfl, hd_X10_walk⟩ ⟨Nat.le_of_ble_eq_true rfl, Nat.le_of_ble_eq_true rfl⟩) (mV hK hZ hP hD [14, 15, 0, 1, 8, 2, 3, 9, 10, 4, 5, 6, 7] rfl rfl [.int x79] 14 10 rfl rfl) rfl rfl hl.1 rfl (lv_room (Nat.le_of_ble_eq_true rfl)) dX10_goAll_142 ⟨Nat.le_of_ble_eq_true rfl, Nat.le_of_ble_eq_true rfl⟩) (fun u133 H locs hw134 hP hD hS => ?_)
                                      obtain ⟨o_f21o135, o_f22o136, o_f23o137, o_f24o138, o_f25o139, o_f26o140, o_f27o141, o_f28o142, o_f29o143⟩ := u133
                                      try dsimp only at hw134
                                      have hP : va_P G vwCl [(b 30, .inl (cZ, 1040, .inl o_f30o71)), (b 31, .inl (cI, 1040, .inl o_f31o72)), (b 32, .inl (cI, 78, .inl o_f32o73)), (h0, oX10 b o_thrown o_taped o_size o_at o_from o_token o_value o_faultKind o_faultPlace o_lawNow o_walkSet o_oneWidow o_oneTurn o_askWorst o_mayWalk o_oftenAll o_oftenRoad o_oftenPegs), (b 1, .inl (cI, 149, .inl o_f1)), (b 15, .inl (cZ, 80, .inl o_f15)), (b 16, .inl (cI, 7, .inl o_f16)), (b 21, .inl (cZ, 80, .inl o_f21o135)), (b 22, .inl (cZ, 80, .inl o_f22o136)), (b 23, .inl (cZ, 80, .inl o_f23o137)), (b 24, .inl (cI, 80, .inl o_f24o138)), (b 25, .inl (cI, 6, .inl o_f25o139)), (b 26, .inl (cI, 287, .inl o_f26o140)), (b 27, .inl (cI, 7, .inl o_f27o141)), (b 28, .inl (cI, 7, .inl o_f28o142)), (b 29, .inl (cI, 6, .inl o_f29o143))] H := hP
                                      have hD : va_D A [(b 30, .inl (cZ, 1040, .inl o_f30o71)), (b 31, .inl (cI, 1040, .inl o_f31o72)), (b 32, .inl (cI, 78, .inl o_f32o73)), (h0, oX10 b o_thrown o_taped o_size o_at o_from o_token o_value o_faultKind o_faultPlace o_lawNow o_walkSet o_oneWidow o_oneTurn o_askWorst o_mayWalk o_oftenAll o_oftenRoad o_oftenPegs), (b 1, .inl (cI, 149, .inl o_f1)), (b 15, .inl (cZ, 80, .inl o_f15)), (b 16, .inl (cI, 7, .inl o_f16)), (b 21, .inl (cZ, 80, .inl o_f21o135)), (b 22, .inl (cZ, 80, .inl o_f22o136)), (b 23, .inl (cZ, 80, .inl o_f23o137)), (b 24, .inl (cI, 80, .inl o_f24o138)), (b 25, .inl (cI, 6, .inl o_f25o139)), (b 26, .inl (cI, 287, .inl o_f26o140)), (b 27, .inl (cI, 7, .inl o_f27o141)), (b 28, .inl (cI, 7, .inl o_f28o142)), (b 29, .inl (cI, 6, .inl o_f29o143))] := hD
                                      obtain ⟨w144, w145, w146, w147, w148, w149, w150⟩ : ai o_f21o135 80 0 1 ∧ ai o_f22o136 80 0 1 ∧ ai o_f23o137 80 0 1 ∧ PG o_f24o138 80 (o_f1 3).toInt (o_f1 4).toInt ∧ ai o_f25o139 6 (-1) 79 ∧ ai o_f26o140 287 0 77 ∧ ai o_f27o141 7 (-1) 40 := hw134
                                      obtain ⟨v151, ev151⟩ : ∃ y : Int32, y = x79 + 1 := ⟨_, rfl⟩
                                      have tv151 : v151.toInt = x79.toInt + 1 := ti_add rfl ki_1 ev151 (by omega) (by omega)
                                      refine lv_iinc (v := v151) (lv' := [(2, .int v151), (1, .int x35), (0, .ref h0)]) hx hb dX10_goAll_145 hl (k := 0) rfl (by rw [ev151]; rfl) (by decide) rfl (fun ls hl => ?_)
                                      refine lv_goto (tgt := 102) hx hb dX10_goAll_148 (by decide) ?_
                                      exact ih98 v151 o_f21o135 o_f22o136 o_f23o137 o_f24o138 o_f25o139 o_f26o140 o_f27o141 o_f28o142 o_f29o143 (by omega) (by omega) w144 w145 w146 w147 w148 w149 w150 (by omega) _ _ (hP.sub (ws' := [(b 15, .inl (cZ, 80, .inl o_f15)), (b 16, .inl (cI, 7, .inl o_f16)), (b 22, .inl (cZ, 80, .inl o_f22o136)), (b 23, .inl (cZ, 80, .inl o_f23o137)), (b 26, .inl (cI, 287, .inl o_f26o140)), (b 27, .inl (cI, 7, .inl o_f27o141)), (b 28, .inl (cI, 7, .inl o_f28o142)), (b 29, .inl (cI, 6, .inl o_f29o143)), (b 1, .inl (cI, 149, .inl o_f1)), (h0, oX10 b o_thrown o_taped o_size o_at o_from o_token o_value o_faultKind o_faultPlace o_lawNow o_walkSet o_oneWidow o_oneTurn o_askWorst o_mayWalk o_oftenAll o_oftenRoad o_oftenPegs), (b 21, .inl (cZ, 80, .inl o_f21o135)), (b 24, .inl (cI, 80, .inl o_f24o138)), (b 25, .inl (cI, 6, .inl o_f25o139)), (b 30, .inl (cZ, 1040, .inl o_f30o71)), (b 31, .inl (cI, 1040, .inl o_f31o72)), (b 32, .inl (cI, 78, .inl o_f32o73))]) [5, 6, 8, 9, 12, 13, 14, 15, 4, 3, 7, 10, 11, 0, 1, 2] rfl) (hD.sub (ws' := [(b 15, .inl (cZ, 80, .inl o_f15)), (b 16, .inl (cI, 7, .inl o_f16)), (b 22, .inl (cZ, 80, .inl o_f22o136)), (b 23, .inl (cZ, 80, .inl o_f23o137)), (b 26, .inl (cI, 287, .inl o_f26o140)), (b 27, .inl (cI, 7, .inl o_f27o141)), (b 28, .inl (cI, 7, .inl o_f28o142)), (b 29, .inl (cI, 6, .inl o_f29o143)), (b 1, .inl (cI, 149, .inl o_f1)), (h0, oX10 b o_thrown o_taped o_size o_at o_from o_token o_value o_faultKind o_faultPlace o_lawNow o_walkSet o_oneWidow o_oneTurn o_askWorst o_mayWalk o_oftenAll o_oftenRoad o_oftenPegs), (b 21, .inl (cZ, 80, .inl o_f21o135)), (b 24, .inl (cI, 80, .inl o_f24o138)), (b 25, .inl (cI, 6, .inl o_f25o139)), (b 30, .inl (cZ, 1040, .inl o_f30o71)), (b 31, .inl (cI, 1040, .inl o_f31o72)), (b 32, .inl (cI, 78, .inl o_f32o73))]) [5, 6, 8, 9, 12, 13, 14, 15, 4, 3, 7, 10, 11, 0, 1, 2] rfl rfl) hS ls (lv_sub hl [0, 1, 2] rfl)
                          exact lp77 8 0 g36 g37 g38 g39 g40 g41 g42 g43 g44 (by rw [ki_0]; decide) (by rw [ki_0]; decide) k50 k51 k52 k53 k54 k55 k56 (by rw [ki_0]; decide) _ _ hP hD hS ls (lv_sub hl [0, 1, 2] rfl)
                    exact lp33 14 0 g4 o_f22 o_f23 g5 g15 o_f26 g26 o_f28 g16 o_f30 o_f31 o_f32 (by rw [ki_0]; decide) (by rw [ki_0]; decide) k8 ha_o_f22 ha_o_f23 pg24 k19 ha_o_f26 k29 ha_o_f30 ha_o_f32 (PG_le PG_none (by rw [ki_0]; decide)) (by rw [ki_0]; decide) _ _ hP hD hS ls (lv_sub hl [0, 1] rfl)
                  · have c32 := i_nle ki_7 rfl c32
                    refine lv_aload_n hx hb dX10_goAll_72 rfl (lv_at hl 1 rfl) ?_
                    refine va_get (D := G) (ci := 10) (v := .ref (b 27)) (C := RX10) (T := TX10) (N := 46) hx hb hts iG_X10 hown hK hP 0 rfl rfl 27 (by decide) (hts _ w_1219) (fun _ h9 => h9) rfl dX10_goAll_73 ?_
                    refine lv_iload_n hx hb dX10_goAll_76 rfl (lv_at hl 0 rfl) ?_
                    refine lv_iconst (v := (-1)) hx hb dX10_goAll_77 (by decide) ?_
                    refine va_iast hx hb hK hP hD hS 10 0 rfl rfl (ix_in rfl (by omega) (by omega)) dX10_goAll_78 (fun H locs hP hD hS => ?_)
                    obtain ⟨f152, qf152⟩ : ∃ g, g = upd g26 x25.toNatClampNeg ((-1) : Int32) := ⟨_, rfl⟩
                    rw [← qf152] at hP hD
                    have hi153 : ai f152 7 (-1) 40 := by rw [qf152]; exact ai_put k29 ki_m1 (by decide) (by decide)
                    have hP : va_P G vwCl [(h0, oX10 b o_thrown o_taped o_size o_at o_from o_token o_value o_faultKind o_faultPlace o_lawNow o_walkSet o_oneWidow o_oneTurn o_askWorst o_mayWalk o_oftenAll o_oftenRoad o_oftenPegs), (b 1, .inl (cI, 149, .inl o_f1)), (b 15, .inl (cZ, 80, .inl o_f15)), (b 16, .inl (cI, 7, .inl o_f16)), (b 21, .inl (cZ, 80, .inl g4)), (b 22, .inl (cZ, 80, .inl o_f22)), (b 23, .inl (cZ, 80, .inl o_f23)), (b 24, .inl (cI, 80, .inl g5)), (b 25, .inl (cI, 6, .inl g15)), (b 26, .inl (cI, 287, .inl o_f26)), (b 27, .inl (cI, 7, .inl f152)), (b 28, .inl (cI, 7, .inl o_f28)), (b 29, .inl (cI, 6, .inl g16)), (b 30, .inl (cZ, 1040, .inl o_f30)), (b 31, .inl (cI, 1040, .inl o_f31)), (b 32, .inl (cI, 78, .inl o_f32))] H := hP
                    have hD : va_D A [(h0, oX10 b o_thrown o_taped o_size o_at o_from o_token o_value o_faultKind o_faultPlace o_lawNow o_walkSet o_oneWidow o_oneTurn o_askWorst o_mayWalk o_oftenAll o_oftenRoad o_oftenPegs), (b 1, .inl (cI, 149, .inl o_f1)), (b 15, .inl (cZ, 80, .inl o_f15)), (b 16, .inl (cI, 7, .inl o_f16)), (b 21, .inl (cZ, 80, .inl g4)), (b 22, .inl (cZ, 80, .inl o_f22)), (b 23, .inl (cZ, 80, .inl o_f23)), (b 24, .inl (cI, 80, .inl g5)), (b 25, .inl (cI, 6, .inl g15)), (b 26, .inl (cI, 287, .inl o_f26)), (b 27, .inl (cI, 7, .inl f152)), (b 28, .inl (cI, 7, .inl o_f28)), (b 29, .inl (cI, 6, .inl g16)), (b 30, .inl (cZ, 1040, .inl o_f30)), (b 31, .inl (cI, 1040, .inl o_f31)), (b 32, .inl (cI, 78, .inl o_f32))] := hD
                    obtain ⟨v154, ev154⟩ : ∃ y : Int32, y = x25 + 1 := ⟨_, rfl⟩
                    have tv154 : v154.toInt = x25.toInt + 1 := ti_add rfl ki_1 ev154 (by omega) (by omega)
                    refine lv_iinc (v := v154) (lv' := [(1, .int v154), (0, .ref h0)]) hx hb dX10_goAll_79 hl (k := 0) rfl (by rw [ev154]; rfl) (by decide) rfl (fun ls hl => ?_)
                    refine lv_goto (tgt := 66) hx hb dX10_goAll_82 (by decide) ?_
                    exact ih30 v154 f152 (by omega) (by omega) hi153 (by omega) _ _ hP hD hS ls (lv_sub hl [0, 1] rfl)
              exact lp23 8 0 o_f27 (by rw [ki_0]; decide) (by rw [ki_0]; decide) ha_o_f27 (by rw [ki_0]; decide) _ _ hP hD hS ls (lv_sub hl [0, 1] rfl)
            · have c22 := i_nle ki_6 rfl c22
              refine lv_aload_n hx hb dX10_goAll_36 rfl (lv_at hl 1 rfl) ?_
              refine va_get (D := G) (ci := 10) (v := .ref (b 25)) (C := RX10) (T := TX10) (N := 46) hx hb hts iG_X10 hown hK hP 0 rfl rfl 25 (by decide) (hts _ w_1217) (fun _ h9 => h9) rfl dX10_goAll_37 ?_
              refine lv_iload_n hx hb dX10_goAll_40 rfl (lv_at hl 0 rfl) ?_
              refine lv_aload_n hx hb dX10_goAll_41 rfl (lv_at hl 1 rfl) ?_
              refine va_get (D := G) (ci := 10) (v := .ref (b 1)) (C := RX10) (T := TX10) (N := 46) hx hb hts iG_X10 hown hK hP 0 rfl rfl 1 (by decide) (hts _ w_1193) (fun _ h9 => h9) rfl dX10_goAll_42 ?_
              refine lv_bipush (v := 22) hx hb dX10_goAll_45 (by decide) ?_
              refine lv_iload_n hx hb dX10_goAll_47 rfl (lv_at hl 0 rfl) ?_
              refine lv_iadd hx hb dX10_goAll_48 ?_
              refine lv_topi (fun v155 ev155 => ?_)
              have tv155 : v155.toInt = 22 + x14.toInt := ti_add ki_22 rfl ev155 (by omega) (by omega)
              refine va_iald hx hb hK hP 1 0 rfl rfl (ix_in tv155 (by omega) (by omega)) dX10_goAll_49 ?_
              refine lv_topi (fun v156 ev156 => ?_)
              obtain ⟨ia157, ib158⟩ := WB_cell ha_o_f1.1 tv155 (by omega) (by omega) ev156
              refine va_iast hx hb hK hP hD hS 8 0 rfl rfl (ix_in rfl (by omega) (by omega)) dX10_goAll_50 (fun H locs hP hD hS => ?_)
              obtain ⟨f159, qf159⟩ : ∃ g, g = upd g15 x14.toNatClampNeg v156 := ⟨_, rfl⟩
              rw [← qf159] at hP hD
              have hi160 : ai f159 6 (-1) 79 := by rw [qf159]; exact ai_put k19 rfl (by omega) (by omega)
              have hP : va_P G vwCl [(h0, oX10 b o_thrown o_taped o_size o_at o_from o_token o_value o_faultKind o_faultPlace o_lawNow o_walkSet o_oneWidow o_oneTurn o_askWorst o_mayWalk o_oftenAll o_oftenRoad o_oftenPegs), (b 1, .inl (cI, 149, .inl o_f1)), (b 15, .inl (cZ, 80, .inl o_f15)), (b 16, .inl (cI, 7, .inl o_f16)), (b 21, .inl (cZ, 80, .inl g4)), (b 22, .inl (cZ, 80, .inl o_f22)), (b 23, .inl (cZ, 80, .inl o_f23)), (b 24, .inl (cI, 80, .inl g5)), (b 25, .inl (cI, 6, .inl f159)), (b 26, .inl (cI, 287, .inl o_f26)), (b 27, .inl (cI, 7, .inl o_f27)), (b 28, .inl (cI, 7, .inl o_f28)), (b 29, .inl (cI, 6, .inl g16)), (b 30, .inl (cZ, 1040, .inl o_f30)), (b 31, .inl (cI, 1040, .inl o_f31)), (b 32, .inl (cI, 78, .inl o_f32))] H := hP
              have hD : va_D A [(h0, oX10 b o_thrown o_taped o_size o_at o_from o_token o_value o_faultKind o_faultPlace o_lawNow o_walkSet o_oneWidow o_oneTurn o_askWorst o_mayWalk o_oftenAll o_oftenRoad o_oftenPegs), (b 1, .inl (cI, 149, .inl o_f1)), (b 15, .inl (cZ, 80, .inl o_f15)), (b 16, .inl (cI, 7, .inl o_f16)), (b 21, .inl (cZ, 80, .inl g4)), (b 22, .inl (cZ, 80, .inl o_f22)), (b 23, .inl (cZ, 80, .inl o_f23)), (b 24, .inl (cI, 80, .inl g5)), (b 25, .inl (cI, 6, .inl f159)), (b 26, .inl (cI, 287, .inl o_f26)), (b 27, .inl (cI, 7, .inl o_f27)), (b 28, .inl (cI, 7, .inl o_f28)), (b 29, .inl (cI, 6, .inl g16)), (b 30, .inl (cZ, 1040, .inl o_f30)), (b 31, .inl (cI, 1040, .inl o_f31)), (b 32, .inl (cI, 78, .inl o_f32))] := hD
              refine lv_aload_n hx hb dX10_goAll_51 rfl (lv_at hl 1 rfl) ?_
              refine va_get (D := G) (ci := 10) (v := .ref (b 29)) (C := RX10) (T := TX10) (N := 46) hx hb hts iG_X10 hown hK hP 0 rfl rfl 29 (by decide) (hts _ w_1221) (fun _ h9 => h9) rfl dX10_goAll_52 ?_
              refine lv_iload_n hx hb dX10_goAll_55 rfl (lv_at hl 0 rfl) ?_
              refine lv_iconst (v := 0) hx hb dX10_goAll_56 (by decide) ?_
              refine va_iast hx hb hK hP hD hS 12 0 rfl rfl (ix_in rfl (by omega) (by omega)) dX10_goAll_57 (fun H locs hP hD hS => ?_)
              obtain ⟨f161, qf161⟩ : ∃ g, g = upd g16 x14.toNatClampNeg (0 : Int32) := ⟨_, rfl⟩
              rw [← qf161] at hP hD
              have hP : va_P G vwCl [(h0, oX10 b o_thrown o_taped o_size o_at o_from o_token o_value o_faultKind o_faultPlace o_lawNow o_walkSet o_oneWidow o_oneTurn o_askWorst o_mayWalk o_oftenAll o_oftenRoad o_oftenPegs), (b 1, .inl (cI, 149, .inl o_f1)), (b 15, .inl (cZ, 80, .inl o_f15)), (b 16, .inl (cI, 7, .inl o_f16)), (b 21, .inl (cZ, 80, .inl g4)), (b 22, .inl (cZ, 80, .inl o_f22)), (b 23, .inl (cZ, 80, .inl o_f23)), (b 24, .inl (cI, 80, .inl g5)), (b 25, .inl (cI, 6, .inl f159)), (b 26, .inl (cI, 287, .inl o_f26)), (b 27, .inl (cI, 7, .inl o_f27)), (b 28, .inl (cI, 7, .inl o_f28)), (b 29, .inl (cI, 6, .inl f161)), (b 30, .inl (cZ, 1040, .inl o_f30)), (b 31, .inl (cI, 1040, .inl o_f31)), (b 32, .inl (cI, 78, .inl o_f32))] H := hP
              have hD : va_D A [(h0, oX10 b o_thrown o_taped o_size o_at o_from o_token o_value o_faultKind o_faultPlace o_lawNow o_walkSet o_oneWidow o_oneTurn o_askWorst o_mayWalk o_oftenAll o_oftenRoad o_oftenPegs), (b 1, .inl (cI, 149, .inl o_f1)), (b 15, .inl (cZ, 80, .inl o_f15)), (b 16, .inl (cI, 7, .inl o_f16)), (b 21, .inl (cZ, 80, .inl g4)), (b 22, .inl (cZ, 80, .inl o_f22)), (b 23, .inl (cZ, 80, .inl o_f23)), (b 24, .inl (cI, 80, .inl g5)), (b 25, .inl (cI, 6, .inl f159)), (b 26, .inl (cI, 287, .inl o_f26)), (b 27, .inl (cI, 7, .inl o_f27)), (b 28, .inl (cI, 7, .inl o_f28)), (b 29, .inl (cI, 6, .inl f161)), (b 30, .inl (cZ, 1040, .inl o_f30)), (b 31, .inl (cI, 1040, .inl o_f31)), (b 32, .inl (cI, 78, .inl o_f32))] := hD
              obtain ⟨v162, ev162⟩ : ∃ y : Int32, y = x14 + 1 := ⟨_, rfl⟩
              have tv162 : v162.toInt = x14.toInt + 1 := ti_add rfl ki_1 ev162 (by omega) (by omega)
              refine lv_iinc (v := v162) (lv' := [(1, .int v162), (0, .ref h0)]) hx hb dX10_goAll_58 hl (k := 0) rfl (by rw [ev162]; rfl) (by decide) rfl (fun ls hl => ?_)
              refine lv_goto (tgt := 30) hx hb dX10_goAll_61 (by decide) ?_
              exact ih20 v162 f159 f161 (by omega) (by omega) hi160 (by omega) _ _ hP hD hS ls (lv_sub hl [0, 1] rfl)
        exact lp12 7 0 o_f25 o_f29 (by rw [ki_0]; decide) (by rw [ki_0]; decide) ha_o_f25 (by rw [ki_0]; decide) _ _ hP hD hS ls (lv_sub hl [0, 1] rfl)
      · have c11 := i_nle ki_80 rfl c11
        refine lv_aload_n hx hb dX10_goAll_8 rfl (lv_at hl 1 rfl) ?_
        refine va_get (D := G) (ci := 10) (v := .ref (b 21)) (C := RX10) (T := TX10) (N := 46) hx hb hts iG_X10 hown hK hP 0 rfl rfl 21 (by decide) (hts _ w_1213) (fun _ h9 => h9) rfl dX10_goAll_9 ?_
        refine lv_iload_n hx hb dX10_goAll_12 rfl (lv_at hl 0 rfl) ?_
        refine lv_iconst (v := 0) hx hb dX10_goAll_13 (by decide) ?_
        refine va_zast hx hb hK hP hD hS 4 2 rfl rfl (ix_in rfl (by omega) (by omega)) dX10_goAll_14 (fun H locs hP hD hS => ?_)
        obtain ⟨f163, qf163⟩ : ∃ g, g = upd g4 x3.toNatClampNeg (vp_nar .boolean (0 : Int32)) := ⟨_, rfl⟩
        rw [← qf163] at hP hD
        have hi164 : ai f163 80 0 1 := by rw [qf163]; exact ai_putz k8
        have hP : va_P G vwCl [(h0, oX10 b o_thrown o_taped o_size o_at o_from o_token o_value o_faultKind o_faultPlace o_lawNow o_walkSet o_oneWidow o_oneTurn o_askWorst o_mayWalk o_oftenAll o_oftenRoad o_oftenPegs), (b 1, .inl (cI, 149, .inl o_f1)), (b 15, .inl (cZ, 80, .inl o_f15)), (b 16, .inl (cI, 7, .inl o_f16)), (b 21, .inl (cZ, 80, .inl f163)), (b 22, .inl (cZ, 80, .inl o_f22)), (b 23, .inl (cZ, 80, .inl o_f23)), (b 24, .inl (cI, 80, .inl g5)), (b 25, .inl (cI, 6, .inl o_f25)), (b 26, .inl (cI, 287, .inl o_f26)), (b 27, .inl (cI, 7, .inl o_f27)), (b 28, .inl (cI, 7, .inl o_f28)), (b 29, .inl (cI, 6, .inl o_f29)), (b 30, .inl (cZ, 1040, .inl o_f30)), (b 31, .inl (cI, 1040, .inl o_f31)), (b 32, .inl (cI, 78, .inl o_f32))] H := hP
        have hD : va_D A [(h0, oX10 b o_thrown o_taped o_size o_at o_from o_token o_value o_faultKind o_faultPlace o_lawNow o_walkSet o_oneWidow o_oneTurn o_askWorst o_mayWalk o_oftenAll o_oftenRoad o_oftenPegs), (b 1, .inl (cI, 149, .inl o_f1)), (b 15, .inl (cZ, 80, .inl o_f15)), (b 16, .inl (cI, 7, .inl o_f16)), (b 21, .inl (cZ, 80, .inl f163)), (b 22, .inl (cZ, 80, .inl o_f22)), (b 23, .inl (cZ, 80, .inl o_f23)), (b 24, .inl (cI, 80, .inl g5)), (b 25, .inl (cI, 6, .inl o_f25)), (b 26, .inl (cI, 287, .inl o_f26)), (b 27, .inl (cI, 7, .inl o_f27)), (b 28, .inl (cI, 7, .inl o_f28)), (b 29, .inl (cI, 6, .inl o_f29)), (b 30, .inl (cZ, 1040, .inl o_f30)), (b 31, .inl (cI, 1040, .inl o_f31)), (b 32, .inl (cI, 78, .inl o_f32))] := hD
        refine lv_aload_n hx hb dX10_goAll_15 rfl (lv_at hl 1 rfl) ?_
        refine va_get (D := G) (ci := 10) (v := .ref (b 24)) (C := RX10) (T := TX10) (N := 46) hx hb hts iG_X10 hown hK hP 0 rfl rfl 24 (by decide) (hts _ w_1216) (fun _ h9 => h9) rfl dX10_goAll_16 ?_
        refine lv_iload_n hx hb dX10_goAll_19 rfl (lv_at hl 0 rfl) ?_
        refine lv_iconst (v := 0) hx hb dX10_goAll_20 (by decide) ?_
        refine va_iast hx hb hK hP hD hS 7 0 rfl rfl (ix_in rfl (by omega) (by omega)) dX10_goAll_21 (fun H locs hP hD hS => ?_)
        obtain ⟨f165, qf165⟩ : ∃ g, g = upd g5 x3.toNatClampNeg (0 : Int32) := ⟨_, rfl⟩
        rw [← qf165] at hP hD
        have pn166 : PG f165 (x3.toInt + 1) (o_f1 3).toInt (o_f1 4).toInt := by rw [qf165]; exact PG_z pz8 rfl (by omega) rfl (by omega) (by omega)
        have hP : va_P G vwCl [(h0, oX10 b o_thrown o_taped o_size o_at o_from o_token o_value o_faultKind o_faultPlace o_lawNow o_walkSet o_oneWidow o_oneTurn o_askWorst o_mayWalk o_oftenAll o_oftenRoad o_oftenPegs), (b 1, .inl (cI, 149, .inl o_f1)), (b 15, .inl (cZ, 80, .inl o_f15)), (b 16, .inl (cI, 7, .inl o_f16)), (b 21, .inl (cZ, 80, .inl f163)), (b 22, .inl (cZ, 80, .inl o_f22)), (b 23, .inl (cZ, 80, .inl o_f23)), (b 24, .inl (cI, 80, .inl f165)), (b 25, .inl (cI, 6, .inl o_f25)), (b 26, .inl (cI, 287, .inl o_f26)), (b 27, .inl (cI, 7, .inl o_f27)), (b 28, .inl (cI, 7, .inl o_f28)), (b 29, .inl (cI, 6, .inl o_f29)), (b 30, .inl (cZ, 1040, .inl o_f30)), (b 31, .inl (cI, 1040, .inl o_f31)), (b 32, .inl (cI, 78, .inl o_f32))] H := hP
        have hD : va_D A [(h0, oX10 b o_thrown o_taped o_size o_at o_from o_token o_value o_faultKind o_faultPlace o_lawNow o_walkSet o_oneWidow o_oneTurn o_askWorst o_mayWalk o_oftenAll o_oftenRoad o_oftenPegs), (b 1, .inl (cI, 149, .inl o_f1)), (b 15, .inl (cZ, 80, .inl o_f15)), (b 16, .inl (cI, 7, .inl o_f16)), (b 21, .inl (cZ, 80, .inl f163)), (b 22, .inl (cZ, 80, .inl o_f22)), (b 23, .inl (cZ, 80, .inl o_f23)), (b 24, .inl (cI, 80, .inl f165)), (b 25, .inl (cI, 6, .inl o_f25)), (b 26, .inl (cI, 287, .inl o_f26)), (b 27, .inl (cI, 7, .inl o_f27)), (b 28, .inl (cI, 7, .inl o_f28)), (b 29, .inl (cI, 6, .inl o_f29)), (b 30, .inl (cZ, 1040, .inl o_f30)), (b 31, .inl (cI, 1040, .inl o_f31)), (b 32, .inl (cI, 78, .inl o_f32))] := hD
        obtain ⟨v167, ev167⟩ : ∃ y : Int32, y = x3 + 1 := ⟨_, rfl⟩
        have tv167 : v167.toInt = x3.toInt + 1 := ti_add rfl ki_1 ev167 (by omega) (by omega)
        refine lv_iinc (v := v167) (lv' := [(1, .int v167), (0, .ref h0)]) hx hb dX10_goAll_22 hl (k := 0) rfl (by rw [ev167]; rfl) (by decide) rfl (fun ls hl => ?_)
        refine lv_goto (tgt := 2) hx hb dX10_goAll_25 (by decide) ?_
        exact ih9 v167 f163 f165 (by omega) (by omega) hi164 (PG_le pn166 (by omega)) (by omega) _ _ hP hD hS ls (lv_sub hl [0, 1] rfl)
  exact lp1 81 0 o_f21 o_f24 (by rw [ki_0]; decide) (by rw [ki_0]; decide) ha_o_f21 (PG_le PG_none (by rw [ki_0]; decide)) (by rw [ki_0]; decide) _ _ hP hD hS ls (lv_sub hl [0, 1] rfl)
set_option maxHeartbeats 4000000 in
set_option maxRecDepth 100000 in
theorem f_X10_asksColony (l : Launch) (G : va_G) (cI cJ cZ cB cQ : ClassId) (sz : Nat) (h0 : Nat) (b : Nat → Nat) (o_thrown : Int32) (o_taped : Int32) (o_size : Int32) (o_at : Int32) (o_from : Int32) (o_token : Int32) (o_value : Int32) (o_faultKind : Int32) (o_faultPlace : Int32) (o_lawNow : Int32) (o_walkSet : Int32) (o_oneWidow : Int32) (o_oneTurn : Int32) (o_askWorst : Int32) (o_mayWalk : Int32) (o_oftenAll : Int64) (o_oftenRoad : Int64) (o_oftenPegs : Int64) (o_f1 : Nat → Int32) (o_f15 : Nat → Int32) (o_f16 : Nat → Int32) (o_f21 : Nat → Int32) (o_f22 : Nat → Int32) (o_f23 : Nat → Int32) (o_f24 : Nat → Int32) (o_f25 : Nat → Int32) (o_f26 : Nat → Int32) (o_f27 : Nat → Int32) (o_f28 : Nat → Int32) (o_f29 : Nat → Int32) (o_f30 : Nat → Int32) (o_f31 : Nat → Int32) (o_f32 : Nat → Int32) (hl_o_taped : 0 ≤ o_taped.toInt) (hh_o_taped : o_taped.toInt ≤ 900) (hl_o_size : 0 ≤ o_size.toInt) (hh_o_size : o_size.toInt ≤ 900) (hl_o_at : 0 ≤ o_at.toInt) (hh_o_at : o_at.toInt ≤ 900) (hl_o_from : 0 ≤ o_from.toInt) (hh_o_from : o_from.toInt ≤ 900) (hl_o_oneTurn : 0 ≤ o_oneTurn.toInt) (hh_o_oneTurn : o_oneTurn.toInt ≤ 4) (ha_o_f1 : WI o_f1) (ha_o_f15 : ai o_f15 80 0 1) (ha_o_f16 : ai o_f16 7 0 3) (ha_o_f21 : ai o_f21 80 0 1) (ha_o_f22 : ai o_f22 80 0 1) (ha_o_f23 : ai o_f23 80 0 1) (ha_o_f25 : ai o_f25 6 (-1) 79) (ha_o_f26 : ai o_f26 287 0 77) (ha_o_f27 : ai o_f27 7 (-1) 40) (ha_o_f30 : ai o_f30 1040 0 1) (ha_o_f32 : ai o_f32 78 (-1) 79) : CI l yX10_asksColony (wl_ yX10_asksColony cX10_asksColony 1 (some .boolean)) ({ frames := 6, cells := 0, slots := 0, locals := 141 } : Room) G (TY cI cJ cZ cB cQ) [.ref h0] [(h0, oX10 b o_thrown o_taped o_size o_at o_from o_token o_value o_faultKind o_faultPlace o_lawNow o_walkSet o_oneWidow o_oneTurn o_askWorst o_mayWalk o_oftenAll o_oftenRoad o_oftenPegs), (b 1, .inl (cI, 149, .inl o_f1)), (b 15, .inl (cZ, 80, .inl o_f15)), (b 16, .inl (cI, 7, .inl o_f16)), (b 21, .inl (cZ, 80, .inl o_f21)), (b 22, .inl (cZ, 80, .inl o_f22)), (b 23, .inl (cZ, 80, .inl o_f23)), (b 24, .inl (cI, 80, .inl o_f24)), (b 25, .inl (cI, 6, .inl o_f25)), (b 26, .inl (cI, 287, .inl o_f26)), (b 27, .inl (cI, 7, .inl o_f27)), (b 28, .inl (cI, 7, .inl o_f28)), (b 29, .inl (cI, 6, .inl o_f29)), (b 30, .inl (cZ, 1040, .inl o_f30)), (b 31, .inl (cI, 1040, .inl o_f31)), (b 32, .inl (cI, 78, .inl o_f32))] sz (fun (r : Int32) (u : Int32 × Int32 × Int32 × (Nat → Int32) × (Nat → Int32) × (Nat → Int32) × (Nat → Int32) × (Nat → Int32) × (Nat → Int32) × (Nat → Int32) × (Nat → Int32) × (Nat → Int32) × (Nat → Int32) × (Nat → Int32) × (Nat → Int32) × (Nat → Int32) × (Nat → Int32)) => 0 ≤ r.toInt ∧ r.toInt ≤ 1 ∧ ai u.2.2.2.1 80 0 1 ∧ ai u.2.2.2.2.1 7 0 3 ∧ ai u.2.2.2.2.2.1 80 0 1 ∧ ai u.2.2.2.2.2.2.1 80 0 1 ∧ ai u.2.2.2.2.2.2.2.1 80 0 1 ∧ ai u.2.2.2.2.2.2.2.2.2.1 6 (-1) 79 ∧ ai u.2.2.2.2.2.2.2.2.2.2.1 287 0 77 ∧ ai u.2.2.2.2.2.2.2.2.2.2.2.1 7 (-1) 40 ∧ ai u.2.2.2.2.2.2.2.2.2.2.2.2.2.2.1 1040 0 1 ∧ ai u.2.2.2.2.2.2.2.2.2.2.2.2.2.2.2.2 78 (-1) 79 ∧ PG u.2.2.2.2.2.2.2.2.2.2.2.2.2.2.2.1 (80 * (o_f1 0).toInt + 80) (o_f1 3).toInt (o_f1 4).toInt) (fun u : Int32 × Int32 × Int32 × (Nat → Int32) × (Nat → Int32) × (Nat → Int32) × (Nat → Int32) × (Nat → Int32) × (Nat → Int32) × (Nat → Int32) × (Nat → Int32) × (Nat → Int32) × (Nat → Int32) × (Nat → Int32) × (Nat → Int32) × (Nat → Int32) × (Nat → Int32) => [(h0, oX10 b o_thrown o_taped o_size o_at o_from o_token o_value o_faultKind o_faultPlace u.1 u.2.1 u.2.2.1 o_oneTurn o_askWorst o_mayWalk o_oftenAll o_oftenRoad o_oftenPegs), (b 1, .inl (cI, 149, .inl o_f1)), (b 15, .inl (cZ, 80, .inl u.2.2.2.1)), (b 16, .inl (cI, 7, .inl u.2.2.2.2.1)), (b 21, .inl (cZ, 80, .inl u.2.2.2.2.2.1)), (b 22, .inl (cZ, 80, .inl u.2.2.2.2.2.2.1)), (b 23, .inl (cZ, 80, .inl u.2.2.2.2.2.2.2.1)), (b 24, .inl (cI, 80, .inl u.2.2.2.2.2.2.2.2.1)), (b 25, .inl (cI, 6, .inl u.2.2.2.2.2.2.2.2.2.1)), (b 26, .inl (cI, 287, .inl u.2.2.2.2.2.2.2.2.2.2.1)), (b 27, .inl (cI, 7, .inl u.2.2.2.2.2.2.2.2.2.2.2.1)), (b 28, .inl (cI, 7, .inl u.2.2.2.2.2.2.2.2.2.2.2.2.1)), (b 29, .inl (cI, 6, .inl u.2.2.2.2.2.2.2.2.2.2.2.2.2.1)), (b 30, .inl (cZ, 1040, .inl u.2.2.2.2.2.2.2.2.2.2.2.2.2.2.1)), (b 31, .inl (cI, 1040, .inl u.2.2.2.2.2.2.2.2.2.2.2.2.2.2.2.1)), (b 32, .inl (cI, 78, .inl u.2.2.2.2.2.2.2.2.2.2.2.2.2.2.2.2))]) 0 0 := by
  refine CI.goz (cc := cX10_asksColony) (maxL := 1) (ret := (some .boolean)) (by decide) rfl (Nat.le_of_ble_eq_true rfl) ?_
  intro p e s m below meth c A ls Q hBd hret
  obtain ⟨hx, hb, hr, hml, hts, hown, hlk, hnm, hP, hK, hD, hA, hZ, hl⟩ := hBd
  have hown : s.vm.findClass RX10 = some m.cls := hown
  have hl : lv_has ls 1 [(0, .ref h0)] := hl
  have hS : va_S A s.heap s.heap [] := va_S.rf
  refine lv_aload_n hx hb dX10_asksColony_0 rfl (lv_at hl 0 rfl) ?_
  refine k_v (wc := [(h0, oX10 b o_thrown o_taped o_size o_at o_from o_token o_value o_faultKind o_faultPlace o_lawNow o_walkSet o_oneWidow o_oneTurn o_askWorst o_mayWalk o_oftenAll o_oftenRoad o_oftenPegs), (b 1, .inl (cI, 149, .inl o_f1)), (b 15, .inl (cZ, 80, .inl o_f15)), (b 16, .inl (cI, 7, .inl o_f16))]) (wr := [(b 21, .inl (cZ, 80, .inl o_f21)), (b 22, .inl (cZ, 80, .inl o_f22)), (b 23, .inl (cZ, 80, .inl o_f23)), (b 24, .inl (cI, 80, .inl o_f24)), (b 25, .inl (cI, 6, .inl o_f25)), (b 26, .inl (cI, 287, .inl o_f26)), (b 27, .inl (cI, 7, .inl o_f27)), (b 28, .inl (cI, 7, .inl o_f28)), (b 29, .inl (cI, 6, .inl o_f29)), (b 30, .inl (cZ, 1040, .inl o_f30)), (b 31, .inl (cI, 1040, .inl o_f31)), (b 32, .inl (cI, 78, .inl o_f32))]) hP hD hS hA [0, 1, 2, 3] [4, 5, 6, 7, 8, 9, 10, 11, 12, 13, 14, 15] rfl rfl rfl (by decide) (va_runV (As := []) (rest := []) ⟨hx, hb, hml, hown, hts⟩ (f_X10_asItIs l G cI cJ cZ cB cQ _ h0 b o_thrown o_taped o_size o_at o_from o_token o_value o_faultKind o_faultPlace o_lawNow o_walkSet o_oneWidow o_oneTurn o_askWorst o_mayWalk o_oftenAll o_oftenRoad o_oftenPegs o_f1 o_f15 o_f16 hl_o_taped hh_o_taped hl_o_size hh_o_size hl_o_at hh_o_at hl_o_from hh_o_from hl_o_oneTurn hh_o_oneTurn ha_o_f1 ha_o_f15 ha_o_f16) (cwV 0 hts (gV w_1489 w_1491 wp_106 w_11 w_1492) rfl rfl rfl ⟨rfl, hd_X10_asItIs⟩ ⟨Nat.le_of_ble_eq_true rfl, Nat.le_of_ble_eq_true rfl⟩) (mV hK hZ hP hD [0, 1, 2, 3] rfl rfl [] 0 10 rfl rfl) rfl rfl hl.1 rfl (lv_room (Nat.le_of_ble_eq_true rfl)) dX10_asksColony_1 ⟨Nat.le_of_ble_eq_true rfl, Nat.le_of_ble_eq_true rfl⟩) (fun u2 H locs hw3 hP hD hS => ?_)
  obtain ⟨o_lawNowo4, o_walkSeto5, o_oneWidowo6, o_f15o7, o_f16o8⟩ := u2
  try dsimp only at hw3
  have hP : va_P G vwCl [(b 21, .inl (cZ, 80, .inl o_f21)), (b 22, .inl (cZ, 80, .inl o_f22)), (b 23, .inl (cZ, 80, .inl o_f23)), (b 24, .inl (cI, 80, .inl o_f24)), (b 25, .inl (cI, 6, .inl o_f25)), (b 26, .inl (cI, 287, .inl o_f26)), (b 27, .inl (cI, 7, .inl o_f27)), (b 28, .inl (cI, 7, .inl o_f28)), (b 29, .inl (cI, 6, .inl o_f29)), (b 30, .inl (cZ, 1040, .inl o_f30)), (b 31, .inl (cI, 1040, .inl o_f31)), (b 32, .inl (cI, 78, .inl o_f32)), (h0, oX10 b o_thrown o_taped o_size o_at o_from o_token o_value o_faultKind o_faultPlace o_lawNowo4 o_walkSeto5 o_oneWidowo6 o_oneTurn o_askWorst o_mayWalk o_oftenAll o_oftenRoad o_oftenPegs), (b 1, .inl (cI, 149, .inl o_f1)), (b 15, .inl (cZ, 80, .inl o_f15o7)), (b 16, .inl (cI, 7, .inl o_f16o8))] H := hP
  have hD : va_D A [(b 21, .inl (cZ, 80, .inl o_f21)), (b 22, .inl (cZ, 80, .inl o_f22)), (b 23, .inl (cZ, 80, .inl o_f23)), (b 24, .inl (cI, 80, .inl o_f24)), (b 25, .inl (cI, 6, .inl o_f25)), (b 26, .inl (cI, 287, .inl o_f26)), (b 27, .inl (cI, 7, .inl o_f27)), (b 28, .inl (cI, 7, .inl o_f28)), (b 29, .inl (cI, 6, .inl o_f29)), (b 30, .inl (cZ, 1040, .inl o_f30)), (b 31, .inl (cI, 1040, .inl o_f31)), (b 32, .inl (cI, 78, .inl o_f32)), (h0, oX10 b o_thrown o_taped o_size o_at o_from o_token o_value o_faultKind o_faultPlace o_lawNowo4 o_walkSeto5 o_oneWidowo6 o_oneTurn o_askWorst o_mayWalk o_oftenAll o_oftenRoad o_oftenPegs), (b 1, .inl (cI, 149, .inl o_f1)), (b 15, .inl (cZ, 80, .inl o_f15o7)), (b 16, .inl (cI, 7, .inl o_f16o8))] := hD
  obtain ⟨w9, w10⟩ : ai o_f15o7 80 0 1 ∧ ai o_f16o8 7 0 3 := hw3
  refine lv_aload_n hx hb dX10_asksColony_4 rfl (lv_at hl 0 rfl) ?_
  refine k_v (wc := [(h0, oX10 b o_thrown o_taped o_size o_at o_from o_token o_value o_faultKind o_faultPlace o_lawNowo4 o_walkSeto5 o_oneWidowo6 o_oneTurn o_askWorst o_mayWalk o_oftenAll o_oftenRoad o_oftenPegs), (b 1, .inl (cI, 149, .inl o_f1)), (b 15, .inl (cZ, 80, .inl o_f15o7)), (b 16, .inl (cI, 7, .inl o_f16o8)), (b 21, .inl (cZ, 80, .inl o_f21)), (b 22, .inl (cZ, 80, .inl o_f22)), (b 23, .inl (cZ, 80, .inl o_f23)), (b 24, .inl (cI, 80, .inl o_f24)), (b 25, .inl (cI, 6, .inl o_f25)), (b 26, .inl (cI, 287, .inl o_f26)), (b 27, .inl (cI, 7, .inl o_f27)), (b 28, .inl (cI, 7, .inl o_f28)), (b 29, .inl (cI, 6, .inl o_f29)), (b 30, .inl (cZ, 1040, .inl o_f30)), (b 31, .inl (cI, 1040, .inl o_f31)), (b 32, .inl (cI, 78, .inl o_f32))]) (wr := []) hP hD hS hA [12, 13, 14, 15, 0, 1, 2, 3, 4, 5, 6, 7, 8, 9, 10, 11] [] rfl rfl rfl (by decide) (va_runV (As := []) (rest := []) ⟨hx, hb, hml, hown, hts⟩ (f_X10_goAll l G cI cJ cZ cB cQ _ h0 b o_thrown o_taped o_size o_at o_from o_token o_value o_faultKind o_faultPlace o_lawNowo4 o_walkSeto5 o_oneWidowo6 o_oneTurn o_askWorst o_mayWalk o_oftenAll o_oftenRoad o_oftenPegs o_f1 o_f15o7 o_f16o8 o_f21 o_f22 o_f23 o_f24 o_f25 o_f26 o_f27 o_f28 o_f29 o_f30 o_f31 o_f32 hl_o_taped hh_o_taped hl_o_size hh_o_size hl_o_at hh_o_at hl_o_from hh_o_from hl_o_oneTurn hh_o_oneTurn ha_o_f1 w9 w10 ha_o_f21 ha_o_f22 ha_o_f23 ha_o_f25 ha_o_f26 ha_o_f27 ha_o_f30 ha_o_f32) (cwV 0 hts (gV w_1497 w_1499 wp_108 w_11 w_1500) rfl rfl rfl ⟨rfl, hd_X10_goAll⟩ ⟨Nat.le_of_ble_eq_true rfl, Nat.le_of_ble_eq_true rfl⟩) (mV hK hZ hP hD [12, 13, 14, 15, 0, 1, 2, 3, 4, 5, 6, 7, 8, 9, 10, 11] rfl rfl [] 12 10 rfl rfl) rfl rfl hl.1 rfl (lv_room (Nat.le_of_ble_eq_true rfl)) dX10_asksColony_5 ⟨Nat.le_of_ble_eq_true rfl, Nat.le_of_ble_eq_true rfl⟩) (fun u12 H locs hw13 hP hD hS => ?_)
  obtain ⟨o_f21o14, o_f22o15, o_f23o16, o_f24o17, o_f25o18, o_f26o19, o_f27o20, o_f28o21, o_f29o22, o_f30o23, o_f31o24, o_f32o25⟩ := u12
  try dsimp only at hw13
  have hP : va_P G vwCl [(h0, oX10 b o_thrown o_taped o_size o_at o_from o_token o_value o_faultKind o_faultPlace o_lawNowo4 o_walkSeto5 o_oneWidowo6 o_oneTurn o_askWorst o_mayWalk o_oftenAll o_oftenRoad o_oftenPegs), (b 1, .inl (cI, 149, .inl o_f1)), (b 15, .inl (cZ, 80, .inl o_f15o7)), (b 16, .inl (cI, 7, .inl o_f16o8)), (b 21, .inl (cZ, 80, .inl o_f21o14)), (b 22, .inl (cZ, 80, .inl o_f22o15)), (b 23, .inl (cZ, 80, .inl o_f23o16)), (b 24, .inl (cI, 80, .inl o_f24o17)), (b 25, .inl (cI, 6, .inl o_f25o18)), (b 26, .inl (cI, 287, .inl o_f26o19)), (b 27, .inl (cI, 7, .inl o_f27o20)), (b 28, .inl (cI, 7, .inl o_f28o21)), (b 29, .inl (cI, 6, .inl o_f29o22)), (b 30, .inl (cZ, 1040, .inl o_f30o23)), (b 31, .inl (cI, 1040, .inl o_f31o24)), (b 32, .inl (cI, 78, .inl o_f32o25))] H := hP
  have hD : va_D A [(h0, oX10 b o_thrown o_taped o_size o_at o_from o_token o_value o_faultKind o_faultPlace o_lawNowo4 o_walkSeto5 o_oneWidowo6 o_oneTurn o_askWorst o_mayWalk o_oftenAll o_oftenRoad o_oftenPegs), (b 1, .inl (cI, 149, .inl o_f1)), (b 15, .inl (cZ, 80, .inl o_f15o7)), (b 16, .inl (cI, 7, .inl o_f16o8)), (b 21, .inl (cZ, 80, .inl o_f21o14)), (b 22, .inl (cZ, 80, .inl o_f22o15)), (b 23, .inl (cZ, 80, .inl o_f23o16)), (b 24, .inl (cI, 80, .inl o_f24o17)), (b 25, .inl (cI, 6, .inl o_f25o18)), (b 26, .inl (cI, 287, .inl o_f26o19)), (b 27, .inl (cI, 7, .inl o_f27o20)), (b 28, .inl (cI, 7, .inl o_f28o21)), (b 29, .inl (cI, 6, .inl o_f29o22)), (b 30, .inl (cZ, 1040, .inl o_f30o23)), (b 31, .inl (cI, 1040, .inl o_f31o24)), (b 32, .inl (cI, 78, .inl o_f32o25))] := hD
  obtain ⟨w26, w27, w28, w29, w30, w31, w32, w33, w34⟩ : ai o_f21o14 80 0 1 ∧ ai o_f22o15 80 0 1 ∧ ai o_f23o16 80 0 1 ∧ ai o_f25o18 6 (-1) 79 ∧ ai o_f26o19 287 0 77 ∧ ai o_f27o20 7 (-1) 40 ∧ ai o_f30o23 1040 0 1 ∧ ai o_f32o25 78 (-1) 79 ∧ PG o_f31o24 (80 * (o_f1 0).toInt + 80) (o_f1 3).toInt (o_f1 4).toInt := hw13
  refine lv_aload_n hx hb dX10_asksColony_8 rfl (lv_at hl 0 rfl) ?_
  refine k_i (wc := [(h0, oX10 b o_thrown o_taped o_size o_at o_from o_token o_value o_faultKind o_faultPlace o_lawNowo4 o_walkSeto5 o_oneWidowo6 o_oneTurn o_askWorst o_mayWalk o_oftenAll o_oftenRoad o_oftenPegs), (b 1, .inl (cI, 149, .inl o_f1))]) (wr := [(b 15, .inl (cZ, 80, .inl o_f15o7)), (b 16, .inl (cI, 7, .inl o_f16o8)), (b 21, .inl (cZ, 80, .inl o_f21o14)), (b 22, .inl (cZ, 80, .inl o_f22o15)), (b 23, .inl (cZ, 80, .inl o_f23o16)), (b 24, .inl (cI, 80, .inl o_f24o17)), (b 25, .inl (cI, 6, .inl o_f25o18)), (b 26, .inl (cI, 287, .inl o_f26o19)), (b 27, .inl (cI, 7, .inl o_f27o20)), (b 28, .inl (cI, 7, .inl o_f28o21)), (b 29, .inl (cI, 6, .inl o_f29o22)), (b 30, .inl (cZ, 1040, .inl o_f30o23)), (b 31, .inl (cI, 1040, .inl o_f31o24)), (b 32, .inl (cI, 78, .inl o_f32o25))]) hP hD hS hA [0, 1] [2, 3, 4, 5, 6, 7, 8, 9, 10, 11, 12, 13, 14, 15] rfl rfl rfl (by decide) (va_runV (As := []) (rest := []) ⟨hx, hb, hml, hown, hts⟩ (f_X10_isColony l G cI cJ cZ cB cQ _ h0 b o_thrown o_taped o_size o_at o_from o_token o_value o_faultKind o_faultPlace o_lawNowo4 o_walkSeto5 o_oneWidowo6 o_oneTurn o_askWorst o_mayWalk o_oftenAll o_oftenRoad o_oftenPegs o_f1 hl_o_taped hh_o_taped hl_o_size hh_o_size hl_o_at hh_o_at hl_o_from hh_o_from hl_o_oneTurn hh_o_oneTurn ha_o_f1) (cwV 0 hts (gV w_1554 w_1556 wp_120 w_11 w_1557) rfl rfl rfl ⟨rfl, hd_X10_isColony⟩ ⟨Nat.le_of_ble_eq_true rfl, Nat.le_of_ble_eq_true rfl⟩) (mV hK hZ hP hD [0, 1] rfl rfl [] 0 10 rfl rfl) rfl rfl hl.1 rfl (lv_room (Nat.le_of_ble_eq_true rfl)) dX10_asksColony_9 ⟨Nat.le_of_ble_eq_true rfl, Nat.le_of_ble_eq_true rfl⟩) (fun r35 u36 H locs hw37 hP hD hS => ?_)
  try dsimp only at hw37
  have hP : va_P G vwCl [(b 15, .inl (cZ, 80, .inl o_f15o7)), (b 16, .inl (cI, 7, .inl o_f16o8)), (b 21, .inl (cZ, 80, .inl o_f21o14)), (b 22, .inl (cZ, 80, .inl o_f22o15)), (b 23, .inl (cZ, 80, .inl o_f23o16)), (b 24, .inl (cI, 80, .inl o_f24o17)), (b 25, .inl (cI, 6, .inl o_f25o18)), (b 26, .inl (cI, 287, .inl o_f26o19)), (b 27, .inl (cI, 7, .inl o_f27o20)), (b 28, .inl (cI, 7, .inl o_f28o21)), (b 29, .inl (cI, 6, .inl o_f29o22)), (b 30, .inl (cZ, 1040, .inl o_f30o23)), (b 31, .inl (cI, 1040, .inl o_f31o24)), (b 32, .inl (cI, 78, .inl o_f32o25)), (h0, oX10 b o_thrown o_taped o_size o_at o_from o_token o_value o_faultKind o_faultPlace o_lawNowo4 o_walkSeto5 o_oneWidowo6 o_oneTurn o_askWorst o_mayWalk o_oftenAll o_oftenRoad o_oftenPegs), (b 1, .inl (cI, 149, .inl o_f1))] H := hP
  have hD : va_D A [(b 15, .inl (cZ, 80, .inl o_f15o7)), (b 16, .inl (cI, 7, .inl o_f16o8)), (b 21, .inl (cZ, 80, .inl o_f21o14)), (b 22, .inl (cZ, 80, .inl o_f22o15)), (b 23, .inl (cZ, 80, .inl o_f23o16)), (b 24, .inl (cI, 80, .inl o_f24o17)), (b 25, .inl (cI, 6, .inl o_f25o18)), (b 26, .inl (cI, 287, .inl o_f26o19)), (b 27, .inl (cI, 7, .inl o_f27o20)), (b 28, .inl (cI, 7, .inl o_f28o21)), (b 29, .inl (cI, 6, .inl o_f29o22)), (b 30, .inl (cZ, 1040, .inl o_f30o23)), (b 31, .inl (cI, 1040, .inl o_f31o24)), (b 32, .inl (cI, 78, .inl o_f32o25)), (h0, oX10 b o_thrown o_taped o_size o_at o_from o_token o_value o_faultKind o_faultPlace o_lawNowo4 o_walkSeto5 o_oneWidowo6 o_oneTurn o_askWorst o_mayWalk o_oftenAll o_oftenRoad o_oftenPegs), (b 1, .inl (cI, 149, .inl o_f1))] := hD
  obtain ⟨w38, w39⟩ : 0 ≤ r35.toInt ∧ r35.toInt ≤ 1 := hw37
  exact hret _ _ _ _ r35 (o_lawNowo4, o_walkSeto5, o_oneWidowo6, o_f15o7, o_f16o8, o_f21o14, o_f22o15, o_f23o16, o_f24o17, o_f25o18, o_f26o19, o_f27o20, o_f28o21, o_f29o22, o_f30o23, o_f31o24, o_f32o25) (hP.sub (ws' := [(h0, oX10 b o_thrown o_taped o_size o_at o_from o_token o_value o_faultKind o_faultPlace o_lawNowo4 o_walkSeto5 o_oneWidowo6 o_oneTurn o_askWorst o_mayWalk o_oftenAll o_oftenRoad o_oftenPegs), (b 1, .inl (cI, 149, .inl o_f1)), (b 15, .inl (cZ, 80, .inl o_f15o7)), (b 16, .inl (cI, 7, .inl o_f16o8)), (b 21, .inl (cZ, 80, .inl o_f21o14)), (b 22, .inl (cZ, 80, .inl o_f22o15)), (b 23, .inl (cZ, 80, .inl o_f23o16)), (b 24, .inl (cI, 80, .inl o_f24o17)), (b 25, .inl (cI, 6, .inl o_f25o18)), (b 26, .inl (cI, 287, .inl o_f26o19)), (b 27, .inl (cI, 7, .inl o_f27o20)), (b 28, .inl (cI, 7, .inl o_f28o21)), (b 29, .inl (cI, 6, .inl o_f29o22)), (b 30, .inl (cZ, 1040, .inl o_f30o23)), (b 31, .inl (cI, 1040, .inl o_f31o24)), (b 32, .inl (cI, 78, .inl o_f32o25))]) [14, 15, 0, 1, 2, 3, 4, 5, 6, 7, 8, 9, 10, 11, 12, 13] rfl) (hD.sub (ws' := [(h0, oX10 b o_thrown o_taped o_size o_at o_from o_token o_value o_faultKind o_faultPlace o_lawNowo4 o_walkSeto5 o_oneWidowo6 o_oneTurn o_askWorst o_mayWalk o_oftenAll o_oftenRoad o_oftenPegs), (b 1, .inl (cI, 149, .inl o_f1)), (b 15, .inl (cZ, 80, .inl o_f15o7)), (b 16, .inl (cI, 7, .inl o_f16o8)), (b 21, .inl (cZ, 80, .inl o_f21o14)), (b 22, .inl (cZ, 80, .inl o_f22o15)), (b 23, .inl (cZ, 80, .inl o_f23o16)), (b 24, .inl (cI, 80, .inl o_f24o17)), (b 25, .inl (cI, 6, .inl o_f25o18)), (b 26, .inl (cI, 287, .inl o_f26o19)), (b 27, .inl (cI, 7, .inl o_f27o20)), (b 28, .inl (cI, 7, .inl o_f28o21)), (b 29, .inl (cI, 6, .inl o_f29o22)), (b 30, .inl (cZ, 1040, .inl o_f30o23)), (b 31, .inl (cI, 1040, .inl o_f31o24)), (b 32, .inl (cI, 78, .inl o_f32o25))]) [14, 15, 0, 1, 2, 3, 4, 5, 6, 7, 8, 9, 10, 11, 12, 13] rfl rfl) hS dX10_asksColony_12 (nar_z w38 w39) (show 0 ≤ r35.toInt ∧ r35.toInt ≤ 1 ∧ ai o_f15o7 80 0 1 ∧ ai o_f16o8 7 0 3 ∧ ai o_f21o14 80 0 1 ∧ ai o_f22o15 80 0 1 ∧ ai o_f23o16 80 0 1 ∧ ai o_f25o18 6 (-1) 79 ∧ ai o_f26o19 287 0 77 ∧ ai o_f27o20 7 (-1) 40 ∧ ai o_f30o23 1040 0 1 ∧ ai o_f32o25 78 (-1) 79 ∧ PG o_f31o24 (80 * (o_f1 0).toInt + 80) (o_f1 3).toInt (o_f1 4).toInt from ⟨w38, w39, w9, w10, w26, w27, w28, w29, w30, w31, w32, w33, w34⟩)
set_option maxHeartbeats 4000000 in
set_option maxRecDepth 100000 in
theorem f_X10_asksYear (l : Launch) (G : va_G) (cI cJ cZ cB cQ : ClassId) (sz : Nat) (h0 : Nat) (p0 : Int32) (a0 : Int) (b : Nat → Nat) (o_thrown : Int32) (o_taped : Int32) (o_size : Int32) (o_at : Int32) (o_from : Int32) (o_token : Int32) (o_value : Int32) (o_faultKind : Int32) (o_faultPlace : Int32) (o_lawNow : Int32) (o_walkSet : Int32) (o_oneWidow : Int32) (o_oneTurn : Int32) (o_askWorst : Int32) (o_mayWalk : Int32) (o_oftenAll : Int64) (o_oftenRoad : Int64) (o_oftenPegs : Int64) (o_f1 : Nat → Int32) (o_f15 : Nat → Int32) (o_f16 : Nat → Int32) (o_f21 : Nat → Int32) (o_f22 : Nat → Int32) (o_f23 : Nat → Int32) (o_f24 : Nat → Int32) (o_f25 : Nat → Int32) (o_f26 : Nat → Int32) (o_f27 : Nat → Int32) (o_f28 : Nat → Int32) (o_f29 : Nat → Int32) (o_f30 : Nat → Int32) (o_f31 : Nat → Int32) (o_f32 : Nat → Int32) (hp0 : p0.toInt = a0) (hl_o_taped : 0 ≤ o_taped.toInt) (hh_o_taped : o_taped.toInt ≤ 900) (hl_o_size : 0 ≤ o_size.toInt) (hh_o_size : o_size.toInt ≤ 900) (hl_o_at : 0 ≤ o_at.toInt) (hh_o_at : o_at.toInt ≤ 900) (hl_o_from : 0 ≤ o_from.toInt) (hh_o_from : o_from.toInt ≤ 900) (hl_o_oneTurn : 0 ≤ o_oneTurn.toInt) (hh_o_oneTurn : o_oneTurn.toInt ≤ 4) (ha_o_f1 : WI o_f1) (ha_o_f15 : ai o_f15 80 0 1) (ha_o_f16 : ai o_f16 7 0 3) (ha_o_f21 : ai o_f21 80 0 1) (ha_o_f22 : ai o_f22 80 0 1) (ha_o_f23 : ai o_f23 80 0 1) (ha_o_f25 : ai o_f25 6 (-1) 79) (ha_o_f26 : ai o_f26 287 0 77) (ha_o_f27 : ai o_f27 7 (-1) 40) (ha_o_f30 : ai o_f30 1040 0 1) (ha_o_f32 : ai o_f32 78 (-1) 79) : CI l yX10_asksYear (wl_ yX10_asksYear cX10_asksYear 2 (some .boolean)) ({ frames := 7, cells := 0, slots := 0, locals := 161 } : Room) G (TY cI cJ cZ cB cQ) [.ref h0, .int p0] [(h0, oX10 b o_thrown o_taped o_size o_at o_from o_token o_value o_faultKind o_faultPlace o_lawNow o_walkSet o_oneWidow o_oneTurn o_askWorst o_mayWalk o_oftenAll o_oftenRoad o_oftenPegs), (b 1, .inl (cI, 149, .inl o_f1)), (b 15, .inl (cZ, 80, .inl o_f15)), (b 16, .inl (cI, 7, .inl o_f16)), (b 21, .inl (cZ, 80, .inl o_f21)), (b 22, .inl (cZ, 80, .inl o_f22)), (b 23, .inl (cZ, 80, .inl o_f23)), (b 24, .inl (cI, 80, .inl o_f24)), (b 25, .inl (cI, 6, .inl o_f25)), (b 26, .inl (cI, 287, .inl o_f26)), (b 27, .inl (cI, 7, .inl o_f27)), (b 28, .inl (cI, 7, .inl o_f28)), (b 29, .inl (cI, 6, .inl o_f29)), (b 30, .inl (cZ, 1040, .inl o_f30)), (b 31, .inl (cI, 1040, .inl o_f31)), (b 32, .inl (cI, 78, .inl o_f32))] sz (fun (r : Int32) (u : Int32 × Int32 × Int32 × (Nat → Int32) × (Nat → Int32) × (Nat → Int32) × (Nat → Int32) × (Nat → Int32) × (Nat → Int32) × (Nat → Int32) × (Nat → Int32) × (Nat → Int32) × (Nat → Int32) × (Nat → Int32) × (Nat → Int32) × (Nat → Int32) × (Nat → Int32)) => ((r = 1 ∧ 0 ≤ a0 ∧ a0 ≤ (o_f1 0).toInt) ∨ (r = 0)) ∧ ai u.2.2.2.1 80 0 1 ∧ ai u.2.2.2.2.1 7 0 3 ∧ ai u.2.2.2.2.2.1 80 0 1 ∧ ai u.2.2.2.2.2.2.1 80 0 1 ∧ ai u.2.2.2.2.2.2.2.1 80 0 1 ∧ ai u.2.2.2.2.2.2.2.2.2.1 6 (-1) 79 ∧ ai u.2.2.2.2.2.2.2.2.2.2.1 287 0 77 ∧ ai u.2.2.2.2.2.2.2.2.2.2.2.1 7 (-1) 40 ∧ ai u.2.2.2.2.2.2.2.2.2.2.2.2.2.2.1 1040 0 1 ∧ ai u.2.2.2.2.2.2.2.2.2.2.2.2.2.2.2.2 78 (-1) 79 ∧ PG u.2.2.2.2.2.2.2.2.2.2.2.2.2.2.2.1 (80 * (o_f1 0).toInt + 80) (o_f1 3).toInt (o_f1 4).toInt) (fun u : Int32 × Int32 × Int32 × (Nat → Int32) × (Nat → Int32) × (Nat → Int32) × (Nat → Int32) × (Nat → Int32) × (Nat → Int32) × (Nat → Int32) × (Nat → Int32) × (Nat → Int32) × (Nat → Int32) × (Nat → Int32) × (Nat → Int32) × (Nat → Int32) × (Nat → Int32) => [(h0, oX10 b o_thrown o_taped o_size o_at o_from o_token o_value o_faultKind o_faultPlace u.1 u.2.1 u.2.2.1 o_oneTurn o_askWorst o_mayWalk o_oftenAll o_oftenRoad o_oftenPegs), (b 1, .inl (cI, 149, .inl o_f1)), (b 15, .inl (cZ, 80, .inl u.2.2.2.1)), (b 16, .inl (cI, 7, .inl u.2.2.2.2.1)), (b 21, .inl (cZ, 80, .inl u.2.2.2.2.2.1)), (b 22, .inl (cZ, 80, .inl u.2.2.2.2.2.2.1)), (b 23, .inl (cZ, 80, .inl u.2.2.2.2.2.2.2.1)), (b 24, .inl (cI, 80, .inl u.2.2.2.2.2.2.2.2.1)), (b 25, .inl (cI, 6, .inl u.2.2.2.2.2.2.2.2.2.1)), (b 26, .inl (cI, 287, .inl u.2.2.2.2.2.2.2.2.2.2.1)), (b 27, .inl (cI, 7, .inl u.2.2.2.2.2.2.2.2.2.2.2.1)), (b 28, .inl (cI, 7, .inl u.2.2.2.2.2.2.2.2.2.2.2.2.1)), (b 29, .inl (cI, 6, .inl u.2.2.2.2.2.2.2.2.2.2.2.2.2.1)), (b 30, .inl (cZ, 1040, .inl u.2.2.2.2.2.2.2.2.2.2.2.2.2.2.1)), (b 31, .inl (cI, 1040, .inl u.2.2.2.2.2.2.2.2.2.2.2.2.2.2.2.1)), (b 32, .inl (cI, 78, .inl u.2.2.2.2.2.2.2.2.2.2.2.2.2.2.2.2))]) 0 0 := by
  refine CI.goz (cc := cX10_asksYear) (maxL := 2) (ret := (some .boolean)) (by decide) rfl (Nat.le_of_ble_eq_true rfl) ?_
  intro p e s m below meth c A ls Q hBd hret
  obtain ⟨hx, hb, hr, hml, hts, hown, hlk, hnm, hP, hK, hD, hA, hZ, hl⟩ := hBd
  have hown : s.vm.findClass RX10 = some m.cls := hown
  have hl : lv_has ls 2 [(0, .ref h0), (1, .int p0)] := hl
  have hS : va_S A s.heap s.heap [] := va_S.rf
  refine lv_aload_n hx hb dX10_asksYear_0 rfl (lv_at hl 0 rfl) ?_
  refine k_i (wc := [(h0, oX10 b o_thrown o_taped o_size o_at o_from o_token o_value o_faultKind o_faultPlace o_lawNow o_walkSet o_oneWidow o_oneTurn o_askWorst o_mayWalk o_oftenAll o_oftenRoad o_oftenPegs), (b 1, .inl (cI, 149, .inl o_f1)), (b 15, .inl (cZ, 80, .inl o_f15)), (b 16, .inl (cI, 7, .inl o_f16)), (b 21, .inl (cZ, 80, .inl o_f21)), (b 22, .inl (cZ, 80, .inl o_f22)), (b 23, .inl (cZ, 80, .inl o_f23)), (b 24, .inl (cI, 80, .inl o_f24)), (b 25, .inl (cI, 6, .inl o_f25)), (b 26, .inl (cI, 287, .inl o_f26)), (b 27, .inl (cI, 7, .inl o_f27)), (b 28, .inl (cI, 7, .inl o_f28)), (b 29, .inl (cI, 6, .inl o_f29)), (b 30, .inl (cZ, 1040, .inl o_f30)), (b 31, .inl (cI, 1040, .inl o_f31)), (b 32, .inl (cI, 78, .inl o_f32))]) (wr := []) hP hD hS hA [0, 1, 2, 3, 4, 5, 6, 7, 8, 9, 10, 11, 12, 13, 14, 15] [] rfl rfl rfl (by decide) (va_runV (As := []) (rest := []) ⟨hx, hb, hml, hown, hts⟩ (f_X10_asksColony l G cI cJ cZ cB cQ _ h0 b o_thrown o_taped o_size o_at o_from o_token o_value o_faultKind o_faultPlace o_lawNow o_walkSet o_oneWidow o_oneTurn o_askWorst o_mayWalk o_oftenAll o_oftenRoad o_oftenPegs o_f1 o_f15 o_f16 o_f21 o_f22 o_f23 o_f24 o_f25 o_f26 o_f27 o_f28 o_f29 o_f30 o_f31 o_f32 hl_o_taped hh_o_taped hl_o_size hh_o_size hl_o_at hh_o_at hl_o_from hh_o_from hl_o_oneTurn hh_o_oneTurn ha_o_f1 ha_o_f15 ha_o_f16 ha_o_f21 ha_o_f22 ha_o_f23 ha_o_f25 ha_o_f26 ha_o_f27 ha_o_f30 ha_o_f32) (cwV 0 hts (gV w_1485 w_1487 wp_105 w_11 w_1488) rfl rfl rfl ⟨rfl, hd_X10_asksColony⟩ ⟨Nat.le_of_ble_eq_true rfl, Nat.le_of_ble_eq_true rfl⟩) (mV hK hZ hP hD [0, 1, 2, 3, 4, 5, 6, 7, 8, 9, 10, 11, 12, 13, 14, 15] rfl rfl [] 0 10 rfl rfl) rfl rfl hl.1 rfl (lv_room (Nat.le_of_ble_eq_true rfl)) dX10_asksYear_1 ⟨Nat.le_of_ble_eq_true rfl, Nat.le_of_ble_eq_true rfl⟩) (fun r1 u2 H locs hw3 hP hD hS => ?_)
  obtain ⟨o_lawNowo4, o_walkSeto5, o_oneWidowo6, o_f15o7, o_f16o8, o_f21o9, o_f22o10, o_f23o11, o_f24o12, o_f25o13, o_f26o14, o_f27o15, o_f28o16, o_f29o17, o_f30o18, o_f31o19, o_f32o20⟩ := u2
  try dsimp only at hw3
  have hP : va_P G vwCl [(h0, oX10 b o_thrown o_taped o_size o_at o_from o_token o_value o_faultKind o_faultPlace o_lawNowo4 o_walkSeto5 o_oneWidowo6 o_oneTurn o_askWorst o_mayWalk o_oftenAll o_oftenRoad o_oftenPegs), (b 1, .inl (cI, 149, .inl o_f1)), (b 15, .inl (cZ, 80, .inl o_f15o7)), (b 16, .inl (cI, 7, .inl o_f16o8)), (b 21, .inl (cZ, 80, .inl o_f21o9)), (b 22, .inl (cZ, 80, .inl o_f22o10)), (b 23, .inl (cZ, 80, .inl o_f23o11)), (b 24, .inl (cI, 80, .inl o_f24o12)), (b 25, .inl (cI, 6, .inl o_f25o13)), (b 26, .inl (cI, 287, .inl o_f26o14)), (b 27, .inl (cI, 7, .inl o_f27o15)), (b 28, .inl (cI, 7, .inl o_f28o16)), (b 29, .inl (cI, 6, .inl o_f29o17)), (b 30, .inl (cZ, 1040, .inl o_f30o18)), (b 31, .inl (cI, 1040, .inl o_f31o19)), (b 32, .inl (cI, 78, .inl o_f32o20))] H := hP
  have hD : va_D A [(h0, oX10 b o_thrown o_taped o_size o_at o_from o_token o_value o_faultKind o_faultPlace o_lawNowo4 o_walkSeto5 o_oneWidowo6 o_oneTurn o_askWorst o_mayWalk o_oftenAll o_oftenRoad o_oftenPegs), (b 1, .inl (cI, 149, .inl o_f1)), (b 15, .inl (cZ, 80, .inl o_f15o7)), (b 16, .inl (cI, 7, .inl o_f16o8)), (b 21, .inl (cZ, 80, .inl o_f21o9)), (b 22, .inl (cZ, 80, .inl o_f22o10)), (b 23, .inl (cZ, 80, .inl o_f23o11)), (b 24, .inl (cI, 80, .inl o_f24o12)), (b 25, .inl (cI, 6, .inl o_f25o13)), (b 26, .inl (cI, 287, .inl o_f26o14)), (b 27, .inl (cI, 7, .inl o_f27o15)), (b 28, .inl (cI, 7, .inl o_f28o16)), (b 29, .inl (cI, 6, .inl o_f29o17)), (b 30, .inl (cZ, 1040, .inl o_f30o18)), (b 31, .inl (cI, 1040, .inl o_f31o19)), (b 32, .inl (cI, 78, .inl o_f32o20))] := hD
  obtain ⟨w21, w22, w23, w24, w25, w26, w27, w28, w29, w30, w31, w32, w33⟩ : 0 ≤ r1.toInt ∧ r1.toInt ≤ 1 ∧ ai o_f15o7 80 0 1 ∧ ai o_f16o8 7 0 3 ∧ ai o_f21o9 80 0 1 ∧ ai o_f22o10 80 0 1 ∧ ai o_f23o11 80 0 1 ∧ ai o_f25o13 6 (-1) 79 ∧ ai o_f26o14 287 0 77 ∧ ai o_f27o15 7 (-1) 40 ∧ ai o_f30o18 1040 0 1 ∧ ai o_f32o20 78 (-1) 79 ∧ PG o_f31o19 (80 * (o_f1 0).toInt + 80) (o_f1 3).toInt (o_f1 4).toInt := hw3
  refine lv_pop hx hb dX10_asksYear_4 rfl ?_
  refine lv_aload_n hx hb dX10_asksYear_5 rfl (lv_at hl 0 rfl) ?_
  refine lv_iload_n hx hb dX10_asksYear_6 rfl (lv_at hl 1 rfl) ?_
  obtain ⟨v34, ev34⟩ : ∃ y : Int64, p0.toInt64 = y := ⟨_, rfl⟩
  have tv34 : v34.toInt = a0 := ti_wide hp0 ev34
  refine lv_i2l (v := v34) hx hb dX10_asksYear_7 ev34 ?_
  refine k_i (wc := [(h0, oX10 b o_thrown o_taped o_size o_at o_from o_token o_value o_faultKind o_faultPlace o_lawNowo4 o_walkSeto5 o_oneWidowo6 o_oneTurn o_askWorst o_mayWalk o_oftenAll o_oftenRoad o_oftenPegs), (b 1, .inl (cI, 149, .inl o_f1))]) (wr := [(b 15, .inl (cZ, 80, .inl o_f15o7)), (b 16, .inl (cI, 7, .inl o_f16o8)), (b 21, .inl (cZ, 80, .inl o_f21o9)), (b 22, .inl (cZ, 80, .inl o_f22o10)), (b 23, .inl (cZ, 80, .inl o_f23o11)), (b 24, .inl (cI, 80, .inl o_f24o12)), (b 25, .inl (cI, 6, .inl o_f25o13)), (b 26, .inl (cI, 287, .inl o_f26o14)), (b 27, .inl (cI, 7, .inl o_f27o15)), (b 28, .inl (cI, 7, .inl o_f28o16)), (b 29, .inl (cI, 6, .inl o_f29o17)), (b 30, .inl (cZ, 1040, .inl o_f30o18)), (b 31, .inl (cI, 1040, .inl o_f31o19)), (b 32, .inl (cI, 78, .inl o_f32o20))]) hP hD hS hA [0, 1] [2, 3, 4, 5, 6, 7, 8, 9, 10, 11, 12, 13, 14, 15] rfl rfl rfl (by decide) (va_runV (As := [.long v34]) (rest := []) ⟨hx, hb, hml, hown, hts⟩ (f_X10_isYear l G cI cJ cZ cB cQ _ h0 v34 a0 b o_thrown o_taped o_size o_at o_from o_token o_value o_faultKind o_faultPlace o_lawNowo4 o_walkSeto5 o_oneWidowo6 o_oneTurn o_askWorst o_mayWalk o_oftenAll o_oftenRoad o_oftenPegs o_f1 tv34 hl_o_taped hh_o_taped hl_o_size hh_o_size hl_o_at hh_o_at hl_o_from hh_o_from hl_o_oneTurn hh_o_oneTurn ha_o_f1) (cwV 1 hts (gV w_1624 w_1626 wp_129 w_11 w_1627) rfl rfl rfl ⟨rfl, hd_X10_isYear⟩ ⟨Nat.le_of_ble_eq_true rfl, Nat.le_of_ble_eq_true rfl⟩) (mV hK hZ hP hD [0, 1] rfl rfl [.long v34] 0 10 rfl rfl) rfl rfl hl.1 rfl (lv_room (Nat.le_of_ble_eq_true rfl)) dX10_asksYear_8 ⟨Nat.le_of_ble_eq_true rfl, Nat.le_of_ble_eq_true rfl⟩) (fun r35 u36 H locs hw37 hP hD hS => ?_)
  try dsimp only at hw37
  have hP : va_P G vwCl [(b 15, .inl (cZ, 80, .inl o_f15o7)), (b 16, .inl (cI, 7, .inl o_f16o8)), (b 21, .inl (cZ, 80, .inl o_f21o9)), (b 22, .inl (cZ, 80, .inl o_f22o10)), (b 23, .inl (cZ, 80, .inl o_f23o11)), (b 24, .inl (cI, 80, .inl o_f24o12)), (b 25, .inl (cI, 6, .inl o_f25o13)), (b 26, .inl (cI, 287, .inl o_f26o14)), (b 27, .inl (cI, 7, .inl o_f27o15)), (b 28, .inl (cI, 7, .inl o_f28o16)), (b 29, .inl (cI, 6, .inl o_f29o17)), (b 30, .inl (cZ, 1040, .inl o_f30o18)), (b 31, .inl (cI, 1040, .inl o_f31o19)), (b 32, .inl (cI, 78, .inl o_f32o20)), (h0, oX10 b o_thrown o_taped o_size o_at o_from o_token o_value o_faultKind o_faultPlace o_lawNowo4 o_walkSeto5 o_oneWidowo6 o_oneTurn o_askWorst o_mayWalk o_oftenAll o_oftenRoad o_oftenPegs), (b 1, .inl (cI, 149, .inl o_f1))] H := hP
  have hD : va_D A [(b 15, .inl (cZ, 80, .inl o_f15o7)), (b 16, .inl (cI, 7, .inl o_f16o8)), (b 21, .inl (cZ, 80, .inl o_f21o9)), (b 22, .inl (cZ, 80, .inl o_f22o10)), (b 23, .inl (cZ, 80, .inl o_f23o11)), (b 24, .inl (cI, 80, .inl o_f24o12)), (b 25, .inl (cI, 6, .inl o_f25o13)), (b 26, .inl (cI, 287, .inl o_f26o14)), (b 27, .inl (cI, 7, .inl o_f27o15)), (b 28, .inl (cI, 7, .inl o_f28o16)), (b 29, .inl (cI, 6, .inl o_f29o17)), (b 30, .inl (cZ, 1040, .inl o_f30o18)), (b 31, .inl (cI, 1040, .inl o_f31o19)), (b 32, .inl (cI, 78, .inl o_f32o20)), (h0, oX10 b o_thrown o_taped o_size o_at o_from o_token o_value o_faultKind o_faultPlace o_lawNowo4 o_walkSeto5 o_oneWidowo6 o_oneTurn o_askWorst o_mayWalk o_oftenAll o_oftenRoad o_oftenPegs), (b 1, .inl (cI, 149, .inl o_f1))] := hD
  rcases hw37 with ⟨rfl, a39, a40⟩ | rfl
  · skip
    exact hret _ _ _ _ 1 (o_lawNowo4, o_walkSeto5, o_oneWidowo6, o_f15o7, o_f16o8, o_f21o9, o_f22o10, o_f23o11, o_f24o12, o_f25o13, o_f26o14, o_f27o15, o_f28o16, o_f29o17, o_f30o18, o_f31o19, o_f32o20) (hP.sub (ws' := [(h0, oX10 b o_thrown o_taped o_size o_at o_from o_token o_value o_faultKind o_faultPlace o_lawNowo4 o_walkSeto5 o_oneWidowo6 o_oneTurn o_askWorst o_mayWalk o_oftenAll o_oftenRoad o_oftenPegs), (b 1, .inl (cI, 149, .inl o_f1)), (b 15, .inl (cZ, 80, .inl o_f15o7)), (b 16, .inl (cI, 7, .inl o_f16o8)), (b 21, .inl (cZ, 80, .inl o_f21o9)), (b 22, .inl (cZ, 80, .inl o_f22o10)), (b 23, .inl (cZ, 80, .inl o_f23o11)), (b 24, .inl (cI, 80, .inl o_f24o12)), (b 25, .inl (cI, 6, .inl o_f25o13)), (b 26, .inl (cI, 287, .inl o_f26o14)), (b 27, .inl (cI, 7, .inl o_f27o15)), (b 28, .inl (cI, 7, .inl o_f28o16)), (b 29, .inl (cI, 6, .inl o_f29o17)), (b 30, .inl (cZ, 1040, .inl o_f30o18)), (b 31, .inl (cI, 1040, .inl o_f31o19)), (b 32, .inl (cI, 78, .inl o_f32o20))]) [14, 15, 0, 1, 2, 3, 4, 5, 6, 7, 8, 9, 10, 11, 12, 13] rfl) (hD.sub (ws' := [(h0, oX10 b o_thrown o_taped o_size o_at o_from o_token o_value o_faultKind o_faultPlace o_lawNowo4 o_walkSeto5 o_oneWidowo6 o_oneTurn o_askWorst o_mayWalk o_oftenAll o_oftenRoad o_oftenPegs), (b 1, .inl (cI, 149, .inl o_f1)), (b 15, .inl (cZ, 80, .inl o_f15o7)), (b 16, .inl (cI, 7, .inl o_f16o8)), (b 21, .inl (cZ, 80, .inl o_f21o9)), (b 22, .inl (cZ, 80, .inl o_f22o10)), (b 23, .inl (cZ, 80, .inl o_f23o11)), (b 24, .inl (cI, 80, .inl o_f24o12)), (b 25, .inl (cI, 6, .inl o_f25o13)), (b 26, .inl (cI, 287, .inl o_f26o14)), (b 27, .inl (cI, 7, .inl o_f27o15)), (b 28, .inl (cI, 7, .inl o_f28o16)), (b 29, .inl (cI, 6, .inl o_f29o17)), (b 30, .inl (cZ, 1040, .inl o_f30o18)), (b 31, .inl (cI, 1040, .inl o_f31o19)), (b 32, .inl (cI, 78, .inl o_f32o20))]) [14, 15, 0, 1, 2, 3, 4, 5, 6, 7, 8, 9, 10, 11, 12, 13] rfl rfl) hS dX10_asksYear_11 rfl (show (((1 : Int32) = 1 ∧ 0 ≤ a0 ∧ a0 ≤ (o_f1 0).toInt) ∨ ((1 : Int32) = 0)) ∧ ai o_f15o7 80 0 1 ∧ ai o_f16o8 7 0 3 ∧ ai o_f21o9 80 0 1 ∧ ai o_f22o10 80 0 1 ∧ ai o_f23o11 80 0 1 ∧ ai o_f25o13 6 (-1) 79 ∧ ai o_f26o14 287 0 77 ∧ ai o_f27o15 7 (-1) 40 ∧ ai o_f30o18 1040 0 1 ∧ ai o_f32o20 78 (-1) 79 ∧ PG o_f31o19 (80 * (o_f1 0).toInt + 80) (o_f1 3).toInt (o_f1 4).toInt from ⟨(Or.inl ⟨rfl, by omega, by omega⟩), w23, w24, w25, w26, w27, w28, w29, w30, w31, w32, w33⟩)
  · skip
    exact hret _ _ _ _ 0 (o_lawNowo4, o_walkSeto5, o_oneWidowo6, o_f15o7, o_f16o8, o_f21o9, o_f22o10, o_f23o11, o_f24o12, o_f25o13, o_f26o14, o_f27o15, o_f28o16, o_f29o17, o_f30o18, o_f31o19, o_f32o20) (hP.sub (ws' := [(h0, oX10 b o_thrown o_taped o_size o_at o_from o_token o_value o_faultKind o_faultPlace o_lawNowo4 o_walkSeto5 o_oneWidowo6 o_oneTurn o_askWorst o_mayWalk o_oftenAll o_oftenRoad o_oftenPegs), (b 1, .inl (cI, 149, .inl o_f1)), (b 15, .inl (cZ, 80, .inl o_f15o7)), (b 16, .inl (cI, 7, .inl o_f16o8)), (b 21, .inl (cZ, 80, .inl o_f21o9)), (b 22, .inl (cZ, 80, .inl o_f22o10)), (b 23, .inl (cZ, 80, .inl o_f23o11)), (b 24, .inl (cI, 80, .inl o_f24o12)), (b 25, .inl (cI, 6, .inl o_f25o13)), (b 26, .inl (cI, 287, .inl o_f26o14)), (b 27, .inl (cI, 7, .inl o_f27o15)), (b 28, .inl (cI, 7, .inl o_f28o16)), (b 29, .inl (cI, 6, .inl o_f29o17)), (b 30, .inl (cZ, 1040, .inl o_f30o18)), (b 31, .inl (cI, 1040, .inl o_f31o19)), (b 32, .inl (cI, 78, .inl o_f32o20))]) [14, 15, 0, 1, 2, 3, 4, 5, 6, 7, 8, 9, 10, 11, 12, 13] rfl) (hD.sub (ws' := [(h0, oX10 b o_thrown o_taped o_size o_at o_from o_token o_value o_faultKind o_faultPlace o_lawNowo4 o_walkSeto5 o_oneWidowo6 o_oneTurn o_askWorst o_mayWalk o_oftenAll o_oftenRoad o_oftenPegs), (b 1, .inl (cI, 149, .inl o_f1)), (b 15, .inl (cZ, 80, .inl o_f15o7)), (b 16, .inl (cI, 7, .inl o_f16o8)), (b 21, .inl (cZ, 80, .inl o_f21o9)), (b 22, .inl (cZ, 80, .inl o_f22o10)), (b 23, .inl (cZ, 80, .inl o_f23o11)), (b 24, .inl (cI, 80, .inl o_f24o12)), (b 25, .inl (cI, 6, .inl o_f25o13)), (b 26, .inl (cI, 287, .inl o_f26o14)), (b 27, .inl (cI, 7, .inl o_f27o15)), (b 28, .inl (cI, 7, .inl o_f28o16)), (b 29, .inl (cI, 6, .inl o_f29o17)), (b 30, .inl (cZ, 1040, .inl o_f30o18)), (b 31, .inl (cI, 1040, .inl o_f31o19)), (b 32, .inl (cI, 78, .inl o_f32o20))]) [14, 15, 0, 1, 2, 3, 4, 5, 6, 7, 8, 9, 10, 11, 12, 13] rfl rfl) hS dX10_asksYear_11 rfl (show (((0 : Int32) = 1 ∧ 0 ≤ a0 ∧ a0 ≤ (o_f1 0).toInt) ∨ ((0 : Int32) = 0)) ∧ ai o_f15o7 80 0 1 ∧ ai o_f16o8 7 0 3 ∧ ai o_f21o9 80 0 1 ∧ ai o_f22o10 80 0 1 ∧ ai o_f23o11 80 0 1 ∧ ai o_f25o13 6 (-1) 79 ∧ ai o_f26o14 287 0 77 ∧ ai o_f27o15 7 (-1) 40 ∧ ai o_f30o18 1040 0 1 ∧ ai o_f32o20 78 (-1) 79 ∧ PG o_f31o19 (80 * (o_f1 0).toInt + 80) (o_f1 3).toInt (o_f1 4).toInt from ⟨(Or.inr rfl), w23, w24, w25, w26, w27, w28, w29, w30, w31, w32, w33⟩)
set_option maxHeartbeats 4000000 in
set_option maxRecDepth 100000 in
theorem f_X10_asksWidow (l : Launch) (G : va_G) (cI cJ cZ cB cQ : ClassId) (sz : Nat) (h0 : Nat) (p0 : Int32) (a0 : Int) (b : Nat → Nat) (o_thrown : Int32) (o_taped : Int32) (o_size : Int32) (o_at : Int32) (o_from : Int32) (o_token : Int32) (o_value : Int32) (o_faultKind : Int32) (o_faultPlace : Int32) (o_lawNow : Int32) (o_walkSet : Int32) (o_oneWidow : Int32) (o_oneTurn : Int32) (o_askWorst : Int32) (o_mayWalk : Int32) (o_oftenAll : Int64) (o_oftenRoad : Int64) (o_oftenPegs : Int64) (o_f1 : Nat → Int32) (o_f15 : Nat → Int32) (o_f16 : Nat → Int32) (o_f21 : Nat → Int32) (o_f22 : Nat → Int32) (o_f23 : Nat → Int32) (o_f24 : Nat → Int32) (o_f25 : Nat → Int32) (o_f26 : Nat → Int32) (o_f27 : Nat → Int32) (o_f28 : Nat → Int32) (o_f29 : Nat → Int32) (o_f30 : Nat → Int32) (o_f31 : Nat → Int32) (o_f32 : Nat → Int32) (hp0 : p0.toInt = a0) (hl_o_taped : 0 ≤ o_taped.toInt) (hh_o_taped : o_taped.toInt ≤ 900) (hl_o_size : 0 ≤ o_size.toInt) (hh_o_size : o_size.toInt ≤ 900) (hl_o_at : 0 ≤ o_at.toInt) (hh_o_at : o_at.toInt ≤ 900) (hl_o_from : 0 ≤ o_from.toInt) (hh_o_from : o_from.toInt ≤ 900) (hl_o_oneTurn : 0 ≤ o_oneTurn.toInt) (hh_o_oneTurn : o_oneTurn.toInt ≤ 4) (ha_o_f1 : WI o_f1) (ha_o_f15 : ai o_f15 80 0 1) (ha_o_f16 : ai o_f16 7 0 3) (ha_o_f21 : ai o_f21 80 0 1) (ha_o_f22 : ai o_f22 80 0 1) (ha_o_f23 : ai o_f23 80 0 1) (ha_o_f25 : ai o_f25 6 (-1) 79) (ha_o_f26 : ai o_f26 287 0 77) (ha_o_f27 : ai o_f27 7 (-1) 40) (ha_o_f30 : ai o_f30 1040 0 1) (ha_o_f32 : ai o_f32 78 (-1) 79) : CI l yX10_asksWidow (wl_ yX10_asksWidow cX10_asksWidow 2 (some .boolean)) ({ frames := 7, cells := 0, slots := 0, locals := 161 } : Room) G (TY cI cJ cZ cB cQ) [.ref h0, .int p0] [(h0, oX10 b o_thrown o_taped o_size o_at o_from o_token o_value o_faultKind o_faultPlace o_lawNow o_walkSet o_oneWidow o_oneTurn o_askWorst o_mayWalk o_oftenAll o_oftenRoad o_oftenPegs), (b 1, .inl (cI, 149, .inl o_f1)), (b 15, .inl (cZ, 80, .inl o_f15)), (b 16, .inl (cI, 7, .inl o_f16)), (b 21, .inl (cZ, 80, .inl o_f21)), (b 22, .inl (cZ, 80, .inl o_f22)), (b 23, .inl (cZ, 80, .inl o_f23)), (b 24, .inl (cI, 80, .inl o_f24)), (b 25, .inl (cI, 6, .inl o_f25)), (b 26, .inl (cI, 287, .inl o_f26)), (b 27, .inl (cI, 7, .inl o_f27)), (b 28, .inl (cI, 7, .inl o_f28)), (b 29, .inl (cI, 6, .inl o_f29)), (b 30, .inl (cZ, 1040, .inl o_f30)), (b 31, .inl (cI, 1040, .inl o_f31)), (b 32, .inl (cI, 78, .inl o_f32))] sz (fun (r : Int32) (u : Int32 × Int32 × Int32 × (Nat → Int32) × (Nat → Int32) × (Nat → Int32) × (Nat → Int32) × (Nat → Int32) × (Nat → Int32) × (Nat → Int32) × (Nat → Int32) × (Nat → Int32) × (Nat → Int32) × (Nat → Int32) × (Nat → Int32) × (Nat → Int32) × (Nat → Int32)) => ((r = 1 ∧ 0 ≤ a0 ∧ a0 < (o_f1 7).toInt) ∨ (r = 0)) ∧ ai u.2.2.2.1 80 0 1 ∧ ai u.2.2.2.2.1 7 0 3 ∧ ai u.2.2.2.2.2.1 80 0 1 ∧ ai u.2.2.2.2.2.2.1 80 0 1 ∧ ai u.2.2.2.2.2.2.2.1 80 0 1 ∧ ai u.2.2.2.2.2.2.2.2.2.1 6 (-1) 79 ∧ ai u.2.2.2.2.2.2.2.2.2.2.1 287 0 77 ∧ ai u.2.2.2.2.2.2.2.2.2.2.2.1 7 (-1) 40 ∧ ai u.2.2.2.2.2.2.2.2.2.2.2.2.2.2.1 1040 0 1 ∧ ai u.2.2.2.2.2.2.2.2.2.2.2.2.2.2.2.2 78 (-1) 79 ∧ PG u.2.2.2.2.2.2.2.2.2.2.2.2.2.2.2.1 (80 * (o_f1 0).toInt + 80) (o_f1 3).toInt (o_f1 4).toInt) (fun u : Int32 × Int32 × Int32 × (Nat → Int32) × (Nat → Int32) × (Nat → Int32) × (Nat → Int32) × (Nat → Int32) × (Nat → Int32) × (Nat → Int32) × (Nat → Int32) × (Nat → Int32) × (Nat → Int32) × (Nat → Int32) × (Nat → Int32) × (Nat → Int32) × (Nat → Int32) => [(h0, oX10 b o_thrown o_taped o_size o_at o_from o_token o_value o_faultKind o_faultPlace u.1 u.2.1 u.2.2.1 o_oneTurn o_askWorst o_mayWalk o_oftenAll o_oftenRoad o_oftenPegs), (b 1, .inl (cI, 149, .inl o_f1)), (b 15, .inl (cZ, 80, .inl u.2.2.2.1)), (b 16, .inl (cI, 7, .inl u.2.2.2.2.1)), (b 21, .inl (cZ, 80, .inl u.2.2.2.2.2.1)), (b 22, .inl (cZ, 80, .inl u.2.2.2.2.2.2.1)), (b 23, .inl (cZ, 80, .inl u.2.2.2.2.2.2.2.1)), (b 24, .inl (cI, 80, .inl u.2.2.2.2.2.2.2.2.1)), (b 25, .inl (cI, 6, .inl u.2.2.2.2.2.2.2.2.2.1)), (b 26, .inl (cI, 287, .inl u.2.2.2.2.2.2.2.2.2.2.1)), (b 27, .inl (cI, 7, .inl u.2.2.2.2.2.2.2.2.2.2.2.1)), (b 28, .inl (cI, 7, .inl u.2.2.2.2.2.2.2.2.2.2.2.2.1)), (b 29, .inl (cI, 6, .inl u.2.2.2.2.2.2.2.2.2.2.2.2.2.1)), (b 30, .inl (cZ, 1040, .inl u.2.2.2.2.2.2.2.2.2.2.2.2.2.2.1)), (b 31, .inl (cI, 1040, .inl u.2.2.2.2.2.2.2.2.2.2.2.2.2.2.2.1)), (b 32, .inl (cI, 78, .inl u.2.2.2.2.2.2.2.2.2.2.2.2.2.2.2.2))]) 0 0 := by
  refine CI.goz (cc := cX10_asksWidow) (maxL := 2) (ret := (some .boolean)) (by decide) rfl (Nat.le_of_ble_eq_true rfl) ?_
  intro p e s m below meth c A ls Q hBd hret
  obtain ⟨hx, hb, hr, hml, hts, hown, hlk, hnm, hP, hK, hD, hA, hZ, hl⟩ := hBd
  have hown : s.vm.findClass RX10 = some m.cls := hown
  have hl : lv_has ls 2 [(0, .ref h0), (1, .int p0)] := hl
  have hS : va_S A s.heap s.heap [] := va_S.rf
  refine lv_aload_n hx hb dX10_asksWidow_0 rfl (lv_at hl 0 rfl) ?_
  refine k_i (wc := [(h0, oX10 b o_thrown o_taped o_size o_at o_from o_token o_value o_faultKind o_faultPlace o_lawNow o_walkSet o_oneWidow o_oneTurn o_askWorst o_mayWalk o_oftenAll o_oftenRoad o_oftenPegs), (b 1, .inl (cI, 149, .inl o_f1)), (b 15, .inl (cZ, 80, .inl o_f15)), (b 16, .inl (cI, 7, .inl o_f16)), (b 21, .inl (cZ, 80, .inl o_f21)), (b 22, .inl (cZ, 80, .inl o_f22)), (b 23, .inl (cZ, 80, .inl o_f23)), (b 24, .inl (cI, 80, .inl o_f24)), (b 25, .inl (cI, 6, .inl o_f25)), (b 26, .inl (cI, 287, .inl o_f26)), (b 27, .inl (cI, 7, .inl o_f27)), (b 28, .inl (cI, 7, .inl o_f28)), (b 29, .inl (cI, 6, .inl o_f29)), (b 30, .inl (cZ, 1040, .inl o_f30)), (b 31, .inl (cI, 1040, .inl o_f31)), (b 32, .inl (cI, 78, .inl o_f32))]) (wr := []) hP hD hS hA [0, 1, 2, 3, 4, 5, 6, 7, 8, 9, 10, 11, 12, 13, 14, 15] [] rfl rfl rfl (by decide) (va_runV (As := []) (rest := []) ⟨hx, hb, hml, hown, hts⟩ (f_X10_asksColony l G cI cJ cZ cB cQ _ h0 b o_thrown o_taped o_size o_at o_from o_token o_value o_faultKind o_faultPlace o_lawNow o_walkSet o_oneWidow o_oneTurn o_askWorst o_mayWalk o_oftenAll o_oftenRoad o_oftenPegs o_f1 o_f15 o_f16 o_f21 o_f22 o_f23 o_f24 o_f25 o_f26 o_f27 o_f28 o_f29 o_f30 o_f31 o_f32 hl_o_taped hh_o_taped hl_o_size hh_o_size hl_o_at hh_o_at hl_o_from hh_o_from hl_o_oneTurn hh_o_oneTurn ha_o_f1 ha_o_f15 ha_o_f16 ha_o_f21 ha_o_f22 ha_o_f23 ha_o_f25 ha_o_f26 ha_o_f27 ha_o_f30 ha_o_f32) (cwV 0 hts (gV w_1485 w_1487 wp_105 w_11 w_1488) rfl rfl rfl ⟨rfl, hd_X10_asksColony⟩ ⟨Nat.le_of_ble_eq_true rfl, Nat.le_of_ble_eq_true rfl⟩) (mV hK hZ hP hD [0, 1, 2, 3, 4, 5, 6, 7, 8, 9, 10, 11, 12, 13, 14, 15] rfl rfl [] 0 10 rfl rfl) rfl rfl hl.1 rfl (lv_room (Nat.le_of_ble_eq_true rfl)) dX10_asksWidow_1 ⟨Nat.le_of_ble_eq_true rfl, Nat.le_of_ble_eq_true rfl⟩) (fun r1 u2 H locs hw3 hP hD hS => ?_)
  obtain ⟨o_lawNowo4, o_walkSeto5, o_oneWidowo6, o_f15o7, o_f16o8, o_f21o9, o_f22o10, o_f23o11, o_f24o12, o_f25o13, o_f26o14, o_f27o15, o_f28o16, o_f29o17, o_f30o18, o_f31o19, o_f32o20⟩ := u2
  try dsimp only at hw3
  have hP : va_P G vwCl [(h0, oX10 b o_thrown o_taped o_size o_at o_from o_token o_value o_faultKind o_faultPlace o_lawNowo4 o_walkSeto5 o_oneWidowo6 o_oneTurn o_askWorst o_mayWalk o_oftenAll o_oftenRoad o_oftenPegs), (b 1, .inl (cI, 149, .inl o_f1)), (b 15, .inl (cZ, 80, .inl o_f15o7)), (b 16, .inl (cI, 7, .inl o_f16o8)), (b 21, .inl (cZ, 80, .inl o_f21o9)), (b 22, .inl (cZ, 80, .inl o_f22o10)), (b 23, .inl (cZ, 80, .inl o_f23o11)), (b 24, .inl (cI, 80, .inl o_f24o12)), (b 25, .inl (cI, 6, .inl o_f25o13)), (b 26, .inl (cI, 287, .inl o_f26o14)), (b 27, .inl (cI, 7, .inl o_f27o15)), (b 28, .inl (cI, 7, .inl o_f28o16)), (b 29, .inl (cI, 6, .inl o_f29o17)), (b 30, .inl (cZ, 1040, .inl o_f30o18)), (b 31, .inl (cI, 1040, .inl o_f31o19)), (b 32, .inl (cI, 78, .inl o_f32o20))] H := hP
  have hD : va_D A [(h0, oX10 b o_thrown o_taped o_size o_at o_from o_token o_value o_faultKind o_faultPlace o_lawNowo4 o_walkSeto5 o_oneWidowo6 o_oneTurn o_askWorst o_mayWalk o_oftenAll o_oftenRoad o_oftenPegs), (b 1, .inl (cI, 149, .inl o_f1)), (b 15, .inl (cZ, 80, .inl o_f15o7)), (b 16, .inl (cI, 7, .inl o_f16o8)), (b 21, .inl (cZ, 80, .inl o_f21o9)), (b 22, .inl (cZ, 80, .inl o_f22o10)), (b 23, .inl (cZ, 80, .inl o_f23o11)), (b 24, .inl (cI, 80, .inl o_f24o12)), (b 25, .inl (cI, 6, .inl o_f25o13)), (b 26, .inl (cI, 287, .inl o_f26o14)), (b 27, .inl (cI, 7, .inl o_f27o15)), (b 28, .inl (cI, 7, .inl o_f28o16)), (b 29, .inl (cI, 6, .inl o_f29o17)), (b 30, .inl (cZ, 1040, .inl o_f30o18)), (b 31, .inl (cI, 1040, .inl o_f31o19)), (b 32, .inl (cI, 78, .inl o_f32o20))] := hD
  obtain ⟨w21, w22, w23, w24, w25, w26, w27, w28, w29, w30, w31, w32, w33⟩ : 0 ≤ r1.toInt ∧ r1.toInt ≤ 1 ∧ ai o_f15o7 80 0 1 ∧ ai o_f16o8 7 0 3 ∧ ai o_f21o9 80 0 1 ∧ ai o_f22o10 80 0 1 ∧ ai o_f23o11 80 0 1 ∧ ai o_f25o13 6 (-1) 79 ∧ ai o_f26o14 287 0 77 ∧ ai o_f27o15 7 (-1) 40 ∧ ai o_f30o18 1040 0 1 ∧ ai o_f32o20 78 (-1) 79 ∧ PG o_f31o19 (80 * (o_f1 0).toInt + 80) (o_f1 3).toInt (o_f1 4).toInt := hw3
  refine lv_pop hx hb dX10_asksWidow_4 rfl ?_
  refine lv_aload_n hx hb dX10_asksWidow_5 rfl (lv_at hl 0 rfl) ?_
  refine lv_iload_n hx hb dX10_asksWidow_6 rfl (lv_at hl 1 rfl) ?_
  obtain ⟨v34, ev34⟩ : ∃ y : Int64, p0.toInt64 = y := ⟨_, rfl⟩
  have tv34 : v34.toInt = a0 := ti_wide hp0 ev34
  refine lv_i2l (v := v34) hx hb dX10_asksWidow_7 ev34 ?_
  refine k_i (wc := [(h0, oX10 b o_thrown o_taped o_size o_at o_from o_token o_value o_faultKind o_faultPlace o_lawNowo4 o_walkSeto5 o_oneWidowo6 o_oneTurn o_askWorst o_mayWalk o_oftenAll o_oftenRoad o_oftenPegs), (b 1, .inl (cI, 149, .inl o_f1))]) (wr := [(b 15, .inl (cZ, 80, .inl o_f15o7)), (b 16, .inl (cI, 7, .inl o_f16o8)), (b 21, .inl (cZ, 80, .inl o_f21o9)), (b 22, .inl (cZ, 80, .inl o_f22o10)), (b 23, .inl (cZ, 80, .inl o_f23o11)), (b 24, .inl (cI, 80, .inl o_f24o12)), (b 25, .inl (cI, 6, .inl o_f25o13)), (b 26, .inl (cI, 287, .inl o_f26o14)), (b 27, .inl (cI, 7, .inl o_f27o15)), (b 28, .inl (cI, 7, .inl o_f28o16)), (b 29, .inl (cI, 6, .inl o_f29o17)), (b 30, .inl (cZ, 1040, .inl o_f30o18)), (b 31, .inl (cI, 1040, .inl o_f31o19)), (b 32, .inl (cI, 78, .inl o_f32o20))]) hP hD hS hA [0, 1] [2, 3, 4, 5, 6, 7, 8, 9, 10, 11, 12, 13, 14, 15] rfl rfl rfl (by decide) (va_runV (As := [.long v34]) (rest := []) ⟨hx, hb, hml, hown, hts⟩ (f_X10_isWidow l G cI cJ cZ cB cQ _ h0 v34 a0 b o_thrown o_taped o_size o_at o_from o_token o_value o_faultKind o_faultPlace o_lawNowo4 o_walkSeto5 o_oneWidowo6 o_oneTurn o_askWorst o_mayWalk o_oftenAll o_oftenRoad o_oftenPegs o_f1 tv34 hl_o_taped hh_o_taped hl_o_size hh_o_size hl_o_at hh_o_at hl_o_from hh_o_from hl_o_oneTurn hh_o_oneTurn ha_o_f1) (cwV 1 hts (gV w_1460 w_1462 wp_101 w_11 w_1463) rfl rfl rfl ⟨rfl, hd_X10_isWidow⟩ ⟨Nat.le_of_ble_eq_true rfl, Nat.le_of_ble_eq_true rfl⟩) (mV hK hZ hP hD [0, 1] rfl rfl [.long v34] 0 10 rfl rfl) rfl rfl hl.1 rfl (lv_room (Nat.le_of_ble_eq_true rfl)) dX10_asksWidow_8 ⟨Nat.le_of_ble_eq_true rfl, Nat.le_of_ble_eq_true rfl⟩) (fun r35 u36 H locs hw37 hP hD hS => ?_)
  try dsimp only at hw37
  have hP : va_P G vwCl [(b 15, .inl (cZ, 80, .inl o_f15o7)), (b 16, .inl (cI, 7, .inl o_f16o8)), (b 21, .inl (cZ, 80, .inl o_f21o9)), (b 22, .inl (cZ, 80, .inl o_f22o10)), (b 23, .inl (cZ, 80, .inl o_f23o11)), (b 24, .inl (cI, 80, .inl o_f24o12)), (b 25, .inl (cI, 6, .inl o_f25o13)), (b 26, .inl (cI, 287, .inl o_f26o14)), (b 27, .inl (cI, 7, .inl o_f27o15)), (b 28, .inl (cI, 7, .inl o_f28o16)), (b 29, .inl (cI, 6, .inl o_f29o17)), (b 30, .inl (cZ, 1040, .inl o_f30o18)), (b 31, .inl (cI, 1040, .inl o_f31o19)), (b 32, .inl (cI, 78, .inl o_f32o20)), (h0, oX10 b o_thrown o_taped o_size o_at o_from o_token o_value o_faultKind o_faultPlace o_lawNowo4 o_walkSeto5 o_oneWidowo6 o_oneTurn o_askWorst o_mayWalk o_oftenAll o_oftenRoad o_oftenPegs), (b 1, .inl (cI, 149, .inl o_f1))] H := hP
  have hD : va_D A [(b 15, .inl (cZ, 80, .inl o_f15o7)), (b 16, .inl (cI, 7, .inl o_f16o8)), (b 21, .inl (cZ, 80, .inl o_f21o9)), (b 22, .inl (cZ, 80, .inl o_f22o10)), (b 23, .inl (cZ, 80, .inl o_f23o11)), (b 24, .inl (cI, 80, .inl o_f24o12)), (b 25, .inl (cI, 6, .inl o_f25o13)), (b 26, .inl (cI, 287, .inl o_f26o14)), (b 27, .inl (cI, 7, .inl o_f27o15)), (b 28, .inl (cI, 7, .inl o_f28o16)), (b 29, .inl (cI, 6, .inl o_f29o17)), (b 30, .inl (cZ, 1040, .inl o_f30o18)), (b 31, .inl (cI, 1040, .inl o_f31o19)), (b 32, .inl (cI, 78, .inl o_f32o20)), (h0, oX10 b o_thrown o_taped o_size o_at o_from o_token o_value o_faultKind o_faultPlace o_lawNowo4 o_walkSeto5 o_oneWidowo6 o_oneTurn o_askWorst o_mayWalk o_oftenAll o_oftenRoad o_oftenPegs), (b 1, .inl (cI, 149, .inl o_f1))] := hD
  rcases hw37 with ⟨rfl, a39, a40⟩ | ⟨rfl, a41⟩
  · skip
    exact hret _ _ _ _ 1 (o_lawNowo4, o_walkSeto5, o_oneWidowo6, o_f15o7, o_f16o8, o_f21o9, o_f22o10, o_f23o11, o_f24o12, o_f25o13, o_f26o14, o_f27o15, o_f28o16, o_f29o17, o_f30o18, o_f31o19, o_f32o20) (hP.sub (ws' := [(h0, oX10 b o_thrown o_taped o_size o_at o_from o_token o_value o_faultKind o_faultPlace o_lawNowo4 o_walkSeto5 o_oneWidowo6 o_oneTurn o_askWorst o_mayWalk o_oftenAll o_oftenRoad o_oftenPegs), (b 1, .inl (cI, 149, .inl o_f1)), (b 15, .inl (cZ, 80, .inl o_f15o7)), (b 16, .inl (cI, 7, .inl o_f16o8)), (b 21, .inl (cZ, 80, .inl o_f21o9)), (b 22, .inl (cZ, 80, .inl o_f22o10)), (b 23, .inl (cZ, 80, .inl o_f23o11)), (b 24, .inl (cI, 80, .inl o_f24o12)), (b 25, .inl (cI, 6, .inl o_f25o13)), (b 26, .inl (cI, 287, .inl o_f26o14)), (b 27, .inl (cI, 7, .inl o_f27o15)), (b 28, .inl (cI, 7, .inl o_f28o16)), (b 29, .inl (cI, 6, .inl o_f29o17)), (b 30, .inl (cZ, 1040, .inl o_f30o18)), (b 31, .inl (cI, 1040, .inl o_f31o19)), (b 32, .inl (cI, 78, .inl o_f32o20))]) [14, 15, 0, 1, 2, 3, 4, 5, 6, 7, 8, 9, 10, 11, 12, 13] rfl) (hD.sub (ws' := [(h0, oX10 b o_thrown o_taped o_size o_at o_from o_token o_value o_faultKind o_faultPlace o_lawNowo4 o_walkSeto5 o_oneWidowo6 o_oneTurn o_askWorst o_mayWalk o_oftenAll o_oftenRoad o_oftenPegs), (b 1, .inl (cI, 149, .inl o_f1)), (b 15, .inl (cZ, 80, .inl o_f15o7)), (b 16, .inl (cI, 7, .inl o_f16o8)), (b 21, .inl (cZ, 80, .inl o_f21o9)), (b 22, .inl (cZ, 80, .inl o_f22o10)), (b 23, .inl (cZ, 80, .inl o_f23o11)), (b 24, .inl (cI, 80, .inl o_f24o12)), (b 25, .inl (cI, 6, .inl o_f25o13)), (b 26, .inl (cI, 287, .inl o_f26o14)), (b 27, .inl (cI, 7, .inl o_f27o15)), (b 28, .inl (cI, 7, .inl o_f28o16)), (b 29, .inl (cI, 6, .inl o_f29o17)), (b 30, .inl (cZ, 1040, .inl o_f30o18)), (b 31, .inl (cI, 1040, .inl o_f31o19)), (b 32, .inl (cI, 78, .inl o_f32o20))]) [14, 15, 0, 1, 2, 3, 4, 5, 6, 7, 8, 9, 10, 11, 12, 13] rfl rfl) hS dX10_asksWidow_11 rfl (show (((1 : Int32) = 1 ∧ 0 ≤ a0 ∧ a0 < (o_f1 7).toInt) ∨ ((1 : Int32) = 0)) ∧ ai o_f15o7 80 0 1 ∧ ai o_f16o8 7 0 3 ∧ ai o_f21o9 80 0 1 ∧ ai o_f22o10 80 0 1 ∧ ai o_f23o11 80 0 1 ∧ ai o_f25o13 6 (-1) 79 ∧ ai o_f26o14 287 0 77 ∧ ai o_f27o15 7 (-1) 40 ∧ ai o_f30o18 1040 0 1 ∧ ai o_f32o20 78 (-1) 79 ∧ PG o_f31o19 (80 * (o_f1 0).toInt + 80) (o_f1 3).toInt (o_f1 4).toInt from ⟨(Or.inl ⟨rfl, by omega, by omega⟩), w23, w24, w25, w26, w27, w28, w29, w30, w31, w32, w33⟩)
  · skip
    exact hret _ _ _ _ 0 (o_lawNowo4, o_walkSeto5, o_oneWidowo6, o_f15o7, o_f16o8, o_f21o9, o_f22o10, o_f23o11, o_f24o12, o_f25o13, o_f26o14, o_f27o15, o_f28o16, o_f29o17, o_f30o18, o_f31o19, o_f32o20) (hP.sub (ws' := [(h0, oX10 b o_thrown o_taped o_size o_at o_from o_token o_value o_faultKind o_faultPlace o_lawNowo4 o_walkSeto5 o_oneWidowo6 o_oneTurn o_askWorst o_mayWalk o_oftenAll o_oftenRoad o_oftenPegs), (b 1, .inl (cI, 149, .inl o_f1)), (b 15, .inl (cZ, 80, .inl o_f15o7)), (b 16, .inl (cI, 7, .inl o_f16o8)), (b 21, .inl (cZ, 80, .inl o_f21o9)), (b 22, .inl (cZ, 80, .inl o_f22o10)), (b 23, .inl (cZ, 80, .inl o_f23o11)), (b 24, .inl (cI, 80, .inl o_f24o12)), (b 25, .inl (cI, 6, .inl o_f25o13)), (b 26, .inl (cI, 287, .inl o_f26o14)), (b 27, .inl (cI, 7, .inl o_f27o15)), (b 28, .inl (cI, 7, .inl o_f28o16)), (b 29, .inl (cI, 6, .inl o_f29o17)), (b 30, .inl (cZ, 1040, .inl o_f30o18)), (b 31, .inl (cI, 1040, .inl o_f31o19)), (b 32, .inl (cI, 78, .inl o_f32o20))]) [14, 15, 0, 1, 2, 3, 4, 5, 6, 7, 8, 9, 10, 11, 12, 13] rfl) (hD.sub (ws' := [(h0, oX10 b o_thrown o_taped o_size o_at o_from o_token o_value o_faultKind o_faultPlace o_lawNowo4 o_walkSeto5 o_oneWidowo6 o_oneTurn o_askWorst o_mayWalk o_oftenAll o_oftenRoad o_oftenPegs), (b 1, .inl (cI, 149, .inl o_f1)), (b 15, .inl (cZ, 80, .inl o_f15o7)), (b 16, .inl (cI, 7, .inl o_f16o8)), (b 21, .inl (cZ, 80, .inl o_f21o9)), (b 22, .inl (cZ, 80, .inl o_f22o10)), (b 23, .inl (cZ, 80, .inl o_f23o11)), (b 24, .inl (cI, 80, .inl o_f24o12)), (b 25, .inl (cI, 6, .inl o_f25o13)), (b 26, .inl (cI, 287, .inl o_f26o14)), (b 27, .inl (cI, 7, .inl o_f27o15)), (b 28, .inl (cI, 7, .inl o_f28o16)), (b 29, .inl (cI, 6, .inl o_f29o17)), (b 30, .inl (cZ, 1040, .inl o_f30o18)), (b 31, .inl (cI, 1040, .inl o_f31o19)), (b 32, .inl (cI, 78, .inl o_f32o20))]) [14, 15, 0, 1, 2, 3, 4, 5, 6, 7, 8, 9, 10, 11, 12, 13] rfl rfl) hS dX10_asksWidow_11 rfl (show (((0 : Int32) = 1 ∧ 0 ≤ a0 ∧ a0 < (o_f1 7).toInt) ∨ ((0 : Int32) = 0)) ∧ ai o_f15o7 80 0 1 ∧ ai o_f16o8 7 0 3 ∧ ai o_f21o9 80 0 1 ∧ ai o_f22o10 80 0 1 ∧ ai o_f23o11 80 0 1 ∧ ai o_f25o13 6 (-1) 79 ∧ ai o_f26o14 287 0 77 ∧ ai o_f27o15 7 (-1) 40 ∧ ai o_f30o18 1040 0 1 ∧ ai o_f32o20 78 (-1) 79 ∧ PG o_f31o19 (80 * (o_f1 0).toInt + 80) (o_f1 3).toInt (o_f1 4).toInt from ⟨(Or.inr rfl), w23, w24, w25, w26, w27, w28, w29, w30, w31, w32, w33⟩)
set_option maxHeartbeats 4000000 in
set_option maxRecDepth 100000 in
theorem f_X10_asksCell (l : Launch) (G : va_G) (cI cJ cZ cB cQ : ClassId) (sz : Nat) (h0 : Nat) (p0 : Int32) (a0 : Int) (b : Nat → Nat) (o_thrown : Int32) (o_taped : Int32) (o_size : Int32) (o_at : Int32) (o_from : Int32) (o_token : Int32) (o_value : Int32) (o_faultKind : Int32) (o_faultPlace : Int32) (o_lawNow : Int32) (o_walkSet : Int32) (o_oneWidow : Int32) (o_oneTurn : Int32) (o_askWorst : Int32) (o_mayWalk : Int32) (o_oftenAll : Int64) (o_oftenRoad : Int64) (o_oftenPegs : Int64) (o_f1 : Nat → Int32) (o_f15 : Nat → Int32) (o_f16 : Nat → Int32) (o_f21 : Nat → Int32) (o_f22 : Nat → Int32) (o_f23 : Nat → Int32) (o_f24 : Nat → Int32) (o_f25 : Nat → Int32) (o_f26 : Nat → Int32) (o_f27 : Nat → Int32) (o_f28 : Nat → Int32) (o_f29 : Nat → Int32) (o_f30 : Nat → Int32) (o_f31 : Nat → Int32) (o_f32 : Nat → Int32) (hp0 : p0.toInt = a0) (hl_o_taped : 0 ≤ o_taped.toInt) (hh_o_taped : o_taped.toInt ≤ 900) (hl_o_size : 0 ≤ o_size.toInt) (hh_o_size : o_size.toInt ≤ 900) (hl_o_at : 0 ≤ o_at.toInt) (hh_o_at : o_at.toInt ≤ 900) (hl_o_from : 0 ≤ o_from.toInt) (hh_o_from : o_from.toInt ≤ 900) (hl_o_oneTurn : 0 ≤ o_oneTurn.toInt) (hh_o_oneTurn : o_oneTurn.toInt ≤ 4) (ha_o_f1 : WI o_f1) (ha_o_f15 : ai o_f15 80 0 1) (ha_o_f16 : ai o_f16 7 0 3) (ha_o_f21 : ai o_f21 80 0 1) (ha_o_f22 : ai o_f22 80 0 1) (ha_o_f23 : ai o_f23 80 0 1) (ha_o_f25 : ai o_f25 6 (-1) 79) (ha_o_f26 : ai o_f26 287 0 77) (ha_o_f27 : ai o_f27 7 (-1) 40) (ha_o_f30 : ai o_f30 1040 0 1) (ha_o_f32 : ai o_f32 78 (-1) 79) : CI l yX10_asksCell (wl_ yX10_asksCell cX10_asksCell 2 (some .boolean)) ({ frames := 7, cells := 0, slots := 0, locals := 161 } : Room) G (TY cI cJ cZ cB cQ) [.ref h0, .int p0] [(h0, oX10 b o_thrown o_taped o_size o_at o_from o_token o_value o_faultKind o_faultPlace o_lawNow o_walkSet o_oneWidow o_oneTurn o_askWorst o_mayWalk o_oftenAll o_oftenRoad o_oftenPegs), (b 1, .inl (cI, 149, .inl o_f1)), (b 15, .inl (cZ, 80, .inl o_f15)), (b 16, .inl (cI, 7, .inl o_f16)), (b 21, .inl (cZ, 80, .inl o_f21)), (b 22, .inl (cZ, 80, .inl o_f22)), (b 23, .inl (cZ, 80, .inl o_f23)), (b 24, .inl (cI, 80, .inl o_f24)), (b 25, .inl (cI, 6, .inl o_f25)), (b 26, .inl (cI, 287, .inl o_f26)), (b 27, .inl (cI, 7, .inl o_f27)), (b 28, .inl (cI, 7, .inl o_f28)), (b 29, .inl (cI, 6, .inl o_f29)), (b 30, .inl (cZ, 1040, .inl o_f30)), (b 31, .inl (cI, 1040, .inl o_f31)), (b 32, .inl (cI, 78, .inl o_f32))] sz (fun (r : Int32) (u : Int32 × Int32 × Int32 × (Nat → Int32) × (Nat → Int32) × (Nat → Int32) × (Nat → Int32) × (Nat → Int32) × (Nat → Int32) × (Nat → Int32) × (Nat → Int32) × (Nat → Int32) × (Nat → Int32) × (Nat → Int32) × (Nat → Int32) × (Nat → Int32) × (Nat → Int32)) => ((r = 1 ∧ 0 ≤ a0 ∧ a0 / 10 < (o_f1 3).toInt ∧ a0 % 10 < (o_f1 4).toInt ∧ a0 ≤ 77) ∨ (r = 0)) ∧ ai u.2.2.2.1 80 0 1 ∧ ai u.2.2.2.2.1 7 0 3 ∧ ai u.2.2.2.2.2.1 80 0 1 ∧ ai u.2.2.2.2.2.2.1 80 0 1 ∧ ai u.2.2.2.2.2.2.2.1 80 0 1 ∧ ai u.2.2.2.2.2.2.2.2.2.1 6 (-1) 79 ∧ ai u.2.2.2.2.2.2.2.2.2.2.1 287 0 77 ∧ ai u.2.2.2.2.2.2.2.2.2.2.2.1 7 (-1) 40 ∧ ai u.2.2.2.2.2.2.2.2.2.2.2.2.2.2.1 1040 0 1 ∧ ai u.2.2.2.2.2.2.2.2.2.2.2.2.2.2.2.2 78 (-1) 79 ∧ PG u.2.2.2.2.2.2.2.2.2.2.2.2.2.2.2.1 (80 * (o_f1 0).toInt + 80) (o_f1 3).toInt (o_f1 4).toInt) (fun u : Int32 × Int32 × Int32 × (Nat → Int32) × (Nat → Int32) × (Nat → Int32) × (Nat → Int32) × (Nat → Int32) × (Nat → Int32) × (Nat → Int32) × (Nat → Int32) × (Nat → Int32) × (Nat → Int32) × (Nat → Int32) × (Nat → Int32) × (Nat → Int32) × (Nat → Int32) => [(h0, oX10 b o_thrown o_taped o_size o_at o_from o_token o_value o_faultKind o_faultPlace u.1 u.2.1 u.2.2.1 o_oneTurn o_askWorst o_mayWalk o_oftenAll o_oftenRoad o_oftenPegs), (b 1, .inl (cI, 149, .inl o_f1)), (b 15, .inl (cZ, 80, .inl u.2.2.2.1)), (b 16, .inl (cI, 7, .inl u.2.2.2.2.1)), (b 21, .inl (cZ, 80, .inl u.2.2.2.2.2.1)), (b 22, .inl (cZ, 80, .inl u.2.2.2.2.2.2.1)), (b 23, .inl (cZ, 80, .inl u.2.2.2.2.2.2.2.1)), (b 24, .inl (cI, 80, .inl u.2.2.2.2.2.2.2.2.1)), (b 25, .inl (cI, 6, .inl u.2.2.2.2.2.2.2.2.2.1)), (b 26, .inl (cI, 287, .inl u.2.2.2.2.2.2.2.2.2.2.1)), (b 27, .inl (cI, 7, .inl u.2.2.2.2.2.2.2.2.2.2.2.1)), (b 28, .inl (cI, 7, .inl u.2.2.2.2.2.2.2.2.2.2.2.2.1)), (b 29, .inl (cI, 6, .inl u.2.2.2.2.2.2.2.2.2.2.2.2.2.1)), (b 30, .inl (cZ, 1040, .inl u.2.2.2.2.2.2.2.2.2.2.2.2.2.2.1)), (b 31, .inl (cI, 1040, .inl u.2.2.2.2.2.2.2.2.2.2.2.2.2.2.2.1)), (b 32, .inl (cI, 78, .inl u.2.2.2.2.2.2.2.2.2.2.2.2.2.2.2.2))]) 0 0 := by
  refine CI.goz (cc := cX10_asksCell) (maxL := 2) (ret := (some .boolean)) (by decide) rfl (Nat.le_of_ble_eq_true rfl) ?_
  intro p e s m below meth c A ls Q hBd hret
  obtain ⟨hx, hb, hr, hml, hts, hown, hlk, hnm, hP, hK, hD, hA, hZ, hl⟩ := hBd
  have hown : s.vm.findClass RX10 = some m.cls := hown
  have hl : lv_has ls 2 [(0, .ref h0), (1, .int p0)] := hl
  have hS : va_S A s.heap s.heap [] := va_S.rf
  refine lv_aload_n hx hb dX10_asksCell_0 rfl (lv_at hl 0 rfl) ?_
  refine k_i (wc := [(h0, oX10 b o_thrown o_taped o_size o_at o_from o_token o_value o_faultKind o_faultPlace o_lawNow o_walkSet o_oneWidow o_oneTurn o_askWorst o_mayWalk o_oftenAll o_oftenRoad o_oftenPegs), (b 1, .inl (cI, 149, .inl o_f1)), (b 15, .inl (cZ, 80, .inl o_f15)), (b 16, .inl (cI, 7, .inl o_f16)), (b 21, .inl (cZ, 80, .inl o_f21)), (b 22, .inl (cZ, 80, .inl o_f22)), (b 23, .inl (cZ, 80, .inl o_f23)), (b 24, .inl (cI, 80, .inl o_f24)), (b 25, .inl (cI, 6, .inl o_f25)), (b 26, .inl (cI, 287, .inl o_f26)), (b 27, .inl (cI, 7, .inl o_f27)), (b 28, .inl (cI, 7, .inl o_f28)), (b 29, .inl (cI, 6, .inl o_f29)), (b 30, .inl (cZ, 1040, .inl o_f30)), (b 31, .inl (cI, 1040, .inl o_f31)), (b 32, .inl (cI, 78, .inl o_f32))]) (wr := []) hP hD hS hA [0, 1, 2, 3, 4, 5, 6, 7, 8, 9, 10, 11, 12, 13, 14, 15] [] rfl rfl rfl (by decide) (va_runV (As := []) (rest := []) ⟨hx, hb, hml, hown, hts⟩ (f_X10_asksColony l G cI cJ cZ cB cQ _ h0 b o_thrown o_taped o_size o_at o_from o_token o_value o_faultKind o_faultPlace o_lawNow o_walkSet o_oneWidow o_oneTurn o_askWorst o_mayWalk o_oftenAll o_oftenRoad o_oftenPegs o_f1 o_f15 o_f16 o_f21 o_f22 o_f23 o_f24 o_f25 o_f26 o_f27 o_f28 o_f29 o_f30 o_f31 o_f32 hl_o_taped hh_o_taped hl_o_size hh_o_size hl_o_at hh_o_at hl_o_from hh_o_from hl_o_oneTurn hh_o_oneTurn ha_o_f1 ha_o_f15 ha_o_f16 ha_o_f21 ha_o_f22 ha_o_f23 ha_o_f25 ha_o_f26 ha_o_f27 ha_o_f30 ha_o_f32) (cwV 0 hts (gV w_1485 w_1487 wp_105 w_11 w_1488) rfl rfl rfl ⟨rfl, hd_X10_asksColony⟩ ⟨Nat.le_of_ble_eq_true rfl, Nat.le_of_ble_eq_true rfl⟩) (mV hK hZ hP hD [0, 1, 2, 3, 4, 5, 6, 7, 8, 9, 10, 11, 12, 13, 14, 15] rfl rfl [] 0 10 rfl rfl) rfl rfl hl.1 rfl (lv_room (Nat.le_of_ble_eq_true rfl)) dX10_asksCell_1 ⟨Nat.le_of_ble_eq_true rfl, Nat.le_of_ble_eq_true rfl⟩) (fun r1 u2 H locs hw3 hP hD hS => ?_)
  obtain ⟨o_lawNowo4, o_walkSeto5, o_oneWidowo6, o_f15o7, o_f16o8, o_f21o9, o_f22o10, o_f23o11, o_f24o12, o_f25o13, o_f26o14, o_f27o15, o_f28o16, o_f29o17, o_f30o18, o_f31o19, o_f32o20⟩ := u2
  try dsimp only at hw3
  have hP : va_P G vwCl [(h0, oX10 b o_thrown o_taped o_size o_at o_from o_token o_value o_faultKind o_faultPlace o_lawNowo4 o_walkSeto5 o_oneWidowo6 o_oneTurn o_askWorst o_mayWalk o_oftenAll o_oftenRoad o_oftenPegs), (b 1, .inl (cI, 149, .inl o_f1)), (b 15, .inl (cZ, 80, .inl o_f15o7)), (b 16, .inl (cI, 7, .inl o_f16o8)), (b 21, .inl (cZ, 80, .inl o_f21o9)), (b 22, .inl (cZ, 80, .inl o_f22o10)), (b 23, .inl (cZ, 80, .inl o_f23o11)), (b 24, .inl (cI, 80, .inl o_f24o12)), (b 25, .inl (cI, 6, .inl o_f25o13)), (b 26, .inl (cI, 287, .inl o_f26o14)), (b 27, .inl (cI, 7, .inl o_f27o15)), (b 28, .inl (cI, 7, .inl o_f28o16)), (b 29, .inl (cI, 6, .inl o_f29o17)), (b 30, .inl (cZ, 1040, .inl o_f30o18)), (b 31, .inl (cI, 1040, .inl o_f31o19)), (b 32, .inl (cI, 78, .inl o_f32o20))] H := hP
  have hD : va_D A [(h0, oX10 b o_thrown o_taped o_size o_at o_from o_token o_value o_faultKind o_faultPlace o_lawNowo4 o_walkSeto5 o_oneWidowo6 o_oneTurn o_askWorst o_mayWalk o_oftenAll o_oftenRoad o_oftenPegs), (b 1, .inl (cI, 149, .inl o_f1)), (b 15, .inl (cZ, 80, .inl o_f15o7)), (b 16, .inl (cI, 7, .inl o_f16o8)), (b 21, .inl (cZ, 80, .inl o_f21o9)), (b 22, .inl (cZ, 80, .inl o_f22o10)), (b 23, .inl (cZ, 80, .inl o_f23o11)), (b 24, .inl (cI, 80, .inl o_f24o12)), (b 25, .inl (cI, 6, .inl o_f25o13)), (b 26, .inl (cI, 287, .inl o_f26o14)), (b 27, .inl (cI, 7, .inl o_f27o15)), (b 28, .inl (cI, 7, .inl o_f28o16)), (b 29, .inl (cI, 6, .inl o_f29o17)), (b 30, .inl (cZ, 1040, .inl o_f30o18)), (b 31, .inl (cI, 1040, .inl o_f31o19)), (b 32, .inl (cI, 78, .inl o_f32o20))] := hD
  obtain ⟨w21, w22, w23, w24, w25, w26, w27, w28, w29, w30, w31, w32, w33⟩ : 0 ≤ r1.toInt ∧ r1.toInt ≤ 1 ∧ ai o_f15o7 80 0 1 ∧ ai o_f16o8 7 0 3 ∧ ai o_f21o9 80 0 1 ∧ ai o_f22o10 80 0 1 ∧ ai o_f23o11 80 0 1 ∧ ai o_f25o13 6 (-1) 79 ∧ ai o_f26o14 287 0 77 ∧ ai o_f27o15 7 (-1) 40 ∧ ai o_f30o18 1040 0 1 ∧ ai o_f32o20 78 (-1) 79 ∧ PG o_f31o19 (80 * (o_f1 0).toInt + 80) (o_f1 3).toInt (o_f1 4).toInt := hw3
  refine lv_pop hx hb dX10_asksCell_4 rfl ?_
  refine lv_aload_n hx hb dX10_asksCell_5 rfl (lv_at hl 0 rfl) ?_
  refine lv_iload_n hx hb dX10_asksCell_6 rfl (lv_at hl 1 rfl) ?_
  obtain ⟨v34, ev34⟩ : ∃ y : Int64, p0.toInt64 = y := ⟨_, rfl⟩
  have tv34 : v34.toInt = a0 := ti_wide hp0 ev34
  refine lv_i2l (v := v34) hx hb dX10_asksCell_7 ev34 ?_
  refine k_i (wc := [(h0, oX10 b o_thrown o_taped o_size o_at o_from o_token o_value o_faultKind o_faultPlace o_lawNowo4 o_walkSeto5 o_oneWidowo6 o_oneTurn o_askWorst o_mayWalk o_oftenAll o_oftenRoad o_oftenPegs), (b 1, .inl (cI, 149, .inl o_f1))]) (wr := [(b 15, .inl (cZ, 80, .inl o_f15o7)), (b 16, .inl (cI, 7, .inl o_f16o8)), (b 21, .inl (cZ, 80, .inl o_f21o9)), (b 22, .inl (cZ, 80, .inl o_f22o10)), (b 23, .inl (cZ, 80, .inl o_f23o11)), (b 24, .inl (cI, 80, .inl o_f24o12)), (b 25, .inl (cI, 6, .inl o_f25o13)), (b 26, .inl (cI, 287, .inl o_f26o14)), (b 27, .inl (cI, 7, .inl o_f27o15)), (b 28, .inl (cI, 7, .inl o_f28o16)), (b 29, .inl (cI, 6, .inl o_f29o17)), (b 30, .inl (cZ, 1040, .inl o_f30o18)), (b 31, .inl (cI, 1040, .inl o_f31o19)), (b 32, .inl (cI, 78, .inl o_f32o20))]) hP hD hS hA [0, 1] [2, 3, 4, 5, 6, 7, 8, 9, 10, 11, 12, 13, 14, 15] rfl rfl rfl (by decide) (va_runV (As := [.long v34]) (rest := []) ⟨hx, hb, hml, hown, hts⟩ (f_X10_isCell l G cI cJ cZ cB cQ _ h0 v34 a0 b o_thrown o_taped o_size o_at o_from o_token o_value o_faultKind o_faultPlace o_lawNowo4 o_walkSeto5 o_oneWidowo6 o_oneTurn o_askWorst o_mayWalk o_oftenAll o_oftenRoad o_oftenPegs o_f1 tv34 hl_o_taped hh_o_taped hl_o_size hh_o_size hl_o_at hh_o_at hl_o_from hh_o_from hl_o_oneTurn hh_o_oneTurn ha_o_f1) (cwV 1 hts (gV w_1550 w_1552 wp_119 w_11 w_1553) rfl rfl rfl ⟨rfl, hd_X10_isCell⟩ ⟨Nat.le_of_ble_eq_true rfl, Nat.le_of_ble_eq_true rfl⟩) (mV hK hZ hP hD [0, 1] rfl rfl [.long v34] 0 10 rfl rfl) rfl rfl hl.1 rfl (lv_room (Nat.le_of_ble_eq_true rfl)) dX10_asksCell_8 ⟨Nat.le_of_ble_eq_true rfl, Nat.le_of_ble_eq_true rfl⟩) (fun r35 u36 H locs hw37 hP hD hS => ?_)
  try dsimp only at hw37
  have hP : va_P G vwCl [(b 15, .inl (cZ, 80, .inl o_f15o7)), (b 16, .inl (cI, 7, .inl o_f16o8)), (b 21, .inl (cZ, 80, .inl o_f21o9)), (b 22, .inl (cZ, 80, .inl o_f22o10)), (b 23, .inl (cZ, 80, .inl o_f23o11)), (b 24, .inl (cI, 80, .inl o_f24o12)), (b 25, .inl (cI, 6, .inl o_f25o13)), (b 26, .inl (cI, 287, .inl o_f26o14)), (b 27, .inl (cI, 7, .inl o_f27o15)), (b 28, .inl (cI, 7, .inl o_f28o16)), (b 29, .inl (cI, 6, .inl o_f29o17)), (b 30, .inl (cZ, 1040, .inl o_f30o18)), (b 31, .inl (cI, 1040, .inl o_f31o19)), (b 32, .inl (cI, 78, .inl o_f32o20)), (h0, oX10 b o_thrown o_taped o_size o_at o_from o_token o_value o_faultKind o_faultPlace o_lawNowo4 o_walkSeto5 o_oneWidowo6 o_oneTurn o_askWorst o_mayWalk o_oftenAll o_oftenRoad o_oftenPegs), (b 1, .inl (cI, 149, .inl o_f1))] H := hP
  have hD : va_D A [(b 15, .inl (cZ, 80, .inl o_f15o7)), (b 16, .inl (cI, 7, .inl o_f16o8)), (b 21, .inl (cZ, 80, .inl o_f21o9)), (b 22, .inl (cZ, 80, .inl o_f22o10)), (b 23, .inl (cZ, 80, .inl o_f23o11)), (b 24, .inl (cI, 80, .inl o_f24o12)), (b 25, .inl (cI, 6, .inl o_f25o13)), (b 26, .inl (cI, 287, .inl o_f26o14)), (b 27, .inl (cI, 7, .inl o_f27o15)), (b 28, .inl (cI, 7, .inl o_f28o16)), (b 29, .inl (cI, 6, .inl o_f29o17)), (b 30, .inl (cZ, 1040, .inl o_f30o18)), (b 31, .inl (cI, 1040, .inl o_f31o19)), (b 32, .inl (cI, 78, .inl o_f32o20)), (h0, oX10 b o_thrown o_taped o_size o_at o_from o_token o_value o_faultKind o_faultPlace o_lawNowo4 o_walkSeto5 o_oneWidowo6 o_oneTurn o_askWorst o_mayWalk o_oftenAll o_oftenRoad o_oftenPegs), (b 1, .inl (cI, 149, .inl o_f1))] := hD
  rcases hw37 with ⟨rfl, a39, a40, a41, a42⟩ | rfl
  · skip
    exact hret _ _ _ _ 1 (o_lawNowo4, o_walkSeto5, o_oneWidowo6, o_f15o7, o_f16o8, o_f21o9, o_f22o10, o_f23o11, o_f24o12, o_f25o13, o_f26o14, o_f27o15, o_f28o16, o_f29o17, o_f30o18, o_f31o19, o_f32o20) (hP.sub (ws' := [(h0, oX10 b o_thrown o_taped o_size o_at o_from o_token o_value o_faultKind o_faultPlace o_lawNowo4 o_walkSeto5 o_oneWidowo6 o_oneTurn o_askWorst o_mayWalk o_oftenAll o_oftenRoad o_oftenPegs), (b 1, .inl (cI, 149, .inl o_f1)), (b 15, .inl (cZ, 80, .inl o_f15o7)), (b 16, .inl (cI, 7, .inl o_f16o8)), (b 21, .inl (cZ, 80, .inl o_f21o9)), (b 22, .inl (cZ, 80, .inl o_f22o10)), (b 23, .inl (cZ, 80, .inl o_f23o11)), (b 24, .inl (cI, 80, .inl o_f24o12)), (b 25, .inl (cI, 6, .inl o_f25o13)), (b 26, .inl (cI, 287, .inl o_f26o14)), (b 27, .inl (cI, 7, .inl o_f27o15)), (b 28, .inl (cI, 7, .inl o_f28o16)), (b 29, .inl (cI, 6, .inl o_f29o17)), (b 30, .inl (cZ, 1040, .inl o_f30o18)), (b 31, .inl (cI, 1040, .inl o_f31o19)), (b 32, .inl (cI, 78, .inl o_f32o20))]) [14, 15, 0, 1, 2, 3, 4, 5, 6, 7, 8, 9, 10, 11, 12, 13] rfl) (hD.sub (ws' := [(h0, oX10 b o_thrown o_taped o_size o_at o_from o_token o_value o_faultKind o_faultPlace o_lawNowo4 o_walkSeto5 o_oneWidowo6 o_oneTurn o_askWorst o_mayWalk o_oftenAll o_oftenRoad o_oftenPegs), (b 1, .inl (cI, 149, .inl o_f1)), (b 15, .inl (cZ, 80, .inl o_f15o7)), (b 16, .inl (cI, 7, .inl o_f16o8)), (b 21, .inl (cZ, 80, .inl o_f21o9)), (b 22, .inl (cZ, 80, .inl o_f22o10)), (b 23, .inl (cZ, 80, .inl o_f23o11)), (b 24, .inl (cI, 80, .inl o_f24o12)), (b 25, .inl (cI, 6, .inl o_f25o13)), (b 26, .inl (cI, 287, .inl o_f26o14)), (b 27, .inl (cI, 7, .inl o_f27o15)), (b 28, .inl (cI, 7, .inl o_f28o16)), (b 29, .inl (cI, 6, .inl o_f29o17)), (b 30, .inl (cZ, 1040, .inl o_f30o18)), (b 31, .inl (cI, 1040, .inl o_f31o19)), (b 32, .inl (cI, 78, .inl o_f32o20))]) [14, 15, 0, 1, 2, 3, 4, 5, 6, 7, 8, 9, 10, 11, 12, 13] rfl rfl) hS dX10_asksCell_11 rfl (show (((1 : Int32) = 1 ∧ 0 ≤ a0 ∧ a0 / 10 < (o_f1 3).toInt ∧ a0 % 10 < (o_f1 4).toInt ∧ a0 ≤ 77) ∨ ((1 : Int32) = 0)) ∧ ai o_f15o7 80 0 1 ∧ ai o_f16o8 7 0 3 ∧ ai o_f21o9 80 0 1 ∧ ai o_f22o10 80 0 1 ∧ ai o_f23o11 80 0 1 ∧ ai o_f25o13 6 (-1) 79 ∧ ai o_f26o14 287 0 77 ∧ ai o_f27o15 7 (-1) 40 ∧ ai o_f30o18 1040 0 1 ∧ ai o_f32o20 78 (-1) 79 ∧ PG o_f31o19 (80 * (o_f1 0).toInt + 80) (o_f1 3).toInt (o_f1 4).toInt from ⟨(Or.inl ⟨rfl, by omega, by omega, by omega, by omega⟩), w23, w24, w25, w26, w27, w28, w29, w30, w31, w32, w33⟩)
  · skip
    exact hret _ _ _ _ 0 (o_lawNowo4, o_walkSeto5, o_oneWidowo6, o_f15o7, o_f16o8, o_f21o9, o_f22o10, o_f23o11, o_f24o12, o_f25o13, o_f26o14, o_f27o15, o_f28o16, o_f29o17, o_f30o18, o_f31o19, o_f32o20) (hP.sub (ws' := [(h0, oX10 b o_thrown o_taped o_size o_at o_from o_token o_value o_faultKind o_faultPlace o_lawNowo4 o_walkSeto5 o_oneWidowo6 o_oneTurn o_askWorst o_mayWalk o_oftenAll o_oftenRoad o_oftenPegs), (b 1, .inl (cI, 149, .inl o_f1)), (b 15, .inl (cZ, 80, .inl o_f15o7)), (b 16, .inl (cI, 7, .inl o_f16o8)), (b 21, .inl (cZ, 80, .inl o_f21o9)), (b 22, .inl (cZ, 80, .inl o_f22o10)), (b 23, .inl (cZ, 80, .inl o_f23o11)), (b 24, .inl (cI, 80, .inl o_f24o12)), (b 25, .inl (cI, 6, .inl o_f25o13)), (b 26, .inl (cI, 287, .inl o_f26o14)), (b 27, .inl (cI, 7, .inl o_f27o15)), (b 28, .inl (cI, 7, .inl o_f28o16)), (b 29, .inl (cI, 6, .inl o_f29o17)), (b 30, .inl (cZ, 1040, .inl o_f30o18)), (b 31, .inl (cI, 1040, .inl o_f31o19)), (b 32, .inl (cI, 78, .inl o_f32o20))]) [14, 15, 0, 1, 2, 3, 4, 5, 6, 7, 8, 9, 10, 11, 12, 13] rfl) (hD.sub (ws' := [(h0, oX10 b o_thrown o_taped o_size o_at o_from o_token o_value o_faultKind o_faultPlace o_lawNowo4 o_walkSeto5 o_oneWidowo6 o_oneTurn o_askWorst o_mayWalk o_oftenAll o_oftenRoad o_oftenPegs), (b 1, .inl (cI, 149, .inl o_f1)), (b 15, .inl (cZ, 80, .inl o_f15o7)), (b 16, .inl (cI, 7, .inl o_f16o8)), (b 21, .inl (cZ, 80, .inl o_f21o9)), (b 22, .inl (cZ, 80, .inl o_f22o10)), (b 23, .inl (cZ, 80, .inl o_f23o11)), (b 24, .inl (cI, 80, .inl o_f24o12)), (b 25, .inl (cI, 6, .inl o_f25o13)), (b 26, .inl (cI, 287, .inl o_f26o14)), (b 27, .inl (cI, 7, .inl o_f27o15)), (b 28, .inl (cI, 7, .inl o_f28o16)), (b 29, .inl (cI, 6, .inl o_f29o17)), (b 30, .inl (cZ, 1040, .inl o_f30o18)), (b 31, .inl (cI, 1040, .inl o_f31o19)), (b 32, .inl (cI, 78, .inl o_f32o20))]) [14, 15, 0, 1, 2, 3, 4, 5, 6, 7, 8, 9, 10, 11, 12, 13] rfl rfl) hS dX10_asksCell_11 rfl (show (((0 : Int32) = 1 ∧ 0 ≤ a0 ∧ a0 / 10 < (o_f1 3).toInt ∧ a0 % 10 < (o_f1 4).toInt ∧ a0 ≤ 77) ∨ ((0 : Int32) = 0)) ∧ ai o_f15o7 80 0 1 ∧ ai o_f16o8 7 0 3 ∧ ai o_f21o9 80 0 1 ∧ ai o_f22o10 80 0 1 ∧ ai o_f23o11 80 0 1 ∧ ai o_f25o13 6 (-1) 79 ∧ ai o_f26o14 287 0 77 ∧ ai o_f27o15 7 (-1) 40 ∧ ai o_f30o18 1040 0 1 ∧ ai o_f32o20 78 (-1) 79 ∧ PG o_f31o19 (80 * (o_f1 0).toInt + 80) (o_f1 3).toInt (o_f1 4).toInt from ⟨(Or.inr rfl), w23, w24, w25, w26, w27, w28, w29, w30, w31, w32, w33⟩)
