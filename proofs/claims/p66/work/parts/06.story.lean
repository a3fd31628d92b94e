theorem wp_25 : Cond.selects "WidowRoads$Story" yX6_begin yX6_begin ∈ GW := GW_p 25 (by decide +kernel) rfl
theorem wp_26 : Cond.selects "WidowRoads$Colony" yX0_field yX0_field ∈ GW := GW_p 26 (by decide +kernel) rfl
theorem wp_27 : Cond.selects "WidowRoads$Story" yX6_copyYear yX6_copyYear ∈ GW := GW_p 27 (by decide +kernel) rfl
theorem wp_28 : Cond.selects "WidowRoads$Story" yX6_walk yX6_walk ∈ GW := GW_p 28 (by decide +kernel) rfl
theorem wp_29 : Cond.selects "WidowRoads$Supposal" yX7_facesAtFirst yX7_facesAtFirst ∈ GW := GW_p 29 (by decide +kernel) rfl
theorem wp_30 : Cond.selects "WidowRoads$Supposal" yX7_turnOf yX7_turnOf ∈ GW := GW_p 30 (by decide +kernel) rfl
theorem wp_31 : Cond.selects "WidowRoads$Story" yX6_peg yX6_peg ∈ GW := GW_p 31 (by decide +kernel) rfl
theorem wp_32 : Cond.selects "WidowRoads$Story" yX6_moveHouses yX6_moveHouses ∈ GW := GW_p 32 (by decide +kernel) rfl
theorem wp_33 : Cond.selects "WidowRoads$Story" yX6_homeBits yX6_homeBits ∈ GW := GW_p 33 (by decide +kernel) rfl
theorem w_5 : Jvm.Cond.initialized "WidowRoads$Supposal" ∈ GW := GW_t 5 (by decide +kernel) rfl
theorem w_6 : Jvm.Cond.initialized "WidowRoads$Story" ∈ GW := GW_t 6 (by decide +kernel) rfl
theorem w_16 : Jvm.Cond.initialized "java/lang/Math" ∈ GW := GW_t 16 (by decide +kernel) rfl
theorem w_233 : Jvm.Cond.fieldLink "WidowRoads$Story" (9 : Nat) "WidowRoads$Story" "paths" "[I" ∈ GW := GW_t 233 (by decide +kernel) rfl
theorem w_234 : Jvm.Cond.fieldLink "WidowRoads$Story" (15 : Nat) "WidowRoads$Story" "lasts" "[I" ∈ GW := GW_t 234 (by decide +kernel) rfl
theorem w_236 : Jvm.Cond.fieldLink "WidowRoads$Story" (18 : Nat) "WidowRoads$Story" "stood" "[I" ∈ GW := GW_t 236 (by decide +kernel) rfl
theorem w_238 : Jvm.Cond.fieldLink "WidowRoads$Story" (21 : Nat) "WidowRoads$Story" "been" "[J" ∈ GW := GW_t 238 (by decide +kernel) rfl
theorem w_240 : Jvm.Cond.fieldLink "WidowRoads$Story" (25 : Nat) "WidowRoads$Story" "shifted" "[I" ∈ GW := GW_t 240 (by decide +kernel) rfl
theorem w_242 : Jvm.Cond.fieldLink "WidowRoads$Story" (28 : Nat) "WidowRoads$Story" "shifts" "[I" ∈ GW := GW_t 242 (by decide +kernel) rfl
theorem w_244 : Jvm.Cond.fieldLink "WidowRoads$Story" (31 : Nat) "WidowRoads$Story" "homes" "[I" ∈ GW := GW_t 244 (by decide +kernel) rfl
theorem w_246 : Jvm.Cond.fieldLink "WidowRoads$Story" (34 : Nat) "WidowRoads$Story" "roads" "[J" ∈ GW := GW_t 246 (by decide +kernel) rfl
theorem w_250 : Jvm.Cond.fieldLink "WidowRoads$Story" (37 : Nat) "WidowRoads$Story" "across" "[J" ∈ GW := GW_t 250 (by decide +kernel) rfl
theorem w_252 : Jvm.Cond.fieldLink "WidowRoads$Story" (40 : Nat) "WidowRoads$Story" "down" "[J" ∈ GW := GW_t 252 (by decide +kernel) rfl
theorem w_254 : Jvm.Cond.fieldLink "WidowRoads$Story" (80 : Nat) "WidowRoads$Story" "field" "J" ∈ GW := GW_t 254 (by decide +kernel) rfl
theorem w_255 : Jvm.Cond.fieldLink "WidowRoads$Story" (86 : Nat) "WidowRoads$Story" "houses" "I" ∈ GW := GW_t 255 (by decide +kernel) rfl
theorem w_502 : Jvm.Cond.static ({ cls := "java/lang/Math", name := "min", desc := "(II)I" } : Jvm.MethodName) ∈ GW := GW_t 502 (by decide +kernel) rfl
theorem w_503 : Jvm.Cond.code ({ cls := "java/lang/Math", name := "min", desc := "(II)I" } : Jvm.MethodName) prog_15_method_69_code (2 : Nat) (Option.some Jvm.ClassFile.FieldType.int) ∈ GW := GW_t 503 (by decide +kernel) rfl
theorem w_526 : Jvm.Cond.static ({ cls := "WidowRoads", name := "has", desc := "(JI)Z" } : Jvm.MethodName) ∈ GW := GW_t 526 (by decide +kernel) rfl
theorem w_527 : Jvm.Cond.code ({ cls := "WidowRoads", name := "has", desc := "(JI)Z" } : Jvm.MethodName) prog_1_method_92_code (3 : Nat) (Option.some Jvm.ClassFile.FieldType.boolean) ∈ GW := GW_t 527 (by decide +kernel) rfl
theorem w_586 : Jvm.Cond.methodLink "WidowRoads$Story" (43 : Nat) ({ cls := "WidowRoads$Story", name := "begin", desc := "(LWidowRoads$Colony;)V" } : Jvm.MethodName) ∈ GW := GW_t 586 (by decide +kernel) rfl
theorem w_588 : Jvm.Cond.instanceMethod ({ cls := "WidowRoads$Story", name := "begin", desc := "(LWidowRoads$Colony;)V" } : Jvm.MethodName) ∈ GW := GW_t 588 (by decide +kernel) rfl
theorem w_589 : Jvm.Cond.code ({ cls := "WidowRoads$Story", name := "begin", desc := "(LWidowRoads$Colony;)V" } : Jvm.MethodName) prog_8_method_3_code (3 : Nat) (Option.none : Option Jvm.ClassFile.FieldType) ∈ GW := GW_t 589 (by decide +kernel) rfl
theorem w_592 : Jvm.Cond.instanceMethod ({ cls := "WidowRoads$Colony", name := "field", desc := "()J" } : Jvm.MethodName) ∈ GW := GW_t 592 (by decide +kernel) rfl
theorem w_593 : Jvm.Cond.code ({ cls := "WidowRoads$Colony", name := "field", desc := "()J" } : Jvm.MethodName) prog_2_method_8_code (4 : Nat) (Option.some Jvm.ClassFile.FieldType.long) ∈ GW := GW_t 593 (by decide +kernel) rfl
theorem w_594 : Jvm.Cond.methodLink "WidowRoads$Story" (53 : Nat) ({ cls := "WidowRoads$Story", name := "copyYear", desc := "(I)V" } : Jvm.MethodName) ∈ GW := GW_t 594 (by decide +kernel) rfl
theorem w_596 : Jvm.Cond.instanceMethod ({ cls := "WidowRoads$Story", name := "copyYear", desc := "(I)V" } : Jvm.MethodName) ∈ GW := GW_t 596 (by decide +kernel) rfl
theorem w_597 : Jvm.Cond.code ({ cls := "WidowRoads$Story", name := "copyYear", desc := "(I)V" } : Jvm.MethodName) prog_8_method_4_code (2 : Nat) (Option.none : Option Jvm.ClassFile.FieldType) ∈ GW := GW_t 597 (by decide +kernel) rfl
theorem w_598 : Jvm.Cond.methodLink "WidowRoads$Story" (90 : Nat) ({ cls := "java/lang/System", name := "arraycopy", desc := "(Ljava/lang/Object;ILjava/lang/Object;II)V" } : Jvm.MethodName) ∈ GW := GW_t 598 (by decide +kernel) rfl
theorem w_599 : Jvm.Cond.methodLink "WidowRoads$Story" (68 : Nat) ({ cls := "WidowRoads$Story", name := "walk", desc := "(LWidowRoads$Colony;LWidowRoads$Supposal;II)V" } : Jvm.MethodName) ∈ GW := GW_t 599 (by decide +kernel) rfl
theorem w_601 : Jvm.Cond.instanceMethod ({ cls := "WidowRoads$Story", name := "walk", desc := "(LWidowRoads$Colony;LWidowRoads$Supposal;II)V" } : Jvm.MethodName) ∈ GW := GW_t 601 (by decide +kernel) rfl
theorem w_602 : Jvm.Cond.code ({ cls := "WidowRoads$Story", name := "walk", desc := "(LWidowRoads$Colony;LWidowRoads$Supposal;II)V" } : Jvm.MethodName) prog_8_method_5_code (14 : Nat) (Option.none : Option Jvm.ClassFile.FieldType) ∈ GW := GW_t 602 (by decide +kernel) rfl
theorem w_603 : Jvm.Cond.constantLong "WidowRoads$Story" (99 : Nat) (-1 : Int64) ∈ GW := GW_t 603 (by decide +kernel) rfl
theorem w_606 : Jvm.Cond.instanceMethod ({ cls := "WidowRoads$Supposal", name := "facesAtFirst", desc := "(LWidowRoads$Colony;I)I" } : Jvm.MethodName) ∈ GW := GW_t 606 (by decide +kernel) rfl
theorem w_607 : Jvm.Cond.code ({ cls := "WidowRoads$Supposal", name := "facesAtFirst", desc := "(LWidowRoads$Colony;I)I" } : Jvm.MethodName) prog_9_method_3_code (3 : Nat) (Option.some Jvm.ClassFile.FieldType.int) ∈ GW := GW_t 607 (by decide +kernel) rfl
theorem w_611 : Jvm.Cond.instanceMethod ({ cls := "WidowRoads$Supposal", name := "turnOf", desc := "(LWidowRoads$Colony;II)I" } : Jvm.MethodName) ∈ GW := GW_t 611 (by decide +kernel) rfl
theorem w_612 : Jvm.Cond.code ({ cls := "WidowRoads$Supposal", name := "turnOf", desc := "(LWidowRoads$Colony;II)I" } : Jvm.MethodName) prog_9_method_4_code (5 : Nat) (Option.some Jvm.ClassFile.FieldType.int) ∈ GW := GW_t 612 (by decide +kernel) rfl
theorem w_613 : Jvm.Cond.methodLink "WidowRoads$Story" (122 : Nat) ({ cls := "WidowRoads$Story", name := "wished", desc := "(IJJJ)J" } : Jvm.MethodName) ∈ GW := GW_t 613 (by decide +kernel) rfl
theorem w_614 : Jvm.Cond.static ({ cls := "WidowRoads$Story", name := "wished", desc := "(IJJJ)J" } : Jvm.MethodName) ∈ GW := GW_t 614 (by decide +kernel) rfl
theorem w_615 : Jvm.Cond.code ({ cls := "WidowRoads$Story", name := "wished", desc := "(IJJJ)J" } : Jvm.MethodName) prog_8_method_6_code (7 : Nat) (Option.some Jvm.ClassFile.FieldType.long) ∈ GW := GW_t 615 (by decide +kernel) rfl
theorem w_616 : Jvm.Cond.methodLink "WidowRoads$Story" (126 : Nat) ({ cls := "WidowRoads$Story", name := "firstWay", desc := "(IIJ)I" } : Jvm.MethodName) ∈ GW := GW_t 616 (by decide +kernel) rfl
theorem w_617 : Jvm.Cond.static ({ cls := "WidowRoads$Story", name := "firstWay", desc := "(IIJ)I" } : Jvm.MethodName) ∈ GW := GW_t 617 (by decide +kernel) rfl
theorem w_618 : Jvm.Cond.code ({ cls := "WidowRoads$Story", name := "firstWay", desc := "(IIJ)I" } : Jvm.MethodName) prog_8_method_7_code (7 : Nat) (Option.some Jvm.ClassFile.FieldType.int) ∈ GW := GW_t 618 (by decide +kernel) rfl
theorem w_623 : Jvm.Cond.methodLink "WidowRoads$Story" (130 : Nat) ({ cls := "WidowRoads$Story", name := "peg", desc := "(III)V" } : Jvm.MethodName) ∈ GW := GW_t 623 (by decide +kernel) rfl
theorem w_625 : Jvm.Cond.instanceMethod ({ cls := "WidowRoads$Story", name := "peg", desc := "(III)V" } : Jvm.MethodName) ∈ GW := GW_t 625 (by decide +kernel) rfl
theorem w_626 : Jvm.Cond.code ({ cls := "WidowRoads$Story", name := "peg", desc := "(III)V" } : Jvm.MethodName) prog_8_method_8_code (6 : Nat) (Option.none : Option Jvm.ClassFile.FieldType) ∈ GW := GW_t 626 (by decide +kernel) rfl
theorem w_627 : Jvm.Cond.methodLink "WidowRoads$Story" (142 : Nat) ({ cls := "java/lang/Math", name := "min", desc := "(II)I" } : Jvm.MethodName) ∈ GW := GW_t 627 (by decide +kernel) rfl
theorem w_628 : Jvm.Cond.methodLink "WidowRoads$Story" (72 : Nat) ({ cls := "WidowRoads$Story", name := "moveHouses", desc := "(LWidowRoads$Supposal;II)V" } : Jvm.MethodName) ∈ GW := GW_t 628 (by decide +kernel) rfl
theorem w_630 : Jvm.Cond.instanceMethod ({ cls := "WidowRoads$Story", name := "moveHouses", desc := "(LWidowRoads$Supposal;II)V" } : Jvm.MethodName) ∈ GW := GW_t 630 (by decide +kernel) rfl
theorem w_631 : Jvm.Cond.code ({ cls := "WidowRoads$Story", name := "moveHouses", desc := "(LWidowRoads$Supposal;II)V" } : Jvm.MethodName) prog_8_method_9_code (8 : Nat) (Option.none : Option Jvm.ClassFile.FieldType) ∈ GW := GW_t 631 (by decide +kernel) rfl
theorem w_632 : Jvm.Cond.methodLink "WidowRoads$Story" (147 : Nat) ({ cls := "WidowRoads$Story", name := "homeBits", desc := "(I)J" } : Jvm.MethodName) ∈ GW := GW_t 632 (by decide +kernel) rfl
theorem w_634 : Jvm.Cond.instanceMethod ({ cls := "WidowRoads$Story", name := "homeBits", desc := "(I)J" } : Jvm.MethodName) ∈ GW := GW_t 634 (by decide +kernel) rfl
theorem w_635 : Jvm.Cond.code ({ cls := "WidowRoads$Story", name := "homeBits", desc := "(I)J" } : Jvm.MethodName) prog_8_method_10_code (6 : Nat) (Option.some Jvm.ClassFile.FieldType.long) ∈ GW := GW_t 635 (by decide +kernel) rfl
theorem w_637 : Jvm.Cond.static ({ cls := "WidowRoads", name := "leastOf", desc := "(J)I" } : Jvm.MethodName) ∈ GW := GW_t 637 (by decide +kernel) rfl
theorem w_638 : Jvm.Cond.code ({ cls := "WidowRoads", name := "leastOf", desc := "(J)I" } : Jvm.MethodName) prog_1_method_93_code (2 : Nat) (Option.some Jvm.ClassFile.FieldType.int) ∈ GW := GW_t 638 (by decide +kernel) rfl
theorem w_662 : Jvm.Cond.static ({ cls := "WidowRoads", name := "oneIf", desc := "(Z)I" } : Jvm.MethodName) ∈ GW := GW_t 662 (by decide +kernel) rfl
theorem w_663 : Jvm.Cond.code ({ cls := "WidowRoads", name := "oneIf", desc := "(Z)I" } : Jvm.MethodName) prog_1_method_89_code (1 : Nat) (Option.some Jvm.ClassFile.FieldType.int) ∈ GW := GW_t 663 (by decide +kernel) rfl
theorem w_773 : Jvm.Cond.methodLink "WidowRoads$Story" (158 : Nat) ({ cls := "java/lang/Long", name := "bitCount", desc := "(J)I" } : Jvm.MethodName) ∈ GW := GW_t 773 (by decide +kernel) rfl
theorem iG_X6 : ∀ w ∈ wsX60, w ∈ GW := GW_in [256, 258, 260, 262, 264, 266, 268, 270, 272, 274, 276, 278] (by decide +kernel) (by decide +kernel)
theorem nw_59 : Jvm.Cond.fieldLinkNest "WidowRoads$Story" (47 : Nat) "WidowRoads$Colony" "span" "I" "WidowRoads" ∈ tables_1 := List.mem_of_getElem? (i := 59) (by decide +kernel)
theorem nw_81 : Jvm.Cond.fieldLinkNest "WidowRoads$Story" (83 : Nat) "WidowRoads$Colony" "houses" "I" "WidowRoads" ∈ tables_1 := List.mem_of_getElem? (i := 81) (by decide +kernel)
theorem nw_85 : Jvm.Cond.fieldLinkNest "WidowRoads$Story" (57 : Nat) "WidowRoads$Colony" "widows" "I" "WidowRoads" ∈ tables_1 := List.mem_of_getElem? (i := 85) (by decide +kernel)
theorem nw_95 : Jvm.Cond.fieldLinkNest "WidowRoads$Story" (87 : Nat) "WidowRoads$Colony" "houseSpots" "[I" "WidowRoads" ∈ tables_1 := List.mem_of_getElem? (i := 95) (by decide +kernel)
theorem nw_98 : Jvm.Cond.fieldLinkNest "WidowRoads$Story" (101 : Nat) "WidowRoads$Colony" "starts" "[I" "WidowRoads" ∈ tables_1 := List.mem_of_getElem? (i := 98) (by decide +kernel)
theorem nw_106 : Jvm.Cond.fieldLinkNest "WidowRoads$Story" (112 : Nat) "WidowRoads$Colony" "paces" "[I" "WidowRoads" ∈ tables_1 := List.mem_of_getElem? (i := 106) (by decide +kernel)
theorem nw_110 : Jvm.Cond.fieldLinkNest "WidowRoads$Story" (60 : Nat) "WidowRoads$Colony" "years" "[I" "WidowRoads" ∈ tables_1 := List.mem_of_getElem? (i := 110) (by decide +kernel)
theorem nw_199 : Jvm.Cond.fieldLinkNest "WidowRoads$Story" (119 : Nat) "WidowRoads$Supposal" "rule" "I" "WidowRoads" ∈ tables_1 := List.mem_of_getElem? (i := 199) (by decide +kernel)
theorem nw_203 : Jvm.Cond.fieldLinkNest "WidowRoads$Story" (63 : Nat) "WidowRoads$Supposal" "walkers" "I" "WidowRoads" ∈ tables_1 := List.mem_of_getElem? (i := 203) (by decide +kernel)
theorem nw_206 : Jvm.Cond.fieldLinkNest "WidowRoads$Story" (96 : Nat) "WidowRoads$Supposal" "creeks" "J" "WidowRoads" ∈ tables_1 := List.mem_of_getElem? (i := 206) (by decide +kernel)
theorem nw_590 : Jvm.Cond.methodLinkNest "WidowRoads$Story" (76 : Nat) ({ cls := "WidowRoads$Colony", name := "field", desc := "()J" } : Jvm.MethodName) "WidowRoads" ∈ tables_1 := List.mem_of_getElem? (i := 590) (by decide +kernel)
theorem nw_604 : Jvm.Cond.methodLinkNest "WidowRoads$Story" (104 : Nat) ({ cls := "WidowRoads$Supposal", name := "facesAtFirst", desc := "(LWidowRoads$Colony;I)I" } : Jvm.MethodName) "WidowRoads" ∈ tables_1 := List.mem_of_getElem? (i := 604) (by decide +kernel)
theorem nw_608 : Jvm.Cond.methodLinkNest "WidowRoads$Story" (108 : Nat) ({ cls := "WidowRoads", name := "bit", desc := "(I)J" } : Jvm.MethodName) "WidowRoads" ∈ tables_1 := List.mem_of_getElem? (i := 608) (by decide +kernel)
theorem nw_609 : Jvm.Cond.methodLinkNest "WidowRoads$Story" (115 : Nat) ({ cls := "WidowRoads$Supposal", name := "turnOf", desc := "(LWidowRoads$Colony;II)I" } : Jvm.MethodName) "WidowRoads" ∈ tables_1 := List.mem_of_getElem? (i := 609) (by decide +kernel)
theorem nw_619 : Jvm.Cond.methodLinkNest "WidowRoads$Story" (134 : Nat) ({ cls := "WidowRoads", name := "beside", desc := "(II)I" } : Jvm.MethodName) "WidowRoads" ∈ tables_1 := List.mem_of_getElem? (i := 619) (by decide +kernel)
theorem nw_622 : Jvm.Cond.methodLinkNest "WidowRoads$Story" (138 : Nat) ({ cls := "WidowRoads", name := "has", desc := "(JI)Z" } : Jvm.MethodName) "WidowRoads" ∈ tables_1 := List.mem_of_getElem? (i := 622) (by decide +kernel)
theorem nw_636 : Jvm.Cond.methodLinkNest "WidowRoads$Story" (150 : Nat) ({ cls := "WidowRoads", name := "leastOf", desc := "(J)I" } : Jvm.MethodName) "WidowRoads" ∈ tables_1 := List.mem_of_getElem? (i := 636) (by decide +kernel)
theorem nw_719 : Jvm.Cond.methodLinkNest "WidowRoads$Story" (154 : Nat) ({ cls := "WidowRoads", name := "oneIf", desc := "(Z)I" } : Jvm.MethodName) "WidowRoads" ∈ tables_1 := List.mem_of_getElem? (i := 719) (by decide +kernel)
theorem hd_X0_field : yX0_field.cls ≠ "java/lang/invoke/MethodHandle" ∧ yX0_field.cls ≠ "java/lang/invoke/VarHandle" ∧ (parseMethodDescriptor yX0_field.desc).map (fun d => d.parameters.length) = some 0 := by decide +kernel
theorem hd_X6_begin : yX6_begin.cls ≠ "java/lang/invoke/MethodHandle" ∧ yX6_begin.cls ≠ "java/lang/invoke/VarHandle" ∧ (parseMethodDescriptor yX6_begin.desc).map (fun d => d.parameters.length) = some 1 := by decide +kernel
theorem hd_X6_copyYear : yX6_copyYear.cls ≠ "java/lang/invoke/MethodHandle" ∧ yX6_copyYear.cls ≠ "java/lang/invoke/VarHandle" ∧ (parseMethodDescriptor yX6_copyYear.desc).map (fun d => d.parameters.length) = some 1 := by decide +kernel
theorem hd_X6_firstWay : yX6_firstWay.cls ≠ "java/lang/invoke/MethodHandle" ∧ yX6_firstWay.cls ≠ "java/lang/invoke/VarHandle" ∧ (parseMethodDescriptor yX6_firstWay.desc).map (fun d => d.parameters.length) = some 3 := by decide +kernel
theorem hd_X6_homeBits : yX6_homeBits.cls ≠ "java/lang/invoke/MethodHandle" ∧ yX6_homeBits.cls ≠ "java/lang/invoke/VarHandle" ∧ (parseMethodDescriptor yX6_homeBits.desc).map (fun d => d.parameters.length) = some 1 := by decide +kernel
theorem hd_X6_moveHouses : yX6_moveHouses.cls ≠ "java/lang/invoke/MethodHandle" ∧ yX6_moveHouses.cls ≠ "java/lang/invoke/VarHandle" ∧ (parseMethodDescriptor yX6_moveHouses.desc).map (fun d => d.parameters.length) = some 3 := by decide +kernel
theorem hd_X6_peg : yX6_peg.cls ≠ "java/lang/invoke/MethodHandle" ∧ yX6_peg.cls ≠ "java/lang/invoke/VarHandle" ∧ (parseMethodDescriptor yX6_peg.desc).map (fun d => d.parameters.length) = some 3 := by decide +kernel
theorem hd_X6_walk : yX6_walk.cls ≠ "java/lang/invoke/MethodHandle" ∧ yX6_walk.cls ≠ "java/lang/invoke/VarHandle" ∧ (parseMethodDescriptor yX6_walk.desc).map (fun d => d.parameters.length) = some 4 := by decide +kernel
theorem hd_X6_wished : yX6_wished.cls ≠ "java/lang/invoke/MethodHandle" ∧ yX6_wished.cls ≠ "java/lang/invoke/VarHandle" ∧ (parseMethodDescriptor yX6_wished.desc).map (fun d => d.parameters.length) = some 4 := by decide +kernel
theorem hd_X7_facesAtFirst : yX7_facesAtFirst.cls ≠ "java/lang/invoke/MethodHandle" ∧ yX7_facesAtFirst.cls ≠ "java/lang/invoke/VarHandle" ∧ (parseMethodDescriptor yX7_facesAtFirst.desc).map (fun d => d.parameters.length) = some 2 := by decide +kernel
theorem hd_X7_turnOf : yX7_turnOf.cls ≠ "java/lang/invoke/MethodHandle" ∧ yX7_turnOf.cls ≠ "java/lang/invoke/VarHandle" ∧ (parseMethodDescriptor yX7_turnOf.desc).map (fun d => d.parameters.length) = some 3 := by decide +kernel
theorem hd_X9_has : yX9_has.cls ≠ "java/lang/invoke/MethodHandle" ∧ yX9_has.cls ≠ "java/lang/invoke/VarHandle" ∧ (parseMethodDescriptor yX9_has.desc).map (fun d => d.parameters.length) = some 2 := by decide +kernel
theorem hd_X9_leastOf : yX9_leastOf.cls ≠ "java/lang/invoke/MethodHandle" ∧ yX9_leastOf.cls ≠ "java/lang/invoke/VarHandle" ∧ (parseMethodDescriptor yX9_leastOf.desc).map (fun d => d.parameters.length) = some 1 := by decide +kernel
theorem hd_X9_oneIf : yX9_oneIf.cls ≠ "java/lang/invoke/MethodHandle" ∧ yX9_oneIf.cls ≠ "java/lang/invoke/VarHandle" ∧ (parseMethodDescriptor yX9_oneIf.desc).map (fun d => d.parameters.length) = some 1 := by decide +kernel
theorem ki_2 : (2 : Int32).toInt = 2 := by decide
theorem ki_3 : (3 : Int32).toInt = 3 := by decide
theorem ki_41 : (41 : Int32).toInt = 41 := by decide
theorem dX6_allShifts_0 : decode cX6_allShifts 0 = .ok (.iconst 0, 1) := by decide +kernel
theorem dX6_allShifts_1 : decode cX6_allShifts 1 = .ok (.istore_n 1, 1) := by decide +kernel
theorem dX6_allShifts_2 : decode cX6_allShifts 2 = .ok (.iconst 0, 1) := by decide +kernel
theorem dX6_allShifts_3 : decode cX6_allShifts 3 = .ok (.istore_n 2, 1) := by decide +kernel
theorem dX6_allShifts_4 : decode cX6_allShifts 4 = .ok (.iload_n 2, 1) := by decide +kernel
theorem dX6_allShifts_5 : decode cX6_allShifts 5 = .ok (.aload_n 0, 1) := by decide +kernel
theorem dX6_allShifts_6 : decode cX6_allShifts 6 = .ok (.getfield 86, 3) := by decide +kernel
theorem dX6_allShifts_9 : decode cX6_allShifts 9 = .ok (.if_icmp .ge 18, 3) := by decide +kernel
theorem dX6_allShifts_12 : decode cX6_allShifts 12 = .ok (.iload_n 1, 1) := by decide +kernel
theorem dX6_allShifts_13 : decode cX6_allShifts 13 = .ok (.aload_n 0, 1) := by decide +kernel
theorem dX6_allShifts_14 : decode cX6_allShifts 14 = .ok (.getfield 28, 3) := by decide +kernel
theorem dX6_allShifts_17 : decode cX6_allShifts 17 = .ok (.iload_n 2, 1) := by decide +kernel
theorem dX6_allShifts_18 : decode cX6_allShifts 18 = .ok (.iaload, 1) := by decide +kernel
theorem dX6_allShifts_19 : decode cX6_allShifts 19 = .ok (.iadd, 1) := by decide +kernel
theorem dX6_allShifts_20 : decode cX6_allShifts 20 = .ok (.istore_n 1, 1) := by decide +kernel
theorem dX6_allShifts_21 : decode cX6_allShifts 21 = .ok (.iinc 2 1, 3) := by decide +kernel
theorem dX6_allShifts_24 : decode cX6_allShifts 24 = .ok (.goto (-20), 3) := by decide +kernel
theorem dX6_allShifts_27 : decode cX6_allShifts 27 = .ok (.iload_n 1, 1) := by decide +kernel
theorem dX6_allShifts_28 : decode cX6_allShifts 28 = .ok (.ireturn, 1) := by decide +kernel
theorem dX6_begin_0 : decode cX6_begin 0 = .ok (.aload_n 0, 1) := by decide +kernel
theorem dX6_begin_1 : decode cX6_begin 1 = .ok (.aload_n 1, 1) := by decide +kernel
theorem dX6_begin_2 : decode cX6_begin 2 = .ok (.invokevirtual 76, 3) := by decide +kernel
theorem dX6_begin_5 : decode cX6_begin 5 = .ok (.putfield 80, 3) := by decide +kernel
theorem dX6_begin_8 : decode cX6_begin 8 = .ok (.aload_n 0, 1) := by decide +kernel
theorem dX6_begin_9 : decode cX6_begin 9 = .ok (.aload_n 1, 1) := by decide +kernel
theorem dX6_begin_10 : decode cX6_begin 10 = .ok (.getfield 83, 3) := by decide +kernel
theorem dX6_begin_13 : decode cX6_begin 13 = .ok (.putfield 86, 3) := by decide +kernel
theorem dX6_begin_16 : decode cX6_begin 16 = .ok (.aload_n 0, 1) := by decide +kernel
theorem dX6_begin_17 : decode cX6_begin 17 = .ok (.getfield 34, 3) := by decide +kernel
theorem dX6_begin_20 : decode cX6_begin 20 = .ok (.iconst 0, 1) := by decide +kernel
theorem dX6_begin_21 : decode cX6_begin 21 = .ok (.lconst 0, 1) := by decide +kernel
theorem dX6_begin_22 : decode cX6_begin 22 = .ok (.lastore, 1) := by decide +kernel
theorem dX6_begin_23 : decode cX6_begin 23 = .ok (.aload_n 0, 1) := by decide +kernel
theorem dX6_begin_24 : decode cX6_begin 24 = .ok (.getfield 37, 3) := by decide +kernel
theorem dX6_begin_27 : decode cX6_begin 27 = .ok (.iconst 0, 1) := by decide +kernel
theorem dX6_begin_28 : decode cX6_begin 28 = .ok (.lconst 0, 1) := by decide +kernel
theorem dX6_begin_29 : decode cX6_begin 29 = .ok (.lastore, 1) := by decide +kernel
theorem dX6_begin_30 : decode cX6_begin 30 = .ok (.aload_n 0, 1) := by decide +kernel
theorem dX6_begin_31 : decode cX6_begin 31 = .ok (.getfield 40, 3) := by decide +kernel
theorem dX6_begin_34 : decode cX6_begin 34 = .ok (.iconst 0, 1) := by decide +kernel
theorem dX6_begin_35 : decode cX6_begin 35 = .ok (.lconst 0, 1) := by decide +kernel
theorem dX6_begin_36 : decode cX6_begin 36 = .ok (.lastore, 1) := by decide +kernel
theorem dX6_begin_37 : decode cX6_begin 37 = .ok (.iconst 0, 1) := by decide +kernel
theorem dX6_begin_38 : decode cX6_begin 38 = .ok (.istore_n 2, 1) := by decide +kernel
theorem dX6_begin_39 : decode cX6_begin 39 = .ok (.iload_n 2, 1) := by decide +kernel
theorem dX6_begin_40 : decode cX6_begin 40 = .ok (.bipush 7, 2) := by decide +kernel
theorem dX6_begin_42 : decode cX6_begin 42 = .ok (.if_icmp .ge 37, 3) := by decide +kernel
theorem dX6_begin_45 : decode cX6_begin 45 = .ok (.aload_n 0, 1) := by decide +kernel
theorem dX6_begin_46 : decode cX6_begin 46 = .ok (.getfield 15, 3) := by decide +kernel
theorem dX6_begin_49 : decode cX6_begin 49 = .ok (.iload_n 2, 1) := by decide +kernel
theorem dX6_begin_50 : decode cX6_begin 50 = .ok (.iconst (-1), 1) := by decide +kernel
theorem dX6_begin_51 : decode cX6_begin 51 = .ok (.iastore, 1) := by decide +kernel
theorem dX6_begin_52 : decode cX6_begin 52 = .ok (.aload_n 0, 1) := by decide +kernel
theorem dX6_begin_53 : decode cX6_begin 53 = .ok (.getfield 18, 3) := by decide +kernel
theorem dX6_begin_56 : decode cX6_begin 56 = .ok (.iload_n 2, 1) := by decide +kernel
theorem dX6_begin_57 : decode cX6_begin 57 = .ok (.iconst 0, 1) := by decide +kernel
theorem dX6_begin_58 : decode cX6_begin 58 = .ok (.iastore, 1) := by decide +kernel
theorem dX6_begin_59 : decode cX6_begin 59 = .ok (.aload_n 0, 1) := by decide +kernel
theorem dX6_begin_60 : decode cX6_begin 60 = .ok (.getfield 21, 3) := by decide +kernel
theorem dX6_begin_63 : decode cX6_begin 63 = .ok (.iload_n 2, 1) := by decide +kernel
theorem dX6_begin_64 : decode cX6_begin 64 = .ok (.lconst 0, 1) := by decide +kernel
theorem dX6_begin_65 : decode cX6_begin 65 = .ok (.lastore, 1) := by decide +kernel
theorem dX6_begin_66 : decode cX6_begin 66 = .ok (.aload_n 0, 1) := by decide +kernel
theorem dX6_begin_67 : decode cX6_begin 67 = .ok (.getfield 25, 3) := by decide +kernel
theorem dX6_begin_70 : decode cX6_begin 70 = .ok (.iload_n 2, 1) := by decide +kernel
theorem dX6_begin_71 : decode cX6_begin 71 = .ok (.iconst 0, 1) := by decide +kernel
theorem dX6_begin_72 : decode cX6_begin 72 = .ok (.iastore, 1) := by decide +kernel
theorem dX6_begin_73 : decode cX6_begin 73 = .ok (.iinc 2 1, 3) := by decide +kernel
theorem dX6_begin_76 : decode cX6_begin 76 = .ok (.goto (-37), 3) := by decide +kernel
theorem dX6_begin_79 : decode cX6_begin 79 = .ok (.iconst 0, 1) := by decide +kernel
theorem dX6_begin_80 : decode cX6_begin 80 = .ok (.istore_n 2, 1) := by decide +kernel
theorem dX6_begin_81 : decode cX6_begin 81 = .ok (.iload_n 2, 1) := by decide +kernel
theorem dX6_begin_82 : decode cX6_begin 82 = .ok (.bipush 6, 2) := by decide +kernel
theorem dX6_begin_84 : decode cX6_begin 84 = .ok (.if_icmp .ge 40, 3) := by decide +kernel
theorem dX6_begin_87 : decode cX6_begin 87 = .ok (.aload_n 0, 1) := by decide +kernel
theorem dX6_begin_88 : decode cX6_begin 88 = .ok (.getfield 31, 3) := by decide +kernel
theorem dX6_begin_91 : decode cX6_begin 91 = .ok (.iload_n 2, 1) := by decide +kernel
theorem dX6_begin_92 : decode cX6_begin 92 = .ok (.iload_n 2, 1) := by decide +kernel
theorem dX6_begin_93 : decode cX6_begin 93 = .ok (.aload_n 0, 1) := by decide +kernel
theorem dX6_begin_94 : decode cX6_begin 94 = .ok (.getfield 86, 3) := by decide +kernel
theorem dX6_begin_97 : decode cX6_begin 97 = .ok (.if_icmp .ge 12, 3) := by decide +kernel
theorem dX6_begin_100 : decode cX6_begin 100 = .ok (.aload_n 1, 1) := by decide +kernel
theorem dX6_begin_101 : decode cX6_begin 101 = .ok (.getfield 87, 3) := by decide +kernel
theorem dX6_begin_104 : decode cX6_begin 104 = .ok (.iload_n 2, 1) := by decide +kernel
theorem dX6_begin_105 : decode cX6_begin 105 = .ok (.iaload, 1) := by decide +kernel
theorem dX6_begin_106 : decode cX6_begin 106 = .ok (.goto 4, 3) := by decide +kernel
theorem dX6_begin_109 : decode cX6_begin 109 = .ok (.iconst (-1), 1) := by decide +kernel
theorem dX6_begin_110 : decode cX6_begin 110 = .ok (.iastore, 1) := by decide +kernel
theorem dX6_begin_111 : decode cX6_begin 111 = .ok (.aload_n 0, 1) := by decide +kernel
theorem dX6_begin_112 : decode cX6_begin 112 = .ok (.getfield 28, 3) := by decide +kernel
theorem dX6_begin_115 : decode cX6_begin 115 = .ok (.iload_n 2, 1) := by decide +kernel
theorem dX6_begin_116 : decode cX6_begin 116 = .ok (.iconst 0, 1) := by decide +kernel
theorem dX6_begin_117 : decode cX6_begin 117 = .ok (.iastore, 1) := by decide +kernel
theorem dX6_begin_118 : decode cX6_begin 118 = .ok (.iinc 2 1, 3) := by decide +kernel
theorem dX6_begin_121 : decode cX6_begin 121 = .ok (.goto (-40), 3) := by decide +kernel
theorem dX6_begin_124 : decode cX6_begin 124 = .ok (.return_, 1) := by decide +kernel
theorem dX6_copyYear_0 : decode cX6_copyYear 0 = .ok (.aload_n 0, 1) := by decide +kernel
theorem dX6_copyYear_1 : decode cX6_copyYear 1 = .ok (.getfield 34, 3) := by decide +kernel
theorem dX6_copyYear_4 : decode cX6_copyYear 4 = .ok (.iload_n 1, 1) := by decide +kernel
theorem dX6_copyYear_5 : decode cX6_copyYear 5 = .ok (.iconst 1, 1) := by decide +kernel
theorem dX6_copyYear_6 : decode cX6_copyYear 6 = .ok (.iadd, 1) := by decide +kernel
theorem dX6_copyYear_7 : decode cX6_copyYear 7 = .ok (.aload_n 0, 1) := by decide +kernel
theorem dX6_copyYear_8 : decode cX6_copyYear 8 = .ok (.getfield 34, 3) := by decide +kernel
theorem dX6_copyYear_11 : decode cX6_copyYear 11 = .ok (.iload_n 1, 1) := by decide +kernel
theorem dX6_copyYear_12 : decode cX6_copyYear 12 = .ok (.laload, 1) := by decide +kernel
theorem dX6_copyYear_13 : decode cX6_copyYear 13 = .ok (.lastore, 1) := by decide +kernel
theorem dX6_copyYear_14 : decode cX6_copyYear 14 = .ok (.aload_n 0, 1) := by decide +kernel
theorem dX6_copyYear_15 : decode cX6_copyYear 15 = .ok (.getfield 37, 3) := by decide +kernel
theorem dX6_copyYear_18 : decode cX6_copyYear 18 = .ok (.iload_n 1, 1) := by decide +kernel
theorem dX6_copyYear_19 : decode cX6_copyYear 19 = .ok (.iconst 1, 1) := by decide +kernel
theorem dX6_copyYear_20 : decode cX6_copyYear 20 = .ok (.iadd, 1) := by decide +kernel
theorem dX6_copyYear_21 : decode cX6_copyYear 21 = .ok (.aload_n 0, 1) := by decide +kernel
theorem dX6_copyYear_22 : decode cX6_copyYear 22 = .ok (.getfield 37, 3) := by decide +kernel
theorem dX6_copyYear_25 : decode cX6_copyYear 25 = .ok (.iload_n 1, 1) := by decide +kernel
theorem dX6_copyYear_26 : decode cX6_copyYear 26 = .ok (.laload, 1) := by decide +kernel
theorem dX6_copyYear_27 : decode cX6_copyYear 27 = .ok (.lastore, 1) := by decide +kernel
theorem dX6_copyYear_28 : decode cX6_copyYear 28 = .ok (.aload_n 0, 1) := by decide +kernel
theorem dX6_copyYear_29 : decode cX6_copyYear 29 = .ok (.getfield 40, 3) := by decide +kernel
theorem dX6_copyYear_32 : decode cX6_copyYear 32 = .ok (.iload_n 1, 1) := by decide +kernel
theorem dX6_copyYear_33 : decode cX6_copyYear 33 = .ok (.iconst 1, 1) := by decide +kernel
theorem dX6_copyYear_34 : decode cX6_copyYear 34 = .ok (.iadd, 1) := by decide +kernel
theorem dX6_copyYear_35 : decode cX6_copyYear 35 = .ok (.aload_n 0, 1) := by decide +kernel
theorem dX6_copyYear_36 : decode cX6_copyYear 36 = .ok (.getfield 40, 3) := by decide +kernel
theorem dX6_copyYear_39 : decode cX6_copyYear 39 = .ok (.iload_n 1, 1) := by decide +kernel
theorem dX6_copyYear_40 : decode cX6_copyYear 40 = .ok (.laload, 1) := by decide +kernel
theorem dX6_copyYear_41 : decode cX6_copyYear 41 = .ok (.lastore, 1) := by decide +kernel
theorem dX6_copyYear_42 : decode cX6_copyYear 42 = .ok (.aload_n 0, 1) := by decide +kernel
theorem dX6_copyYear_43 : decode cX6_copyYear 43 = .ok (.getfield 31, 3) := by decide +kernel
theorem dX6_copyYear_46 : decode cX6_copyYear 46 = .ok (.iload_n 1, 1) := by decide +kernel
theorem dX6_copyYear_47 : decode cX6_copyYear 47 = .ok (.bipush 6, 2) := by decide +kernel
theorem dX6_copyYear_49 : decode cX6_copyYear 49 = .ok (.imul, 1) := by decide +kernel
theorem dX6_copyYear_50 : decode cX6_copyYear 50 = .ok (.aload_n 0, 1) := by decide +kernel
theorem dX6_copyYear_51 : decode cX6_copyYear 51 = .ok (.getfield 31, 3) := by decide +kernel
theorem dX6_copyYear_54 : decode cX6_copyYear 54 = .ok (.iload_n 1, 1) := by decide +kernel
theorem dX6_copyYear_55 : decode cX6_copyYear 55 = .ok (.iconst 1, 1) := by decide +kernel
theorem dX6_copyYear_56 : decode cX6_copyYear 56 = .ok (.iadd, 1) := by decide +kernel
theorem dX6_copyYear_57 : decode cX6_copyYear 57 = .ok (.bipush 6, 2) := by decide +kernel
theorem dX6_copyYear_59 : decode cX6_copyYear 59 = .ok (.imul, 1) := by decide +kernel
theorem dX6_copyYear_60 : decode cX6_copyYear 60 = .ok (.bipush 6, 2) := by decide +kernel
theorem dX6_copyYear_62 : decode cX6_copyYear 62 = .ok (.invokestatic 90, 3) := by decide +kernel
theorem dX6_copyYear_65 : decode cX6_copyYear 65 = .ok (.return_, 1) := by decide +kernel
theorem dX6_firstWay_0 : decode cX6_firstWay 0 = .ok (.iconst 0, 1) := by decide +kernel
theorem dX6_firstWay_1 : decode cX6_firstWay 1 = .ok (.istore 4, 2) := by decide +kernel
theorem dX6_firstWay_3 : decode cX6_firstWay 3 = .ok (.iload 4, 2) := by decide +kernel
theorem dX6_firstWay_5 : decode cX6_firstWay 5 = .ok (.iconst 4, 1) := by decide +kernel
theorem dX6_firstWay_6 : decode cX6_firstWay 6 = .ok (.if_icmp .ge 43, 3) := by decide +kernel
theorem dX6_firstWay_9 : decode cX6_firstWay 9 = .ok (.iload_n 1, 1) := by decide +kernel
theorem dX6_firstWay_10 : decode cX6_firstWay 10 = .ok (.iload 4, 2) := by decide +kernel
theorem dX6_firstWay_12 : decode cX6_firstWay 12 = .ok (.iadd, 1) := by decide +kernel
theorem dX6_firstWay_13 : decode cX6_firstWay 13 = .ok (.iconst 3, 1) := by decide +kernel
theorem dX6_firstWay_14 : decode cX6_firstWay 14 = .ok (.iand, 1) := by decide +kernel
theorem dX6_firstWay_15 : decode cX6_firstWay 15 = .ok (.istore 5, 2) := by decide +kernel
theorem dX6_firstWay_17 : decode cX6_firstWay 17 = .ok (.iload_n 0, 1) := by decide +kernel
theorem dX6_firstWay_18 : decode cX6_firstWay 18 = .ok (.iload 5, 2) := by decide +kernel
theorem dX6_firstWay_20 : decode cX6_firstWay 20 = .ok (.invokestatic 134, 3) := by decide +kernel
theorem dX6_firstWay_23 : decode cX6_firstWay 23 = .ok (.istore 6, 2) := by decide +kernel
theorem dX6_firstWay_25 : decode cX6_firstWay 25 = .ok (.iload 6, 2) := by decide +kernel
theorem dX6_firstWay_27 : decode cX6_firstWay 27 = .ok (.iconst (-1), 1) := by decide +kernel
theorem dX6_firstWay_28 : decode cX6_firstWay 28 = .ok (.if_icmp .eq 15, 3) := by decide +kernel
theorem dX6_firstWay_31 : decode cX6_firstWay 31 = .ok (.lload_n 2, 1) := by decide +kernel
theorem dX6_firstWay_32 : decode cX6_firstWay 32 = .ok (.iload 6, 2) := by decide +kernel
theorem dX6_firstWay_34 : decode cX6_firstWay 34 = .ok (.invokestatic 138, 3) := by decide +kernel
theorem dX6_firstWay_37 : decode cX6_firstWay 37 = .ok (.ifCond .eq 6, 3) := by decide +kernel
theorem dX6_firstWay_40 : decode cX6_firstWay 40 = .ok (.iload 5, 2) := by decide +kernel
theorem dX6_firstWay_42 : decode cX6_firstWay 42 = .ok (.ireturn, 1) := by decide +kernel
theorem dX6_firstWay_43 : decode cX6_firstWay 43 = .ok (.iinc 4 1, 3) := by decide +kernel
theorem dX6_firstWay_46 : decode cX6_firstWay 46 = .ok (.goto (-43), 3) := by decide +kernel
theorem dX6_firstWay_49 : decode cX6_firstWay 49 = .ok (.iconst (-1), 1) := by decide +kernel
theorem dX6_firstWay_50 : decode cX6_firstWay 50 = .ok (.ireturn, 1) := by decide +kernel
theorem dX6_gainOf_0 : decode cX6_gainOf 0 = .ok (.aload_n 0, 1) := by decide +kernel
theorem dX6_gainOf_1 : decode cX6_gainOf 1 = .ok (.getfield 21, 3) := by decide +kernel
theorem dX6_gainOf_4 : decode cX6_gainOf 4 = .ok (.iload_n 1, 1) := by decide +kernel
theorem dX6_gainOf_5 : decode cX6_gainOf 5 = .ok (.laload, 1) := by decide +kernel
theorem dX6_gainOf_6 : decode cX6_gainOf 6 = .ok (.invokestatic 158, 3) := by decide +kernel
theorem dX6_gainOf_9 : decode cX6_gainOf 9 = .ok (.iconst 2, 1) := by decide +kernel
theorem dX6_gainOf_10 : decode cX6_gainOf 10 = .ok (.aload_n 0, 1) := by decide +kernel
theorem dX6_gainOf_11 : decode cX6_gainOf 11 = .ok (.getfield 25, 3) := by decide +kernel
theorem dX6_gainOf_14 : decode cX6_gainOf 14 = .ok (.iload_n 1, 1) := by decide +kernel
theorem dX6_gainOf_15 : decode cX6_gainOf 15 = .ok (.iaload, 1) := by decide +kernel
theorem dX6_gainOf_16 : decode cX6_gainOf 16 = .ok (.imul, 1) := by decide +kernel
theorem dX6_gainOf_17 : decode cX6_gainOf 17 = .ok (.isub, 1) := by decide +kernel
theorem dX6_gainOf_18 : decode cX6_gainOf 18 = .ok (.ireturn, 1) := by decide +kernel
theorem dX6_homeBits_0 : decode cX6_homeBits 0 = .ok (.lconst 0, 1) := by decide +kernel
theorem dX6_homeBits_1 : decode cX6_homeBits 1 = .ok (.lstore_n 2, 1) := by decide +kernel
theorem dX6_homeBits_2 : decode cX6_homeBits 2 = .ok (.iconst 0, 1) := by decide +kernel
theorem dX6_homeBits_3 : decode cX6_homeBits 3 = .ok (.istore 4, 2) := by decide +kernel
theorem dX6_homeBits_5 : decode cX6_homeBits 5 = .ok (.iload 4, 2) := by decide +kernel
theorem dX6_homeBits_7 : decode cX6_homeBits 7 = .ok (.aload_n 0, 1) := by decide +kernel
theorem dX6_homeBits_8 : decode cX6_homeBits 8 = .ok (.getfield 86, 3) := by decide +kernel
theorem dX6_homeBits_11 : decode cX6_homeBits 11 = .ok (.if_icmp .ge 37, 3) := by decide +kernel
theorem dX6_homeBits_14 : decode cX6_homeBits 14 = .ok (.aload_n 0, 1) := by decide +kernel
theorem dX6_homeBits_15 : decode cX6_homeBits 15 = .ok (.getfield 31, 3) := by decide +kernel
theorem dX6_homeBits_18 : decode cX6_homeBits 18 = .ok (.iload_n 1, 1) := by decide +kernel
theorem dX6_homeBits_19 : decode cX6_homeBits 19 = .ok (.bipush 6, 2) := by decide +kernel
theorem dX6_homeBits_21 : decode cX6_homeBits 21 = .ok (.imul, 1) := by decide +kernel
theorem dX6_homeBits_22 : decode cX6_homeBits 22 = .ok (.iload 4, 2) := by decide +kernel
theorem dX6_homeBits_24 : decode cX6_homeBits 24 = .ok (.iadd, 1) := by decide +kernel
theorem dX6_homeBits_25 : decode cX6_homeBits 25 = .ok (.iaload, 1) := by decide +kernel
theorem dX6_homeBits_26 : decode cX6_homeBits 26 = .ok (.istore 5, 2) := by decide +kernel
theorem dX6_homeBits_28 : decode cX6_homeBits 28 = .ok (.iload 5, 2) := by decide +kernel
theorem dX6_homeBits_30 : decode cX6_homeBits 30 = .ok (.iconst (-1), 1) := by decide +kernel
theorem dX6_homeBits_31 : decode cX6_homeBits 31 = .ok (.if_icmp .eq 11, 3) := by decide +kernel
theorem dX6_homeBits_34 : decode cX6_homeBits 34 = .ok (.lload_n 2, 1) := by decide +kernel
theorem dX6_homeBits_35 : decode cX6_homeBits 35 = .ok (.iload 5, 2) := by decide +kernel
theorem dX6_homeBits_37 : decode cX6_homeBits 37 = .ok (.invokestatic 108, 3) := by decide +kernel
theorem dX6_homeBits_40 : decode cX6_homeBits 40 = .ok (.lor, 1) := by decide +kernel
theorem dX6_homeBits_41 : decode cX6_homeBits 41 = .ok (.lstore_n 2, 1) := by decide +kernel
theorem dX6_homeBits_42 : decode cX6_homeBits 42 = .ok (.iinc 4 1, 3) := by decide +kernel
theorem dX6_homeBits_45 : decode cX6_homeBits 45 = .ok (.goto (-40), 3) := by decide +kernel
theorem dX6_homeBits_48 : decode cX6_homeBits 48 = .ok (.lload_n 2, 1) := by decide +kernel
theorem dX6_homeBits_49 : decode cX6_homeBits 49 = .ok (.lreturn, 1) := by decide +kernel
theorem dX6_moveHouses_0 : decode cX6_moveHouses 0 = .ok (.iconst 0, 1) := by decide +kernel
theorem dX6_moveHouses_1 : decode cX6_moveHouses 1 = .ok (.istore 4, 2) := by decide +kernel
theorem dX6_moveHouses_3 : decode cX6_moveHouses 3 = .ok (.iload 4, 2) := by decide +kernel
theorem dX6_moveHouses_5 : decode cX6_moveHouses 5 = .ok (.aload_n 0, 1) := by decide +kernel
theorem dX6_moveHouses_6 : decode cX6_moveHouses 6 = .ok (.getfield 86, 3) := by decide +kernel
theorem dX6_moveHouses_9 : decode cX6_moveHouses 9 = .ok (.if_icmp .ge 128, 3) := by decide +kernel
theorem dX6_moveHouses_12 : decode cX6_moveHouses 12 = .ok (.iload_n 3, 1) := by decide +kernel
theorem dX6_moveHouses_13 : decode cX6_moveHouses 13 = .ok (.bipush 6, 2) := by decide +kernel
theorem dX6_moveHouses_15 : decode cX6_moveHouses 15 = .ok (.imul, 1) := by decide +kernel
theorem dX6_moveHouses_16 : decode cX6_moveHouses 16 = .ok (.iload 4, 2) := by decide +kernel
theorem dX6_moveHouses_18 : decode cX6_moveHouses 18 = .ok (.iadd, 1) := by decide +kernel
theorem dX6_moveHouses_19 : decode cX6_moveHouses 19 = .ok (.istore 5, 2) := by decide +kernel
theorem dX6_moveHouses_21 : decode cX6_moveHouses 21 = .ok (.aload_n 0, 1) := by decide +kernel
theorem dX6_moveHouses_22 : decode cX6_moveHouses 22 = .ok (.getfield 31, 3) := by decide +kernel
theorem dX6_moveHouses_25 : decode cX6_moveHouses 25 = .ok (.iload 5, 2) := by decide +kernel
theorem dX6_moveHouses_27 : decode cX6_moveHouses 27 = .ok (.iaload, 1) := by decide +kernel
theorem dX6_moveHouses_28 : decode cX6_moveHouses 28 = .ok (.iconst (-1), 1) := by decide +kernel
theorem dX6_moveHouses_29 : decode cX6_moveHouses 29 = .ok (.if_icmp .eq 102, 3) := by decide +kernel
theorem dX6_moveHouses_32 : decode cX6_moveHouses 32 = .ok (.aload_n 0, 1) := by decide +kernel
theorem dX6_moveHouses_33 : decode cX6_moveHouses 33 = .ok (.getfield 21, 3) := by decide +kernel
theorem dX6_moveHouses_36 : decode cX6_moveHouses 36 = .ok (.iload_n 2, 1) := by decide +kernel
theorem dX6_moveHouses_37 : decode cX6_moveHouses 37 = .ok (.laload, 1) := by decide +kernel
theorem dX6_moveHouses_38 : decode cX6_moveHouses 38 = .ok (.aload_n 0, 1) := by decide +kernel
theorem dX6_moveHouses_39 : decode cX6_moveHouses 39 = .ok (.getfield 31, 3) := by decide +kernel
theorem dX6_moveHouses_42 : decode cX6_moveHouses 42 = .ok (.iload 5, 2) := by decide +kernel
theorem dX6_moveHouses_44 : decode cX6_moveHouses 44 = .ok (.iaload, 1) := by decide +kernel
theorem dX6_moveHouses_45 : decode cX6_moveHouses 45 = .ok (.invokestatic 138, 3) := by decide +kernel
theorem dX6_moveHouses_48 : decode cX6_moveHouses 48 = .ok (.ifCond .eq 83, 3) := by decide +kernel
theorem dX6_moveHouses_51 : decode cX6_moveHouses 51 = .ok (.aload_n 0, 1) := by decide +kernel
theorem dX6_moveHouses_52 : decode cX6_moveHouses 52 = .ok (.getfield 80, 3) := by decide +kernel
theorem dX6_moveHouses_55 : decode cX6_moveHouses 55 = .ok (.aload_n 1, 1) := by decide +kernel
theorem dX6_moveHouses_56 : decode cX6_moveHouses 56 = .ok (.getfield 96, 3) := by decide +kernel
theorem dX6_moveHouses_59 : decode cX6_moveHouses 59 = .ok (.ldc2_w 99, 3) := by decide +kernel
theorem dX6_moveHouses_62 : decode cX6_moveHouses 62 = .ok (.lxor, 1) := by decide +kernel
theorem dX6_moveHouses_63 : decode cX6_moveHouses 63 = .ok (.land, 1) := by decide +kernel
theorem dX6_moveHouses_64 : decode cX6_moveHouses 64 = .ok (.aload_n 0, 1) := by decide +kernel
theorem dX6_moveHouses_65 : decode cX6_moveHouses 65 = .ok (.getfield 34, 3) := by decide +kernel
theorem dX6_moveHouses_68 : decode cX6_moveHouses 68 = .ok (.iload_n 3, 1) := by decide +kernel
theorem dX6_moveHouses_69 : decode cX6_moveHouses 69 = .ok (.laload, 1) := by decide +kernel
theorem dX6_moveHouses_70 : decode cX6_moveHouses 70 = .ok (.ldc2_w 99, 3) := by decide +kernel
theorem dX6_moveHouses_73 : decode cX6_moveHouses 73 = .ok (.lxor, 1) := by decide +kernel
theorem dX6_moveHouses_74 : decode cX6_moveHouses 74 = .ok (.land, 1) := by decide +kernel
theorem dX6_moveHouses_75 : decode cX6_moveHouses 75 = .ok (.aload_n 0, 1) := by decide +kernel
theorem dX6_moveHouses_76 : decode cX6_moveHouses 76 = .ok (.iload_n 3, 1) := by decide +kernel
theorem dX6_moveHouses_77 : decode cX6_moveHouses 77 = .ok (.invokevirtual 147, 3) := by decide +kernel
theorem dX6_moveHouses_80 : decode cX6_moveHouses 80 = .ok (.ldc2_w 99, 3) := by decide +kernel
theorem dX6_moveHouses_83 : decode cX6_moveHouses 83 = .ok (.lxor, 1) := by decide +kernel
theorem dX6_moveHouses_84 : decode cX6_moveHouses 84 = .ok (.land, 1) := by decide +kernel
theorem dX6_moveHouses_85 : decode cX6_moveHouses 85 = .ok (.lstore 6, 2) := by decide +kernel
theorem dX6_moveHouses_87 : decode cX6_moveHouses 87 = .ok (.aload_n 0, 1) := by decide +kernel
theorem dX6_moveHouses_88 : decode cX6_moveHouses 88 = .ok (.getfield 31, 3) := by decide +kernel
theorem dX6_moveHouses_91 : decode cX6_moveHouses 91 = .ok (.iload 5, 2) := by decide +kernel
theorem dX6_moveHouses_93 : decode cX6_moveHouses 93 = .ok (.lload 6, 2) := by decide +kernel
theorem dX6_moveHouses_95 : decode cX6_moveHouses 95 = .ok (.lconst 0, 1) := by decide +kernel
theorem dX6_moveHouses_96 : decode cX6_moveHouses 96 = .ok (.lcmp, 1) := by decide +kernel
theorem dX6_moveHouses_97 : decode cX6_moveHouses 97 = .ok (.ifCond .ne 7, 3) := by decide +kernel
theorem dX6_moveHouses_100 : decode cX6_moveHouses 100 = .ok (.iconst (-1), 1) := by decide +kernel
theorem dX6_moveHouses_101 : decode cX6_moveHouses 101 = .ok (.goto 8, 3) := by decide +kernel
theorem dX6_moveHouses_104 : decode cX6_moveHouses 104 = .ok (.lload 6, 2) := by decide +kernel
theorem dX6_moveHouses_106 : decode cX6_moveHouses 106 = .ok (.invokestatic 150, 3) := by decide +kernel
theorem dX6_moveHouses_109 : decode cX6_moveHouses 109 = .ok (.iastore, 1) := by decide +kernel
theorem dX6_moveHouses_110 : decode cX6_moveHouses 110 = .ok (.aload_n 0, 1) := by decide +kernel
theorem dX6_moveHouses_111 : decode cX6_moveHouses 111 = .ok (.getfield 28, 3) := by decide +kernel
theorem dX6_moveHouses_114 : decode cX6_moveHouses 114 = .ok (.iload 4, 2) := by decide +kernel
theorem dX6_moveHouses_116 : decode cX6_moveHouses 116 = .ok (.dup2, 1) := by decide +kernel
theorem dX6_moveHouses_117 : decode cX6_moveHouses 117 = .ok (.iaload, 1) := by decide +kernel
theorem dX6_moveHouses_118 : decode cX6_moveHouses 118 = .ok (.iconst 1, 1) := by decide +kernel
theorem dX6_moveHouses_119 : decode cX6_moveHouses 119 = .ok (.iadd, 1) := by decide +kernel
theorem dX6_moveHouses_120 : decode cX6_moveHouses 120 = .ok (.iastore, 1) := by decide +kernel
theorem dX6_moveHouses_121 : decode cX6_moveHouses 121 = .ok (.aload_n 0, 1) := by decide +kernel
theorem dX6_moveHouses_122 : decode cX6_moveHouses 122 = .ok (.getfield 25, 3) := by decide +kernel
theorem dX6_moveHouses_125 : decode cX6_moveHouses 125 = .ok (.iload_n 2, 1) := by decide +kernel
theorem dX6_moveHouses_126 : decode cX6_moveHouses 126 = .ok (.dup2, 1) := by decide +kernel
theorem dX6_moveHouses_127 : decode cX6_moveHouses 127 = .ok (.iaload, 1) := by decide +kernel
theorem dX6_moveHouses_128 : decode cX6_moveHouses 128 = .ok (.iconst 1, 1) := by decide +kernel
theorem dX6_moveHouses_129 : decode cX6_moveHouses 129 = .ok (.iadd, 1) := by decide +kernel
theorem dX6_moveHouses_130 : decode cX6_moveHouses 130 = .ok (.iastore, 1) := by decide +kernel
theorem dX6_moveHouses_131 : decode cX6_moveHouses 131 = .ok (.iinc 4 1, 3) := by decide +kernel
theorem dX6_moveHouses_134 : decode cX6_moveHouses 134 = .ok (.goto (-131), 3) := by decide +kernel
theorem dX6_moveHouses_137 : decode cX6_moveHouses 137 = .ok (.return_, 1) := by decide +kernel
theorem dX6_peg_0 : decode cX6_peg 0 = .ok (.iload_n 1, 1) := by decide +kernel
theorem dX6_peg_1 : decode cX6_peg 1 = .ok (.iload_n 2, 1) := by decide +kernel
theorem dX6_peg_2 : decode cX6_peg 2 = .ok (.invokestatic 134, 3) := by decide +kernel
theorem dX6_peg_5 : decode cX6_peg 5 = .ok (.istore 4, 2) := by decide +kernel
theorem dX6_peg_7 : decode cX6_peg 7 = .ok (.iload_n 1, 1) := by decide +kernel
theorem dX6_peg_8 : decode cX6_peg 8 = .ok (.iload 4, 2) := by decide +kernel
theorem dX6_peg_10 : decode cX6_peg 10 = .ok (.invokestatic 142, 3) := by decide +kernel
theorem dX6_peg_13 : decode cX6_peg 13 = .ok (.istore 5, 2) := by decide +kernel
theorem dX6_peg_15 : decode cX6_peg 15 = .ok (.iload_n 2, 1) := by decide +kernel
theorem dX6_peg_16 : decode cX6_peg 16 = .ok (.iconst 1, 1) := by decide +kernel
theorem dX6_peg_17 : decode cX6_peg 17 = .ok (.if_icmp .eq 8, 3) := by decide +kernel
theorem dX6_peg_20 : decode cX6_peg 20 = .ok (.iload_n 2, 1) := by decide +kernel
theorem dX6_peg_21 : decode cX6_peg 21 = .ok (.iconst 3, 1) := by decide +kernel
theorem dX6_peg_22 : decode cX6_peg 22 = .ok (.if_icmp .ne 20, 3) := by decide +kernel
theorem dX6_peg_25 : decode cX6_peg 25 = .ok (.aload_n 0, 1) := by decide +kernel
theorem dX6_peg_26 : decode cX6_peg 26 = .ok (.getfield 37, 3) := by decide +kernel
theorem dX6_peg_29 : decode cX6_peg 29 = .ok (.iload_n 3, 1) := by decide +kernel
theorem dX6_peg_30 : decode cX6_peg 30 = .ok (.dup2, 1) := by decide +kernel
theorem dX6_peg_31 : decode cX6_peg 31 = .ok (.laload, 1) := by decide +kernel
theorem dX6_peg_32 : decode cX6_peg 32 = .ok (.iload 5, 2) := by decide +kernel
theorem dX6_peg_34 : decode cX6_peg 34 = .ok (.invokestatic 108, 3) := by decide +kernel
theorem dX6_peg_37 : decode cX6_peg 37 = .ok (.lor, 1) := by decide +kernel
theorem dX6_peg_38 : decode cX6_peg 38 = .ok (.lastore, 1) := by decide +kernel
theorem dX6_peg_39 : decode cX6_peg 39 = .ok (.goto 17, 3) := by decide +kernel
theorem dX6_peg_42 : decode cX6_peg 42 = .ok (.aload_n 0, 1) := by decide +kernel
theorem dX6_peg_43 : decode cX6_peg 43 = .ok (.getfield 40, 3) := by decide +kernel
theorem dX6_peg_46 : decode cX6_peg 46 = .ok (.iload_n 3, 1) := by decide +kernel
theorem dX6_peg_47 : decode cX6_peg 47 = .ok (.dup2, 1) := by decide +kernel
theorem dX6_peg_48 : decode cX6_peg 48 = .ok (.laload, 1) := by decide +kernel
theorem dX6_peg_49 : decode cX6_peg 49 = .ok (.iload 5, 2) := by decide +kernel
theorem dX6_peg_51 : decode cX6_peg 51 = .ok (.invokestatic 108, 3) := by decide +kernel
theorem dX6_peg_54 : decode cX6_peg 54 = .ok (.lor, 1) := by decide +kernel
theorem dX6_peg_55 : decode cX6_peg 55 = .ok (.lastore, 1) := by decide +kernel
theorem dX6_peg_56 : decode cX6_peg 56 = .ok (.return_, 1) := by decide +kernel
theorem dX6_pegsIn_0 : decode cX6_pegsIn 0 = .ok (.aload_n 0, 1) := by decide +kernel
theorem dX6_pegsIn_1 : decode cX6_pegsIn 1 = .ok (.getfield 37, 3) := by decide +kernel
theorem dX6_pegsIn_4 : decode cX6_pegsIn 4 = .ok (.iload_n 1, 1) := by decide +kernel
theorem dX6_pegsIn_5 : decode cX6_pegsIn 5 = .ok (.laload, 1) := by decide +kernel
theorem dX6_pegsIn_6 : decode cX6_pegsIn 6 = .ok (.invokestatic 158, 3) := by decide +kernel
theorem dX6_pegsIn_9 : decode cX6_pegsIn 9 = .ok (.aload_n 0, 1) := by decide +kernel
theorem dX6_pegsIn_10 : decode cX6_pegsIn 10 = .ok (.getfield 40, 3) := by decide +kernel
theorem dX6_pegsIn_13 : decode cX6_pegsIn 13 = .ok (.iload_n 1, 1) := by decide +kernel
theorem dX6_pegsIn_14 : decode cX6_pegsIn 14 = .ok (.laload, 1) := by decide +kernel
theorem dX6_pegsIn_15 : decode cX6_pegsIn 15 = .ok (.invokestatic 158, 3) := by decide +kernel
theorem dX6_pegsIn_18 : decode cX6_pegsIn 18 = .ok (.iadd, 1) := by decide +kernel
theorem dX6_pegsIn_19 : decode cX6_pegsIn 19 = .ok (.ireturn, 1) := by decide +kernel
theorem dX6_spotAt_0 : decode cX6_spotAt 0 = .ok (.iload_n 2, 1) := by decide +kernel
theorem dX6_spotAt_1 : decode cX6_spotAt 1 = .ok (.aload_n 0, 1) := by decide +kernel
theorem dX6_spotAt_2 : decode cX6_spotAt 2 = .ok (.getfield 15, 3) := by decide +kernel
theorem dX6_spotAt_5 : decode cX6_spotAt 5 = .ok (.iload_n 1, 1) := by decide +kernel
theorem dX6_spotAt_6 : decode cX6_spotAt 6 = .ok (.iaload, 1) := by decide +kernel
theorem dX6_spotAt_7 : decode cX6_spotAt 7 = .ok (.if_icmp .gt 17, 3) := by decide +kernel
theorem dX6_spotAt_10 : decode cX6_spotAt 10 = .ok (.aload_n 0, 1) := by decide +kernel
theorem dX6_spotAt_11 : decode cX6_spotAt 11 = .ok (.getfield 9, 3) := by decide +kernel
theorem dX6_spotAt_14 : decode cX6_spotAt 14 = .ok (.iload_n 1, 1) := by decide +kernel
theorem dX6_spotAt_15 : decode cX6_spotAt 15 = .ok (.bipush 41, 2) := by decide +kernel
theorem dX6_spotAt_17 : decode cX6_spotAt 17 = .ok (.imul, 1) := by decide +kernel
theorem dX6_spotAt_18 : decode cX6_spotAt 18 = .ok (.iload_n 2, 1) := by decide +kernel
theorem dX6_spotAt_19 : decode cX6_spotAt 19 = .ok (.iadd, 1) := by decide +kernel
theorem dX6_spotAt_20 : decode cX6_spotAt 20 = .ok (.iaload, 1) := by decide +kernel
theorem dX6_spotAt_21 : decode cX6_spotAt 21 = .ok (.goto 4, 3) := by decide +kernel
theorem dX6_spotAt_24 : decode cX6_spotAt 24 = .ok (.iconst (-1), 1) := by decide +kernel
theorem dX6_spotAt_25 : decode cX6_spotAt 25 = .ok (.ireturn, 1) := by decide +kernel
theorem dX6_tell_0 : decode cX6_tell 0 = .ok (.aload_n 0, 1) := by decide +kernel
theorem dX6_tell_1 : decode cX6_tell 1 = .ok (.aload_n 1, 1) := by decide +kernel
theorem dX6_tell_2 : decode cX6_tell 2 = .ok (.invokevirtual 43, 3) := by decide +kernel
theorem dX6_tell_5 : decode cX6_tell 5 = .ok (.iconst 0, 1) := by decide +kernel
theorem dX6_tell_6 : decode cX6_tell 6 = .ok (.istore_n 3, 1) := by decide +kernel
theorem dX6_tell_7 : decode cX6_tell 7 = .ok (.iload_n 3, 1) := by decide +kernel
theorem dX6_tell_8 : decode cX6_tell 8 = .ok (.aload_n 1, 1) := by decide +kernel
theorem dX6_tell_9 : decode cX6_tell 9 = .ok (.getfield 47, 3) := by decide +kernel
theorem dX6_tell_12 : decode cX6_tell 12 = .ok (.if_icmp .ge 77, 3) := by decide +kernel
theorem dX6_tell_15 : decode cX6_tell 15 = .ok (.aload_n 0, 1) := by decide +kernel
theorem dX6_tell_16 : decode cX6_tell 16 = .ok (.iload_n 3, 1) := by decide +kernel
theorem dX6_tell_17 : decode cX6_tell 17 = .ok (.invokevirtual 53, 3) := by decide +kernel
theorem dX6_tell_20 : decode cX6_tell 20 = .ok (.iconst 0, 1) := by decide +kernel
theorem dX6_tell_21 : decode cX6_tell 21 = .ok (.istore 4, 2) := by decide +kernel
theorem dX6_tell_23 : decode cX6_tell 23 = .ok (.iload 4, 2) := by decide +kernel
theorem dX6_tell_25 : decode cX6_tell 25 = .ok (.aload_n 1, 1) := by decide +kernel
theorem dX6_tell_26 : decode cX6_tell 26 = .ok (.getfield 57, 3) := by decide +kernel
theorem dX6_tell_29 : decode cX6_tell 29 = .ok (.if_icmp .ge 54, 3) := by decide +kernel
theorem dX6_tell_32 : decode cX6_tell 32 = .ok (.aload_n 1, 1) := by decide +kernel
theorem dX6_tell_33 : decode cX6_tell 33 = .ok (.getfield 60, 3) := by decide +kernel
theorem dX6_tell_36 : decode cX6_tell 36 = .ok (.iload 4, 2) := by decide +kernel
theorem dX6_tell_38 : decode cX6_tell 38 = .ok (.iaload, 1) := by decide +kernel
theorem dX6_tell_39 : decode cX6_tell 39 = .ok (.iload_n 3, 1) := by decide +kernel
theorem dX6_tell_40 : decode cX6_tell 40 = .ok (.if_icmp .ne 37, 3) := by decide +kernel
theorem dX6_tell_43 : decode cX6_tell 43 = .ok (.aload_n 2, 1) := by decide +kernel
theorem dX6_tell_44 : decode cX6_tell 44 = .ok (.getfield 63, 3) := by decide +kernel
theorem dX6_tell_47 : decode cX6_tell 47 = .ok (.iload 4, 2) := by decide +kernel
theorem dX6_tell_49 : decode cX6_tell 49 = .ok (.ishr, 1) := by decide +kernel
theorem dX6_tell_50 : decode cX6_tell 50 = .ok (.iconst 1, 1) := by decide +kernel
theorem dX6_tell_51 : decode cX6_tell 51 = .ok (.iand, 1) := by decide +kernel
theorem dX6_tell_52 : decode cX6_tell 52 = .ok (.iconst 1, 1) := by decide +kernel
theorem dX6_tell_53 : decode cX6_tell 53 = .ok (.if_icmp .ne 24, 3) := by decide +kernel
theorem dX6_tell_56 : decode cX6_tell 56 = .ok (.aload_n 0, 1) := by decide +kernel
theorem dX6_tell_57 : decode cX6_tell 57 = .ok (.aload_n 1, 1) := by decide +kernel
theorem dX6_tell_58 : decode cX6_tell 58 = .ok (.aload_n 2, 1) := by decide +kernel
theorem dX6_tell_59 : decode cX6_tell 59 = .ok (.iload 4, 2) := by decide +kernel
theorem dX6_tell_61 : decode cX6_tell 61 = .ok (.iload_n 3, 1) := by decide +kernel
theorem dX6_tell_62 : decode cX6_tell 62 = .ok (.iconst 1, 1) := by decide +kernel
theorem dX6_tell_63 : decode cX6_tell 63 = .ok (.iadd, 1) := by decide +kernel
theorem dX6_tell_64 : decode cX6_tell 64 = .ok (.invokevirtual 68, 3) := by decide +kernel
theorem dX6_tell_67 : decode cX6_tell 67 = .ok (.aload_n 0, 1) := by decide +kernel
theorem dX6_tell_68 : decode cX6_tell 68 = .ok (.aload_n 2, 1) := by decide +kernel
theorem dX6_tell_69 : decode cX6_tell 69 = .ok (.iload 4, 2) := by decide +kernel
theorem dX6_tell_71 : decode cX6_tell 71 = .ok (.iload_n 3, 1) := by decide +kernel
theorem dX6_tell_72 : decode cX6_tell 72 = .ok (.iconst 1, 1) := by decide +kernel
theorem dX6_tell_73 : decode cX6_tell 73 = .ok (.iadd, 1) := by decide +kernel
theorem dX6_tell_74 : decode cX6_tell 74 = .ok (.invokevirtual 72, 3) := by decide +kernel
theorem dX6_tell_77 : decode cX6_tell 77 = .ok (.iinc 4 1, 3) := by decide +kernel
theorem dX6_tell_80 : decode cX6_tell 80 = .ok (.goto (-57), 3) := by decide +kernel
theorem dX6_tell_83 : decode cX6_tell 83 = .ok (.iinc 3 1, 3) := by decide +kernel
theorem dX6_tell_86 : decode cX6_tell 86 = .ok (.goto (-79), 3) := by decide +kernel
theorem dX6_tell_89 : decode cX6_tell 89 = .ok (.return_, 1) := by decide +kernel
theorem dX6_timesAt_0 : decode cX6_timesAt 0 = .ok (.iconst 0, 1) := by decide +kernel
theorem dX6_timesAt_1 : decode cX6_timesAt 1 = .ok (.istore_n 3, 1) := by decide +kernel
theorem dX6_timesAt_2 : decode cX6_timesAt 2 = .ok (.iconst 0, 1) := by decide +kernel
theorem dX6_timesAt_3 : decode cX6_timesAt 3 = .ok (.istore 4, 2) := by decide +kernel
theorem dX6_timesAt_5 : decode cX6_timesAt 5 = .ok (.iload 4, 2) := by decide +kernel
theorem dX6_timesAt_7 : decode cX6_timesAt 7 = .ok (.aload_n 0, 1) := by decide +kernel
theorem dX6_timesAt_8 : decode cX6_timesAt 8 = .ok (.getfield 15, 3) := by decide +kernel
theorem dX6_timesAt_11 : decode cX6_timesAt 11 = .ok (.iload_n 1, 1) := by decide +kernel
theorem dX6_timesAt_12 : decode cX6_timesAt 12 = .ok (.iaload, 1) := by decide +kernel
theorem dX6_timesAt_13 : decode cX6_timesAt 13 = .ok (.if_icmp .gt 36, 3) := by decide +kernel
theorem dX6_timesAt_16 : decode cX6_timesAt 16 = .ok (.iload_n 3, 1) := by decide +kernel
theorem dX6_timesAt_17 : decode cX6_timesAt 17 = .ok (.aload_n 0, 1) := by decide +kernel
theorem dX6_timesAt_18 : decode cX6_timesAt 18 = .ok (.getfield 9, 3) := by decide +kernel
theorem dX6_timesAt_21 : decode cX6_timesAt 21 = .ok (.iload_n 1, 1) := by decide +kernel
theorem dX6_timesAt_22 : decode cX6_timesAt 22 = .ok (.bipush 41, 2) := by decide +kernel
theorem dX6_timesAt_24 : decode cX6_timesAt 24 = .ok (.imul, 1) := by decide +kernel
theorem dX6_timesAt_25 : decode cX6_timesAt 25 = .ok (.iload 4, 2) := by decide +kernel
theorem dX6_timesAt_27 : decode cX6_timesAt 27 = .ok (.iadd, 1) := by decide +kernel
theorem dX6_timesAt_28 : decode cX6_timesAt 28 = .ok (.iaload, 1) := by decide +kernel
theorem dX6_timesAt_29 : decode cX6_timesAt 29 = .ok (.iload_n 2, 1) := by decide +kernel
theorem dX6_timesAt_30 : decode cX6_timesAt 30 = .ok (.if_icmp .ne 7, 3) := by decide +kernel
theorem dX6_timesAt_33 : decode cX6_timesAt 33 = .ok (.iconst 1, 1) := by decide +kernel
theorem dX6_timesAt_34 : decode cX6_timesAt 34 = .ok (.goto 4, 3) := by decide +kernel
theorem dX6_timesAt_37 : decode cX6_timesAt 37 = .ok (.iconst 0, 1) := by decide +kernel
theorem dX6_timesAt_38 : decode cX6_timesAt 38 = .ok (.invokestatic 154, 3) := by decide +kernel
theorem dX6_timesAt_41 : decode cX6_timesAt 41 = .ok (.iadd, 1) := by decide +kernel
theorem dX6_timesAt_42 : decode cX6_timesAt 42 = .ok (.istore_n 3, 1) := by decide +kernel
theorem dX6_timesAt_43 : decode cX6_timesAt 43 = .ok (.iinc 4 1, 3) := by decide +kernel
theorem dX6_timesAt_46 : decode cX6_timesAt 46 = .ok (.goto (-41), 3) := by decide +kernel
theorem dX6_timesAt_49 : decode cX6_timesAt 49 = .ok (.iload_n 3, 1) := by decide +kernel
theorem dX6_timesAt_50 : decode cX6_timesAt 50 = .ok (.ireturn, 1) := by decide +kernel
theorem dX6_walk_0 : decode cX6_walk 0 = .ok (.aload_n 0, 1) := by decide +kernel
theorem dX6_walk_1 : decode cX6_walk 1 = .ok (.getfield 34, 3) := by decide +kernel
theorem dX6_walk_4 : decode cX6_walk 4 = .ok (.iload 4, 2) := by decide +kernel
theorem dX6_walk_6 : decode cX6_walk 6 = .ok (.laload, 1) := by decide +kernel
theorem dX6_walk_7 : decode cX6_walk 7 = .ok (.lstore 5, 2) := by decide +kernel
theorem dX6_walk_9 : decode cX6_walk 9 = .ok (.aload_n 0, 1) := by decide +kernel
theorem dX6_walk_10 : decode cX6_walk 10 = .ok (.getfield 80, 3) := by decide +kernel
theorem dX6_walk_13 : decode cX6_walk 13 = .ok (.aload_n 2, 1) := by decide +kernel
theorem dX6_walk_14 : decode cX6_walk 14 = .ok (.getfield 96, 3) := by decide +kernel
theorem dX6_walk_17 : decode cX6_walk 17 = .ok (.ldc2_w 99, 3) := by decide +kernel
theorem dX6_walk_20 : decode cX6_walk 20 = .ok (.lxor, 1) := by decide +kernel
theorem dX6_walk_21 : decode cX6_walk 21 = .ok (.land, 1) := by decide +kernel
theorem dX6_walk_22 : decode cX6_walk 22 = .ok (.lstore 7, 2) := by decide +kernel
theorem dX6_walk_24 : decode cX6_walk 24 = .ok (.aload_n 1, 1) := by decide +kernel
theorem dX6_walk_25 : decode cX6_walk 25 = .ok (.getfield 101, 3) := by decide +kernel
theorem dX6_walk_28 : decode cX6_walk 28 = .ok (.iload_n 3, 1) := by decide +kernel
theorem dX6_walk_29 : decode cX6_walk 29 = .ok (.iaload, 1) := by decide +kernel
theorem dX6_walk_30 : decode cX6_walk 30 = .ok (.istore 9, 2) := by decide +kernel
theorem dX6_walk_32 : decode cX6_walk 32 = .ok (.aload_n 2, 1) := by decide +kernel
theorem dX6_walk_33 : decode cX6_walk 33 = .ok (.aload_n 1, 1) := by decide +kernel
theorem dX6_walk_34 : decode cX6_walk 34 = .ok (.iload_n 3, 1) := by decide +kernel
theorem dX6_walk_35 : decode cX6_walk 35 = .ok (.invokevirtual 104, 3) := by decide +kernel
theorem dX6_walk_38 : decode cX6_walk 38 = .ok (.istore 10, 2) := by decide +kernel
theorem dX6_walk_40 : decode cX6_walk 40 = .ok (.iconst 0, 1) := by decide +kernel
theorem dX6_walk_41 : decode cX6_walk 41 = .ok (.istore 11, 2) := by decide +kernel
theorem dX6_walk_43 : decode cX6_walk 43 = .ok (.aload_n 0, 1) := by decide +kernel
theorem dX6_walk_44 : decode cX6_walk 44 = .ok (.getfield 21, 3) := by decide +kernel
theorem dX6_walk_47 : decode cX6_walk 47 = .ok (.iload_n 3, 1) := by decide +kernel
theorem dX6_walk_48 : decode cX6_walk 48 = .ok (.iload 9, 2) := by decide +kernel
theorem dX6_walk_50 : decode cX6_walk 50 = .ok (.invokestatic 108, 3) := by decide +kernel
theorem dX6_walk_53 : decode cX6_walk 53 = .ok (.lastore, 1) := by decide +kernel
theorem dX6_walk_54 : decode cX6_walk 54 = .ok (.aload_n 0, 1) := by decide +kernel
theorem dX6_walk_55 : decode cX6_walk 55 = .ok (.getfield 9, 3) := by decide +kernel
theorem dX6_walk_58 : decode cX6_walk 58 = .ok (.iload_n 3, 1) := by decide +kernel
theorem dX6_walk_59 : decode cX6_walk 59 = .ok (.bipush 41, 2) := by decide +kernel
theorem dX6_walk_61 : decode cX6_walk 61 = .ok (.imul, 1) := by decide +kernel
theorem dX6_walk_62 : decode cX6_walk 62 = .ok (.iload 9, 2) := by decide +kernel
theorem dX6_walk_64 : decode cX6_walk 64 = .ok (.iastore, 1) := by decide +kernel
theorem dX6_walk_65 : decode cX6_walk 65 = .ok (.aload_n 0, 1) := by decide +kernel
theorem dX6_walk_66 : decode cX6_walk 66 = .ok (.getfield 15, 3) := by decide +kernel
theorem dX6_walk_69 : decode cX6_walk 69 = .ok (.iload_n 3, 1) := by decide +kernel
theorem dX6_walk_70 : decode cX6_walk 70 = .ok (.iconst 0, 1) := by decide +kernel
theorem dX6_walk_71 : decode cX6_walk 71 = .ok (.iastore, 1) := by decide +kernel
theorem dX6_walk_72 : decode cX6_walk 72 = .ok (.iconst 1, 1) := by decide +kernel
theorem dX6_walk_73 : decode cX6_walk 73 = .ok (.istore 12, 2) := by decide +kernel
theorem dX6_walk_75 : decode cX6_walk 75 = .ok (.iload 12, 2) := by decide +kernel
theorem dX6_walk_77 : decode cX6_walk 77 = .ok (.aload_n 1, 1) := by decide +kernel
theorem dX6_walk_78 : decode cX6_walk 78 = .ok (.getfield 112, 3) := by decide +kernel
theorem dX6_walk_81 : decode cX6_walk 81 = .ok (.iload_n 3, 1) := by decide +kernel
theorem dX6_walk_82 : decode cX6_walk 82 = .ok (.iaload, 1) := by decide +kernel
theorem dX6_walk_83 : decode cX6_walk 83 = .ok (.if_icmp .gt 177, 3) := by decide +kernel
theorem dX6_walk_86 : decode cX6_walk 86 = .ok (.iload 11, 2) := by decide +kernel
theorem dX6_walk_88 : decode cX6_walk 88 = .ok (.ifCond .ne 172, 3) := by decide +kernel
theorem dX6_walk_91 : decode cX6_walk 91 = .ok (.iload 10, 2) := by decide +kernel
theorem dX6_walk_93 : decode cX6_walk 93 = .ok (.aload_n 2, 1) := by decide +kernel
theorem dX6_walk_94 : decode cX6_walk 94 = .ok (.aload_n 1, 1) := by decide +kernel
theorem dX6_walk_95 : decode cX6_walk 95 = .ok (.iload_n 3, 1) := by decide +kernel
theorem dX6_walk_96 : decode cX6_walk 96 = .ok (.iload 12, 2) := by decide +kernel
theorem dX6_walk_98 : decode cX6_walk 98 = .ok (.iconst 1, 1) := by decide +kernel
theorem dX6_walk_99 : decode cX6_walk 99 = .ok (.isub, 1) := by decide +kernel
theorem dX6_walk_100 : decode cX6_walk 100 = .ok (.invokevirtual 115, 3) := by decide +kernel
theorem dX6_walk_103 : decode cX6_walk 103 = .ok (.iadd, 1) := by decide +kernel
theorem dX6_walk_104 : decode cX6_walk 104 = .ok (.iconst 3, 1) := by decide +kernel
theorem dX6_walk_105 : decode cX6_walk 105 = .ok (.iand, 1) := by decide +kernel
theorem dX6_walk_106 : decode cX6_walk 106 = .ok (.istore 10, 2) := by decide +kernel
theorem dX6_walk_108 : decode cX6_walk 108 = .ok (.iload 9, 2) := by decide +kernel
theorem dX6_walk_110 : decode cX6_walk 110 = .ok (.iload 10, 2) := by decide +kernel
theorem dX6_walk_112 : decode cX6_walk 112 = .ok (.aload_n 2, 1) := by decide +kernel
theorem dX6_walk_113 : decode cX6_walk 113 = .ok (.getfield 119, 3) := by decide +kernel
theorem dX6_walk_116 : decode cX6_walk 116 = .ok (.lload 7, 2) := by decide +kernel
theorem dX6_walk_118 : decode cX6_walk 118 = .ok (.lload 5, 2) := by decide +kernel
theorem dX6_walk_120 : decode cX6_walk 120 = .ok (.aload_n 0, 1) := by decide +kernel
theorem dX6_walk_121 : decode cX6_walk 121 = .ok (.getfield 21, 3) := by decide +kernel
theorem dX6_walk_124 : decode cX6_walk 124 = .ok (.iload_n 3, 1) := by decide +kernel
theorem dX6_walk_125 : decode cX6_walk 125 = .ok (.laload, 1) := by decide +kernel
theorem dX6_walk_126 : decode cX6_walk 126 = .ok (.invokestatic 122, 3) := by decide +kernel
theorem dX6_walk_129 : decode cX6_walk 129 = .ok (.invokestatic 126, 3) := by decide +kernel
theorem dX6_walk_132 : decode cX6_walk 132 = .ok (.istore 13, 2) := by decide +kernel
theorem dX6_walk_134 : decode cX6_walk 134 = .ok (.iload 13, 2) := by decide +kernel
theorem dX6_walk_136 : decode cX6_walk 136 = .ok (.iconst (-1), 1) := by decide +kernel
theorem dX6_walk_137 : decode cX6_walk 137 = .ok (.if_icmp .ne 14, 3) := by decide +kernel
theorem dX6_walk_140 : decode cX6_walk 140 = .ok (.iload 9, 2) := by decide +kernel
theorem dX6_walk_142 : decode cX6_walk 142 = .ok (.iload 10, 2) := by decide +kernel
theorem dX6_walk_144 : decode cX6_walk 144 = .ok (.lload 7, 2) := by decide +kernel
theorem dX6_walk_146 : decode cX6_walk 146 = .ok (.invokestatic 126, 3) := by decide +kernel
theorem dX6_walk_149 : decode cX6_walk 149 = .ok (.istore 13, 2) := by decide +kernel
theorem dX6_walk_151 : decode cX6_walk 151 = .ok (.iload 13, 2) := by decide +kernel
theorem dX6_walk_153 : decode cX6_walk 153 = .ok (.iconst (-1), 1) := by decide +kernel
theorem dX6_walk_154 : decode cX6_walk 154 = .ok (.if_icmp .ne 16, 3) := by decide +kernel
theorem dX6_walk_157 : decode cX6_walk 157 = .ok (.aload_n 0, 1) := by decide +kernel
theorem dX6_walk_158 : decode cX6_walk 158 = .ok (.getfield 18, 3) := by decide +kernel
theorem dX6_walk_161 : decode cX6_walk 161 = .ok (.iload_n 3, 1) := by decide +kernel
theorem dX6_walk_162 : decode cX6_walk 162 = .ok (.dup2, 1) := by decide +kernel
theorem dX6_walk_163 : decode cX6_walk 163 = .ok (.iaload, 1) := by decide +kernel
theorem dX6_walk_164 : decode cX6_walk 164 = .ok (.iconst 1, 1) := by decide +kernel
theorem dX6_walk_165 : decode cX6_walk 165 = .ok (.iadd, 1) := by decide +kernel
theorem dX6_walk_166 : decode cX6_walk 166 = .ok (.iastore, 1) := by decide +kernel
theorem dX6_walk_167 : decode cX6_walk 167 = .ok (.goto 65, 3) := by decide +kernel
theorem dX6_walk_170 : decode cX6_walk 170 = .ok (.iload 13, 2) := by decide +kernel
theorem dX6_walk_172 : decode cX6_walk 172 = .ok (.istore 10, 2) := by decide +kernel
theorem dX6_walk_174 : decode cX6_walk 174 = .ok (.aload_n 0, 1) := by decide +kernel
theorem dX6_walk_175 : decode cX6_walk 175 = .ok (.iload 9, 2) := by decide +kernel
theorem dX6_walk_177 : decode cX6_walk 177 = .ok (.iload 13, 2) := by decide +kernel
theorem dX6_walk_179 : decode cX6_walk 179 = .ok (.iload 4, 2) := by decide +kernel
theorem dX6_walk_181 : decode cX6_walk 181 = .ok (.invokevirtual 130, 3) := by decide +kernel
theorem dX6_walk_184 : decode cX6_walk 184 = .ok (.iload 9, 2) := by decide +kernel
theorem dX6_walk_186 : decode cX6_walk 186 = .ok (.iload 13, 2) := by decide +kernel
theorem dX6_walk_188 : decode cX6_walk 188 = .ok (.invokestatic 134, 3) := by decide +kernel
theorem dX6_walk_191 : decode cX6_walk 191 = .ok (.istore 9, 2) := by decide +kernel
theorem dX6_walk_193 : decode cX6_walk 193 = .ok (.aload_n 0, 1) := by decide +kernel
theorem dX6_walk_194 : decode cX6_walk 194 = .ok (.getfield 21, 3) := by decide +kernel
theorem dX6_walk_197 : decode cX6_walk 197 = .ok (.iload_n 3, 1) := by decide +kernel
theorem dX6_walk_198 : decode cX6_walk 198 = .ok (.dup2, 1) := by decide +kernel
theorem dX6_walk_199 : decode cX6_walk 199 = .ok (.laload, 1) := by decide +kernel
theorem dX6_walk_200 : decode cX6_walk 200 = .ok (.iload 9, 2) := by decide +kernel
theorem dX6_walk_202 : decode cX6_walk 202 = .ok (.invokestatic 108, 3) := by decide +kernel
theorem dX6_walk_205 : decode cX6_walk 205 = .ok (.lor, 1) := by decide +kernel
theorem dX6_walk_206 : decode cX6_walk 206 = .ok (.lastore, 1) := by decide +kernel
theorem dX6_walk_207 : decode cX6_walk 207 = .ok (.aload_n 2, 1) := by decide +kernel
theorem dX6_walk_208 : decode cX6_walk 208 = .ok (.getfield 119, 3) := by decide +kernel
theorem dX6_walk_211 : decode cX6_walk 211 = .ok (.iconst 3, 1) := by decide +kernel
theorem dX6_walk_212 : decode cX6_walk 212 = .ok (.if_icmp .ne 17, 3) := by decide +kernel
theorem dX6_walk_215 : decode cX6_walk 215 = .ok (.lload 5, 2) := by decide +kernel
theorem dX6_walk_217 : decode cX6_walk 217 = .ok (.iload 9, 2) := by decide +kernel
theorem dX6_walk_219 : decode cX6_walk 219 = .ok (.invokestatic 138, 3) := by decide +kernel
theorem dX6_walk_222 : decode cX6_walk 222 = .ok (.ifCond .eq 7, 3) := by decide +kernel
theorem dX6_walk_225 : decode cX6_walk 225 = .ok (.iconst 1, 1) := by decide +kernel
theorem dX6_walk_226 : decode cX6_walk 226 = .ok (.goto 4, 3) := by decide +kernel
theorem dX6_walk_229 : decode cX6_walk 229 = .ok (.iconst 0, 1) := by decide +kernel
theorem dX6_walk_230 : decode cX6_walk 230 = .ok (.istore 11, 2) := by decide +kernel
theorem dX6_walk_232 : decode cX6_walk 232 = .ok (.aload_n 0, 1) := by decide +kernel
theorem dX6_walk_233 : decode cX6_walk 233 = .ok (.getfield 9, 3) := by decide +kernel
theorem dX6_walk_236 : decode cX6_walk 236 = .ok (.iload_n 3, 1) := by decide +kernel
theorem dX6_walk_237 : decode cX6_walk 237 = .ok (.bipush 41, 2) := by decide +kernel
theorem dX6_walk_239 : decode cX6_walk 239 = .ok (.imul, 1) := by decide +kernel
theorem dX6_walk_240 : decode cX6_walk 240 = .ok (.iload 12, 2) := by decide +kernel
theorem dX6_walk_242 : decode cX6_walk 242 = .ok (.iadd, 1) := by decide +kernel
theorem dX6_walk_243 : decode cX6_walk 243 = .ok (.iload 9, 2) := by decide +kernel
theorem dX6_walk_245 : decode cX6_walk 245 = .ok (.iastore, 1) := by decide +kernel
theorem dX6_walk_246 : decode cX6_walk 246 = .ok (.aload_n 0, 1) := by decide +kernel
theorem dX6_walk_247 : decode cX6_walk 247 = .ok (.getfield 15, 3) := by decide +kernel
theorem dX6_walk_250 : decode cX6_walk 250 = .ok (.iload_n 3, 1) := by decide +kernel
theorem dX6_walk_251 : decode cX6_walk 251 = .ok (.iload 12, 2) := by decide +kernel
theorem dX6_walk_253 : decode cX6_walk 253 = .ok (.iastore, 1) := by decide +kernel
theorem dX6_walk_254 : decode cX6_walk 254 = .ok (.iinc 12 1, 3) := by decide +kernel
theorem dX6_walk_257 : decode cX6_walk 257 = .ok (.goto (-182), 3) := by decide +kernel
theorem dX6_walk_260 : decode cX6_walk 260 = .ok (.aload_n 0, 1) := by decide +kernel
theorem dX6_walk_261 : decode cX6_walk 261 = .ok (.getfield 34, 3) := by decide +kernel
theorem dX6_walk_264 : decode cX6_walk 264 = .ok (.iload 4, 2) := by decide +kernel
theorem dX6_walk_266 : decode cX6_walk 266 = .ok (.dup2, 1) := by decide +kernel
theorem dX6_walk_267 : decode cX6_walk 267 = .ok (.laload, 1) := by decide +kernel
theorem dX6_walk_268 : decode cX6_walk 268 = .ok (.aload_n 0, 1) := by decide +kernel
theorem dX6_walk_269 : decode cX6_walk 269 = .ok (.getfield 21, 3) := by decide +kernel
theorem dX6_walk_272 : decode cX6_walk 272 = .ok (.iload_n 3, 1) := by decide +kernel
theorem dX6_walk_273 : decode cX6_walk 273 = .ok (.laload, 1) := by decide +kernel
theorem dX6_walk_274 : decode cX6_walk 274 = .ok (.lor, 1) := by decide +kernel
theorem dX6_walk_275 : decode cX6_walk 275 = .ok (.lastore, 1) := by decide +kernel
theorem dX6_walk_276 : decode cX6_walk 276 = .ok (.return_, 1) := by decide +kernel
theorem dX6_walks_0 : decode cX6_walks 0 = .ok (.aload_n 0, 1) := by decide +kernel
theorem dX6_walks_1 : decode cX6_walks 1 = .ok (.getfield 15, 3) := by decide +kernel
theorem dX6_walks_4 : decode cX6_walks 4 = .ok (.iload_n 1, 1) := by decide +kernel
theorem dX6_walks_5 : decode cX6_walks 5 = .ok (.iaload, 1) := by decide +kernel
theorem dX6_walks_6 : decode cX6_walks 6 = .ok (.iconst (-1), 1) := by decide +kernel
theorem dX6_walks_7 : decode cX6_walks 7 = .ok (.if_icmp .eq 7, 3) := by decide +kernel
theorem dX6_walks_10 : decode cX6_walks 10 = .ok (.iconst 1, 1) := by decide +kernel
theorem dX6_walks_11 : decode cX6_walks 11 = .ok (.goto 4, 3) := by decide +kernel
theorem dX6_walks_14 : decode cX6_walks 14 = .ok (.iconst 0, 1) := by decide +kernel
theorem dX6_walks_15 : decode cX6_walks 15 = .ok (.ireturn, 1) := by decide +kernel
theorem dX6_wished_0 : decode cX6_wished 0 = .ok (.iload_n 0, 1) := by decide +kernel
theorem dX6_wished_1 : decode cX6_wished 1 = .ok (.iconst 1, 1) := by decide +kernel
theorem dX6_wished_2 : decode cX6_wished 2 = .ok (.if_icmp .ne 11, 3) := by decide +kernel
theorem dX6_wished_5 : decode cX6_wished 5 = .ok (.lload_n 1, 1) := by decide +kernel
theorem dX6_wished_6 : decode cX6_wished 6 = .ok (.lload_n 3, 1) := by decide +kernel
theorem dX6_wished_7 : decode cX6_wished 7 = .ok (.ldc2_w 99, 3) := by decide +kernel
theorem dX6_wished_10 : decode cX6_wished 10 = .ok (.lxor, 1) := by decide +kernel
theorem dX6_wished_11 : decode cX6_wished 11 = .ok (.land, 1) := by decide +kernel
theorem dX6_wished_12 : decode cX6_wished 12 = .ok (.lreturn, 1) := by decide +kernel
theorem dX6_wished_13 : decode cX6_wished 13 = .ok (.iload_n 0, 1) := by decide +kernel
theorem dX6_wished_14 : decode cX6_wished 14 = .ok (.iconst 2, 1) := by decide +kernel
theorem dX6_wished_15 : decode cX6_wished 15 = .ok (.if_icmp .ne 14, 3) := by decide +kernel
theorem dX6_wished_18 : decode cX6_wished 18 = .ok (.lload_n 1, 1) := by decide +kernel
theorem dX6_wished_19 : decode cX6_wished 19 = .ok (.lload 5, 2) := by decide +kernel
theorem dX6_wished_21 : decode cX6_wished 21 = .ok (.ldc2_w 99, 3) := by decide +kernel
theorem dX6_wished_24 : decode cX6_wished 24 = .ok (.lxor, 1) := by decide +kernel
theorem dX6_wished_25 : decode cX6_wished 25 = .ok (.land, 1) := by decide +kernel
theorem dX6_wished_26 : decode cX6_wished 26 = .ok (.goto 4, 3) := by decide +kernel
theorem dX6_wished_29 : decode cX6_wished 29 = .ok (.lload_n 1, 1) := by decide +kernel
theorem dX6_wished_30 : decode cX6_wished 30 = .ok (.lreturn, 1) := by decide +kernel
set_option maxHeartbeats 4000000 in
set_option maxRecDepth 100000 in
theorem f_X6_wished (l : Launch) (G : va_G) (cI cJ cZ cB cQ : ClassId) (sz : Nat) (p0 : Int32) (p1 : Int64) (p2 : Int64) (p3 : Int64) : CL l yX6_wished (wl_ yX6_wished cX6_wished 7 (some .long)) ({ frames := 0, cells := 0, slots := 0, locals := 0 } : Room) G (TY cI cJ cZ cB cQ) [.int p0, .long p1, .long p2, .long p3] [] sz (fun (r : Int64) (u : Unit) => True) (fun _ : Unit => []) 0 0 := by
  refine CL.go (cc := cX6_wished) (maxL := 7) (ret := (some .long)) (by decide) rfl (Nat.le_of_ble_eq_true rfl) ?_
  intro p e s m below meth c A ls Q hBd hret
  obtain ⟨hx, hb, hr, hml, hts, hown, hlk, hnm, hP, hK, hD, hA, hZ, hl⟩ := hBd
  have hown : s.vm.findClass RX6 = some m.cls := hown
  have hl : lv_has ls 7 [(0, .int p0), (1, .long p1), (3, .long p2), (5, .long p3)] := hl
  have hS : va_S A s.heap s.heap [] := va_S.rf
  refine lv_iload_n hx hb dX6_wished_0 rfl (lv_at hl 0 rfl) ?_
  refine lv_iconst (v := 1) hx hb dX6_wished_1 (by decide) ?_
  refine lv_icmp_ne (tgt := 13) hx hb dX6_wished_2 (by decide) (fun c1 => ?_) (fun c1 => ?_)
  · have c1 := i_ne rfl ki_1 c1
    refine lv_iload_n hx hb dX6_wished_13 rfl (lv_at hl 0 rfl) ?_
    refine lv_iconst (v := 2) hx hb dX6_wished_14 (by decide) ?_
    refine lv_icmp_ne (tgt := 29) hx hb dX6_wished_15 (by decide) (fun c2 => ?_) (fun c2 => ?_)
    · have c2 := i_ne rfl ki_2 c2
      refine lv_lload_n hx hb dX6_wished_29 rfl (lv_at hl 1 rfl) ?_
      exact hret _ _ _ _ p1 () hP hD hS dX6_wished_30 trivial
    · have c2 := i_eq rfl ki_2 c2
      refine lv_lload_n hx hb dX6_wished_18 rfl (lv_at hl 1 rfl) ?_
      refine lv_lload hx hb dX6_wished_19 (lv_at hl 3 rfl) ?_
      refine lv_ldc2 (v := (-1)) hx hb hown (hts _ w_603) dX6_wished_21 ?_
      refine lv_lxor hx hb dX6_wished_24 ?_
      refine lv_topl (fun v3 ev3 => ?_)
      refine lv_land hx hb dX6_wished_25 ?_
      refine lv_topl (fun v4 ev4 => ?_)
      refine lv_goto (tgt := 30) hx hb dX6_wished_26 (by decide) ?_
      exact hret _ _ _ _ v4 () hP hD hS dX6_wished_30 trivial
  · have c1 := i_eq rfl ki_1 c1
    refine lv_lload_n hx hb dX6_wished_5 rfl (lv_at hl 1 rfl) ?_
    refine lv_lload_n hx hb dX6_wished_6 rfl (lv_at hl 2 rfl) ?_
    refine lv_ldc2 (v := (-1)) hx hb hown (hts _ w_603) dX6_wished_7 ?_
    refine lv_lxor hx hb dX6_wished_10 ?_
    refine lv_topl (fun v5 ev5 => ?_)
    refine lv_land hx hb dX6_wished_11 ?_
    refine lv_topl (fun v6 ev6 => ?_)
    exact hret _ _ _ _ v6 () hP hD hS dX6_wished_12 trivial
set_option maxHeartbeats 4000000 in
set_option maxRecDepth 100000 in
theorem f_X6_firstWay (l : Launch) (G : va_G) (cI cJ cZ cB cQ : ClassId) (sz : Nat) (p0 : Int32) (p1 : Int32) (p2 : Int64) : CI l yX6_firstWay (wl_ yX6_firstWay cX6_firstWay 7 (some .int)) ({ frames := 1, cells := 0, slots := 0, locals := 22 } : Room) G (TY cI cJ cZ cB cQ) [.int p0, .int p1, .long p2] [] sz (fun (r : Int32) (u : Unit) => (-1) ≤ r.toInt ∧ r.toInt ≤ 3) (fun _ : Unit => []) 0 0 := by
  refine CI.go (cc := cX6_firstWay) (maxL := 7) (ret := (some .int)) (by decide) rfl (Nat.le_of_ble_eq_true rfl) ?_
  intro p e s m below meth c A ls Q hBd hret
  obtain ⟨hx, hb, hr, hml, hts, hown, hlk, hnm, hP, hK, hD, hA, hZ, hl⟩ := hBd
  have hown : s.vm.findClass RX6 = some m.cls := hown
  have hl : lv_has ls 7 [(0, .int p0), (1, .int p1), (2, .long p2)] := hl
  have hS : va_S A s.heap s.heap [] := va_S.rf
  refine lv_iconst (v := 0) hx hb dX6_firstWay_0 (by decide) ?_
  refine lv_istore (lv' := [(4, .int 0), (0, .int p0), (1, .int p1), (2, .long p2)]) hx hb dX6_firstWay_1 hl (by decide) rfl (fun ls hl => ?_)
  have lp1 : ∀ (n2 : Nat) (x3 : Int32), 0 ≤ x3.toInt → x3.toInt ≤ 4 → 4 - x3.toInt < (n2 : Int) → ∀ (H : Heap) (locs : List Loc), va_P G vwCl [] H → va_D A [] → va_S A s.heap H locs → ∀ (ls : Array Slot), lv_has ls 7 [(4, .int x3), (0, .int p0), (1, .int p1), (2, .long p2)] → W p l e ({ frames := 1, cells := 0, slots := 0, locals := 22 } : Room) s m ([.int p0, .int p1, .long p2] : List Value).toArray below meth c H locs 0 0 Q (F0 m 3 ls []) := by
    intro n2
    induction n2 with
    | zero =>
      intro x3 k4 k5 mm7
      exact absurd mm7 (by have q9 := fb_rng x3; omega)
    | succ n2 ih6 =>
      intro x3 k4 k5 mm7 H locs hP hD hS ls hl
      refine lv_iload hx hb dX6_firstWay_3 (lv_at hl 0 rfl) ?_
      refine lv_iconst (v := 4) hx hb dX6_firstWay_5 (by decide) ?_
      refine lv_icmp_ge (tgt := 49) hx hb dX6_firstWay_6 (by decide) (fun c8 => ?_) (fun c8 => ?_)
      · have c8 := i_le ki_4 rfl c8
        refine lv_iconst (v := (-1)) hx hb dX6_firstWay_49 (by decide) ?_
        exact hret _ _ _ _ (-1) () hP hD hS dX6_firstWay_50 (show (-1) ≤ ((-1) : Int32).toInt ∧ ((-1) : Int32).toInt ≤ 3 from ⟨(by rw [ki_m1]; decide), (by rw [ki_m1]; decide)⟩)
      · have c8 := i_nle ki_4 rfl c8
        refine lv_iload_n hx hb dX6_firstWay_9 rfl (lv_at hl 2 rfl) ?_
        refine lv_iload hx hb dX6_firstWay_10 (lv_at hl 0 rfl) ?_
        refine lv_iadd hx hb dX6_firstWay_12 ?_
        refine lv_topi (fun v9 ev9 => ?_)
        refine lv_iconst (v := 3) hx hb dX6_firstWay_13 (by decide) ?_
        refine lv_iand hx hb dX6_firstWay_14 ?_
        refine lv_topi (fun v10 ev10 => ?_)
        obtain ⟨sa11, sb12⟩ : 0 ≤ v10.toInt ∧ v10.toInt ≤ 3 := and_m 2 (by decide) (by decide) ev10
        refine lv_istore (lv' := [(5, .int v10), (4, .int x3), (0, .int p0), (1, .int p1), (2, .long p2)]) hx hb dX6_firstWay_15 hl (by decide) rfl (fun ls hl => ?_)
        refine lv_iload_n hx hb dX6_firstWay_17 rfl (lv_at hl 2 rfl) ?_
        refine lv_iload hx hb dX6_firstWay_18 (lv_at hl 0 rfl) ?_
        refine k_i (wc := []) (wr := []) hP hD hS hA [] [] rfl rfl rfl (by decide) (va_runSN (As := [.int p0, .int v10]) (rest := []) ⟨hx, hb, hml, hown, hts⟩ (f_X9_beside l G cI cJ cZ cB cQ _ p0 v10) ⟨va_cnB (host := "WidowRoads") 2 hts (gW w_621) rfl rfl rfl (nz_nw hZ nw_619 rfl) (hts _ w_1) hd_X9_beside ⟨Nat.le_of_ble_eq_true rfl, Nat.le_of_ble_eq_true rfl⟩, (hts _ w_620), trivial⟩ (mS hK hZ hP hD [] rfl rfl [.int p0, .int v10]) rfl rfl hl.1 rfl (lv_room (Nat.le_of_ble_eq_true rfl)) dX6_firstWay_20 ⟨Nat.le_of_ble_eq_true rfl, Nat.le_of_ble_eq_true rfl⟩) (fun r13 u14 H locs hw15 hP hD hS => ?_)
        try dsimp only at hw15
        have hP : va_P G vwCl [] H := hP
        have hD : va_D A [] := hD
        refine lv_istore (lv' := [(6, .int r13), (5, .int v10), (4, .int x3), (0, .int p0), (1, .int p1), (2, .long p2)]) hx hb dX6_firstWay_23 hl (by decide) rfl (fun ls hl => ?_)
        refine lv_iload hx hb dX6_firstWay_25 (lv_at hl 0 rfl) ?_
        refine lv_iconst (v := (-1)) hx hb dX6_firstWay_27 (by decide) ?_
        refine lv_icmp_eq (tgt := 43) hx hb dX6_firstWay_28 (by decide) (fun c16 => ?_) (fun c16 => ?_)
        · have c16 := i_eq rfl ki_m1 c16
          obtain ⟨v17, ev17⟩ : ∃ y : Int32, y = x3 + 1 := ⟨_, rfl⟩
          have tv17 : v17.toInt = x3.toInt + 1 := ti_add rfl ki_1 ev17 (by omega) (by omega)
          refine lv_iinc (v := v17) (lv' := [(4, .int v17), (6, .int r13), (5, .int v10), (0, .int p0), (1, .int p1), (2, .long p2)]) hx hb dX6_firstWay_43 hl (k := 2) rfl (by rw [ev17]; rfl) (by decide) rfl (fun ls hl => ?_)
          refine lv_goto (tgt := 3) hx hb dX6_firstWay_46 (by decide) ?_
          exact ih6 v17 (by omega) (by omega) (by omega) _ _ hP hD hS ls (lv_sub hl [0, 3, 4, 5] rfl)
        · have c16 := i_ne rfl ki_m1 c16
          refine lv_lload_n hx hb dX6_firstWay_31 rfl (lv_at hl 5 rfl) ?_
          refine lv_iload hx hb dX6_firstWay_32 (lv_at hl 0 rfl) ?_
          refine k_i (wc := []) (wr := []) hP hD hS hA [] [] rfl rfl rfl (by decide) (va_runSN (As := [.long p2, .int r13]) (rest := []) ⟨hx, hb, hml, hown, hts⟩ (f_X9_has l G cI cJ cZ cB cQ _ p2 r13) ⟨va_cnB (host := "WidowRoads") 2 hts (gW w_527) rfl rfl rfl (nz_nw hZ nw_622 rfl) (hts _ w_1) hd_X9_has ⟨Nat.le_of_ble_eq_true rfl, Nat.le_of_ble_eq_true rfl⟩, (hts _ w_526), trivial⟩ (mS hK hZ hP hD [] rfl rfl [.long p2, .int r13]) rfl rfl hl.1 rfl (lv_room (Nat.le_of_ble_eq_true rfl)) dX6_firstWay_34 ⟨Nat.le_of_ble_eq_true rfl, Nat.le_of_ble_eq_true rfl⟩) (fun r18 u19 H locs hw20 hP hD hS => ?_)
          try dsimp only at hw20
          have hP : va_P G vwCl [] H := hP
          have hD : va_D A [] := hD
          obtain ⟨w21, w22⟩ : 0 ≤ r18.toInt ∧ r18.toInt ≤ 1 := hw20
          refine lv_if_eq (tgt := 43) hx hb dX6_firstWay_37 (by decide) (fun c23 => ?_) (fun c23 => ?_)
          · have c23 := i_eq rfl ki_0 c23
            obtain ⟨v24, ev24⟩ : ∃ y : Int32, y = x3 + 1 := ⟨_, rfl⟩
            have tv24 : v24.toInt = x3.toInt + 1 := ti_add rfl ki_1 ev24 (by omega) (by omega)
            refine lv_iinc (v := v24) (lv' := [(4, .int v24), (6, .int r13), (5, .int v10), (0, .int p0), (1, .int p1), (2, .long p2)]) hx hb dX6_firstWay_43 hl (k := 2) rfl (by rw [ev24]; rfl) (by decide) rfl (fun ls hl => ?_)
            refine lv_goto (tgt := 3) hx hb dX6_firstWay_46 (by decide) ?_
            exact ih6 v24 (by omega) (by omega) (by omega) _ _ hP hD hS ls (lv_sub hl [0, 3, 4, 5] rfl)
          · have c23 := i_ne rfl ki_0 c23
            refine lv_iload hx hb dX6_firstWay_40 (lv_at hl 1 rfl) ?_
            exact hret _ _ _ _ v10 () hP hD hS dX6_firstWay_42 (show (-1) ≤ v10.toInt ∧ v10.toInt ≤ 3 from ⟨(by omega), sb12⟩)
  exact lp1 5 0 (by rw [ki_0]; decide) (by rw [ki_0]; decide) (by rw [ki_0]; decide) _ _ hP hD hS ls (lv_sub hl [0, 1, 2, 3] rfl)
set_option maxHeartbeats 4000000 in
set_option maxRecDepth 100000 in
theorem f_X6_peg (l : Launch) (G : va_G) (cI cJ cZ cB cQ : ClassId) (sz : Nat) (h0 : Nat) (p0 : Int32) (p1 : Int32) (p2 : Int32) (b : Nat → Nat) (o_field : Int64) (o_houses : Int32) (o_f8 : Nat → Int64) (o_f9 : Nat → Int64) (qp2_l : 0 ≤ p2.toInt) (qp2_h : p2.toInt ≤ 12) (hl_o_houses : 0 ≤ o_houses.toInt) (hh_o_houses : o_houses.toInt ≤ 6) : CV l yX6_peg (wl_ yX6_peg cX6_peg 6 none) ({ frames := 1, cells := 0, slots := 0, locals := 21 } : Room) G (TY cI cJ cZ cB cQ) [.ref h0, .int p0, .int p1, .int p2] [(h0, oX6 b o_field o_houses), (b 8, .inl (cJ, 13, .inr (.inl o_f8))), (b 9, .inl (cJ, 13, .inr (.inl o_f9)))] sz (fun (u : (Nat → Int64) × (Nat → Int64)) => True) (fun u : (Nat → Int64) × (Nat → Int64) => [(h0, oX6 b o_field o_houses), (b 8, .inl (cJ, 13, .inr (.inl u.1))), (b 9, .inl (cJ, 13, .inr (.inl u.2)))]) 0 0 := by
  refine CV.go (cc := cX6_peg) (maxL := 6) (ret := none) (by decide) rfl (Nat.le_of_ble_eq_true rfl) ?_
  intro p e s m below meth c A ls Q hBd hret
  obtain ⟨hx, hb, hr, hml, hts, hown, hlk, hnm, hP, hK, hD, hA, hZ, hl⟩ := hBd
  have hown : s.vm.findClass RX6 = some m.cls := hown
  have hl : lv_has ls 6 [(0, .ref h0), (1, .int p0), (2, .int p1), (3, .int p2)] := hl
  have hS : va_S A s.heap s.heap [] := va_S.rf
  refine lv_iload_n hx hb dX6_peg_0 rfl (lv_at hl 1 rfl) ?_
  refine lv_iload_n hx hb dX6_peg_1 rfl (lv_at hl 2 rfl) ?_
  refine k_i (wc := []) (wr := [(h0, oX6 b o_field o_houses), (b 8, .inl (cJ, 13, .inr (.inl o_f8))), (b 9, .inl (cJ, 13, .inr (.inl o_f9)))]) hP hD hS hA [] [0, 1, 2] rfl rfl rfl (by decide) (va_runSN (As := [.int p0, .int p1]) (rest := []) ⟨hx, hb, hml, hown, hts⟩ (f_X9_beside l G cI cJ cZ cB cQ _ p0 p1) ⟨va_cnB (host := "WidowRoads") 2 hts (gW w_621) rfl rfl rfl (nz_nw hZ nw_619 rfl) (hts _ w_1) hd_X9_beside ⟨Nat.le_of_ble_eq_true rfl, Nat.le_of_ble_eq_true rfl⟩, (hts _ w_620), trivial⟩ (mS hK hZ hP hD [] rfl rfl [.int p0, .int p1]) rfl rfl hl.1 rfl (lv_room (Nat.le_of_ble_eq_true rfl)) dX6_peg_2 ⟨Nat.le_of_ble_eq_true rfl, Nat.le_of_ble_eq_true rfl⟩) (fun r1 u2 H locs hw3 hP hD hS => ?_)
  try dsimp only at hw3
  have hP : va_P G vwCl [(h0, oX6 b o_field o_houses), (b 8, .inl (cJ, 13, .inr (.inl o_f8))), (b 9, .inl (cJ, 13, .inr (.inl o_f9)))] H := hP
  have hD : va_D A [(h0, oX6 b o_field o_houses), (b 8, .inl (cJ, 13, .inr (.inl o_f8))), (b 9, .inl (cJ, 13, .inr (.inl o_f9)))] := hD
  refine lv_istore (lv' := [(4, .int r1), (0, .ref h0), (1, .int p0), (2, .int p1), (3, .int p2)]) hx hb dX6_peg_5 hl (by decide) rfl (fun ls hl => ?_)
  refine lv_iload_n hx hb dX6_peg_7 rfl (lv_at hl 2 rfl) ?_
  refine lv_iload hx hb dX6_peg_8 (lv_at hl 0 rfl) ?_
  refine va_mmin hx hb (by rw [hml]; exact hl.1.symm) hown (hts _ w_627) (hts _ w_502) (hts _ w_16) (hts _ w_503) (Nat.le_of_ble_eq_true rfl) (Nat.le_of_ble_eq_true rfl) (Nat.le_of_ble_eq_true rfl) (Nat.le_of_ble_eq_true rfl) dX6_peg_10 ?_
  refine lv_topi (fun v4 ev4 => ?_)
  refine lv_istore (lv' := [(5, .int v4), (4, .int r1), (0, .ref h0), (1, .int p0), (2, .int p1), (3, .int p2)]) hx hb dX6_peg_13 hl (by decide) rfl (fun ls hl => ?_)
  refine lv_iload_n hx hb dX6_peg_15 rfl (lv_at hl 4 rfl) ?_
  refine lv_iconst (v := 1) hx hb dX6_peg_16 (by decide) ?_
  refine lv_icmp_eq (tgt := 25) hx hb dX6_peg_17 (by decide) (fun c5 => ?_) (fun c5 => ?_)
  · have c5 := i_eq rfl ki_1 c5
    refine lv_aload_n hx hb dX6_peg_25 rfl (lv_at hl 2 rfl) ?_
    refine va_get (D := G) (ci := 6) (v := .ref (b 8)) (C := RX6) (T := TX6) (N := 12) hx hb hts iG_X6 hown hK hP 0 rfl rfl 8 (by decide) (hts _ w_250) (fun _ h9 => h9) rfl dX6_peg_26 ?_
    refine lv_iload_n hx hb dX6_peg_29 rfl (lv_at hl 5 rfl) ?_
    refine lv_dup2_11 hx hb dX6_peg_30 rfl rfl ?_
    refine va_lald hx hb hK hP 1 1 rfl rfl (ix_in rfl (by omega) (by omega)) dX6_peg_31 ?_
    refine lv_topl (fun v6 ev6 => ?_)
    refine lv_iload hx hb dX6_peg_32 (lv_at hl 0 rfl) ?_
    refine k_l (wc := []) (wr := [(h0, oX6 b o_field o_houses), (b 8, .inl (cJ, 13, .inr (.inl o_f8))), (b 9, .inl (cJ, 13, .inr (.inl o_f9)))]) hP hD hS hA [] [0, 1, 2] rfl rfl rfl (by decide) (va_runSN (As := [.int v4]) (rest := [.long v6, .int p2, .ref (b 8)]) ⟨hx, hb, hml, hown, hts⟩ (f_X9_bit l G cI cJ cZ cB cQ _ v4) ⟨va_cnB (host := "WidowRoads") 1 hts (gW w_519) rfl rfl rfl (nz_nw hZ nw_608 rfl) (hts _ w_1) hd_X9_bit ⟨Nat.le_of_ble_eq_true rfl, Nat.le_of_ble_eq_true rfl⟩, (hts _ w_518), trivial⟩ (mS hK hZ hP hD [] rfl rfl [.int v4]) rfl rfl hl.1 rfl (lv_room (Nat.le_of_ble_eq_true rfl)) dX6_peg_34 ⟨Nat.le_of_ble_eq_true rfl, Nat.le_of_ble_eq_true rfl⟩) (fun r7 u8 H locs hw9 hP hD hS => ?_)
    try dsimp only at hw9
    have hP : va_P G vwCl [(h0, oX6 b o_field o_houses), (b 8, .inl (cJ, 13, .inr (.inl o_f8))), (b 9, .inl (cJ, 13, .inr (.inl o_f9)))] H := hP
    have hD : va_D A [(h0, oX6 b o_field o_houses), (b 8, .inl (cJ, 13, .inr (.inl o_f8))), (b 9, .inl (cJ, 13, .inr (.inl o_f9)))] := hD
    refine lv_lor hx hb dX6_peg_37 ?_
    refine lv_topl (fun v10 ev10 => ?_)
    refine va_last hx hb hK hP hD hS 1 1 rfl rfl (ix_in rfl (by omega) (by omega)) dX6_peg_38 (fun H locs hP hD hS => ?_)
    obtain ⟨f11, qf11⟩ : ∃ g, g = vp_updL o_f8 p2.toNatClampNeg v10 := ⟨_, rfl⟩
    rw [← qf11] at hP hD
    have hP : va_P G vwCl [(h0, oX6 b o_field o_houses), (b 8, .inl (cJ, 13, .inr (.inl f11))), (b 9, .inl (cJ, 13, .inr (.inl o_f9)))] H := hP
    have hD : va_D A [(h0, oX6 b o_field o_houses), (b 8, .inl (cJ, 13, .inr (.inl f11))), (b 9, .inl (cJ, 13, .inr (.inl o_f9)))] := hD
    refine lv_goto (tgt := 56) hx hb dX6_peg_39 (by decide) ?_
    exact hret _ _ _ _ (f11, o_f9) hP hD hS dX6_peg_56 trivial
  · have c5 := i_ne rfl ki_1 c5
    refine lv_iload_n hx hb dX6_peg_20 rfl (lv_at hl 4 rfl) ?_
    refine lv_iconst (v := 3) hx hb dX6_peg_21 (by decide) ?_
    refine lv_icmp_ne (tgt := 42) hx hb dX6_peg_22 (by decide) (fun c12 => ?_) (fun c12 => ?_)
    · have c12 := i_ne rfl ki_3 c12
      refine lv_aload_n hx hb dX6_peg_42 rfl (lv_at hl 2 rfl) ?_
      refine va_get (D := G) (ci := 6) (v := .ref (b 9)) (C := RX6) (T := TX6) (N := 12) hx hb hts iG_X6 hown hK hP 0 rfl rfl 9 (by decide) (hts _ w_252) (fun _ h9 => h9) rfl dX6_peg_43 ?_
      refine lv_iload_n hx hb dX6_peg_46 rfl (lv_at hl 5 rfl) ?_
      refine lv_dup2_11 hx hb dX6_peg_47 rfl rfl ?_
      refine va_lald hx hb hK hP 2 1 rfl rfl (ix_in rfl (by omega) (by omega)) dX6_peg_48 ?_
      refine lv_topl (fun v13 ev13 => ?_)
      refine lv_iload hx hb dX6_peg_49 (lv_at hl 0 rfl) ?_
      refine k_l (wc := []) (wr := [(h0, oX6 b o_field o_houses), (b 8, .inl (cJ, 13, .inr (.inl o_f8))), (b 9, .inl (cJ, 13, .inr (.inl o_f9)))]) hP hD hS hA [] [0, 1, 2] rfl rfl rfl (by decide) (va_runSN (As := [.int v4]) (rest := [.long v13, .int p2, .ref (b 9)]) ⟨hx, hb, hml, hown, hts⟩ (f_X9_bit l G cI cJ cZ cB cQ _ v4) ⟨va_cnB (host := "WidowRoads") 1 hts (gW w_519) rfl rfl rfl (nz_nw hZ nw_608 rfl) (hts _ w_1) hd_X9_bit ⟨Nat.le_of_ble_eq_true rfl, Nat.le_of_ble_eq_true rfl⟩, (hts _ w_518), trivial⟩ (mS hK hZ hP hD [] rfl rfl [.int v4]) rfl rfl hl.1 rfl (lv_room (Nat.le_of_ble_eq_true rfl)) dX6_peg_51 ⟨Nat.le_of_ble_eq_true rfl, Nat.le_of_ble_eq_true rfl⟩) (fun r14 u15 H locs hw16 hP hD hS => ?_)
      try dsimp only at hw16
      have hP : va_P G vwCl [(h0, oX6 b o_field o_houses), (b 8, .inl (cJ, 13, .inr (.inl o_f8))), (b 9, .inl (cJ, 13, .inr (.inl o_f9)))] H := hP
      have hD : va_D A [(h0, oX6 b o_field o_houses), (b 8, .inl (cJ, 13, .inr (.inl o_f8))), (b 9, .inl (cJ, 13, .inr (.inl o_f9)))] := hD
      refine lv_lor hx hb dX6_peg_54 ?_
      refine lv_topl (fun v17 ev17 => ?_)
      refine va_last hx hb hK hP hD hS 2 1 rfl rfl (ix_in rfl (by omega) (by omega)) dX6_peg_55 (fun H locs hP hD hS => ?_)
      obtain ⟨f18, qf18⟩ : ∃ g, g = vp_updL o_f9 p2.toNatClampNeg v17 := ⟨_, rfl⟩
      rw [← qf18] at hP hD
      have hP : va_P G vwCl [(h0, oX6 b o_field o_houses), (b 8, .inl (cJ, 13, .inr (.inl o_f8))), (b 9, .inl (cJ, 13, .inr (.inl f18)))] H := hP
      have hD : va_D A [(h0, oX6 b o_field o_houses), (b 8, .inl (cJ, 13, .inr (.inl o_f8))), (b 9, .inl (cJ, 13, .inr (.inl f18)))] := hD
      exact hret _ _ _ _ (o_f8, f18) hP hD hS dX6_peg_56 trivial
    · have c12 := i_eq rfl ki_3 c12
      refine lv_aload_n hx hb dX6_peg_25 rfl (lv_at hl 2 rfl) ?_
      refine va_get (D := G) (ci := 6) (v := .ref (b 8)) (C := RX6) (T := TX6) (N := 12) hx hb hts iG_X6 hown hK hP 0 rfl rfl 8 (by decide) (hts _ w_250) (fun _ h9 => h9) rfl dX6_peg_26 ?_
      refine lv_iload_n hx hb dX6_peg_29 rfl (lv_at hl 5 rfl) ?_
      refine lv_dup2_11 hx hb dX6_peg_30 rfl rfl ?_
      refine va_lald hx hb hK hP 1 1 rfl rfl (ix_in rfl (by omega) (by omega)) dX6_peg_31 ?_
      refine lv_topl (fun v19 ev19 => ?_)
      refine lv_iload hx hb dX6_peg_32 (lv_at hl 0 rfl) ?_
      refine k_l (wc := []) (wr := [(h0, oX6 b o_field o_houses), (b 8, .inl (cJ, 13, .inr (.inl o_f8))), (b 9, .inl (cJ, 13, .inr (.inl o_f9)))]) hP hD hS hA [] [0, 1, 2] rfl rfl rfl (by decide) (va_runSN (As := [.int v4]) (rest := [.long v19, .int p2, .ref (b 8)]) ⟨hx, hb, hml, hown, hts⟩ (f_X9_bit l G cI cJ cZ cB cQ _ v4) ⟨va_cnB (host := "WidowRoads") 1 hts (gW w_519) rfl rfl rfl (nz_nw hZ nw_608 rfl) (hts _ w_1) hd_X9_bit ⟨Nat.le_of_ble_eq_true rfl, Nat.le_of_ble_eq_true rfl⟩, (hts _ w_518), trivial⟩ (mS hK hZ hP hD [] rfl rfl [.int v4]) rfl rfl hl.1 rfl (lv_room (Nat.le_of_ble_eq_true rfl)) dX6_peg_34 ⟨Nat.le_of_ble_eq_true rfl, Nat.le_of_ble_eq_true rfl⟩) (fun r20 u21 H locs hw22 hP hD hS => ?_)
      try dsimp only at hw22
      have hP : va_P G vwCl [(h0, oX6 b o_field o_houses), (b 8, .inl (cJ, 13, .inr (.inl o_f8))), (b 9, .inl (cJ, 13, .inr (.inl o_f9)))] H := hP
      have hD : va_D A [(h0, oX6 b o_field o_houses), (b 8, .inl (cJ, 13, .inr (.inl o_f8))), (b 9, .inl (cJ, 13, .inr (.inl o_f9)))] := hD
      refine lv_lor hx hb dX6_peg_37 ?_
      refine lv_topl (fun v23 ev23 => ?_)
      refine va_last hx hb hK hP hD hS 1 1 rfl rfl (ix_in rfl (by omega) (by omega)) dX6_peg_38 (fun H locs hP hD hS => ?_)
      obtain ⟨f24, qf24⟩ : ∃ g, g = vp_updL o_f8 p2.toNatClampNeg v23 := ⟨_, rfl⟩
      rw [← qf24] at hP hD
      have hP : va_P G vwCl [(h0, oX6 b o_field o_houses), (b 8, .inl (cJ, 13, .inr (.inl f24))), (b 9, .inl (cJ, 13, .inr (.inl o_f9)))] H := hP
      have hD : va_D A [(h0, oX6 b o_field o_houses), (b 8, .inl (cJ, 13, .inr (.inl f24))), (b 9, .inl (cJ, 13, .inr (.inl o_f9)))] := hD
      refine lv_goto (tgt := 56) hx hb dX6_peg_39 (by decide) ?_
      exact hret _ _ _ _ (f24, o_f9) hP hD hS dX6_peg_56 trivial
set_option maxHeartbeats 4000000 in
set_option maxRecDepth 100000 in
theorem f_X6_homeBits (l : Launch) (G : va_G) (cI cJ cZ cB cQ : ClassId) (sz : Nat) (h0 : Nat) (p0 : Int32) (b : Nat → Nat) (o_field : Int64) (o_houses : Int32) (o_f6 : Nat → Int32) (qp0_l : 0 ≤ p0.toInt) (qp0_h : p0.toInt ≤ 12) (hl_o_houses : 0 ≤ o_houses.toInt) (hh_o_houses : o_houses.toInt ≤ 6) : CL l yX6_homeBits (wl_ yX6_homeBits cX6_homeBits 6 (some .long)) ({ frames := 1, cells := 0, slots := 0, locals := 20 } : Room) G (TY cI cJ cZ cB cQ) [.ref h0, .int p0] [(h0, oX6 b o_field o_houses), (b 6, .inl (cI, 78, .inl o_f6))] sz (fun (r : Int64) (u : Unit) => True) (fun _ : Unit => [(h0, oX6 b o_field o_houses), (b 6, .inl (cI, 78, .inl o_f6))]) 0 0 := by
  refine CL.go (cc := cX6_homeBits) (maxL := 6) (ret := (some .long)) (by decide) rfl (Nat.le_of_ble_eq_true rfl) ?_
  intro p e s m below meth c A ls Q hBd hret
  obtain ⟨hx, hb, hr, hml, hts, hown, hlk, hnm, hP, hK, hD, hA, hZ, hl⟩ := hBd
  have hown : s.vm.findClass RX6 = some m.cls := hown
  have hl : lv_has ls 6 [(0, .ref h0), (1, .int p0)] := hl
  have hS : va_S A s.heap s.heap [] := va_S.rf
  refine lv_lconst (v := 0) hx hb dX6_homeBits_0 (by decide) ?_
  refine lv_lstore_n (lv' := [(2, .long 0), (0, .ref h0), (1, .int p0)]) hx hb dX6_homeBits_1 rfl hl (by decide) rfl (fun ls hl => ?_)
  refine lv_iconst (v := 0) hx hb dX6_homeBits_2 (by decide) ?_
  refine lv_istore (lv' := [(4, .int 0), (2, .long 0), (0, .ref h0), (1, .int p0)]) hx hb dX6_homeBits_3 hl (by decide) rfl (fun ls hl => ?_)
  have lp1 : ∀ (n2 : Nat) (x3 : Int32) (y4 : Int64), 0 ≤ x3.toInt → x3.toInt ≤ 6 → 6 - x3.toInt < (n2 : Int) → ∀ (H : Heap) (locs : List Loc), va_P G vwCl [(h0, oX6 b o_field o_houses), (b 6, .inl (cI, 78, .inl o_f6))] H → va_D A [(h0, oX6 b o_field o_houses), (b 6, .inl (cI, 78, .inl o_f6))] → va_S A s.heap H locs → ∀ (ls : Array Slot), lv_has ls 6 [(4, .int x3), (2, .long y4), (0, .ref h0), (1, .int p0)] → W p l e ({ frames := 1, cells := 0, slots := 0, locals := 20 } : Room) s m ([.ref h0, .int p0] : List Value).toArray below meth c H locs 0 0 Q (F0 m 5 ls []) := by
    intro n2
    induction n2 with
    | zero =>
      intro x3 y4 k5 k6 mm8
      exact absurd mm8 (by have q9 := fb_rng x3; omega)
    | succ n2 ih7 =>
      intro x3 y4 k5 k6 mm8 H locs hP hD hS ls hl
      refine lv_iload hx hb dX6_homeBits_5 (lv_at hl 0 rfl) ?_
      refine lv_aload_n hx hb dX6_homeBits_7 rfl (lv_at hl 2 rfl) ?_
      refine va_get (D := G) (ci := 6) (v := .int o_houses) (C := RX6) (T := TX6) (N := 12) hx hb hts iG_X6 hown hK hP 0 rfl rfl 11 (by decide) (hts _ w_255) (fun _ h9 => h9) rfl dX6_homeBits_8 ?_
      refine lv_icmp_ge (tgt := 48) hx hb dX6_homeBits_11 (by decide) (fun c9 => ?_) (fun c9 => ?_)
      · have c9 := i_le rfl rfl c9
        refine lv_lload_n hx hb dX6_homeBits_48 rfl (lv_at hl 1 rfl) ?_
        exact hret _ _ _ _ y4 () hP hD hS dX6_homeBits_49 trivial
      · have c9 := i_nle rfl rfl c9
        refine lv_aload_n hx hb dX6_homeBits_14 rfl (lv_at hl 2 rfl) ?_
        refine va_get (D := G) (ci := 6) (v := .ref (b 6)) (C := RX6) (T := TX6) (N := 12) hx hb hts iG_X6 hown hK hP 0 rfl rfl 6 (by decide) (hts _ w_244) (fun _ h9 => h9) rfl dX6_homeBits_15 ?_
        refine lv_iload_n hx hb dX6_homeBits_18 rfl (lv_at hl 3 rfl) ?_
        refine lv_bipush (v := 6) hx hb dX6_homeBits_19 (by decide) ?_
        refine lv_imul hx hb dX6_homeBits_21 ?_
        refine lv_topi (fun v10 ev10 => ?_)
        have tv10 : v10.toInt = p0.toInt * 6 := ti_mul rfl ki_6 ev10 (by omega) (by omega)
        refine lv_iload hx hb dX6_homeBits_22 (lv_at hl 0 rfl) ?_
        refine lv_iadd hx hb dX6_homeBits_24 ?_
        refine lv_topi (fun v11 ev11 => ?_)
        have tv11 : v11.toInt = p0.toInt * 6 + x3.toInt := ti_add tv10 rfl ev11 (by omega) (by omega)
        refine va_iald hx hb hK hP 1 0 rfl rfl (ix_in tv11 (by omega) (by omega)) dX6_homeBits_25 ?_
        refine lv_topi (fun v12 ev12 => ?_)
        refine lv_istore (lv' := [(5, .int v12), (4, .int x3), (2, .long y4), (0, .ref h0), (1, .int p0)]) hx hb dX6_homeBits_26 hl (by decide) rfl (fun ls hl => ?_)
        refine lv_iload hx hb dX6_homeBits_28 (lv_at hl 0 rfl) ?_
        refine lv_iconst (v := (-1)) hx hb dX6_homeBits_30 (by decide) ?_
        refine lv_icmp_eq (tgt := 42) hx hb dX6_homeBits_31 (by decide) (fun c13 => ?_) (fun c13 => ?_)
        · have c13 := i_eq rfl ki_m1 c13
          obtain ⟨v14, ev14⟩ : ∃ y : Int32, y = x3 + 1 := ⟨_, rfl⟩
          have tv14 : v14.toInt = x3.toInt + 1 := ti_add rfl ki_1 ev14 (by omega) (by omega)
          refine lv_iinc (v := v14) (lv' := [(4, .int v14), (5, .int v12), (2, .long y4), (0, .ref h0), (1, .int p0)]) hx hb dX6_homeBits_42 hl (k := 1) rfl (by rw [ev14]; rfl) (by decide) rfl (fun ls hl => ?_)
          refine lv_goto (tgt := 5) hx hb dX6_homeBits_45 (by decide) ?_
          exact ih7 v14 y4 (by omega) (by omega) (by omega) _ _ hP hD hS ls (lv_sub hl [0, 2, 3, 4] rfl)
        · have c13 := i_ne rfl ki_m1 c13
          refine lv_lload_n hx hb dX6_homeBits_34 rfl (lv_at hl 2 rfl) ?_
          refine lv_iload hx hb dX6_homeBits_35 (lv_at hl 0 rfl) ?_
          refine k_l (wc := []) (wr := [(h0, oX6 b o_field o_houses), (b 6, .inl (cI, 78, .inl o_f6))]) hP hD hS hA [] [0, 1] rfl rfl rfl (by decide) (va_runSN (As := [.int v12]) (rest := [.long y4]) ⟨hx, hb, hml, hown, hts⟩ (f_X9_bit l G cI cJ cZ cB cQ _ v12) ⟨va_cnB (host := "WidowRoads") 1 hts (gW w_519) rfl rfl rfl (nz_nw hZ nw_608 rfl) (hts _ w_1) hd_X9_bit ⟨Nat.le_of_ble_eq_true rfl, Nat.le_of_ble_eq_true rfl⟩, (hts _ w_518), trivial⟩ (mS hK hZ hP hD [] rfl rfl [.int v12]) rfl rfl hl.1 rfl (lv_room (Nat.le_of_ble_eq_true rfl)) dX6_homeBits_37 ⟨Nat.le_of_ble_eq_true rfl, Nat.le_of_ble_eq_true rfl⟩) (fun r15 u16 H locs hw17 hP hD hS => ?_)
          try dsimp only at hw17
          have hP : va_P G vwCl [(h0, oX6 b o_field o_houses), (b 6, .inl (cI, 78, .inl o_f6))] H := hP
          have hD : va_D A [(h0, oX6 b o_field o_houses), (b 6, .inl (cI, 78, .inl o_f6))] := hD
          refine lv_lor hx hb dX6_homeBits_40 ?_
          refine lv_topl (fun v18 ev18 => ?_)
          refine lv_lstore_n (lv' := [(2, .long v18), (5, .int v12), (4, .int x3), (0, .ref h0), (1, .int p0)]) hx hb dX6_homeBits_41 rfl hl (by decide) rfl (fun ls hl => ?_)
          obtain ⟨v19, ev19⟩ : ∃ y : Int32, y = x3 + 1 := ⟨_, rfl⟩
          have tv19 : v19.toInt = x3.toInt + 1 := ti_add rfl ki_1 ev19 (by omega) (by omega)
          refine lv_iinc (v := v19) (lv' := [(4, .int v19), (2, .long v18), (5, .int v12), (0, .ref h0), (1, .int p0)]) hx hb dX6_homeBits_42 hl (k := 2) rfl (by rw [ev19]; rfl) (by decide) rfl (fun ls hl => ?_)
          refine lv_goto (tgt := 5) hx hb dX6_homeBits_45 (by decide) ?_
          exact ih7 v19 v18 (by omega) (by omega) (by omega) _ _ hP hD hS ls (lv_sub hl [0, 1, 3, 4] rfl)
  exact lp1 7 0 0 (by rw [ki_0]; decide) (by rw [ki_0]; decide) (by rw [ki_0]; decide) _ _ hP hD hS ls (lv_sub hl [0, 1, 2, 3] rfl)
set_option maxHeartbeats 4000000 in
set_option maxRecDepth 100000 in
theorem f_X6_walks (l : Launch) (G : va_G) (cI cJ cZ cB cQ : ClassId) (sz : Nat) (h0 : Nat) (p0 : Int32) (b : Nat → Nat) (o_field : Int64) (o_houses : Int32) (o_f1 : Nat → Int32) (qp0_l : 0 ≤ p0.toInt) (qp0_h : p0.toInt ≤ 6) (hl_o_houses : 0 ≤ o_houses.toInt) (hh_o_houses : o_houses.toInt ≤ 6) (ha_o_f1 : ai o_f1 7 (-1) 40) : CI l yX6_walks (wl_ yX6_walks cX6_walks 2 (some .boolean)) ({ frames := 0, cells := 0, slots := 0, locals := 0 } : Room) G (TY cI cJ cZ cB cQ) [.ref h0, .int p0] [(h0, oX6 b o_field o_houses), (b 1, .inl (cI, 7, .inl o_f1))] sz (fun (r : Int32) (u : Unit) => ((r = 1 ∧ ¬ (o_f1 p0.toNatClampNeg).toInt = -1) ∨ (r = 0 ∧ (o_f1 p0.toNatClampNeg).toInt = -1))) (fun _ : Unit => [(h0, oX6 b o_field o_houses), (b 1, .inl (cI, 7, .inl o_f1))]) 0 0 := by
  refine CI.goz (cc := cX6_walks) (maxL := 2) (ret := (some .boolean)) (by decide) rfl (Nat.le_of_ble_eq_true rfl) ?_
  intro p e s m below meth c A ls Q hBd hret
  obtain ⟨hx, hb, hr, hml, hts, hown, hlk, hnm, hP, hK, hD, hA, hZ, hl⟩ := hBd
  have hown : s.vm.findClass RX6 = some m.cls := hown
  have hl : lv_has ls 2 [(0, .ref h0), (1, .int p0)] := hl
  have hS : va_S A s.heap s.heap [] := va_S.rf
  refine lv_aload_n hx hb dX6_walks_0 rfl (lv_at hl 0 rfl) ?_
  refine va_get (D := G) (ci := 6) (v := .ref (b 1)) (C := RX6) (T := TX6) (N := 12) hx hb hts iG_X6 hown hK hP 0 rfl rfl 1 (by decide) (hts _ w_234) (fun _ h9 => h9) rfl dX6_walks_1 ?_
  refine lv_iload_n hx hb dX6_walks_4 rfl (lv_at hl 1 rfl) ?_
  refine va_iald hx hb hK hP 1 0 rfl rfl (ix_in rfl (by omega) (by omega)) dX6_walks_5 ?_
  refine lv_topi (fun v1 ev1 => ?_)
  obtain ⟨ia2, ib3⟩ := ai_get ha_o_f1 rfl (by omega) (by omega) ev1
  have lkv1 : v1.toInt = (o_f1 p0.toNatClampNeg).toInt := by rw [ev1]
  refine lv_iconst (v := (-1)) hx hb dX6_walks_6 (by decide) ?_
  refine lv_icmp_eq (tgt := 14) hx hb dX6_walks_7 (by decide) (fun c4 => ?_) (fun c4 => ?_)
  · have c4 := i_eq rfl ki_m1 c4
    refine lv_iconst (v := 0) hx hb dX6_walks_14 (by decide) ?_
    exact hret _ _ _ _ 0 () hP hD hS dX6_walks_15 rfl (show (((0 : Int32) = 1 ∧ ¬ (o_f1 p0.toNatClampNeg).toInt = -1) ∨ ((0 : Int32) = 0 ∧ (o_f1 p0.toNatClampNeg).toInt = -1)) from (Or.inr ⟨rfl, by omega⟩))
  · have c4 := i_ne rfl ki_m1 c4
    refine lv_iconst (v := 1) hx hb dX6_walks_10 (by decide) ?_
    refine lv_goto (tgt := 15) hx hb dX6_walks_11 (by decide) ?_
    exact hret _ _ _ _ 1 () hP hD hS dX6_walks_15 rfl (show (((1 : Int32) = 1 ∧ ¬ (o_f1 p0.toNatClampNeg).toInt = -1) ∨ ((1 : Int32) = 0 ∧ (o_f1 p0.toNatClampNeg).toInt = -1)) from (Or.inl ⟨rfl, by omega⟩))
set_option maxHeartbeats 4000000 in
set_option maxRecDepth 100000 in
theorem f_X6_spotAt (l : Launch) (G : va_G) (cI cJ cZ cB cQ : ClassId) (sz : Nat) (h0 : Nat) (p0 : Int32) (p1 : Int32) (b : Nat → Nat) (o_field : Int64) (o_houses : Int32) (o_f0 : Nat → Int32) (o_f1 : Nat → Int32) (qp0_l : 0 ≤ p0.toInt) (qp0_h : p0.toInt ≤ 6) (qp1_l : 0 ≤ p1.toInt) (hl_o_houses : 0 ≤ o_houses.toInt) (hh_o_houses : o_houses.toInt ≤ 6) (ha_o_f1 : ai o_f1 7 (-1) 40) : CI l yX6_spotAt (wl_ yX6_spotAt cX6_spotAt 3 (some .int)) ({ frames := 0, cells := 0, slots := 0, locals := 0 } : Room) G (TY cI cJ cZ cB cQ) [.ref h0, .int p0, .int p1] [(h0, oX6 b o_field o_houses), (b 0, .inl (cI, 287, .inl o_f0)), (b 1, .inl (cI, 7, .inl o_f1))] sz (fun (r : Int32) (u : Unit) => True) (fun _ : Unit => [(h0, oX6 b o_field o_houses), (b 0, .inl (cI, 287, .inl o_f0)), (b 1, .inl (cI, 7, .inl o_f1))]) 0 0 := by
  refine CI.go (cc := cX6_spotAt) (maxL := 3) (ret := (some .int)) (by decide) rfl (Nat.le_of_ble_eq_true rfl) ?_
  intro p e s m below meth c A ls Q hBd hret
  obtain ⟨hx, hb, hr, hml, hts, hown, hlk, hnm, hP, hK, hD, hA, hZ, hl⟩ := hBd
  have hown : s.vm.findClass RX6 = some m.cls := hown
  have hl : lv_has ls 3 [(0, .ref h0), (1, .int p0), (2, .int p1)] := hl
  have hS : va_S A s.heap s.heap [] := va_S.rf
  refine lv_iload_n hx hb dX6_spotAt_0 rfl (lv_at hl 2 rfl) ?_
  refine lv_aload_n hx hb dX6_spotAt_1 rfl (lv_at hl 0 rfl) ?_
  refine va_get (D := G) (ci := 6) (v := .ref (b 1)) (C := RX6) (T := TX6) (N := 12) hx hb hts iG_X6 hown hK hP 0 rfl rfl 1 (by decide) (hts _ w_234) (fun _ h9 => h9) rfl dX6_spotAt_2 ?_
  refine lv_iload_n hx hb dX6_spotAt_5 rfl (lv_at hl 1 rfl) ?_
  refine va_iald hx hb hK hP 2 0 rfl rfl (ix_in rfl (by omega) (by omega)) dX6_spotAt_6 ?_
  refine lv_topi (fun v1 ev1 => ?_)
  obtain ⟨ia2, ib3⟩ := ai_get ha_o_f1 rfl (by omega) (by omega) ev1
  refine lv_icmp_gt (tgt := 24) hx hb dX6_spotAt_7 (by decide) (fun c4 => ?_) (fun c4 => ?_)
  · have c4 := i_lt rfl rfl c4
    refine lv_iconst (v := (-1)) hx hb dX6_spotAt_24 (by decide) ?_
    exact hret _ _ _ _ (-1) () hP hD hS dX6_spotAt_25 trivial
  · have c4 := i_nlt rfl rfl c4
    refine lv_aload_n hx hb dX6_spotAt_10 rfl (lv_at hl 0 rfl) ?_
    refine va_get (D := G) (ci := 6) (v := .ref (b 0)) (C := RX6) (T := TX6) (N := 12) hx hb hts iG_X6 hown hK hP 0 rfl rfl 0 (by decide) (hts _ w_233) (fun _ h9 => h9) rfl dX6_spotAt_11 ?_
    refine lv_iload_n hx hb dX6_spotAt_14 rfl (lv_at hl 1 rfl) ?_
    refine lv_bipush (v := 41) hx hb dX6_spotAt_15 (by decide) ?_
    refine lv_imul hx hb dX6_spotAt_17 ?_
    refine lv_topi (fun v5 ev5 => ?_)
    have tv5 : v5.toInt = p0.toInt * 41 := ti_mul rfl ki_41 ev5 (by omega) (by omega)
    refine lv_iload_n hx hb dX6_spotAt_18 rfl (lv_at hl 2 rfl) ?_
    refine lv_iadd hx hb dX6_spotAt_19 ?_
    refine lv_topi (fun v6 ev6 => ?_)
    have tv6 : v6.toInt = p0.toInt * 41 + p1.toInt := ti_add tv5 rfl ev6 (by omega) (by omega)
    refine va_iald hx hb hK hP 1 0 rfl rfl (ix_in tv6 (by omega) (by omega)) dX6_spotAt_20 ?_
    refine lv_topi (fun v7 ev7 => ?_)
    refine lv_goto (tgt := 25) hx hb dX6_spotAt_21 (by decide) ?_
    exact hret _ _ _ _ v7 () hP hD hS dX6_spotAt_25 trivial
set_option maxHeartbeats 4000000 in
set_option maxRecDepth 100000 in
theorem f_X6_timesAt (l : Launch) (G : va_G) (cI cJ cZ cB cQ : ClassId) (sz : Nat) (h0 : Nat) (p0 : Int32) (p1 : Int32) (b : Nat → Nat) (o_field : Int64) (o_houses : Int32) (o_f0 : Nat → Int32) (o_f1 : Nat → Int32) (qp0_l : 0 ≤ p0.toInt) (qp0_h : p0.toInt ≤ 6) (hl_o_houses : 0 ≤ o_houses.toInt) (hh_o_houses : o_houses.toInt ≤ 6) (ha_o_f1 : ai o_f1 7 (-1) 40) : CI l yX6_timesAt (wl_ yX6_timesAt cX6_timesAt 5 (some .int)) ({ frames := 1, cells := 0, slots := 0, locals := 20 } : Room) G (TY cI cJ cZ cB cQ) [.ref h0, .int p0, .int p1] [(h0, oX6 b o_field o_houses), (b 0, .inl (cI, 287, .inl o_f0)), (b 1, .inl (cI, 7, .inl o_f1))] sz (fun (r : Int32) (u : Unit) => True) (fun _ : Unit => [(h0, oX6 b o_field o_houses), (b 0, .inl (cI, 287, .inl o_f0)), (b 1, .inl (cI, 7, .inl o_f1))]) 0 0 := by
  refine CI.go (cc := cX6_timesAt) (maxL := 5) (ret := (some .int)) (by decide) rfl (Nat.le_of_ble_eq_true rfl) ?_
  intro p e s m below meth c A ls Q hBd hret
  obtain ⟨hx, hb, hr, hml, hts, hown, hlk, hnm, hP, hK, hD, hA, hZ, hl⟩ := hBd
  have hown : s.vm.findClass RX6 = some m.cls := hown
  have hl : lv_has ls 5 [(0, .ref h0), (1, .int p0), (2, .int p1)] := hl
  have hS : va_S A s.heap s.heap [] := va_S.rf
  refine lv_iconst (v := 0) hx hb dX6_timesAt_0 (by decide) ?_
  refine lv_istore_n (lv' := [(3, .int 0), (0, .ref h0), (1, .int p0), (2, .int p1)]) hx hb dX6_timesAt_1 rfl hl (by decide) rfl (fun ls hl => ?_)
  refine lv_iconst (v := 0) hx hb dX6_timesAt_2 (by decide) ?_
  refine lv_istore (lv' := [(4, .int 0), (3, .int 0), (0, .ref h0), (1, .int p0), (2, .int p1)]) hx hb dX6_timesAt_3 hl (by decide) rfl (fun ls hl => ?_)
  have lp1 : ∀ (n2 : Nat) (x3 : Int32) (x4 : Int32), 0 ≤ x4.toInt → x4.toInt ≤ 41 → 41 - x4.toInt < (n2 : Int) → ∀ (H : Heap) (locs : List Loc), va_P G vwCl [(h0, oX6 b o_field o_houses), (b 0, .inl (cI, 287, .inl o_f0)), (b 1, .inl (cI, 7, .inl o_f1))] H → va_D A [(h0, oX6 b o_field o_houses), (b 0, .inl (cI, 287, .inl o_f0)), (b 1, .inl (cI, 7, .inl o_f1))] → va_S A s.heap H locs → ∀ (ls : Array Slot), lv_has ls 5 [(4, .int x4), (3, .int x3), (0, .ref h0), (1, .int p0), (2, .int p1)] → W p l e ({ frames := 1, cells := 0, slots := 0, locals := 20 } : Room) s m ([.ref h0, .int p0, .int p1] : List Value).toArray below meth c H locs 0 0 Q (F0 m 5 ls []) := by
    intro n2
    induction n2 with
    | zero =>
      intro x3 x4 k5 k6 mm8
      exact absurd mm8 (by have q9 := fb_rng x4; omega)
    | succ n2 ih7 =>
      intro x3 x4 k5 k6 mm8 H locs hP hD hS ls hl
      refine lv_iload hx hb dX6_timesAt_5 (lv_at hl 0 rfl) ?_
      refine lv_aload_n hx hb dX6_timesAt_7 rfl (lv_at hl 2 rfl) ?_
      refine va_get (D := G) (ci := 6) (v := .ref (b 1)) (C := RX6) (T := TX6) (N := 12) hx hb hts iG_X6 hown hK hP 0 rfl rfl 1 (by decide) (hts _ w_234) (fun _ h9 => h9) rfl dX6_timesAt_8 ?_
      refine lv_iload_n hx hb dX6_timesAt_11 rfl (lv_at hl 3 rfl) ?_
      refine va_iald hx hb hK hP 2 0 rfl rfl (ix_in rfl (by omega) (by omega)) dX6_timesAt_12 ?_
      refine lv_topi (fun v9 ev9 => ?_)
      obtain ⟨ia10, ib11⟩ := ai_get ha_o_f1 rfl (by omega) (by omega) ev9
      refine lv_icmp_gt (tgt := 49) hx hb dX6_timesAt_13 (by decide) (fun c12 => ?_) (fun c12 => ?_)
      · have c12 := i_lt rfl rfl c12
        refine lv_iload_n hx hb dX6_timesAt_49 rfl (lv_at hl 1 rfl) ?_
        exact hret _ _ _ _ x3 () hP hD hS dX6_timesAt_50 trivial
      · have c12 := i_nlt rfl rfl c12
        refine lv_iload_n hx hb dX6_timesAt_16 rfl (lv_at hl 1 rfl) ?_
        refine lv_aload_n hx hb dX6_timesAt_17 rfl (lv_at hl 2 rfl) ?_
        refine va_get (D := G) (ci := 6) (v := .ref (b 0)) (C := RX6) (T := TX6) (N := 12) hx hb hts iG_X6 hown hK hP 0 rfl rfl 0 (by decide) (hts _ w_233) (fun _ h9 => h9) rfl dX6_timesAt_18 ?_
        refine lv_iload_n hx hb dX6_timesAt_21 rfl (lv_at hl 3 rfl) ?_
        refine lv_bipush (v := 41) hx hb dX6_timesAt_22 (by decide) ?_
        refine lv_imul hx hb dX6_timesAt_24 ?_
        refine lv_topi (fun v13 ev13 => ?_)
        have tv13 : v13.toInt = p0.toInt * 41 := ti_mul rfl ki_41 ev13 (by omega) (by omega)
        refine lv_iload hx hb dX6_timesAt_25 (lv_at hl 0 rfl) ?_
        refine lv_iadd hx hb dX6_timesAt_27 ?_
        refine lv_topi (fun v14 ev14 => ?_)
        have tv14 : v14.toInt = p0.toInt * 41 + x4.toInt := ti_add tv13 rfl ev14 (by omega) (by omega)
        refine va_iald hx hb hK hP 1 0 rfl rfl (ix_in tv14 (by omega) (by omega)) dX6_timesAt_28 ?_
        refine lv_topi (fun v15 ev15 => ?_)
        refine lv_iload_n hx hb dX6_timesAt_29 rfl (lv_at hl 4 rfl) ?_
        refine lv_icmp_ne (tgt := 37) hx hb dX6_timesAt_30 (by decide) (fun c16 => ?_) (fun c16 => ?_)
        · have c16 := i_ne rfl rfl c16
          refine lv_iconst (v := 0) hx hb dX6_timesAt_37 (by decide) ?_
          refine k_i (wc := []) (wr := [(h0, oX6 b o_field o_houses), (b 0, .inl (cI, 287, .inl o_f0)), (b 1, .inl (cI, 7, .inl o_f1))]) hP hD hS hA [] [0, 1, 2] rfl rfl rfl (by decide) (va_runSN (As := [.int 0]) (rest := [.int x3]) ⟨hx, hb, hml, hown, hts⟩ (f_X9_oneIf l G cI cJ cZ cB cQ _ 0) ⟨va_cnB (host := "WidowRoads") 1 hts (gW w_663) rfl rfl rfl (nz_nw hZ nw_719 rfl) (hts _ w_1) hd_X9_oneIf ⟨Nat.le_of_ble_eq_true rfl, Nat.le_of_ble_eq_true rfl⟩, (hts _ w_662), trivial⟩ (mS hK hZ hP hD [] rfl rfl [.int 0]) rfl rfl hl.1 rfl (lv_room (Nat.le_of_ble_eq_true rfl)) dX6_timesAt_38 ⟨Nat.le_of_ble_eq_true rfl, Nat.le_of_ble_eq_true rfl⟩) (fun r17 u18 H locs hw19 hP hD hS => ?_)
          try dsimp only at hw19
          have hP : va_P G vwCl [(h0, oX6 b o_field o_houses), (b 0, .inl (cI, 287, .inl o_f0)), (b 1, .inl (cI, 7, .inl o_f1))] H := hP
          have hD : va_D A [(h0, oX6 b o_field o_houses), (b 0, .inl (cI, 287, .inl o_f0)), (b 1, .inl (cI, 7, .inl o_f1))] := hD
          obtain ⟨w20, w21⟩ : 0 ≤ r17.toInt ∧ r17.toInt ≤ 1 := hw19
          refine lv_iadd hx hb dX6_timesAt_41 ?_
          refine lv_topi (fun v22 ev22 => ?_)
          refine lv_istore_n (lv' := [(3, .int v22), (4, .int x4), (0, .ref h0), (1, .int p0), (2, .int p1)]) hx hb dX6_timesAt_42 rfl hl (by decide) rfl (fun ls hl => ?_)
          obtain ⟨v23, ev23⟩ : ∃ y : Int32, y = x4 + 1 := ⟨_, rfl⟩
          have tv23 : v23.toInt = x4.toInt + 1 := ti_add rfl ki_1 ev23 (by omega) (by omega)
          refine lv_iinc (v := v23) (lv' := [(4, .int v23), (3, .int v22), (0, .ref h0), (1, .int p0), (2, .int p1)]) hx hb dX6_timesAt_43 hl (k := 1) rfl (by rw [ev23]; rfl) (by decide) rfl (fun ls hl => ?_)
          refine lv_goto (tgt := 5) hx hb dX6_timesAt_46 (by decide) ?_
          exact ih7 v22 v23 (by omega) (by omega) (by omega) _ _ hP hD hS ls (lv_sub hl [0, 1, 2, 3, 4] rfl)
        · have c16 := i_eq rfl rfl c16
          refine lv_iconst (v := 1) hx hb dX6_timesAt_33 (by decide) ?_
          refine lv_goto (tgt := 38) hx hb dX6_timesAt_34 (by decide) ?_
          refine k_i (wc := []) (wr := [(h0, oX6 b o_field o_houses), (b 0, .inl (cI, 287, .inl o_f0)), (b 1, .inl (cI, 7, .inl o_f1))]) hP hD hS hA [] [0, 1, 2] rfl rfl rfl (by decide) (va_runSN (As := [.int 1]) (rest := [.int x3]) ⟨hx, hb, hml, hown, hts⟩ (f_X9_oneIf l G cI cJ cZ cB cQ _ 1) ⟨va_cnB (host := "WidowRoads") 1 hts (gW w_663) rfl rfl rfl (nz_nw hZ nw_719 rfl) (hts _ w_1) hd_X9_oneIf ⟨Nat.le_of_ble_eq_true rfl, Nat.le_of_ble_eq_true rfl⟩, (hts _ w_662), trivial⟩ (mS hK hZ hP hD [] rfl rfl [.int 1]) rfl rfl hl.1 rfl (lv_room (Nat.le_of_ble_eq_true rfl)) dX6_timesAt_38 ⟨Nat.le_of_ble_eq_true rfl, Nat.le_of_ble_eq_true rfl⟩) (fun r24 u25 H locs hw26 hP hD hS => ?_)
          try dsimp only at hw26
          have hP : va_P G vwCl [(h0, oX6 b o_field o_houses), (b 0, .inl (cI, 287, .inl o_f0)), (b 1, .inl (cI, 7, .inl o_f1))] H := hP
          have hD : va_D A [(h0, oX6 b o_field o_houses), (b 0, .inl (cI, 287, .inl o_f0)), (b 1, .inl (cI, 7, .inl o_f1))] := hD
          obtain ⟨w27, w28⟩ : 0 ≤ r24.toInt ∧ r24.toInt ≤ 1 := hw26
          refine lv_iadd hx hb dX6_timesAt_41 ?_
          refine lv_topi (fun v29 ev29 => ?_)
          refine lv_istore_n (lv' := [(3, .int v29), (4, .int x4), (0, .ref h0), (1, .int p0), (2, .int p1)]) hx hb dX6_timesAt_42 rfl hl (by decide) rfl (fun ls hl => ?_)
          obtain ⟨v30, ev30⟩ : ∃ y : Int32, y = x4 + 1 := ⟨_, rfl⟩
          have tv30 : v30.toInt = x4.toInt + 1 := ti_add rfl ki_1 ev30 (by omega) (by omega)
          refine lv_iinc (v := v30) (lv' := [(4, .int v30), (3, .int v29), (0, .ref h0), (1, .int p0), (2, .int p1)]) hx hb dX6_timesAt_43 hl (k := 1) rfl (by rw [ev30]; rfl) (by decide) rfl (fun ls hl => ?_)
          refine lv_goto (tgt := 5) hx hb dX6_timesAt_46 (by decide) ?_
          exact ih7 v29 v30 (by omega) (by omega) (by omega) _ _ hP hD hS ls (lv_sub hl [0, 1, 2, 3, 4] rfl)
  exact lp1 42 0 0 (by rw [ki_0]; decide) (by rw [ki_0]; decide) (by rw [ki_0]; decide) _ _ hP hD hS ls (lv_sub hl [0, 1, 2, 3, 4] rfl)
set_option maxHeartbeats 4000000 in
set_option maxRecDepth 100000 in
theorem f_X6_pegsIn (l : Launch) (G : va_G) (cI cJ cZ cB cQ : ClassId) (sz : Nat) (h0 : Nat) (p0 : Int32) (b : Nat → Nat) (o_field : Int64) (o_houses : Int32) (o_f8 : Nat → Int64) (o_f9 : Nat → Int64) (qp0_l : 0 ≤ p0.toInt) (qp0_h : p0.toInt ≤ 12) (hl_o_houses : 0 ≤ o_houses.toInt) (hh_o_houses : o_houses.toInt ≤ 6) : CI l yX6_pegsIn (wl_ yX6_pegsIn cX6_pegsIn 2 (some .int)) ({ frames := 1, cells := 0, slots := 0, locals := 21 } : Room) G (TY cI cJ cZ cB cQ) [.ref h0, .int p0] [(h0, oX6 b o_field o_houses), (b 8, .inl (cJ, 13, .inr (.inl o_f8))), (b 9, .inl (cJ, 13, .inr (.inl o_f9)))] sz (fun (r : Int32) (u : Unit) => True) (fun _ : Unit => [(h0, oX6 b o_field o_houses), (b 8, .inl (cJ, 13, .inr (.inl o_f8))), (b 9, .inl (cJ, 13, .inr (.inl o_f9)))]) 0 0 := by
  refine CI.go (cc := cX6_pegsIn) (maxL := 2) (ret := (some .int)) (by decide) rfl (Nat.le_of_ble_eq_true rfl) ?_
  intro p e s m below meth c A ls Q hBd hret
  obtain ⟨hx, hb, hr, hml, hts, hown, hlk, hnm, hP, hK, hD, hA, hZ, hl⟩ := hBd
  have hown : s.vm.findClass RX6 = some m.cls := hown
  have hl : lv_has ls 2 [(0, .ref h0), (1, .int p0)] := hl
  have hS : va_S A s.heap s.heap [] := va_S.rf
  refine lv_aload_n hx hb dX6_pegsIn_0 rfl (lv_at hl 0 rfl) ?_
  refine va_get (D := G) (ci := 6) (v := .ref (b 8)) (C := RX6) (T := TX6) (N := 12) hx hb hts iG_X6 hown hK hP 0 rfl rfl 8 (by decide) (hts _ w_250) (fun _ h9 => h9) rfl dX6_pegsIn_1 ?_
  refine lv_iload_n hx hb dX6_pegsIn_4 rfl (lv_at hl 1 rfl) ?_
  refine va_lald hx hb hK hP 1 1 rfl rfl (ix_in rfl (by omega) (by omega)) dX6_pegsIn_5 ?_
  refine lv_topl (fun v1 ev1 => ?_)
  refine k_i (wc := []) (wr := [(h0, oX6 b o_field o_houses), (b 8, .inl (cJ, 13, .inr (.inl o_f8))), (b 9, .inl (cJ, 13, .inr (.inl o_f9)))]) hP hD hS hA [] [0, 1, 2] rfl rfl rfl (by decide) (va_runS (As := [.long v1]) (rest := []) ⟨hx, hb, hml, hown, hts⟩ (f_J13_bitCount_95d88 l G cI cJ cZ cB cQ _ v1) (va_cwS 1 hts (gS w_773 w_640 w_18 w_641) rfl rfl rfl hd_J13_bitCount_95d88 ⟨Nat.le_of_ble_eq_true rfl, Nat.le_of_ble_eq_true rfl⟩) (mS hK hZ hP hD [] rfl rfl [.long v1]) rfl rfl hl.1 rfl (lv_room (Nat.le_of_ble_eq_true rfl)) dX6_pegsIn_6 ⟨Nat.le_of_ble_eq_true rfl, Nat.le_of_ble_eq_true rfl⟩) (fun r2 u3 H locs hw4 hP hD hS => ?_)
  try dsimp only at hw4
  have hP : va_P G vwCl [(h0, oX6 b o_field o_houses), (b 8, .inl (cJ, 13, .inr (.inl o_f8))), (b 9, .inl (cJ, 13, .inr (.inl o_f9)))] H := hP
  have hD : va_D A [(h0, oX6 b o_field o_houses), (b 8, .inl (cJ, 13, .inr (.inl o_f8))), (b 9, .inl (cJ, 13, .inr (.inl o_f9)))] := hD
  obtain ⟨w5, w6⟩ : 0 ≤ r2.toInt ∧ r2.toInt ≤ 127 := hw4
  refine lv_aload_n hx hb dX6_pegsIn_9 rfl (lv_at hl 0 rfl) ?_
  refine va_get (D := G) (ci := 6) (v := .ref (b 9)) (C := RX6) (T := TX6) (N := 12) hx hb hts iG_X6 hown hK hP 0 rfl rfl 9 (by decide) (hts _ w_252) (fun _ h9 => h9) rfl dX6_pegsIn_10 ?_
  refine lv_iload_n hx hb dX6_pegsIn_13 rfl (lv_at hl 1 rfl) ?_
  refine va_lald hx hb hK hP 2 1 rfl rfl (ix_in rfl (by omega) (by omega)) dX6_pegsIn_14 ?_
  refine lv_topl (fun v7 ev7 => ?_)
  refine k_i (wc := []) (wr := [(h0, oX6 b o_field o_houses), (b 8, .inl (cJ, 13, .inr (.inl o_f8))), (b 9, .inl (cJ, 13, .inr (.inl o_f9)))]) hP hD hS hA [] [0, 1, 2] rfl rfl rfl (by decide) (va_runS (As := [.long v7]) (rest := [.int r2]) ⟨hx, hb, hml, hown, hts⟩ (f_J13_bitCount_95d88 l G cI cJ cZ cB cQ _ v7) (va_cwS 1 hts (gS w_773 w_640 w_18 w_641) rfl rfl rfl hd_J13_bitCount_95d88 ⟨Nat.le_of_ble_eq_true rfl, Nat.le_of_ble_eq_true rfl⟩) (mS hK hZ hP hD [] rfl rfl [.long v7]) rfl rfl hl.1 rfl (lv_room (Nat.le_of_ble_eq_true rfl)) dX6_pegsIn_15 ⟨Nat.le_of_ble_eq_true rfl, Nat.le_of_ble_eq_true rfl⟩) (fun r8 u9 H locs hw10 hP hD hS => ?_)
  try dsimp only at hw10
  have hP : va_P G vwCl [(h0, oX6 b o_field o_houses), (b 8, .inl (cJ, 13, .inr (.inl o_f8))), (b 9, .inl (cJ, 13, .inr (.inl o_f9)))] H := hP
  have hD : va_D A [(h0, oX6 b o_field o_houses), (b 8, .inl (cJ, 13, .inr (.inl o_f8))), (b 9, .inl (cJ, 13, .inr (.inl o_f9)))] := hD
  obtain ⟨w11, w12⟩ : 0 ≤ r8.toInt ∧ r8.toInt ≤ 127 := hw10
  refine lv_iadd hx hb dX6_pegsIn_18 ?_
  refine lv_topi (fun v13 ev13 => ?_)
  have tv13 : v13.toInt = r2.toInt + r8.toInt := ti_add rfl rfl ev13 (by omega) (by omega)
  exact hret _ _ _ _ v13 () hP hD hS dX6_pegsIn_19 trivial
set_option maxHeartbeats 4000000 in
set_option maxRecDepth 100000 in
theorem f_X6_allShifts (l : Launch) (G : va_G) (cI cJ cZ cB cQ : ClassId) (sz : Nat) (h0 : Nat) (b : Nat → Nat) (o_field : Int64) (o_houses : Int32) (o_f5 : Nat → Int32) (hl_o_houses : 0 ≤ o_houses.toInt) (hh_o_houses : o_houses.toInt ≤ 6) : CI l yX6_allShifts (wl_ yX6_allShifts cX6_allShifts 3 (some .int)) ({ frames := 0, cells := 0, slots := 0, locals := 0 } : Room) G (TY cI cJ cZ cB cQ) [.ref h0] [(h0, oX6 b o_field o_houses), (b 5, .inl (cI, 6, .inl o_f5))] sz (fun (r : Int32) (u : Unit) => True) (fun _ : Unit => [(h0, oX6 b o_field o_houses), (b 5, .inl (cI, 6, .inl o_f5))]) 0 0 := by
  refine CI.go (cc := cX6_allShifts) (maxL := 3) (ret := (some .int)) (by decide) rfl (Nat.le_of_ble_eq_true rfl) ?_
  intro p e s m below meth c A ls Q hBd hret
  obtain ⟨hx, hb, hr, hml, hts, hown, hlk, hnm, hP, hK, hD, hA, hZ, hl⟩ := hBd
  have hown : s.vm.findClass RX6 = some m.cls := hown
  have hl : lv_has ls 3 [(0, .ref h0)] := hl
  have hS : va_S A s.heap s.heap [] := va_S.rf
  refine lv_iconst (v := 0) hx hb dX6_allShifts_0 (by decide) ?_
  refine lv_istore_n (lv' := [(1, .int 0), (0, .ref h0)]) hx hb dX6_allShifts_1 rfl hl (by decide) rfl (fun ls hl => ?_)
  refine lv_iconst (v := 0) hx hb dX6_allShifts_2 (by decide) ?_
  refine lv_istore_n (lv' := [(2, .int 0), (1, .int 0), (0, .ref h0)]) hx hb dX6_allShifts_3 rfl hl (by decide) rfl (fun ls hl => ?_)
  have lp1 : ∀ (n2 : Nat) (x3 : Int32) (x4 : Int32), 0 ≤ x4.toInt → x4.toInt ≤ 6 → 6 - x4.toInt < (n2 : Int) → ∀ (H : Heap) (locs : List Loc), va_P G vwCl [(h0, oX6 b o_field o_houses), (b 5, .inl (cI, 6, .inl o_f5))] H → va_D A [(h0, oX6 b o_field o_houses), (b 5, .inl (cI, 6, .inl o_f5))] → va_S A s.heap H locs → ∀ (ls : Array Slot), lv_has ls 3 [(2, .int x4), (1, .int x3), (0, .ref h0)] → W p l e ({ frames := 0, cells := 0, slots := 0, locals := 0 } : Room) s m ([.ref h0] : List Value).toArray below meth c H locs 0 0 Q (F0 m 4 ls []) := by
    intro n2
    induction n2 with
    | zero =>
      intro x3 x4 k5 k6 mm8
      exact absurd mm8 (by have q9 := fb_rng x4; omega)
    | succ n2 ih7 =>
      intro x3 x4 k5 k6 mm8 H locs hP hD hS ls hl
      refine lv_iload_n hx hb dX6_allShifts_4 rfl (lv_at hl 0 rfl) ?_
      refine lv_aload_n hx hb dX6_allShifts_5 rfl (lv_at hl 2 rfl) ?_
      refine va_get (D := G) (ci := 6) (v := .int o_houses) (C := RX6) (T := TX6) (N := 12) hx hb hts iG_X6 hown hK hP 0 rfl rfl 11 (by decide) (hts _ w_255) (fun _ h9 => h9) rfl dX6_allShifts_6 ?_
      refine lv_icmp_ge (tgt := 27) hx hb dX6_allShifts_9 (by decide) (fun c9 => ?_) (fun c9 => ?_)
      · have c9 := i_le rfl rfl c9
        refine lv_iload_n hx hb dX6_allShifts_27 rfl (lv_at hl 1 rfl) ?_
        exact hret _ _ _ _ x3 () hP hD hS dX6_allShifts_28 trivial
      · have c9 := i_nle rfl rfl c9
        refine lv_iload_n hx hb dX6_allShifts_12 rfl (lv_at hl 1 rfl) ?_
        refine lv_aload_n hx hb dX6_allShifts_13 rfl (lv_at hl 2 rfl) ?_
        refine va_get (D := G) (ci := 6) (v := .ref (b 5)) (C := RX6) (T := TX6) (N := 12) hx hb hts iG_X6 hown hK hP 0 rfl rfl 5 (by decide) (hts _ w_242) (fun _ h9 => h9) rfl dX6_allShifts_14 ?_
        refine lv_iload_n hx hb dX6_allShifts_17 rfl (lv_at hl 0 rfl) ?_
        refine va_iald hx hb hK hP 1 0 rfl rfl (ix_in rfl (by omega) (by omega)) dX6_allShifts_18 ?_
        refine lv_topi (fun v10 ev10 => ?_)
        refine lv_iadd hx hb dX6_allShifts_19 ?_
        refine lv_topi (fun v11 ev11 => ?_)
        refine lv_istore_n (lv' := [(1, .int v11), (2, .int x4), (0, .ref h0)]) hx hb dX6_allShifts_20 rfl hl (by decide) rfl (fun ls hl => ?_)
        obtain ⟨v12, ev12⟩ : ∃ y : Int32, y = x4 + 1 := ⟨_, rfl⟩
        have tv12 : v12.toInt = x4.toInt + 1 := ti_add rfl ki_1 ev12 (by omega) (by omega)
        refine lv_iinc (v := v12) (lv' := [(2, .int v12), (1, .int v11), (0, .ref h0)]) hx hb dX6_allShifts_21 hl (k := 1) rfl (by rw [ev12]; rfl) (by decide) rfl (fun ls hl => ?_)
        refine lv_goto (tgt := 4) hx hb dX6_allShifts_24 (by decide) ?_
        exact ih7 v11 v12 (by omega) (by omega) (by omega) _ _ hP hD hS ls (lv_sub hl [0, 1, 2] rfl)
  exact lp1 7 0 0 (by rw [ki_0]; decide) (by rw [ki_0]; decide) (by rw [ki_0]; decide) _ _ hP hD hS ls (lv_sub hl [0, 1, 2] rfl)
set_option maxHeartbeats 4000000 in
set_option maxRecDepth 100000 in
theorem f_X6_gainOf (l : Launch) (G : va_G) (cI cJ cZ cB cQ : ClassId) (sz : Nat) (h0 : Nat) (p0 : Int32) (b : Nat → Nat) (o_field : Int64) (o_houses : Int32) (o_f3 : Nat → Int64) (o_f4 : Nat → Int32) (qp0_l : 0 ≤ p0.toInt) (qp0_h : p0.toInt ≤ 6) (hl_o_houses : 0 ≤ o_houses.toInt) (hh_o_houses : o_houses.toInt ≤ 6) : CI l yX6_gainOf (wl_ yX6_gainOf cX6_gainOf 2 (some .int)) ({ frames := 1, cells := 0, slots := 0, locals := 21 } : Room) G (TY cI cJ cZ cB cQ) [.ref h0, .int p0] [(h0, oX6 b o_field o_houses), (b 3, .inl (cJ, 7, .inr (.inl o_f3))), (b 4, .inl (cI, 7, .inl o_f4))] sz (fun (r : Int32) (u : Unit) => True) (fun _ : Unit => [(h0, oX6 b o_field o_houses), (b 3, .inl (cJ, 7, .inr (.inl o_f3))), (b 4, .inl (cI, 7, .inl o_f4))]) 0 0 := by
  refine CI.go (cc := cX6_gainOf) (maxL := 2) (ret := (some .int)) (by decide) rfl (Nat.le_of_ble_eq_true rfl) ?_
  intro p e s m below meth c A ls Q hBd hret
  obtain ⟨hx, hb, hr, hml, hts, hown, hlk, hnm, hP, hK, hD, hA, hZ, hl⟩ := hBd
  have hown : s.vm.findClass RX6 = some m.cls := hown
  have hl : lv_has ls 2 [(0, .ref h0), (1, .int p0)] := hl
  have hS : va_S A s.heap s.heap [] := va_S.rf
  refine lv_aload_n hx hb dX6_gainOf_0 rfl (lv_at hl 0 rfl) ?_
  refine va_get (D := G) (ci := 6) (v := .ref (b 3)) (C := RX6) (T := TX6) (N := 12) hx hb hts iG_X6 hown hK hP 0 rfl rfl 3 (by decide) (hts _ w_238) (fun _ h9 => h9) rfl dX6_gainOf_1 ?_
  refine lv_iload_n hx hb dX6_gainOf_4 rfl (lv_at hl 1 rfl) ?_
  refine va_lald hx hb hK hP 1 1 rfl rfl (ix_in rfl (by omega) (by omega)) dX6_gainOf_5 ?_
  refine lv_topl (fun v1 ev1 => ?_)
  refine k_i (wc := []) (wr := [(h0, oX6 b o_field o_houses), (b 3, .inl (cJ, 7, .inr (.inl o_f3))), (b 4, .inl (cI, 7, .inl o_f4))]) hP hD hS hA [] [0, 1, 2] rfl rfl rfl (by decide) (va_runS (As := [.long v1]) (rest := []) ⟨hx, hb, hml, hown, hts⟩ (f_J13_bitCount_95d88 l G cI cJ cZ cB cQ _ v1) (va_cwS 1 hts (gS w_773 w_640 w_18 w_641) rfl rfl rfl hd_J13_bitCount_95d88 ⟨Nat.le_of_ble_eq_true rfl, Nat.le_of_ble_eq_true rfl⟩) (mS hK hZ hP hD [] rfl rfl [.long v1]) rfl rfl hl.1 rfl (lv_room (Nat.le_of_ble_eq_true rfl)) dX6_gainOf_6 ⟨Nat.le_of_ble_eq_true rfl, Nat.le_of_ble_eq_true rfl⟩) (fun r2 u3 H locs hw4 hP hD hS => ?_)
  try dsimp only at hw4
  have hP : va_P G vwCl [(h0, oX6 b o_field o_houses), (b 3, .inl (cJ, 7, .inr (.inl o_f3))), (b 4, .inl (cI, 7, .inl o_f4))] H := hP
  have hD : va_D A [(h0, oX6 b o_field o_houses), (b 3, .inl (cJ, 7, .inr (.inl o_f3))), (b 4, .inl (cI, 7, .inl o_f4))] := hD
  obtain ⟨w5, w6⟩ : 0 ≤ r2.toInt ∧ r2.toInt ≤ 127 := hw4
  refine lv_iconst (v := 2) hx hb dX6_gainOf_9 (by decide) ?_
  refine lv_aload_n hx hb dX6_gainOf_10 rfl (lv_at hl 0 rfl) ?_
  refine va_get (D := G) (ci := 6) (v := .ref (b 4)) (C := RX6) (T := TX6) (N := 12) hx hb hts iG_X6 hown hK hP 0 rfl rfl 4 (by decide) (hts _ w_240) (fun _ h9 => h9) rfl dX6_gainOf_11 ?_
  refine lv_iload_n hx hb dX6_gainOf_14 rfl (lv_at hl 1 rfl) ?_
  refine va_iald hx hb hK hP 2 0 rfl rfl (ix_in rfl (by omega) (by omega)) dX6_gainOf_15 ?_
  refine lv_topi (fun v7 ev7 => ?_)
  refine lv_imul hx hb dX6_gainOf_16 ?_
  refine lv_topi (fun v8 ev8 => ?_)
  refine lv_isub hx hb dX6_gainOf_17 ?_
  refine lv_topi (fun v9 ev9 => ?_)
  exact hret _ _ _ _ v9 () hP hD hS dX6_gainOf_18 trivial
set_option maxHeartbeats 4000000 in
set_option maxRecDepth 100000 in
theorem f_X6_copyYear (l : Launch) (G : va_G) (cI cJ cZ cB cQ : ClassId) (sz : Nat) (h0 : Nat) (p0 : Int32) (b : Nat → Nat) (o_field : Int64) (o_houses : Int32) (o_f6 : Nat → Int32) (o_f7 : Nat → Int64) (o_f8 : Nat → Int64) (o_f9 : Nat → Int64) (qp0_l : 0 ≤ p0.toInt) (qp0_h : p0.toInt ≤ 11) (hl_o_houses : 0 ≤ o_houses.toInt) (hh_o_houses : o_houses.toInt ≤ 6) : CV l yX6_copyYear (wl_ yX6_copyYear cX6_copyYear 2 none) ({ frames := 1, cells := 0, slots := 0, locals := 40 } : Room) G (TY cI cJ cZ cB cQ) [.ref h0, .int p0] [(h0, oX6 b o_field o_houses), (b 6, .inl (cI, 78, .inl o_f6)), (b 7, .inl (cJ, 13, .inr (.inl o_f7))), (b 8, .inl (cJ, 13, .inr (.inl o_f8))), (b 9, .inl (cJ, 13, .inr (.inl o_f9)))] sz (fun (u : (Nat → Int32) × (Nat → Int64) × (Nat → Int64) × (Nat → Int64)) => True) (fun u : (Nat → Int32) × (Nat → Int64) × (Nat → Int64) × (Nat → Int64) => [(h0, oX6 b o_field o_houses), (b 6, .inl (cI, 78, .inl u.1)), (b 7, .inl (cJ, 13, .inr (.inl u.2.1))), (b 8, .inl (cJ, 13, .inr (.inl u.2.2.1))), (b 9, .inl (cJ, 13, .inr (.inl u.2.2.2)))]) 0 0 := by
  refine CV.go (cc := cX6_copyYear) (maxL := 2) (ret := none) (by decide) rfl (Nat.le_of_ble_eq_true rfl) ?_
  intro p e s m below meth c A ls Q hBd hret
  obtain ⟨hx, hb, hr, hml, hts, hown, hlk, hnm, hP, hK, hD, hA, hZ, hl⟩ := hBd
  have hown : s.vm.findClass RX6 = some m.cls := hown
  have hl : lv_has ls 2 [(0, .ref h0), (1, .int p0)] := hl
  have hS : va_S A s.heap s.heap [] := va_S.rf
  refine lv_aload_n hx hb dX6_copyYear_0 rfl (lv_at hl 0 rfl) ?_
  refine va_get (D := G) (ci := 6) (v := .ref (b 7)) (C := RX6) (T := TX6) (N := 12) hx hb hts iG_X6 hown hK hP 0 rfl rfl 7 (by decide) (hts _ w_246) (fun _ h9 => h9) rfl dX6_copyYear_1 ?_
  refine lv_iload_n hx hb dX6_copyYear_4 rfl (lv_at hl 1 rfl) ?_
  refine lv_iconst (v := 1) hx hb dX6_copyYear_5 (by decide) ?_
  refine lv_iadd hx hb dX6_copyYear_6 ?_
  refine lv_topi (fun v1 ev1 => ?_)
  have tv1 : v1.toInt = p0.toInt + 1 := ti_add rfl ki_1 ev1 (by omega) (by omega)
  refine lv_aload_n hx hb dX6_copyYear_7 rfl (lv_at hl 0 rfl) ?_
  refine va_get (D := G) (ci := 6) (v := .ref (b 7)) (C := RX6) (T := TX6) (N := 12) hx hb hts iG_X6 hown hK hP 0 rfl rfl 7 (by decide) (hts _ w_246) (fun _ h9 => h9) rfl dX6_copyYear_8 ?_
  refine lv_iload_n hx hb dX6_copyYear_11 rfl (lv_at hl 1 rfl) ?_
  refine va_lald hx hb hK hP 2 1 rfl rfl (ix_in rfl (by omega) (by omega)) dX6_copyYear_12 ?_
  refine lv_topl (fun v2 ev2 => ?_)
  refine va_last hx hb hK hP hD hS 2 1 rfl rfl (ix_in tv1 (by omega) (by omega)) dX6_copyYear_13 (fun H locs hP hD hS => ?_)
  obtain ⟨f3, qf3⟩ : ∃ g, g = vp_updL o_f7 v1.toNatClampNeg v2 := ⟨_, rfl⟩
  rw [← qf3] at hP hD
  have hP : va_P G vwCl [(h0, oX6 b o_field o_houses), (b 6, .inl (cI, 78, .inl o_f6)), (b 7, .inl (cJ, 13, .inr (.inl f3))), (b 8, .inl (cJ, 13, .inr (.inl o_f8))), (b 9, .inl (cJ, 13, .inr (.inl o_f9)))] H := hP
  have hD : va_D A [(h0, oX6 b o_field o_houses), (b 6, .inl (cI, 78, .inl o_f6)), (b 7, .inl (cJ, 13, .inr (.inl f3))), (b 8, .inl (cJ, 13, .inr (.inl o_f8))), (b 9, .inl (cJ, 13, .inr (.inl o_f9)))] := hD
  refine lv_aload_n hx hb dX6_copyYear_14 rfl (lv_at hl 0 rfl) ?_
  refine va_get (D := G) (ci := 6) (v := .ref (b 8)) (C := RX6) (T := TX6) (N := 12) hx hb hts iG_X6 hown hK hP 0 rfl rfl 8 (by decide) (hts _ w_250) (fun _ h9 => h9) rfl dX6_copyYear_15 ?_
  refine lv_iload_n hx hb dX6_copyYear_18 rfl (lv_at hl 1 rfl) ?_
  refine lv_iconst (v := 1) hx hb dX6_copyYear_19 (by decide) ?_
  refine lv_iadd hx hb dX6_copyYear_20 ?_
  refine lv_topi (fun v4 ev4 => ?_)
  have tv4 : v4.toInt = p0.toInt + 1 := ti_add rfl ki_1 ev4 (by omega) (by omega)
  refine lv_aload_n hx hb dX6_copyYear_21 rfl (lv_at hl 0 rfl) ?_
  refine va_get (D := G) (ci := 6) (v := .ref (b 8)) (C := RX6) (T := TX6) (N := 12) hx hb hts iG_X6 hown hK hP 0 rfl rfl 8 (by decide) (hts _ w_250) (fun _ h9 => h9) rfl dX6_copyYear_22 ?_
  refine lv_iload_n hx hb dX6_copyYear_25 rfl (lv_at hl 1 rfl) ?_
  refine va_lald hx hb hK hP 3 1 rfl rfl (ix_in rfl (by omega) (by omega)) dX6_copyYear_26 ?_
  refine lv_topl (fun v5 ev5 => ?_)
  refine va_last hx hb hK hP hD hS 3 1 rfl rfl (ix_in tv4 (by omega) (by omega)) dX6_copyYear_27 (fun H locs hP hD hS => ?_)
  obtain ⟨f6, qf6⟩ : ∃ g, g = vp_updL o_f8 v4.toNatClampNeg v5 := ⟨_, rfl⟩
  rw [← qf6] at hP hD
  have hP : va_P G vwCl [(h0, oX6 b o_field o_houses), (b 6, .inl (cI, 78, .inl o_f6)), (b 7, .inl (cJ, 13, .inr (.inl f3))), (b 8, .inl (cJ, 13, .inr (.inl f6))), (b 9, .inl (cJ, 13, .inr (.inl o_f9)))] H := hP
  have hD : va_D A [(h0, oX6 b o_field o_houses), (b 6, .inl (cI, 78, .inl o_f6)), (b 7, .inl (cJ, 13, .inr (.inl f3))), (b 8, .inl (cJ, 13, .inr (.inl f6))), (b 9, .inl (cJ, 13, .inr (.inl o_f9)))] := hD
  refine lv_aload_n hx hb dX6_copyYear_28 rfl (lv_at hl 0 rfl) ?_
  refine va_get (D := G) (ci := 6) (v := .ref (b 9)) (C := RX6) (T := TX6) (N := 12) hx hb hts iG_X6 hown hK hP 0 rfl rfl 9 (by decide) (hts _ w_252) (fun _ h9 => h9) rfl dX6_copyYear_29 ?_
  refine lv_iload_n hx hb dX6_copyYear_32 rfl (lv_at hl 1 rfl) ?_
  refine lv_iconst (v := 1) hx hb dX6_copyYear_33 (by decide) ?_
  refine lv_iadd hx hb dX6_copyYear_34 ?_
  refine lv_topi (fun v7 ev7 => ?_)
  have tv7 : v7.toInt = p0.toInt + 1 := ti_add rfl ki_1 ev7 (by omega) (by omega)
  refine lv_aload_n hx hb dX6_copyYear_35 rfl (lv_at hl 0 rfl) ?_
  refine va_get (D := G) (ci := 6) (v := .ref (b 9)) (C := RX6) (T := TX6) (N := 12) hx hb hts iG_X6 hown hK hP 0 rfl rfl 9 (by decide) (hts _ w_252) (fun _ h9 => h9) rfl dX6_copyYear_36 ?_
  refine lv_iload_n hx hb dX6_copyYear_39 rfl (lv_at hl 1 rfl) ?_
  refine va_lald hx hb hK hP 4 1 rfl rfl (ix_in rfl (by omega) (by omega)) dX6_copyYear_40 ?_
  refine lv_topl (fun v8 ev8 => ?_)
  refine va_last hx hb hK hP hD hS 4 1 rfl rfl (ix_in tv7 (by omega) (by omega)) dX6_copyYear_41 (fun H locs hP hD hS => ?_)
  obtain ⟨f9, qf9⟩ : ∃ g, g = vp_updL o_f9 v7.toNatClampNeg v8 := ⟨_, rfl⟩
  rw [← qf9] at hP hD
  have hP : va_P G vwCl [(h0, oX6 b o_field o_houses), (b 6, .inl (cI, 78, .inl o_f6)), (b 7, .inl (cJ, 13, .inr (.inl f3))), (b 8, .inl (cJ, 13, .inr (.inl f6))), (b 9, .inl (cJ, 13, .inr (.inl f9)))] H := hP
  have hD : va_D A [(h0, oX6 b o_field o_houses), (b 6, .inl (cI, 78, .inl o_f6)), (b 7, .inl (cJ, 13, .inr (.inl f3))), (b 8, .inl (cJ, 13, .inr (.inl f6))), (b 9, .inl (cJ, 13, .inr (.inl f9)))] := hD
  refine lv_aload_n hx hb dX6_copyYear_42 rfl (lv_at hl 0 rfl) ?_
  refine va_get (D := G) (ci := 6) (v := .ref (b 6)) (C := RX6) (T := TX6) (N := 12) hx hb hts iG_X6 hown hK hP 0 rfl rfl 6 (by decide) (hts _ w_244) (fun _ h9 => h9) rfl dX6_copyYear_43 ?_
  refine lv_iload_n hx hb dX6_copyYear_46 rfl (lv_at hl 1 rfl) ?_
  refine lv_bipush (v := 6) hx hb dX6_copyYear_47 (by decide) ?_
  refine lv_imul hx hb dX6_copyYear_49 ?_
  refine lv_topi (fun v10 ev10 => ?_)
  have tv10 : v10.toInt = p0.toInt * 6 := ti_mul rfl ki_6 ev10 (by omega) (by omega)
  refine lv_aload_n hx hb dX6_copyYear_50 rfl (lv_at hl 0 rfl) ?_
  refine va_get (D := G) (ci := 6) (v := .ref (b 6)) (C := RX6) (T := TX6) (N := 12) hx hb hts iG_X6 hown hK hP 0 rfl rfl 6 (by decide) (hts _ w_244) (fun _ h9 => h9) rfl dX6_copyYear_51 ?_
  refine lv_iload_n hx hb dX6_copyYear_54 rfl (lv_at hl 1 rfl) ?_
  refine lv_iconst (v := 1) hx hb dX6_copyYear_55 (by decide) ?_
  refine lv_iadd hx hb dX6_copyYear_56 ?_
  refine lv_topi (fun v11 ev11 => ?_)
  have tv11 : v11.toInt = p0.toInt + 1 := ti_add rfl ki_1 ev11 (by omega) (by omega)
  refine lv_bipush (v := 6) hx hb dX6_copyYear_57 (by decide) ?_
  refine lv_imul hx hb dX6_copyYear_59 ?_
  refine lv_topi (fun v12 ev12 => ?_)
  have tv12 : v12.toInt = (p0.toInt + 1) * 6 := ti_mul tv11 ki_6 ev12 (by omega) (by omega)
  refine lv_bipush (v := 6) hx hb dX6_copyYear_60 (by decide) ?_
  refine va_copyi hx hb (by rw [hml]; exact hl.1.symm) hown (hts _ w_598) (hts _ w_568) (hts _ w_567) (hts _ w_17) hK hP hD hS 1 1 0 0 rfl rfl rfl rfl rfl (ix_nn tv10 (by omega)) (ix_nn tv12 (by omega)) (ix_nn ki_6 (by omega)) (by rw [ix_nat tv10 (by omega), ix_nat ki_6 (by omega)]; omega) (by rw [ix_nat tv12 (by omega), ix_nat ki_6 (by omega)]; omega) (fun _ _ => rfl) (Nat.le_of_ble_eq_true rfl) (Nat.le_of_ble_eq_true rfl) dX6_copyYear_62 (fun H locs hP hD hS => ?_)
  generalize qf13 : va_cpy _ _ _ _ _ = f13 at hP hD
  have hP : va_P G vwCl [(h0, oX6 b o_field o_houses), (b 6, .inl (cI, 78, .inl f13)), (b 7, .inl (cJ, 13, .inr (.inl f3))), (b 8, .inl (cJ, 13, .inr (.inl f6))), (b 9, .inl (cJ, 13, .inr (.inl f9)))] H := hP
  have hD : va_D A [(h0, oX6 b o_field o_houses), (b 6, .inl (cI, 78, .inl f13)), (b 7, .inl (cJ, 13, .inr (.inl f3))), (b 8, .inl (cJ, 13, .inr (.inl f6))), (b 9, .inl (cJ, 13, .inr (.inl f9)))] := hD
  exact hret _ _ _ _ (f13, f3, f6, f9) hP hD hS dX6_copyYear_65 trivial
set_option maxHeartbeats 4000000 in
set_option maxRecDepth 100000 in
theorem f_X6_moveHouses (l : Launch) (G : va_G) (cI cJ cZ cB cQ : ClassId) (sz : Nat) (h0 : Nat) (h1 : Nat) (p0 : Int32) (p1 : Int32) (b : Nat → Nat) (o_field : Int64) (o_houses : Int32) (o_f3 : Nat → Int64) (o_f4 : Nat → Int32) (o_f5 : Nat → Int32) (o_f6 : Nat → Int32) (o_f7 : Nat → Int64) (u_rule : Int32) (u_walkers : Int32) (u_creeks : Int64) (u_widow : Int32) (u_faces : Int32) (u_turn : Int32) (qp0_l : 0 ≤ p0.toInt) (qp0_h : p0.toInt ≤ 6) (qp1_l : 0 ≤ p1.toInt) (qp1_h : p1.toInt ≤ 12) (hl_o_houses : 0 ≤ o_houses.toInt) (hh_o_houses : o_houses.toInt ≤ 6) : CV l yX6_moveHouses (wl_ yX6_moveHouses cX6_moveHouses 8 none) ({ frames := 2, cells := 0, slots := 0, locals := 45 } : Room) G (TY cI cJ cZ cB cQ) [.ref h0, .ref h1, .int p0, .int p1] [(h0, oX6 b o_field o_houses), (b 3, .inl (cJ, 7, .inr (.inl o_f3))), (b 4, .inl (cI, 7, .inl o_f4)), (b 5, .inl (cI, 6, .inl o_f5)), (b 6, .inl (cI, 78, .inl o_f6)), (b 7, .inl (cJ, 13, .inr (.inl o_f7))), (h1, oX7 z0 u_rule u_walkers u_creeks u_widow u_faces u_turn)] sz (fun (u : (Nat → Int32) × (Nat → Int32) × (Nat → Int32)) => True) (fun u : (Nat → Int32) × (Nat → Int32) × (Nat → Int32) => [(h0, oX6 b o_field o_houses), (b 3, .inl (cJ, 7, .inr (.inl o_f3))), (b 4, .inl (cI, 7, .inl u.1)), (b 5, .inl (cI, 6, .inl u.2.1)), (b 6, .inl (cI, 78, .inl u.2.2)), (b 7, .inl (cJ, 13, .inr (.inl o_f7))), (h1, oX7 z0 u_rule u_walkers u_creeks u_widow u_faces u_turn)]) 0 0 := by
  refine CV.go (cc := cX6_moveHouses) (maxL := 8) (ret := none) (by decide) rfl (Nat.le_of_ble_eq_true rfl) ?_
  intro p e s m below meth c A ls Q hBd hret
  obtain ⟨hx, hb, hr, hml, hts, hown, hlk, hnm, hP, hK, hD, hA, hZ, hl⟩ := hBd
  have hown : s.vm.findClass RX6 = some m.cls := hown
  have hl : lv_has ls 8 [(0, .ref h0), (1, .ref h1), (2, .int p0), (3, .int p1)] := hl
  have hS : va_S A s.heap s.heap [] := va_S.rf
  refine lv_iconst (v := 0) hx hb dX6_moveHouses_0 (by decide) ?_
  refine lv_istore (lv' := [(4, .int 0), (0, .ref h0), (1, .ref h1), (2, .int p0), (3, .int p1)]) hx hb dX6_moveHouses_1 hl (by decide) rfl (fun ls hl => ?_)
  have lp1 : ∀ (n2 : Nat) (x3 : Int32) (g4 : Nat → Int32) (g5 : Nat → Int32) (g6 : Nat → Int32), 0 ≤ x3.toInt → x3.toInt ≤ 6 → 6 - x3.toInt < (n2 : Int) → ∀ (H : Heap) (locs : List Loc), va_P G vwCl [(h0, oX6 b o_field o_houses), (b 3, .inl (cJ, 7, .inr (.inl o_f3))), (b 4, .inl (cI, 7, .inl g4)), (b 5, .inl (cI, 6, .inl g5)), (b 6, .inl (cI, 78, .inl g6)), (b 7, .inl (cJ, 13, .inr (.inl o_f7))), (h1, oX7 z0 u_rule u_walkers u_creeks u_widow u_faces u_turn)] H → va_D A [(h0, oX6 b o_field o_houses), (b 3, .inl (cJ, 7, .inr (.inl o_f3))), (b 4, .inl (cI, 7, .inl g4)), (b 5, .inl (cI, 6, .inl g5)), (b 6, .inl (cI, 78, .inl g6)), (b 7, .inl (cJ, 13, .inr (.inl o_f7))), (h1, oX7 z0 u_rule u_walkers u_creeks u_widow u_faces u_turn)] → va_S A s.heap H locs → ∀ (ls : Array Slot), lv_has ls 8 [(4, .int x3), (0, .ref h0), (1, .ref h1), (2, .int p0), (3, .int p1)] → W p l e ({ frames := 2, cells := 0, slots := 0, locals := 45 } : Room) s m ([.ref h0, .ref h1, .int p0, .int p1] : List Value).toArray below meth c H locs 0 0 Q (F0 m 3 ls []) := by
    intro n2
    induction n2 with
    | zero =>
      intro x3 g4 g5 g6 k7 k8 mm10
      exact absurd mm10 (by have q9 := fb_rng x3; omega)
    | succ n2 ih9 =>
      intro x3 g4 g5 g6 k7 k8 mm10 H locs hP hD hS ls hl
      refine lv_iload hx hb dX6_moveHouses_3 (lv_at hl 0 rfl) ?_
      refine lv_aload_n hx hb dX6_moveHouses_5 rfl (lv_at hl 1 rfl) ?_
      refine va_get (D := G) (ci := 6) (v := .int o_houses) (C := RX6) (T := TX6) (N := 12) hx hb hts iG_X6 hown hK hP 0 rfl rfl 11 (by decide) (hts _ w_255) (fun _ h9 => h9) rfl dX6_moveHouses_6 ?_
      refine lv_icmp_ge (tgt := 137) hx hb dX6_moveHouses_9 (by decide) (fun c11 => ?_) (fun c11 => ?_)
      · have c11 := i_le rfl rfl c11
        exact hret _ _ _ _ (g4, g5, g6) hP hD hS dX6_moveHouses_137 trivial
      · have c11 := i_nle rfl rfl c11
        refine lv_iload_n hx hb dX6_moveHouses_12 rfl (lv_at hl 4 rfl) ?_
        refine lv_bipush (v := 6) hx hb dX6_moveHouses_13 (by decide) ?_
        refine lv_imul hx hb dX6_moveHouses_15 ?_
        refine lv_topi (fun v12 ev12 => ?_)
        have tv12 : v12.toInt = p1.toInt * 6 := ti_mul rfl ki_6 ev12 (by omega) (by omega)
        refine lv_iload hx hb dX6_moveHouses_16 (lv_at hl 0 rfl) ?_
        refine lv_iadd hx hb dX6_moveHouses_18 ?_
        refine lv_topi (fun v13 ev13 => ?_)
        have tv13 : v13.toInt = p1.toInt * 6 + x3.toInt := ti_add tv12 rfl ev13 (by omega) (by omega)
        refine lv_istore (lv' := [(5, .int v13), (4, .int x3), (0, .ref h0), (1, .ref h1), (2, .int p0), (3, .int p1)]) hx hb dX6_moveHouses_19 hl (by decide) rfl (fun ls hl => ?_)
        refine lv_aload_n hx hb dX6_moveHouses_21 rfl (lv_at hl 2 rfl) ?_
        refine va_get (D := G) (ci := 6) (v := .ref (b 6)) (C := RX6) (T := TX6) (N := 12) hx hb hts iG_X6 hown hK hP 0 rfl rfl 6 (by decide) (hts _ w_244) (fun _ h9 => h9) rfl dX6_moveHouses_22 ?_
        refine lv_iload hx hb dX6_moveHouses_25 (lv_at hl 0 rfl) ?_
        refine va_iald hx hb hK hP 4 0 rfl rfl (ix_in tv13 (by omega) (by omega)) dX6_moveHouses_27 ?_
        refine lv_topi (fun v14 ev14 => ?_)
        refine lv_iconst (v := (-1)) hx hb dX6_moveHouses_28 (by decide) ?_
        refine lv_icmp_eq (tgt := 131) hx hb dX6_moveHouses_29 (by decide) (fun c15 => ?_) (fun c15 => ?_)
        · have c15 := i_eq rfl ki_m1 c15
          obtain ⟨v16, ev16⟩ : ∃ y : Int32, y = x3 + 1 := ⟨_, rfl⟩
          have tv16 : v16.toInt = x3.toInt + 1 := ti_add rfl ki_1 ev16 (by omega) (by omega)
          refine lv_iinc (v := v16) (lv' := [(4, .int v16), (5, .int v13), (0, .ref h0), (1, .ref h1), (2, .int p0), (3, .int p1)]) hx hb dX6_moveHouses_131 hl (k := 1) rfl (by rw [ev16]; rfl) (by decide) rfl (fun ls hl => ?_)
          refine lv_goto (tgt := 3) hx hb dX6_moveHouses_134 (by decide) ?_
          exact ih9 v16 g4 g5 g6 (by omega) (by omega) (by omega) _ _ hP hD hS ls (lv_sub hl [0, 2, 3, 4, 5] rfl)
        · have c15 := i_ne rfl ki_m1 c15
          refine lv_aload_n hx hb dX6_moveHouses_32 rfl (lv_at hl 2 rfl) ?_
          refine va_get (D := G) (ci := 6) (v := .ref (b 3)) (C := RX6) (T := TX6) (N := 12) hx hb hts iG_X6 hown hK hP 0 rfl rfl 3 (by decide) (hts _ w_238) (fun _ h9 => h9) rfl dX6_moveHouses_33 ?_
          refine lv_iload_n hx hb dX6_moveHouses_36 rfl (lv_at hl 4 rfl) ?_
          refine va_lald hx hb hK hP 1 1 rfl rfl (ix_in rfl (by omega) (by omega)) dX6_moveHouses_37 ?_
          refine lv_topl (fun v17 ev17 => ?_)
          refine lv_aload_n hx hb dX6_moveHouses_38 rfl (lv_at hl 2 rfl) ?_
          refine va_get (D := G) (ci := 6) (v := .ref (b 6)) (C := RX6) (T := TX6) (N := 12) hx hb hts iG_X6 hown hK hP 0 rfl rfl 6 (by decide) (hts _ w_244) (fun _ h9 => h9) rfl dX6_moveHouses_39 ?_
          refine lv_iload hx hb dX6_moveHouses_42 (lv_at hl 0 rfl) ?_
          refine va_iald hx hb hK hP 4 0 rfl rfl (ix_in tv13 (by omega) (by omega)) dX6_moveHouses_44 ?_
          refine lv_topi (fun v18 ev18 => ?_)
          refine k_i (wc := []) (wr := [(h0, oX6 b o_field o_houses), (b 3, .inl (cJ, 7, .inr (.inl o_f3))), (b 4, .inl (cI, 7, .inl g4)), (b 5, .inl (cI, 6, .inl g5)), (b 6, .inl (cI, 78, .inl g6)), (b 7, .inl (cJ, 13, .inr (.inl o_f7))), (h1, oX7 z0 u_rule u_walkers u_creeks u_widow u_faces u_turn)]) hP hD hS hA [] [0, 1, 2, 3, 4, 5, 6] rfl rfl rfl (by decide) (va_runSN (As := [.long v17, .int v18]) (rest := []) ⟨hx, hb, hml, hown, hts⟩ (f_X9_has l G cI cJ cZ cB cQ _ v17 v18) ⟨va_cnB (host := "WidowRoads") 2 hts (gW w_527) rfl rfl rfl (nz_nw hZ nw_622 rfl) (hts _ w_1) hd_X9_has ⟨Nat.le_of_ble_eq_true rfl, Nat.le_of_ble_eq_true rfl⟩, (hts _ w_526), trivial⟩ (mS hK hZ hP hD [] rfl rfl [.long v17, .int v18]) rfl rfl hl.1 rfl (lv_room (Nat.le_of_ble_eq_true rfl)) dX6_moveHouses_45 ⟨Nat.le_of_ble_eq_true rfl, Nat.le_of_ble_eq_true rfl⟩) (fun r19 u20 H locs hw21 hP hD hS => ?_)
          try dsimp only at hw21
          have hP : va_P G vwCl [(h0, oX6 b o_field o_houses), (b 3, .inl (cJ, 7, .inr (.inl o_f3))), (b 4, .inl (cI, 7, .inl g4)), (b 5, .inl (cI, 6, .inl g5)), (b 6, .inl (cI, 78, .inl g6)), (b 7, .inl (cJ, 13, .inr (.inl o_f7))), (h1, oX7 z0 u_rule u_walkers u_creeks u_widow u_faces u_turn)] H := hP
          have hD : va_D A [(h0, oX6 b o_field o_houses), (b 3, .inl (cJ, 7, .inr (.inl o_f3))), (b 4, .inl (cI, 7, .inl g4)), (b 5, .inl (cI, 6, .inl g5)), (b 6, .inl (cI, 78, .inl g6)), (b 7, .inl (cJ, 13, .inr (.inl o_f7))), (h1, oX7 z0 u_rule u_walkers u_creeks u_widow u_faces u_turn)] := hD
          obtain ⟨w22, w23⟩ : 0 ≤ r19.toInt ∧ r19.toInt ≤ 1 := hw21
          refine lv_if_eq (tgt := 131) hx hb dX6_moveHouses_48 (by decide) (fun c24 => ?_) (fun c24 => ?_)
          · have c24 := i_eq rfl ki_0 c24
            obtain ⟨v25, ev25⟩ : ∃ y : Int32, y = x3 + 1 := ⟨_, rfl⟩
            have tv25 : v25.toInt = x3.toInt + 1 := ti_add rfl ki_1 ev25 (by omega) (by omega)
            refine lv_iinc (v := v25) (lv' := [(4, .int v25), (5, .int v13), (0, .ref h0), (1, .ref h1), (2, .int p0), (3, .int p1)]) hx hb dX6_moveHouses_131 hl (k := 1) rfl (by rw [ev25]; rfl) (by decide) rfl (fun ls hl => ?_)
            refine lv_goto (tgt := 3) hx hb dX6_moveHouses_134 (by decide) ?_
            exact ih9 v25 g4 g5 g6 (by omega) (by omega) (by omega) _ _ hP hD hS ls (lv_sub hl [0, 2, 3, 4, 5] rfl)
          · have c24 := i_ne rfl ki_0 c24
            refine lv_aload_n hx hb dX6_moveHouses_51 rfl (lv_at hl 2 rfl) ?_
            refine va_get (D := G) (ci := 6) (v := .long o_field) (C := RX6) (T := TX6) (N := 12) hx hb hts iG_X6 hown hK hP 0 rfl rfl 10 (by decide) (hts _ w_254) (fun _ h9 => h9) rfl dX6_moveHouses_52 ?_
            refine lv_aload_n hx hb dX6_moveHouses_55 rfl (lv_at hl 3 rfl) ?_
            refine va_getN (D := G) (ci := 7) (v := .long u_creeks) (C := RX7) (T := TX7) (N := 6) hx hb hts iG_X7 hown hK hP 6 rfl rfl 2 (by decide) (nz_use hZ nw_206 rfl) (fun _ h9 => h9) rfl dX6_moveHouses_56 ?_
            refine lv_ldc2 (v := (-1)) hx hb hown (hts _ w_603) dX6_moveHouses_59 ?_
            refine lv_lxor hx hb dX6_moveHouses_62 ?_
            refine lv_topl (fun v26 ev26 => ?_)
            refine lv_land hx hb dX6_moveHouses_63 ?_
            refine lv_topl (fun v27 ev27 => ?_)
            refine lv_aload_n hx hb dX6_moveHouses_64 rfl (lv_at hl 2 rfl) ?_
            refine va_get (D := G) (ci := 6) (v := .ref (b 7)) (C := RX6) (T := TX6) (N := 12) hx hb hts iG_X6 hown hK hP 0 rfl rfl 7 (by decide) (hts _ w_246) (fun _ h9 => h9) rfl dX6_moveHouses_65 ?_
            refine lv_iload_n hx hb dX6_moveHouses_68 rfl (lv_at hl 5 rfl) ?_
            refine va_lald hx hb hK hP 5 1 rfl rfl (ix_in rfl (by omega) (by omega)) dX6_moveHouses_69 ?_
            refine lv_topl (fun v28 ev28 => ?_)
            refine lv_ldc2 (v := (-1)) hx hb hown (hts _ w_603) dX6_moveHouses_70 ?_
            refine lv_lxor hx hb dX6_moveHouses_73 ?_
            refine lv_topl (fun v29 ev29 => ?_)
            refine lv_land hx hb dX6_moveHouses_74 ?_
            refine lv_topl (fun v30 ev30 => ?_)
            refine lv_aload_n hx hb dX6_moveHouses_75 rfl (lv_at hl 2 rfl) ?_
            refine lv_iload_n hx hb dX6_moveHouses_76 rfl (lv_at hl 5 rfl) ?_
            refine k_l (wc := [(h0, oX6 b o_field o_houses), (b 6, .inl (cI, 78, .inl g6))]) (wr := [(b 3, .inl (cJ, 7, .inr (.inl o_f3))), (b 4, .inl (cI, 7, .inl g4)), (b 5, .inl (cI, 6, .inl g5)), (b 7, .inl (cJ, 13, .inr (.inl o_f7))), (h1, oX7 z0 u_rule u_walkers u_creeks u_widow u_faces u_turn)]) hP hD hS hA [0, 4] [1, 2, 3, 5, 6] rfl rfl rfl (by decide) (va_runV (As := [.int p1]) (rest := [.long v30]) ⟨hx, hb, hml, hown, hts⟩ (f_X6_homeBits l G cI cJ cZ cB cQ _ h0 p1 b o_field o_houses g6 qp1_l qp1_h (by omega) hh_o_houses) (cwV 1 hts (gV w_632 w_634 wp_33 w_6 w_635) rfl rfl rfl ⟨rfl, hd_X6_homeBits⟩ ⟨Nat.le_of_ble_eq_true rfl, Nat.le_of_ble_eq_true rfl⟩) (mV hK hZ hP hD [0, 4] rfl rfl [.int p1] 0 6 rfl rfl) rfl rfl hl.1 rfl (lv_room (Nat.le_of_ble_eq_true rfl)) dX6_moveHouses_77 ⟨Nat.le_of_ble_eq_true rfl, Nat.le_of_ble_eq_true rfl⟩) (fun r31 u32 H locs hw33 hP hD hS => ?_)
            try dsimp only at hw33
            have hP : va_P G vwCl [(b 3, .inl (cJ, 7, .inr (.inl o_f3))), (b 4, .inl (cI, 7, .inl g4)), (b 5, .inl (cI, 6, .inl g5)), (b 7, .inl (cJ, 13, .inr (.inl o_f7))), (h1, oX7 z0 u_rule u_walkers u_creeks u_widow u_faces u_turn), (h0, oX6 b o_field o_houses), (b 6, .inl (cI, 78, .inl g6))] H := hP
            have hD : va_D A [(b 3, .inl (cJ, 7, .inr (.inl o_f3))), (b 4, .inl (cI, 7, .inl g4)), (b 5, .inl (cI, 6, .inl g5)), (b 7, .inl (cJ, 13, .inr (.inl o_f7))), (h1, oX7 z0 u_rule u_walkers u_creeks u_widow u_faces u_turn), (h0, oX6 b o_field o_houses), (b 6, .inl (cI, 78, .inl g6))] := hD
            refine lv_ldc2 (v := (-1)) hx hb hown (hts _ w_603) dX6_moveHouses_80 ?_
            refine lv_lxor hx hb dX6_moveHouses_83 ?_
            refine lv_topl (fun v34 ev34 => ?_)
            refine lv_land hx hb dX6_moveHouses_84 ?_
            refine lv_topl (fun v35 ev35 => ?_)
            refine lv_lstore (lv' := [(6, .long v35), (5, .int v13), (4, .int x3), (0, .ref h0), (1, .ref h1), (2, .int p0), (3, .int p1)]) hx hb dX6_moveHouses_85 hl (by decide) rfl (fun ls hl => ?_)
            refine lv_aload_n hx hb dX6_moveHouses_87 rfl (lv_at hl 3 rfl) ?_
            refine va_get (D := G) (ci := 6) (v := .ref (b 6)) (C := RX6) (T := TX6) (N := 12) hx hb hts iG_X6 hown hK hP 5 rfl rfl 6 (by decide) (hts _ w_244) (fun _ h9 => h9) rfl dX6_moveHouses_88 ?_
            refine lv_iload hx hb dX6_moveHouses_91 (lv_at hl 1 rfl) ?_
            refine lv_lload hx hb dX6_moveHouses_93 (lv_at hl 0 rfl) ?_
            refine lv_lconst (v := 0) hx hb dX6_moveHouses_95 (by decide) ?_
            refine W.lcmp hx hb dX6_moveHouses_96 ?_
            refine lv_if_ne (tgt := 104) hx hb dX6_moveHouses_97 (by decide) (fun c36 => ?_) (fun c36 => ?_)
            · have c36 := c_ne rfl kl_0 c36
              refine lv_lload hx hb dX6_moveHouses_104 (lv_at hl 0 rfl) ?_
              refine k_i (wc := []) (wr := [(b 3, .inl (cJ, 7, .inr (.inl o_f3))), (b 4, .inl (cI, 7, .inl g4)), (b 5, .inl (cI, 6, .inl g5)), (b 7, .inl (cJ, 13, .inr (.inl o_f7))), (h1, oX7 z0 u_rule u_walkers u_creeks u_widow u_faces u_turn), (h0, oX6 b o_field o_houses), (b 6, .inl (cI, 78, .inl g6))]) hP hD hS hA [] [0, 1, 2, 3, 4, 5, 6] rfl rfl rfl (by decide) (va_runSN (As := [.long v35]) (rest := [.int v13, .ref (b 6)]) ⟨hx, hb, hml, hown, hts⟩ (f_X9_leastOf l G cI cJ cZ cB cQ _ v35) ⟨va_cnB (host := "WidowRoads") 1 hts (gW w_638) rfl rfl rfl (nz_nw hZ nw_636 rfl) (hts _ w_1) hd_X9_leastOf ⟨Nat.le_of_ble_eq_true rfl, Nat.le_of_ble_eq_true rfl⟩, (hts _ w_637), trivial⟩ (mS hK hZ hP hD [] rfl rfl [.long v35]) rfl rfl hl.1 rfl (lv_room (Nat.le_of_ble_eq_true rfl)) dX6_moveHouses_106 ⟨Nat.le_of_ble_eq_true rfl, Nat.le_of_ble_eq_true rfl⟩) (fun r37 u38 H locs hw39 hP hD hS => ?_)
              try dsimp only at hw39
              have hP : va_P G vwCl [(b 3, .inl (cJ, 7, .inr (.inl o_f3))), (b 4, .inl (cI, 7, .inl g4)), (b 5, .inl (cI, 6, .inl g5)), (b 7, .inl (cJ, 13, .inr (.inl o_f7))), (h1, oX7 z0 u_rule u_walkers u_creeks u_widow u_faces u_turn), (h0, oX6 b o_field o_houses), (b 6, .inl (cI, 78, .inl g6))] H := hP
              have hD : va_D A [(b 3, .inl (cJ, 7, .inr (.inl o_f3))), (b 4, .inl (cI, 7, .inl g4)), (b 5, .inl (cI, 6, .inl g5)), (b 7, .inl (cJ, 13, .inr (.inl o_f7))), (h1, oX7 z0 u_rule u_walkers u_creeks u_widow u_faces u_turn), (h0, oX6 b o_field o_houses), (b 6, .inl (cI, 78, .inl g6))] := hD
              refine va_iast hx hb hK hP hD hS 6 0 rfl rfl (ix_in tv13 (by omega) (by omega)) dX6_moveHouses_109 (fun H locs hP hD hS => ?_)
              obtain ⟨f40, qf40⟩ : ∃ g, g = upd g6 v13.toNatClampNeg r37 := ⟨_, rfl⟩
              rw [← qf40] at hP hD
              have hP : va_P G vwCl [(b 3, .inl (cJ, 7, .inr (.inl o_f3))), (b 4, .inl (cI, 7, .inl g4)), (b 5, .inl (cI, 6, .inl g5)), (b 7, .inl (cJ, 13, .inr (.inl o_f7))), (h1, oX7 z0 u_rule u_walkers u_creeks u_widow u_faces u_turn), (h0, oX6 b o_field o_houses), (b 6, .inl (cI, 78, .inl f40))] H := hP
              have hD : va_D A [(b 3, .inl (cJ, 7, .inr (.inl o_f3))), (b 4, .inl (cI, 7, .inl g4)), (b 5, .inl (cI, 6, .inl g5)), (b 7, .inl (cJ, 13, .inr (.inl o_f7))), (h1, oX7 z0 u_rule u_walkers u_creeks u_widow u_faces u_turn), (h0, oX6 b o_field o_houses), (b 6, .inl (cI, 78, .inl f40))] := hD
              refine lv_aload_n hx hb dX6_moveHouses_110 rfl (lv_at hl 3 rfl) ?_
              refine va_get (D := G) (ci := 6) (v := .ref (b 5)) (C := RX6) (T := TX6) (N := 12) hx hb hts iG_X6 hown hK hP 5 rfl rfl 5 (by decide) (hts _ w_242) (fun _ h9 => h9) rfl dX6_moveHouses_111 ?_
              refine lv_iload hx hb dX6_moveHouses_114 (lv_at hl 2 rfl) ?_
              refine lv_dup2_11 hx hb dX6_moveHouses_116 rfl rfl ?_
              refine va_iald hx hb hK hP 2 0 rfl rfl (ix_in rfl (by omega) (by omega)) dX6_moveHouses_117 ?_
              refine lv_topi (fun v41 ev41 => ?_)
              refine lv_iconst (v := 1) hx hb dX6_moveHouses_118 (by decide) ?_
              refine lv_iadd hx hb dX6_moveHouses_119 ?_
              refine lv_topi (fun v42 ev42 => ?_)
              refine va_iast hx hb hK hP hD hS 2 0 rfl rfl (ix_in rfl (by omega) (by omega)) dX6_moveHouses_120 (fun H locs hP hD hS => ?_)
              obtain ⟨f43, qf43⟩ : ∃ g, g = upd g5 x3.toNatClampNeg v42 := ⟨_, rfl⟩
              rw [← qf43] at hP hD
              have hP : va_P G vwCl [(b 3, .inl (cJ, 7, .inr (.inl o_f3))), (b 4, .inl (cI, 7, .inl g4)), (b 5, .inl (cI, 6, .inl f43)), (b 7, .inl (cJ, 13, .inr (.inl o_f7))), (h1, oX7 z0 u_rule u_walkers u_creeks u_widow u_faces u_turn), (h0, oX6 b o_field o_houses), (b 6, .inl (cI, 78, .inl f40))] H := hP
              have hD : va_D A [(b 3, .inl (cJ, 7, .inr (.inl o_f3))), (b 4, .inl (cI, 7, .inl g4)), (b 5, .inl (cI, 6, .inl f43)), (b 7, .inl (cJ, 13, .inr (.inl o_f7))), (h1, oX7 z0 u_rule u_walkers u_creeks u_widow u_faces u_turn), (h0, oX6 b o_field o_houses), (b 6, .inl (cI, 78, .inl f40))] := hD
              refine lv_aload_n hx hb dX6_moveHouses_121 rfl (lv_at hl 3 rfl) ?_
              refine va_get (D := G) (ci := 6) (v := .ref (b 4)) (C := RX6) (T := TX6) (N := 12) hx hb hts iG_X6 hown hK hP 5 rfl rfl 4 (by decide) (hts _ w_240) (fun _ h9 => h9) rfl dX6_moveHouses_122 ?_
              refine lv_iload_n hx hb dX6_moveHouses_125 rfl (lv_at hl 5 rfl) ?_
              refine lv_dup2_11 hx hb dX6_moveHouses_126 rfl rfl ?_
              refine va_iald hx hb hK hP 1 0 rfl rfl (ix_in rfl (by omega) (by omega)) dX6_moveHouses_127 ?_
              refine lv_topi (fun v44 ev44 => ?_)
              refine lv_iconst (v := 1) hx hb dX6_moveHouses_128 (by decide) ?_
              refine lv_iadd hx hb dX6_moveHouses_129 ?_
              refine lv_topi (fun v45 ev45 => ?_)
              refine va_iast hx hb hK hP hD hS 1 0 rfl rfl (ix_in rfl (by omega) (by omega)) dX6_moveHouses_130 (fun H locs hP hD hS => ?_)
              obtain ⟨f46, qf46⟩ : ∃ g, g = upd g4 p0.toNatClampNeg v45 := ⟨_, rfl⟩
              rw [← qf46] at hP hD
              have hP : va_P G vwCl [(b 3, .inl (cJ, 7, .inr (.inl o_f3))), (b 4, .inl (cI, 7, .inl f46)), (b 5, .inl (cI, 6, .inl f43)), (b 7, .inl (cJ, 13, .inr (.inl o_f7))), (h1, oX7 z0 u_rule u_walkers u_creeks u_widow u_faces u_turn), (h0, oX6 b o_field o_houses), (b 6, .inl (cI, 78, .inl f40))] H := hP
              have hD : va_D A [(b 3, .inl (cJ, 7, .inr (.inl o_f3))), (b 4, .inl (cI, 7, .inl f46)), (b 5, .inl (cI, 6, .inl f43)), (b 7, .inl (cJ, 13, .inr (.inl o_f7))), (h1, oX7 z0 u_rule u_walkers u_creeks u_widow u_faces u_turn), (h0, oX6 b o_field o_houses), (b 6, .inl (cI, 78, .inl f40))] := hD
              obtain ⟨v47, ev47⟩ : ∃ y : Int32, y = x3 + 1 := ⟨_, rfl⟩
              have tv47 : v47.toInt = x3.toInt + 1 := ti_add rfl ki_1 ev47 (by omega) (by omega)
              refine lv_iinc (v := v47) (lv' := [(4, .int v47), (6, .long v35), (5, .int v13), (0, .ref h0), (1, .ref h1), (2, .int p0), (3, .int p1)]) hx hb dX6_moveHouses_131 hl (k := 2) rfl (by rw [ev47]; rfl) (by decide) rfl (fun ls hl => ?_)
              refine lv_goto (tgt := 3) hx hb dX6_moveHouses_134 (by decide) ?_
              exact ih9 v47 f46 f43 f40 (by omega) (by omega) (by omega) _ _ (hP.sub [5, 0, 1, 2, 6, 3, 4] rfl) (hD.sub [5, 0, 1, 2, 6, 3, 4] rfl rfl) hS ls (lv_sub hl [0, 3, 4, 5, 6] rfl)
            · have c36 := c_nne rfl kl_0 c36
              refine lv_iconst (v := (-1)) hx hb dX6_moveHouses_100 (by decide) ?_
              refine lv_goto (tgt := 109) hx hb dX6_moveHouses_101 (by decide) ?_
              refine va_iast hx hb hK hP hD hS 6 0 rfl rfl (ix_in tv13 (by omega) (by omega)) dX6_moveHouses_109 (fun H locs hP hD hS => ?_)
              obtain ⟨f48, qf48⟩ : ∃ g, g = upd g6 v13.toNatClampNeg ((-1) : Int32) := ⟨_, rfl⟩
              rw [← qf48] at hP hD
              have hP : va_P G vwCl [(b 3, .inl (cJ, 7, .inr (.inl o_f3))), (b 4, .inl (cI, 7, .inl g4)), (b 5, .inl (cI, 6, .inl g5)), (b 7, .inl (cJ, 13, .inr (.inl o_f7))), (h1, oX7 z0 u_rule u_walkers u_creeks u_widow u_faces u_turn), (h0, oX6 b o_field o_houses), (b 6, .inl (cI, 78, .inl f48))] H := hP
              have hD : va_D A [(b 3, .inl (cJ, 7, .inr (.inl o_f3))), (b 4, .inl (cI, 7, .inl g4)), (b 5, .inl (cI, 6, .inl g5)), (b 7, .inl (cJ, 13, .inr (.inl o_f7))), (h1, oX7 z0 u_rule u_walkers u_creeks u_widow u_faces u_turn), (h0, oX6 b o_field o_houses), (b 6, .inl (cI, 78, .inl f48))] := hD
              refine lv_aload_n hx hb dX6_moveHouses_110 rfl (lv_at hl 3 rfl) ?_
              refine va_get (D := G) (ci := 6) (v := .ref (b 5)) (C := RX6) (T := TX6) (N := 12) hx hb hts iG_X6 hown hK hP 5 rfl rfl 5 (by decide) (hts _ w_242) (fun _ h9 => h9) rfl dX6_moveHouses_111 ?_
              refine lv_iload hx hb dX6_moveHouses_114 (lv_at hl 2 rfl) ?_
              refine lv_dup2_11 hx hb dX6_moveHouses_116 rfl rfl ?_
              refine va_iald hx hb hK hP 2 0 rfl rfl (ix_in rfl (by omega) (by omega)) dX6_moveHouses_117 ?_
              refine lv_topi (fun v49 ev49 => ?_)
              refine lv_iconst (v := 1) hx hb dX6_moveHouses_118 (by decide) ?_
              refine lv_iadd hx hb dX6_moveHouses_119 ?_
              refine lv_topi (fun v50 ev50 => ?_)
              refine va_iast hx hb hK hP hD hS 2 0 rfl rfl (ix_in rfl (by omega) (by omega)) dX6_moveHouses_120 (fun H locs hP hD hS => ?_)
              obtain ⟨f51, qf51⟩ : ∃ g, g = upd g5 x3.toNatClampNeg v50 := ⟨_, rfl⟩
              rw [← qf51] at hP hD
              have hP : va_P G vwCl [(b 3, .inl (cJ, 7, .inr (.inl o_f3))), (b 4, .inl (cI, 7, .inl g4)), (b 5, .inl (cI, 6, .inl f51)), (b 7, .inl (cJ, 13, .inr (.inl o_f7))), (h1, oX7 z0 u_rule u_walkers u_creeks u_widow u_faces u_turn), (h0, oX6 b o_field o_houses), (b 6, .inl (cI, 78, .inl f48))] H := hP
              have hD : va_D A [(b 3, .inl (cJ, 7, .inr (.inl o_f3))), (b 4, .inl (cI, 7, .inl g4)), (b 5, .inl (cI, 6, .inl f51)), (b 7, .inl (cJ, 13, .inr (.inl o_f7))), (h1, oX7 z0 u_rule u_walkers u_creeks u_widow u_faces u_turn), (h0, oX6 b o_field o_houses), (b 6, .inl (cI, 78, .inl f48))] := hD
              refine lv_aload_n hx hb dX6_moveHouses_121 rfl (lv_at hl 3 rfl) ?_
              refine va_get (D := G) (ci := 6) (v := .ref (b 4)) (C := RX6) (T := TX6) (N := 12) hx hb hts iG_X6 hown hK hP 5 rfl rfl 4 (by decide) (hts _ w_240) (fun _ h9 => h9) rfl dX6_moveHouses_122 ?_
              refine lv_iload_n hx hb dX6_moveHouses_125 rfl (lv_at hl 5 rfl) ?_
              refine lv_dup2_11 hx hb dX6_moveHouses_126 rfl rfl ?_
              refine va_iald hx hb hK hP 1 0 rfl rfl (ix_in rfl (by omega) (by omega)) dX6_moveHouses_127 ?_
              refine lv_topi (fun v52 ev52 => ?_)
              refine lv_iconst (v := 1) hx hb dX6_moveHouses_128 (by decide) ?_
              refine lv_iadd hx hb dX6_moveHouses_129 ?_
              refine lv_topi (fun v53 ev53 => ?_)
              refine va_iast hx hb hK hP hD hS 1 0 rfl rfl (ix_in rfl (by omega) (by omega)) dX6_moveHouses_130 (fun H locs hP hD hS => ?_)
              obtain ⟨f54, qf54⟩ : ∃ g, g = upd g4 p0.toNatClampNeg v53 := ⟨_, rfl⟩
              rw [← qf54] at hP hD
              have hP : va_P G vwCl [(b 3, .inl (cJ, 7, .inr (.inl o_f3))), (b 4, .inl (cI, 7, .inl f54)), (b 5, .inl (cI, 6, .inl f51)), (b 7, .inl (cJ, 13, .inr (.inl o_f7))), (h1, oX7 z0 u_rule u_walkers u_creeks u_widow u_faces u_turn), (h0, oX6 b o_field o_houses), (b 6, .inl (cI, 78, .inl f48))] H := hP
              have hD : va_D A [(b 3, .inl (cJ, 7, .inr (.inl o_f3))), (b 4, .inl (cI, 7, .inl f54)), (b 5, .inl (cI, 6, .inl f51)), (b 7, .inl (cJ, 13, .inr (.inl o_f7))), (h1, oX7 z0 u_rule u_walkers u_creeks u_widow u_faces u_turn), (h0, oX6 b o_field o_houses), (b 6, .inl (cI, 78, .inl f48))] := hD
              obtain ⟨v55, ev55⟩ : ∃ y : Int32, y = x3 + 1 := ⟨_, rfl⟩
              have tv55 : v55.toInt = x3.toInt + 1 := ti_add rfl ki_1 ev55 (by omega) (by omega)
              refine lv_iinc (v := v55) (lv' := [(4, .int v55), (6, .long v35), (5, .int v13), (0, .ref h0), (1, .ref h1), (2, .int p0), (3, .int p1)]) hx hb dX6_moveHouses_131 hl (k := 2) rfl (by rw [ev55]; rfl) (by decide) rfl (fun ls hl => ?_)
              refine lv_goto (tgt := 3) hx hb dX6_moveHouses_134 (by decide) ?_
              exact ih9 v55 f54 f51 f48 (by omega) (by omega) (by omega) _ _ (hP.sub [5, 0, 1, 2, 6, 3, 4] rfl) (hD.sub [5, 0, 1, 2, 6, 3, 4] rfl rfl) hS ls (lv_sub hl [0, 3, 4, 5, 6] rfl)
  exact lp1 7 0 o_f4 o_f5 o_f6 (by rw [ki_0]; decide) (by rw [ki_0]; decide) (by rw [ki_0]; decide) _ _ hP hD hS ls (lv_sub hl [0, 1, 2, 3, 4] rfl)
set_option maxHeartbeats 4000000 in
set_option maxRecDepth 100000 in
theorem f_X6_begin (l : Launch) (G : va_G) (cI cJ cZ cB cQ : ClassId) (sz : Nat) (h0 : Nat) (h1 : Nat) (b : Nat → Nat) (o_field : Int64) (o_houses : Int32) (o_f1 : Nat → Int32) (o_f2 : Nat → Int32) (o_f3 : Nat → Int64) (o_f4 : Nat → Int32) (o_f5 : Nat → Int32) (o_f6 : Nat → Int32) (o_f7 : Nat → Int64) (o_f8 : Nat → Int64) (o_f9 : Nat → Int64) (bc : Nat → Nat) (c_lines : Int32) (c_span : Int32) (c_rule : Int32) (c_odds : Int32) (c_wide : Int32) (c_high : Int32) (c_creeks : Int32) (c_houses : Int32) (c_widows : Int32) (c_acts : Int32) (c_f11 : Nat → Int32) (hl_o_houses : 0 ≤ o_houses.toInt) (hh_o_houses : o_houses.toInt ≤ 6) (ha_o_f1 : ai o_f1 7 (-1) 40) (hl_c_span : 0 ≤ c_span.toInt) (hh_c_span : c_span.toInt ≤ 12) (hl_c_rule : 0 ≤ c_rule.toInt) (hh_c_rule : c_rule.toInt ≤ 3) (hl_c_odds : 0 ≤ c_odds.toInt) (hh_c_odds : c_odds.toInt ≤ 10) (hl_c_wide : 0 ≤ c_wide.toInt) (hh_c_wide : c_wide.toInt ≤ 8) (hl_c_high : 0 ≤ c_high.toInt) (hh_c_high : c_high.toInt ≤ 8) (hl_c_creeks : 0 ≤ c_creeks.toInt) (hh_c_creeks : c_creeks.toInt ≤ 12) (hl_c_houses : 0 ≤ c_houses.toInt) (hh_c_houses : c_houses.toInt ≤ 6) (hl_c_widows : 0 ≤ c_widows.toInt) (hh_c_widows : c_widows.toInt ≤ 7) (hl_c_acts : 0 ≤ c_acts.toInt) (hh_c_acts : c_acts.toInt ≤ 30) : CV l yX6_begin (wl_ yX6_begin cX6_begin 3 none) ({ frames := 1, cells := 0, slots := 0, locals := 23 } : Room) G (TY cI cJ cZ cB cQ) [.ref h0, .ref h1] [(h0, oX6 b o_field o_houses), (b 1, .inl (cI, 7, .inl o_f1)), (b 2, .inl (cI, 7, .inl o_f2)), (b 3, .inl (cJ, 7, .inr (.inl o_f3))), (b 4, .inl (cI, 7, .inl o_f4)), (b 5, .inl (cI, 6, .inl o_f5)), (b 6, .inl (cI, 78, .inl o_f6)), (b 7, .inl (cJ, 13, .inr (.inl o_f7))), (b 8, .inl (cJ, 13, .inr (.inl o_f8))), (b 9, .inl (cJ, 13, .inr (.inl o_f9))), (h1, oX0 bc c_lines c_span c_rule c_odds c_wide c_high c_creeks c_houses c_widows c_acts), (bc 11, .inl (cI, 6, .inl c_f11))] sz (fun (u : Int64 × Int32 × (Nat → Int32) × (Nat → Int32) × (Nat → Int64) × (Nat → Int32) × (Nat → Int32) × (Nat → Int32) × (Nat → Int64) × (Nat → Int64) × (Nat → Int64)) => 0 ≤ u.2.1.toInt ∧ u.2.1.toInt ≤ 6 ∧ ai u.2.2.1 7 (-1) 40) (fun u : Int64 × Int32 × (Nat → Int32) × (Nat → Int32) × (Nat → Int64) × (Nat → Int32) × (Nat → Int32) × (Nat → Int32) × (Nat → Int64) × (Nat → Int64) × (Nat → Int64) => [(h0, oX6 b u.1 u.2.1), (b 1, .inl (cI, 7, .inl u.2.2.1)), (b 2, .inl (cI, 7, .inl u.2.2.2.1)), (b 3, .inl (cJ, 7, .inr (.inl u.2.2.2.2.1))), (b 4, .inl (cI, 7, .inl u.2.2.2.2.2.1)), (b 5, .inl (cI, 6, .inl u.2.2.2.2.2.2.1)), (b 6, .inl (cI, 78, .inl u.2.2.2.2.2.2.2.1)), (b 7, .inl (cJ, 13, .inr (.inl u.2.2.2.2.2.2.2.2.1))), (b 8, .inl (cJ, 13, .inr (.inl u.2.2.2.2.2.2.2.2.2.1))), (b 9, .inl (cJ, 13, .inr (.inl u.2.2.2.2.2.2.2.2.2.2))), (h1, oX0 bc c_lines c_span c_rule c_odds c_wide c_high c_creeks c_houses c_widows c_acts), (bc 11, .inl (cI, 6, .inl c_f11))]) 0 0 := by
  refine CV.go (cc := cX6_begin) (maxL := 3) (ret := none) (by decide) rfl (Nat.le_of_ble_eq_true rfl) ?_
  intro p e s m below meth c A ls Q hBd hret
  obtain ⟨hx, hb, hr, hml, hts, hown, hlk, hnm, hP, hK, hD, hA, hZ, hl⟩ := hBd
  have hown : s.vm.findClass RX6 = some m.cls := hown
  have hl : lv_has ls 3 [(0, .ref h0), (1, .ref h1)] := hl
  have hS : va_S A s.heap s.heap [] := va_S.rf
  refine lv_aload_n hx hb dX6_begin_0 rfl (lv_at hl 0 rfl) ?_
  refine lv_aload_n hx hb dX6_begin_1 rfl (lv_at hl 1 rfl) ?_
  refine k_l (wc := [(h1, oX0 bc c_lines c_span c_rule c_odds c_wide c_high c_creeks c_houses c_widows c_acts)]) (wr := [(h0, oX6 b o_field o_houses), (b 1, .inl (cI, 7, .inl o_f1)), (b 2, .inl (cI, 7, .inl o_f2)), (b 3, .inl (cJ, 7, .inr (.inl o_f3))), (b 4, .inl (cI, 7, .inl o_f4)), (b 5, .inl (cI, 6, .inl o_f5)), (b 6, .inl (cI, 78, .inl o_f6)), (b 7, .inl (cJ, 13, .inr (.inl o_f7))), (b 8, .inl (cJ, 13, .inr (.inl o_f8))), (b 9, .inl (cJ, 13, .inr (.inl o_f9))), (bc 11, .inl (cI, 6, .inl c_f11))]) hP hD hS hA [10] [0, 1, 2, 3, 4, 5, 6, 7, 8, 9, 11] rfl rfl rfl (by decide) (va_runVN (As := []) (rest := [.ref h0]) ⟨hx, hb, hml, hown, hts⟩ (f_X0_field l G cI cJ cZ cB cQ _ h1 bc c_lines c_span c_rule c_odds c_wide c_high c_creeks c_houses c_widows c_acts hl_c_span hh_c_span hl_c_rule hh_c_rule hl_c_odds hh_c_odds hl_c_wide hh_c_wide hl_c_high hh_c_high hl_c_creeks hh_c_creeks hl_c_houses hh_c_houses hl_c_widows hh_c_widows hl_c_acts hh_c_acts) ⟨va_cnB (host := "WidowRoads") 0 hts (gW w_593) rfl rfl rfl (nz_nw hZ nw_590 rfl) (hts _ w_4) hd_X0_field ⟨Nat.le_of_ble_eq_true rfl, Nat.le_of_ble_eq_true rfl⟩, (hts _ w_592), (hts _ wp_26)⟩ (mV hK hZ hP hD [10] rfl rfl [] 10 0 rfl rfl) rfl rfl hl.1 rfl (lv_room (Nat.le_of_ble_eq_true rfl)) dX6_begin_2 ⟨Nat.le_of_ble_eq_true rfl, Nat.le_of_ble_eq_true rfl⟩) (fun r1 u2 H locs hw3 hP hD hS => ?_)
  try dsimp only at hw3
  have hP : va_P G vwCl [(h0, oX6 b o_field o_houses), (b 1, .inl (cI, 7, .inl o_f1)), (b 2, .inl (cI, 7, .inl o_f2)), (b 3, .inl (cJ, 7, .inr (.inl o_f3))), (b 4, .inl (cI, 7, .inl o_f4)), (b 5, .inl (cI, 6, .inl o_f5)), (b 6, .inl (cI, 78, .inl o_f6)), (b 7, .inl (cJ, 13, .inr (.inl o_f7))), (b 8, .inl (cJ, 13, .inr (.inl o_f8))), (b 9, .inl (cJ, 13, .inr (.inl o_f9))), (bc 11, .inl (cI, 6, .inl c_f11)), (h1, oX0 bc c_lines c_span c_rule c_odds c_wide c_high c_creeks c_houses c_widows c_acts)] H := hP
  have hD : va_D A [(h0, oX6 b o_field o_houses), (b 1, .inl (cI, 7, .inl o_f1)), (b 2, .inl (cI, 7, .inl o_f2)), (b 3, .inl (cJ, 7, .inr (.inl o_f3))), (b 4, .inl (cI, 7, .inl o_f4)), (b 5, .inl (cI, 6, .inl o_f5)), (b 6, .inl (cI, 78, .inl o_f6)), (b 7, .inl (cJ, 13, .inr (.inl o_f7))), (b 8, .inl (cJ, 13, .inr (.inl o_f8))), (b 9, .inl (cJ, 13, .inr (.inl o_f9))), (bc 11, .inl (cI, 6, .inl c_f11)), (h1, oX0 bc c_lines c_span c_rule c_odds c_wide c_high c_creeks c_houses c_widows c_acts)] := hD
  refine va_put (D := G) (ci := 6) (v := .long r1) (ty := .long) (C := RX6) (T := TX6) (N := 12) hx hb hts iG_X6 tyX6 tyX6_ok nmX6 hown hK hP hD hS 0 rfl rfl 10 (by decide) (hts _ w_254) (fun _ h9 => h9) rfl (by decide +kernel) rfl rfl (Nat.le_of_ble_eq_true rfl) dX6_begin_5 (fun H locs hP hD hS => ?_)
  have hP : va_P G vwCl [(h0, oX6 b r1 o_houses), (b 1, .inl (cI, 7, .inl o_f1)), (b 2, .inl (cI, 7, .inl o_f2)), (b 3, .inl (cJ, 7, .inr (.inl o_f3))), (b 4, .inl (cI, 7, .inl o_f4)), (b 5, .inl (cI, 6, .inl o_f5)), (b 6, .inl (cI, 78, .inl o_f6)), (b 7, .inl (cJ, 13, .inr (.inl o_f7))), (b 8, .inl (cJ, 13, .inr (.inl o_f8))), (b 9, .inl (cJ, 13, .inr (.inl o_f9))), (bc 11, .inl (cI, 6, .inl c_f11)), (h1, oX0 bc c_lines c_span c_rule c_odds c_wide c_high c_creeks c_houses c_widows c_acts)] H := hP
  have hD : va_D A [(h0, oX6 b r1 o_houses), (b 1, .inl (cI, 7, .inl o_f1)), (b 2, .inl (cI, 7, .inl o_f2)), (b 3, .inl (cJ, 7, .inr (.inl o_f3))), (b 4, .inl (cI, 7, .inl o_f4)), (b 5, .inl (cI, 6, .inl o_f5)), (b 6, .inl (cI, 78, .inl o_f6)), (b 7, .inl (cJ, 13, .inr (.inl o_f7))), (b 8, .inl (cJ, 13, .inr (.inl o_f8))), (b 9, .inl (cJ, 13, .inr (.inl o_f9))), (bc 11, .inl (cI, 6, .inl c_f11)), (h1, oX0 bc c_lines c_span c_rule c_odds c_wide c_high c_creeks c_houses c_widows c_acts)] := hD
  refine lv_aload_n hx hb dX6_begin_8 rfl (lv_at hl 0 rfl) ?_
  refine lv_aload_n hx hb dX6_begin_9 rfl (lv_at hl 1 rfl) ?_
  refine va_getN (D := G) (ci := 0) (v := .int c_houses) (C := RX0) (T := TX0) (N := 19) hx hb hts iG_X0 hown hK hP 11 rfl rfl 7 (by decide) (nz_use hZ nw_81 rfl) (fun _ h9 => h9) rfl dX6_begin_10 ?_
  refine va_put (D := G) (ci := 6) (v := .int c_houses) (ty := .int) (C := RX6) (T := TX6) (N := 12) hx hb hts iG_X6 tyX6 tyX6_ok nmX6 hown hK hP hD hS 0 rfl rfl 11 (by decide) (hts _ w_255) (fun _ h9 => h9) rfl (by decide +kernel) rfl rfl (Nat.le_of_ble_eq_true rfl) dX6_begin_13 (fun H locs hP hD hS => ?_)
  have hP : va_P G vwCl [(h0, oX6 b r1 c_houses), (b 1, .inl (cI, 7, .inl o_f1)), (b 2, .inl (cI, 7, .inl o_f2)), (b 3, .inl (cJ, 7, .inr (.inl o_f3))), (b 4, .inl (cI, 7, .inl o_f4)), (b 5, .inl (cI, 6, .inl o_f5)), (b 6, .inl (cI, 78, .inl o_f6)), (b 7, .inl (cJ, 13, .inr (.inl o_f7))), (b 8, .inl (cJ, 13, .inr (.inl o_f8))), (b 9, .inl (cJ, 13, .inr (.inl o_f9))), (bc 11, .inl (cI, 6, .inl c_f11)), (h1, oX0 bc c_lines c_span c_rule c_odds c_wide c_high c_creeks c_houses c_widows c_acts)] H := hP
  have hD : va_D A [(h0, oX6 b r1 c_houses), (b 1, .inl (cI, 7, .inl o_f1)), (b 2, .inl (cI, 7, .inl o_f2)), (b 3, .inl (cJ, 7, .inr (.inl o_f3))), (b 4, .inl (cI, 7, .inl o_f4)), (b 5, .inl (cI, 6, .inl o_f5)), (b 6, .inl (cI, 78, .inl o_f6)), (b 7, .inl (cJ, 13, .inr (.inl o_f7))), (b 8, .inl (cJ, 13, .inr (.inl o_f8))), (b 9, .inl (cJ, 13, .inr (.inl o_f9))), (bc 11, .inl (cI, 6, .inl c_f11)), (h1, oX0 bc c_lines c_span c_rule c_odds c_wide c_high c_creeks c_houses c_widows c_acts)] := hD
  refine lv_aload_n hx hb dX6_begin_16 rfl (lv_at hl 0 rfl) ?_
  refine va_get (D := G) (ci := 6) (v := .ref (b 7)) (C := RX6) (T := TX6) (N := 12) hx hb hts iG_X6 hown hK hP 0 rfl rfl 7 (by decide) (hts _ w_246) (fun _ h9 => h9) rfl dX6_begin_17 ?_
  refine lv_iconst (v := 0) hx hb dX6_begin_20 (by decide) ?_
  refine lv_lconst (v := 0) hx hb dX6_begin_21 (by decide) ?_
  refine va_last hx hb hK hP hD hS 7 1 rfl rfl (ix_in ki_0 (by omega) (by omega)) dX6_begin_22 (fun H locs hP hD hS => ?_)
  obtain ⟨f4, qf4⟩ : ∃ g, g = vp_updL o_f7 (0 : Int32).toNatClampNeg (0 : Int64) := ⟨_, rfl⟩
  rw [← qf4] at hP hD
  have hP : va_P G vwCl [(h0, oX6 b r1 c_houses), (b 1, .inl (cI, 7, .inl o_f1)), (b 2, .inl (cI, 7, .inl o_f2)), (b 3, .inl (cJ, 7, .inr (.inl o_f3))), (b 4, .inl (cI, 7, .inl o_f4)), (b 5, .inl (cI, 6, .inl o_f5)), (b 6, .inl (cI, 78, .inl o_f6)), (b 7, .inl (cJ, 13, .inr (.inl f4))), (b 8, .inl (cJ, 13, .inr (.inl o_f8))), (b 9, .inl (cJ, 13, .inr (.inl o_f9))), (bc 11, .inl (cI, 6, .inl c_f11)), (h1, oX0 bc c_lines c_span c_rule c_odds c_wide c_high c_creeks c_houses c_widows c_acts)] H := hP
  have hD : va_D A [(h0, oX6 b r1 c_houses), (b 1, .inl (cI, 7, .inl o_f1)), (b 2, .inl (cI, 7, .inl o_f2)), (b 3, .inl (cJ, 7, .inr (.inl o_f3))), (b 4, .inl (cI, 7, .inl o_f4)), (b 5, .inl (cI, 6, .inl o_f5)), (b 6, .inl (cI, 78, .inl o_f6)), (b 7, .inl (cJ, 13, .inr (.inl f4))), (b 8, .inl (cJ, 13, .inr (.inl o_f8))), (b 9, .inl (cJ, 13, .inr (.inl o_f9))), (bc 11, .inl (cI, 6, .inl c_f11)), (h1, oX0 bc c_lines c_span c_rule c_odds c_wide c_high c_creeks c_houses c_widows c_acts)] := hD
  refine lv_aload_n hx hb dX6_begin_23 rfl (lv_at hl 0 rfl) ?_
  refine va_get (D := G) (ci := 6) (v := .ref (b 8)) (C := RX6) (T := TX6) (N := 12) hx hb hts iG_X6 hown hK hP 0 rfl rfl 8 (by decide) (hts _ w_250) (fun _ h9 => h9) rfl dX6_begin_24 ?_
  refine lv_iconst (v := 0) hx hb dX6_begin_27 (by decide) ?_
  refine lv_lconst (v := 0) hx hb dX6_begin_28 (by decide) ?_
  refine va_last hx hb hK hP hD hS 8 1 rfl rfl (ix_in ki_0 (by omega) (by omega)) dX6_begin_29 (fun H locs hP hD hS => ?_)
  obtain ⟨f5, qf5⟩ : ∃ g, g = vp_updL o_f8 (0 : Int32).toNatClampNeg (0 : Int64) := ⟨_, rfl⟩
  rw [← qf5] at hP hD
  have hP : va_P G vwCl [(h0, oX6 b r1 c_houses), (b 1, .inl (cI, 7, .inl o_f1)), (b 2, .inl (cI, 7, .inl o_f2)), (b 3, .inl (cJ, 7, .inr (.inl o_f3))), (b 4, .inl (cI, 7, .inl o_f4)), (b 5, .inl (cI, 6, .inl o_f5)), (b 6, .inl (cI, 78, .inl o_f6)), (b 7, .inl (cJ, 13, .inr (.inl f4))), (b 8, .inl (cJ, 13, .inr (.inl f5))), (b 9, .inl (cJ, 13, .inr (.inl o_f9))), (bc 11, .inl (cI, 6, .inl c_f11)), (h1, oX0 bc c_lines c_span c_rule c_odds c_wide c_high c_creeks c_houses c_widows c_acts)] H := hP
  have hD : va_D A [(h0, oX6 b r1 c_houses), (b 1, .inl (cI, 7, .inl o_f1)), (b 2, .inl (cI, 7, .inl o_f2)), (b 3, .inl (cJ, 7, .inr (.inl o_f3))), (b 4, .inl (cI, 7, .inl o_f4)), (b 5, .inl (cI, 6, .inl o_f5)), (b 6, .inl (cI, 78, .inl o_f6)), (b 7, .inl (cJ, 13, .inr (.inl f4))), (b 8, .inl (cJ, 13, .inr (.inl f5))), (b 9, .inl (cJ, 13, .inr (.inl o_f9))), (bc 11, .inl (cI, 6, .inl c_f11)), (h1, oX0 bc c_lines c_span c_rule c_odds c_wide c_high c_creeks c_houses c_widows c_acts)] := hD
  refine lv_aload_n hx hb dX6_begin_30 rfl (lv_at hl 0 rfl) ?_
  refine va_get (D := G) (ci := 6) (v := .ref (b 9)) (C := RX6) (T := TX6) (N := 12) hx hb hts iG_X6 hown hK hP 0 rfl rfl 9 (by decide) (hts _ w_252) (fun _ h9 => h9) rfl dX6_begin_31 ?_
  refine lv_iconst (v := 0) hx hb dX6_begin_34 (by decide) ?_
  refine lv_lconst (v := 0) hx hb dX6_begin_35 (by decide) ?_
  refine va_last hx hb hK hP hD hS 9 1 rfl rfl (ix_in ki_0 (by omega) (by omega)) dX6_begin_36 (fun H locs hP hD hS => ?_)
  obtain ⟨f6, qf6⟩ : ∃ g, g = vp_updL o_f9 (0 : Int32).toNatClampNeg (0 : Int64) := ⟨_, rfl⟩
  rw [← qf6] at hP hD
  have hP : va_P G vwCl [(h0, oX6 b r1 c_houses), (b 1, .inl (cI, 7, .inl o_f1)), (b 2, .inl (cI, 7, .inl o_f2)), (b 3, .inl (cJ, 7, .inr (.inl o_f3))), (b 4, .inl (cI, 7, .inl o_f4)), (b 5, .inl (cI, 6, .inl o_f5)), (b 6, .inl (cI, 78, .inl o_f6)), (b 7, .inl (cJ, 13, .inr (.inl f4))), (b 8, .inl (cJ, 13, .inr (.inl f5))), (b 9, .inl (cJ, 13, .inr (.inl f6))), (bc 11, .inl (cI, 6, .inl c_f11)), (h1, oX0 bc c_lines c_span c_rule c_odds c_wide c_high c_creeks c_houses c_widows c_acts)] H := hP
  have hD : va_D A [(h0, oX6 b r1 c_houses), (b 1, .inl (cI, 7, .inl o_f1)), (b 2, .inl (cI, 7, .inl o_f2)), (b 3, .inl (cJ, 7, .inr (.inl o_f3))), (b 4, .inl (cI, 7, .inl o_f4)), (b 5, .inl (cI, 6, .inl o_f5)), (b 6, .inl (cI, 78, .inl o_f6)), (b 7, .inl (cJ, 13, .inr (.inl f4))), (b 8, .inl (cJ, 13, .inr (.inl f5))), (b 9, .inl (cJ, 13, .inr (.inl f6))), (bc 11, .inl (cI, 6, .inl c_f11)), (h1, oX0 bc c_lines c_span c_rule c_odds c_wide c_high c_creeks c_houses c_widows c_acts)] := hD
  refine lv_iconst (v := 0) hx hb dX6_begin_37 (by decide) ?_
  refine lv_istore_n (lv' := [(2, .int 0), (0, .ref h0), (1, .ref h1)]) hx hb dX6_begin_38 rfl hl (by decide) rfl (fun ls hl => ?_)
  have lp7 : ∀ (n8 : Nat) (x9 : Int32) (g10 : Nat → Int32) (g11 : Nat → Int32) (g12 : Nat → Int64) (g13 : Nat → Int32), 0 ≤ x9.toInt → x9.toInt ≤ 7 → ai g10 7 (-1) 40 → 7 - x9.toInt < (n8 : Int) → ∀ (H : Heap) (locs : List Loc), va_P G vwCl [(h0, oX6 b r1 c_houses), (b 1, .inl (cI, 7, .inl g10)), (b 2, .inl (cI, 7, .inl g11)), (b 3, .inl (cJ, 7, .inr (.inl g12))), (b 4, .inl (cI, 7, .inl g13)), (b 5, .inl (cI, 6, .inl o_f5)), (b 6, .inl (cI, 78, .inl o_f6)), (b 7, .inl (cJ, 13, .inr (.inl f4))), (b 8, .inl (cJ, 13, .inr (.inl f5))), (b 9, .inl (cJ, 13, .inr (.inl f6))), (bc 11, .inl (cI, 6, .inl c_f11)), (h1, oX0 bc c_lines c_span c_rule c_odds c_wide c_high c_creeks c_houses c_widows c_acts)] H → va_D A [(h0, oX6 b r1 c_houses), (b 1, .inl (cI, 7, .inl g10)), (b 2, .inl (cI, 7, .inl g11)), (b 3, .inl (cJ, 7, .inr (.inl g12))), (b 4, .inl (cI, 7, .inl g13)), (b 5, .inl (cI, 6, .inl o_f5)), (b 6, .inl (cI, 78, .inl o_f6)), (b 7, .inl (cJ, 13, .inr (.inl f4))), (b 8, .inl (cJ, 13, .inr (.inl f5))), (b 9, .inl (cJ, 13, .inr (.inl f6))), (bc 11, .inl (cI, 6, .inl c_f11)), (h1, oX0 bc c_lines c_span c_rule c_odds c_wide c_high c_creeks c_houses c_widows c_acts)] → va_S A s.heap H locs → ∀ (ls : Array Slot), lv_has ls 3 [(2, .int x9), (0, .ref h0), (1, .ref h1)] → W p l e ({ frames := 1, cells := 0, slots := 0, locals := 23 } : Room) s m ([.ref h0, .ref h1] : List Value).toArray below meth c H locs 0 0 Q (F0 m 39 ls []) := by
    intro n8
    induction n8 with
    | zero =>
      intro x9 g10 g11 g12 g13 k14 k15 k16 mm18
      exact absurd mm18 (by have q9 := fb_rng x9; omega)
    | succ n8 ih17 =>
      intro x9 g10 g11 g12 g13 k14 k15 k16 mm18 H locs hP hD hS ls hl
      refine lv_iload_n hx hb dX6_begin_39 rfl (lv_at hl 0 rfl) ?_
      refine lv_bipush (v := 7) hx hb dX6_begin_40 (by decide) ?_
      refine lv_icmp_ge (tgt := 79) hx hb dX6_begin_42 (by decide) (fun c19 => ?_) (fun c19 => ?_)
      · have c19 := i_le ki_7 rfl c19
        refine lv_iconst (v := 0) hx hb dX6_begin_79 (by decide) ?_
        refine lv_istore_n (lv' := [(2, .int 0), (0, .ref h0), (1, .ref h1)]) hx hb dX6_begin_80 rfl hl (by decide) rfl (fun ls hl => ?_)
        have lp20 : ∀ (n21 : Nat) (x22 : Int32) (g23 : Nat → Int32) (g24 : Nat → Int32), 0 ≤ x22.toInt → x22.toInt ≤ 6 → 6 - x22.toInt < (n21 : Int) → ∀ (H : Heap) (locs : List Loc), va_P G vwCl [(h0, oX6 b r1 c_houses), (b 1, .inl (cI, 7, .inl g10)), (b 2, .inl (cI, 7, .inl g11)), (b 3, .inl (cJ, 7, .inr (.inl g12))), (b 4, .inl (cI, 7, .inl g13)), (b 5, .inl (cI, 6, .inl g23)), (b 6, .inl (cI, 78, .inl g24)), (b 7, .inl (cJ, 13, .inr (.inl f4))), (b 8, .inl (cJ, 13, .inr (.inl f5))), (b 9, .inl (cJ, 13, .inr (.inl f6))), (bc 11, .inl (cI, 6, .inl c_f11)), (h1, oX0 bc c_lines c_span c_rule c_odds c_wide c_high c_creeks c_houses c_widows c_acts)] H → va_D A [(h0, oX6 b r1 c_houses), (b 1, .inl (cI, 7, .inl g10)), (b 2, .inl (cI, 7, .inl g11)), (b 3, .inl (cJ, 7, .inr (.inl g12))), (b 4, .inl (cI, 7, .inl g13)), (b 5, .inl (cI, 6, .inl g23)), (b 6, .inl (cI, 78, .inl g24)), (b 7, .inl (cJ, 13, .inr (.inl f4))), (b 8, .inl (cJ, 13, .inr (.inl f5))), (b 9, .inl (cJ, 13, .inr (.inl f6))), (bc 11, .inl (cI, 6, .inl c_f11)), (h1, oX0 bc c_lines c_span c_rule c_odds c_wide c_high c_creeks c_houses c_widows c_acts)] → va_S A s.heap H locs → ∀ (ls : Array Slot), lv_has ls 3 [(2, .int x22), (0, .ref h0), (1, .ref h1)] → W p l e ({ frames := 1, cells := 0, slots := 0, locals := 23 } : Room) s m ([.ref h0, .ref h1] : List Value).toArray below meth c H locs 0 0 Q (F0 m 81 ls []) := by
          intro n21
          induction n21 with
          | zero =>
            intro x22 g23 g24 k25 k26 mm28
            exact absurd mm28 (by have q9 := fb_rng x22; omega)
          | succ n21 ih27 =>
            intro x22 g23 g24 k25 k26 mm28 H locs hP hD hS ls hl
            refine lv_iload_n hx hb dX6_begin_81 rfl (lv_at hl 0 rfl) ?_
            refine lv_bipush (v := 6) hx hb dX6_begin_82 (by decide) ?_
            refine lv_icmp_ge (tgt := 124) hx hb dX6_begin_84 (by decide) (fun c29 => ?_) (fun c29 => ?_)
            · have c29 := i_le ki_6 rfl c29
              exact hret _ _ _ _ (r1, c_houses, g10, g11, g12, g13, g23, g24, f4, f5, f6) (hP.sub (ws' := [(h0, oX6 b r1 c_houses), (b 1, .inl (cI, 7, .inl g10)), (b 2, .inl (cI, 7, .inl g11)), (b 3, .inl (cJ, 7, .inr (.inl g12))), (b 4, .inl (cI, 7, .inl g13)), (b 5, .inl (cI, 6, .inl g23)), (b 6, .inl (cI, 78, .inl g24)), (b 7, .inl (cJ, 13, .inr (.inl f4))), (b 8, .inl (cJ, 13, .inr (.inl f5))), (b 9, .inl (cJ, 13, .inr (.inl f6))), (h1, oX0 bc c_lines c_span c_rule c_odds c_wide c_high c_creeks c_houses c_widows c_acts), (bc 11, .inl (cI, 6, .inl c_f11))]) [0, 1, 2, 3, 4, 5, 6, 7, 8, 9, 11, 10] rfl) (hD.sub (ws' := [(h0, oX6 b r1 c_houses), (b 1, .inl (cI, 7, .inl g10)), (b 2, .inl (cI, 7, .inl g11)), (b 3, .inl (cJ, 7, .inr (.inl g12))), (b 4, .inl (cI, 7, .inl g13)), (b 5, .inl (cI, 6, .inl g23)), (b 6, .inl (cI, 78, .inl g24)), (b 7, .inl (cJ, 13, .inr (.inl f4))), (b 8, .inl (cJ, 13, .inr (.inl f5))), (b 9, .inl (cJ, 13, .inr (.inl f6))), (h1, oX0 bc c_lines c_span c_rule c_odds c_wide c_high c_creeks c_houses c_widows c_acts), (bc 11, .inl (cI, 6, .inl c_f11))]) [0, 1, 2, 3, 4, 5, 6, 7, 8, 9, 11, 10] rfl rfl) hS dX6_begin_124 (show 0 ≤ c_houses.toInt ∧ c_houses.toInt ≤ 6 ∧ ai g10 7 (-1) 40 from ⟨hl_c_houses, hh_c_houses, k16⟩)
            · have c29 := i_nle ki_6 rfl c29
              refine lv_aload_n hx hb dX6_begin_87 rfl (lv_at hl 1 rfl) ?_
              refine va_get (D := G) (ci := 6) (v := .ref (b 6)) (C := RX6) (T := TX6) (N := 12) hx hb hts iG_X6 hown hK hP 0 rfl rfl 6 (by decide) (hts _ w_244) (fun _ h9 => h9) rfl dX6_begin_88 ?_
              refine lv_iload_n hx hb dX6_begin_91 rfl (lv_at hl 0 rfl) ?_
              refine lv_iload_n hx hb dX6_begin_92 rfl (lv_at hl 0 rfl) ?_
              refine lv_aload_n hx hb dX6_begin_93 rfl (lv_at hl 1 rfl) ?_
              refine va_get (D := G) (ci := 6) (v := .int c_houses) (C := RX6) (T := TX6) (N := 12) hx hb hts iG_X6 hown hK hP 0 rfl rfl 11 (by decide) (hts _ w_255) (fun _ h9 => h9) rfl dX6_begin_94 ?_
              refine lv_icmp_ge (tgt := 109) hx hb dX6_begin_97 (by decide) (fun c30 => ?_) (fun c30 => ?_)
              · have c30 := i_le rfl rfl c30
                refine lv_iconst (v := (-1)) hx hb dX6_begin_109 (by decide) ?_
                refine va_iast hx hb hK hP hD hS 6 0 rfl rfl (ix_in rfl (by omega) (by omega)) dX6_begin_110 (fun H locs hP hD hS => ?_)
                obtain ⟨f31, qf31⟩ : ∃ g, g = upd g24 x22.toNatClampNeg ((-1) : Int32) := ⟨_, rfl⟩
                rw [← qf31] at hP hD
                have hP : va_P G vwCl [(h0, oX6 b r1 c_houses), (b 1, .inl (cI, 7, .inl g10)), (b 2, .inl (cI, 7, .inl g11)), (b 3, .inl (cJ, 7, .inr (.inl g12))), (b 4, .inl (cI, 7, .inl g13)), (b 5, .inl (cI, 6, .inl g23)), (b 6, .inl (cI, 78, .inl f31)), (b 7, .inl (cJ, 13, .inr (.inl f4))), (b 8, .inl (cJ, 13, .inr (.inl f5))), (b 9, .inl (cJ, 13, .inr (.inl f6))), (bc 11, .inl (cI, 6, .inl c_f11)), (h1, oX0 bc c_lines c_span c_rule c_odds c_wide c_high c_creeks c_houses c_widows c_acts)] H := hP
                have hD : va_D A [(h0, oX6 b r1 c_houses), (b 1, .inl (cI, 7, .inl g10)), (b 2, .inl (cI, 7, .inl g11)), (b 3, .inl (cJ, 7, .inr (.inl g12))), (b 4, .inl (cI, 7, .inl g13)), (b 5, .inl (cI, 6, .inl g23)), (b 6, .inl (cI, 78, .inl f31)), (b 7, .inl (cJ, 13, .inr (.inl f4))), (b 8, .inl (cJ, 13, .inr (.inl f5))), (b 9, .inl (cJ, 13, .inr (.inl f6))), (bc 11, .inl (cI, 6, .inl c_f11)), (h1, oX0 bc c_lines c_span c_rule c_odds c_wide c_high c_creeks c_houses c_widows c_acts)] := hD
                refine lv_aload_n hx hb dX6_begin_111 rfl (lv_at hl 1 rfl) ?_
                refine va_get (D := G) (ci := 6) (v := .ref (b 5)) (C := RX6) (T := TX6) (N := 12) hx hb hts iG_X6 hown hK hP 0 rfl rfl 5 (by decide) (hts _ w_242) (fun _ h9 => h9) rfl dX6_begin_112 ?_
                refine lv_iload_n hx hb dX6_begin_115 rfl (lv_at hl 0 rfl) ?_
                refine lv_iconst (v := 0) hx hb dX6_begin_116 (by decide) ?_
                refine va_iast hx hb hK hP hD hS 5 0 rfl rfl (ix_in rfl (by omega) (by omega)) dX6_begin_117 (fun H locs hP hD hS => ?_)
                obtain ⟨f32, qf32⟩ : ∃ g, g = upd g23 x22.toNatClampNeg (0 : Int32) := ⟨_, rfl⟩
                rw [← qf32] at hP hD
                have hP : va_P G vwCl [(h0, oX6 b r1 c_houses), (b 1, .inl (cI, 7, .inl g10)), (b 2, .inl (cI, 7, .inl g11)), (b 3, .inl (cJ, 7, .inr (.inl g12))), (b 4, .inl (cI, 7, .inl g13)), (b 5, .inl (cI, 6, .inl f32)), (b 6, .inl (cI, 78, .inl f31)), (b 7, .inl (cJ, 13, .inr (.inl f4))), (b 8, .inl (cJ, 13, .inr (.inl f5))), (b 9, .inl (cJ, 13, .inr (.inl f6))), (bc 11, .inl (cI, 6, .inl c_f11)), (h1, oX0 bc c_lines c_span c_rule c_odds c_wide c_high c_creeks c_houses c_widows c_acts)] H := hP
                have hD : va_D A [(h0, oX6 b r1 c_houses), (b 1, .inl (cI, 7, .inl g10)), (b 2, .inl (cI, 7, .inl g11)), (b 3, .inl (cJ, 7, .inr (.inl g12))), (b 4, .inl (cI, 7, .inl g13)), (b 5, .inl (cI, 6, .inl f32)), (b 6, .inl (cI, 78, .inl f31)), (b 7, .inl (cJ, 13, .inr (.inl f4))), (b 8, .inl (cJ, 13, .inr (.inl f5))), (b 9, .inl (cJ, 13, .inr (.inl f6))), (bc 11, .inl (cI, 6, .inl c_f11)), (h1, oX0 bc c_lines c_span c_rule c_odds c_wide c_high c_creeks c_houses c_widows c_acts)] := hD
                obtain ⟨v33, ev33⟩ : ∃ y : Int32, y = x22 + 1 := ⟨_, rfl⟩
                have tv33 : v33.toInt = x22.toInt + 1 := ti_add rfl ki_1 ev33 (by omega) (by omega)
                refine lv_iinc (v := v33) (lv' := [(2, .int v33), (0, .ref h0), (1, .ref h1)]) hx hb dX6_begin_118 hl (k := 0) rfl (by rw [ev33]; rfl) (by decide) rfl (fun ls hl => ?_)
                refine lv_goto (tgt := 81) hx hb dX6_begin_121 (by decide) ?_
                exact ih27 v33 f32 f31 (by omega) (by omega) (by omega) _ _ hP hD hS ls (lv_sub hl [0, 1, 2] rfl)
              · have c30 := i_nle rfl rfl c30
                refine lv_aload_n hx hb dX6_begin_100 rfl (lv_at hl 2 rfl) ?_
                refine va_getN (D := G) (ci := 0) (v := .ref (bc 11)) (C := RX0) (T := TX0) (N := 19) hx hb hts iG_X0 hown hK hP 11 rfl rfl 11 (by decide) (nz_use hZ nw_95 rfl) (fun _ h9 => h9) rfl dX6_begin_101 ?_
                refine lv_iload_n hx hb dX6_begin_104 rfl (lv_at hl 0 rfl) ?_
                refine va_iald hx hb hK hP 10 0 rfl rfl (ix_in rfl (by omega) (by omega)) dX6_begin_105 ?_
                refine lv_topi (fun v34 ev34 => ?_)
                refine lv_goto (tgt := 110) hx hb dX6_begin_106 (by decide) ?_
                refine va_iast hx hb hK hP hD hS 6 0 rfl rfl (ix_in rfl (by omega) (by omega)) dX6_begin_110 (fun H locs hP hD hS => ?_)
                obtain ⟨f35, qf35⟩ : ∃ g, g = upd g24 x22.toNatClampNeg v34 := ⟨_, rfl⟩
                rw [← qf35] at hP hD
                have hP : va_P G vwCl [(h0, oX6 b r1 c_houses), (b 1, .inl (cI, 7, .inl g10)), (b 2, .inl (cI, 7, .inl g11)), (b 3, .inl (cJ, 7, .inr (.inl g12))), (b 4, .inl (cI, 7, .inl g13)), (b 5, .inl (cI, 6, .inl g23)), (b 6, .inl (cI, 78, .inl f35)), (b 7, .inl (cJ, 13, .inr (.inl f4))), (b 8, .inl (cJ, 13, .inr (.inl f5))), (b 9, .inl (cJ, 13, .inr (.inl f6))), (bc 11, .inl (cI, 6, .inl c_f11)), (h1, oX0 bc c_lines c_span c_rule c_odds c_wide c_high c_creeks c_houses c_widows c_acts)] H := hP
                have hD : va_D A [(h0, oX6 b r1 c_houses), (b 1, .inl (cI, 7, .inl g10)), (b 2, .inl (cI, 7, .inl g11)), (b 3, .inl (cJ, 7, .inr (.inl g12))), (b 4, .inl (cI, 7, .inl g13)), (b 5, .inl (cI, 6, .inl g23)), (b 6, .inl (cI, 78, .inl f35)), (b 7, .inl (cJ, 13, .inr (.inl f4))), (b 8, .inl (cJ, 13, .inr (.inl f5))), (b 9, .inl (cJ, 13, .inr (.inl f6))), (bc 11, .inl (cI, 6, .inl c_f11)), (h1, oX0 bc c_lines c_span c_rule c_odds c_wide c_high c_creeks c_houses c_widows c_acts)] := hD
                refine lv_aload_n hx hb dX6_begin_111 rfl (lv_at hl 1 rfl) ?_
                refine va_get (D := G) (ci := 6) (v := .ref (b 5)) (C := RX6) (T := TX6) (N := 12) hx hb hts iG_X6 hown hK hP 0 rfl rfl 5 (by decide) (hts _ w_242) (fun _ h9 => h9) rfl dX6_begin_112 ?_
                refine lv_iload_n hx hb dX6_begin_115 rfl (lv_at hl 0 rfl) ?_
                refine lv_iconst (v := 0) hx hb dX6_begin_116 (by decide) ?_
                refine va_iast hx hb hK hP hD hS 5 0 rfl rfl (ix_in rfl (by omega) (by omega)) dX6_begin_117 (fun H locs hP hD hS => ?_)
                obtain ⟨f36, qf36⟩ : ∃ g, g = upd g23 x22.toNatClampNeg (0 : Int32) := ⟨_, rfl⟩
                rw [← qf36] at hP hD
                have hP : va_P G vwCl [(h0, oX6 b r1 c_houses), (b 1, .inl (cI, 7, .inl g10)), (b 2, .inl (cI, 7, .inl g11)), (b 3, .inl (cJ, 7, .inr (.inl g12))), (b 4, .inl (cI, 7, .inl g13)), (b 5, .inl (cI, 6, .inl f36)), (b 6, .inl (cI, 78, .inl f35)), (b 7, .inl (cJ, 13, .inr (.inl f4))), (b 8, .inl (cJ, 13, .inr (.inl f5))), (b 9, .inl (cJ, 13, .inr (.inl f6))), (bc 11, .inl (cI, 6, .inl c_f11)), (h1, oX0 bc c_lines c_span c_rule c_odds c_wide c_high c_creeks c_houses c_widows c_acts)] H := hP
                have hD : va_D A [(h0, oX6 b r1 c_houses), (b 1, .inl (cI, 7, .inl g10)), (b 2, .inl (cI, 7, .inl g11)), (b 3, .inl (cJ, 7, .inr (.inl g12))), (b 4, .inl (cI, 7, .inl g13)), (b 5, .inl (cI, 6, .inl f36)), (b 6, .inl (cI, 78, .inl f35)), (b 7, .inl (cJ, 13, .inr (.inl f4))), (b 8, .inl (cJ, 13, .inr (.inl f5))), (b 9, .inl (cJ, 13, .inr (.inl f6))), (bc 11, .inl (cI, 6, .inl c_f11)), (h1, oX0 bc c_lines c_span c_rule c_odds c_wide c_high c_creeks c_houses c_widows c_acts)] := hD
                obtain ⟨v37, ev37⟩ : ∃ y : Int32, y = x22 + 1 := ⟨_, rfl⟩
                have tv37 : v37.toInt = x22.toInt + 1 := ti_add rfl ki_1 ev37 (by omega) (by omega)
                refine lv_iinc (v := v37) (lv' := [(2, .int v37), (0, .ref h0), (1, .ref h1)]) hx hb dX6_begin_118 hl (k := 0) rfl (by rw [ev37]; rfl) (by decide) rfl (fun ls hl => ?_)
                refine lv_goto (tgt := 81) hx hb dX6_begin_121 (by decide) ?_
                exact ih27 v37 f36 f35 (by omega) (by omega) (by omega) _ _ hP hD hS ls (lv_sub hl [0, 1, 2] rfl)
        exact lp20 7 0 o_f5 o_f6 (by rw [ki_0]; decide) (by rw [ki_0]; decide) (by rw [ki_0]; decide) _ _ hP hD hS ls (lv_sub hl [0, 1, 2] rfl)
      · have c19 := i_nle ki_7 rfl c19
        refine lv_aload_n hx hb dX6_begin_45 rfl (lv_at hl 1 rfl) ?_
        refine va_get (D := G) (ci := 6) (v := .ref (b 1)) (C := RX6) (T := TX6) (N := 12) hx hb hts iG_X6 hown hK hP 0 rfl rfl 1 (by decide) (hts _ w_234) (fun _ h9 => h9) rfl dX6_begin_46 ?_
        refine lv_iload_n hx hb dX6_begin_49 rfl (lv_at hl 0 rfl) ?_
        refine lv_iconst (v := (-1)) hx hb dX6_begin_50 (by decide) ?_
        refine va_iast hx hb hK hP hD hS 1 0 rfl rfl (ix_in rfl (by omega) (by omega)) dX6_begin_51 (fun H locs hP hD hS => ?_)
        obtain ⟨f38, qf38⟩ : ∃ g, g = upd g10 x9.toNatClampNeg ((-1) : Int32) := ⟨_, rfl⟩
        rw [← qf38] at hP hD
        have hi39 : ai f38 7 (-1) 40 := by rw [qf38]; exact ai_put k16 ki_m1 (by decide) (by decide)
        have hP : va_P G vwCl [(h0, oX6 b r1 c_houses), (b 1, .inl (cI, 7, .inl f38)), (b 2, .inl (cI, 7, .inl g11)), (b 3, .inl (cJ, 7, .inr (.inl g12))), (b 4, .inl (cI, 7, .inl g13)), (b 5, .inl (cI, 6, .inl o_f5)), (b 6, .inl (cI, 78, .inl o_f6)), (b 7, .inl (cJ, 13, .inr (.inl f4))), (b 8, .inl (cJ, 13, .inr (.inl f5))), (b 9, .inl (cJ, 13, .inr (.inl f6))), (bc 11, .inl (cI, 6, .inl c_f11)), (h1, oX0 bc c_lines c_span c_rule c_odds c_wide c_high c_creeks c_houses c_widows c_acts)] H := hP
        have hD : va_D A [(h0, oX6 b r1 c_houses), (b 1, .inl (cI, 7, .inl f38)), (b 2, .inl (cI, 7, .inl g11)), (b 3, .inl (cJ, 7, .inr (.inl g12))), (b 4, .inl (cI, 7, .inl g13)), (b 5, .inl (cI, 6, .inl o_f5)), (b 6, .inl (cI, 78, .inl o_f6)), (b 7, .inl (cJ, 13, .inr (.inl f4))), (b 8, .inl (cJ, 13, .inr (.inl f5))), (b 9, .inl (cJ, 13, .inr (.inl f6))), (bc 11, .inl (cI, 6, .inl c_f11)), (h1, oX0 bc c_lines c_span c_rule c_odds c_wide c_high c_creeks c_houses c_widows c_acts)] := hD
        refine lv_aload_n hx hb dX6_begin_52 rfl (lv_at hl 1 rfl) ?_
        refine va_get (D := G) (ci := 6) (v := .ref (b 2)) (C := RX6) (T := TX6) (N := 12) hx hb hts iG_X6 hown hK hP 0 rfl rfl 2 (by decide) (hts _ w_236) (fun _ h9 => h9) rfl dX6_begin_53 ?_
        refine lv_iload_n hx hb dX6_begin_56 rfl (lv_at hl 0 rfl) ?_
        refine lv_iconst (v := 0) hx hb dX6_begin_57 (by decide) ?_
        refine va_iast hx hb hK hP hD hS 2 0 rfl rfl (ix_in rfl (by omega) (by omega)) dX6_begin_58 (fun H locs hP hD hS => ?_)
        obtain ⟨f40, qf40⟩ : ∃ g, g = upd g11 x9.toNatClampNeg (0 : Int32) := ⟨_, rfl⟩
        rw [← qf40] at hP hD
        have hP : va_P G vwCl [(h0, oX6 b r1 c_houses), (b 1, .inl (cI, 7, .inl f38)), (b 2, .inl (cI, 7, .inl f40)), (b 3, .inl (cJ, 7, .inr (.inl g12))), (b 4, .inl (cI, 7, .inl g13)), (b 5, .inl (cI, 6, .inl o_f5)), (b 6, .inl (cI, 78, .inl o_f6)), (b 7, .inl (cJ, 13, .inr (.inl f4))), (b 8, .inl (cJ, 13, .inr (.inl f5))), (b 9, .inl (cJ, 13, .inr (.inl f6))), (bc 11, .inl (cI, 6, .inl c_f11)), (h1, oX0 bc c_lines c_span c_rule c_odds c_wide c_high c_creeks c_houses c_widows c_acts)] H := hP
        have hD : va_D A [(h0, oX6 b r1 c_houses), (b 1, .inl (cI, 7, .inl f38)), (b 2, .inl (cI, 7, .inl f40)), (b 3, .inl (cJ, 7, .inr (.inl g12))), (b 4, .inl (cI, 7, .inl g13)), (b 5, .inl (cI, 6, .inl o_f5)), (b 6, .inl (cI, 78, .inl o_f6)), (b 7, .inl (cJ, 13, .inr (.inl f4))), (b 8, .inl (cJ, 13, .inr (.inl f5))), (b 9, .inl (cJ, 13, .inr (.inl f6))), (bc 11, .inl (cI, 6, .inl c_f11)), (h1, oX0 bc c_lines c_span c_rule c_odds c_wide c_high c_creeks c_houses c_widows c_acts)] := hD
        refine lv_aload_n hx hb dX6_begin_59 rfl (lv_at hl 1 rfl) ?_
        refine va_get (D := G) (ci := 6) (v := .ref (b 3)) (C := RX6) (T := TX6) (N := 12) hx hb hts iG_X6 hown hK hP 0 rfl rfl 3 (by decide) (hts _ w_238) (fun _ h9 => h9) rfl dX6_begin_60 ?_
        refine lv_iload_n hx hb dX6_begin_63 rfl (lv_at hl 0 rfl) ?_
        refine lv_lconst (v := 0) hx hb dX6_begin_64 (by decide) ?_
        refine va_last hx hb hK hP hD hS 3 1 rfl rfl (ix_in rfl (by omega) (by omega)) dX6_begin_65 (fun H locs hP hD hS => ?_)
        obtain ⟨f41, qf41⟩ : ∃ g, g = vp_updL g12 x9.toNatClampNeg (0 : Int64) := ⟨_, rfl⟩
        rw [← qf41] at hP hD
        have hP : va_P G vwCl [(h0, oX6 b r1 c_houses), (b 1, .inl (cI, 7, .inl f38)), (b 2, .inl (cI, 7, .inl f40)), (b 3, .inl (cJ, 7, .inr (.inl f41))), (b 4, .inl (cI, 7, .inl g13)), (b 5, .inl (cI, 6, .inl o_f5)), (b 6, .inl (cI, 78, .inl o_f6)), (b 7, .inl (cJ, 13, .inr (.inl f4))), (b 8, .inl (cJ, 13, .inr (.inl f5))), (b 9, .inl (cJ, 13, .inr (.inl f6))), (bc 11, .inl (cI, 6, .inl c_f11)), (h1, oX0 bc c_lines c_span c_rule c_odds c_wide c_high c_creeks c_houses c_widows c_acts)] H := hP
        have hD : va_D A [(h0, oX6 b r1 c_houses), (b 1, .inl (cI, 7, .inl f38)), (b 2, .inl (cI, 7, .inl f40)), (b 3, .inl (cJ, 7, .inr (.inl f41))), (b 4, .inl (cI, 7, .inl g13)), (b 5, .inl (cI, 6, .inl o_f5)), (b 6, .inl (cI, 78, .inl o_f6)), (b 7, .inl (cJ, 13, .inr (.inl f4))), (b 8, .inl (cJ, 13, .inr (.inl f5))), (b 9, .inl (cJ, 13, .inr (.inl f6))), (bc 11, .inl (cI, 6, .inl c_f11)), (h1, oX0 bc c_lines c_span c_rule c_odds c_wide c_high c_creeks c_houses c_widows c_acts)] := hD
        refine lv_aload_n hx hb dX6_begin_66 rfl (lv_at hl 1 rfl) ?_
        refine va_get (D := G) (ci := 6) (v := .ref (b 4)) (C := RX6) (T := TX6) (N := 12) hx hb hts iG_X6 hown hK hP 0 rfl rfl 4 (by decide) (hts _ w_240) (fun _ h9 => h9) rfl dX6_begin_67 ?_
        refine lv_iload_n hx hb dX6_begin_70 rfl (lv_at hl 0 rfl) ?_
        refine lv_iconst (v := 0) hx hb dX6_begin_71 (by decide) ?_
        refine va_iast hx hb hK hP hD hS 4 0 rfl rfl (ix_in rfl (by omega) (by omega)) dX6_begin_72 (fun H locs hP hD hS => ?_)
        obtain ⟨f42, qf42⟩ : ∃ g, g = upd g13 x9.toNatClampNeg (0 : Int32) := ⟨_, rfl⟩
        rw [← qf42] at hP hD
        have hP : va_P G vwCl [(h0, oX6 b r1 c_houses), (b 1, .inl (cI, 7, .inl f38)), (b 2, .inl (cI, 7, .inl f40)), (b 3, .inl (cJ, 7, .inr (.inl f41))), (b 4, .inl (cI, 7, .inl f42)), (b 5, .inl (cI, 6, .inl o_f5)), (b 6, .inl (cI, 78, .inl o_f6)), (b 7, .inl (cJ, 13, .inr (.inl f4))), (b 8, .inl (cJ, 13, .inr (.inl f5))), (b 9, .inl (cJ, 13, .inr (.inl f6))), (bc 11, .inl (cI, 6, .inl c_f11)), (h1, oX0 bc c_lines c_span c_rule c_odds c_wide c_high c_creeks c_houses c_widows c_acts)] H := hP
        have hD : va_D A [(h0, oX6 b r1 c_houses), (b 1, .inl (cI, 7, .inl f38)), (b 2, .inl (cI, 7, .inl f40)), (b 3, .inl (cJ, 7, .inr (.inl f41))), (b 4, .inl (cI, 7, .inl f42)), (b 5, .inl (cI, 6, .inl o_f5)), (b 6, .inl (cI, 78, .inl o_f6)), (b 7, .inl (cJ, 13, .inr (.inl f4))), (b 8, .inl (cJ, 13, .inr (.inl f5))), (b 9, .inl (cJ, 13, .inr (.inl f6))), (bc 11, .inl (cI, 6, .inl c_f11)), (h1, oX0 bc c_lines c_span c_rule c_odds c_wide c_high c_creeks c_houses c_widows c_acts)] := hD
        obtain ⟨v43, ev43⟩ : ∃ y : Int32, y = x9 + 1 := ⟨_, rfl⟩
        have tv43 : v43.toInt = x9.toInt + 1 := ti_add rfl ki_1 ev43 (by omega) (by omega)
        refine lv_iinc (v := v43) (lv' := [(2, .int v43), (0, .ref h0), (1, .ref h1)]) hx hb dX6_begin_73 hl (k := 0) rfl (by rw [ev43]; rfl) (by decide) rfl (fun ls hl => ?_)
        refine lv_goto (tgt := 39) hx hb dX6_begin_76 (by decide) ?_
        exact ih17 v43 f38 f40 f41 f42 (by omega) (by omega) hi39 (by omega) _ _ hP hD hS ls (lv_sub hl [0, 1, 2] rfl)
  exact lp7 8 0 o_f1 o_f2 o_f3 o_f4 (by rw [ki_0]; decide) (by rw [ki_0]; decide) ha_o_f1 (by rw [ki_0]; decide) _ _ hP hD hS ls (lv_sub hl [0, 1, 2] rfl)
set_option maxHeartbeats 4000000 in
set_option maxRecDepth 100000 in
theorem f_X6_walk (l : Launch) (G : va_G) (cI cJ cZ cB cQ : ClassId) (sz : Nat) (h0 : Nat) (h1 : Nat) (h2 : Nat) (p0 : Int32) (p1 : Int32) (b : Nat → Nat) (o_field : Int64) (o_houses : Int32) (o_f0 : Nat → Int32) (o_f1 : Nat → Int32) (o_f2 : Nat → Int32) (o_f3 : Nat → Int64) (o_f7 : Nat → Int64) (o_f8 : Nat → Int64) (o_f9 : Nat → Int64) (bc : Nat → Nat) (c_lines : Int32) (c_span : Int32) (c_rule : Int32) (c_odds : Int32) (c_wide : Int32) (c_high : Int32) (c_creeks : Int32) (c_houses : Int32) (c_widows : Int32) (c_acts : Int32) (c_f12 : Nat → Int32) (c_f13 : Nat → Int32) (c_f14 : Nat → Int32) (c_f16 : Nat → Int32) (c_f17 : Nat → Int32) (u_rule : Int32) (u_walkers : Int32) (u_creeks : Int64) (u_widow : Int32) (u_faces : Int32) (u_turn : Int32) (qp0_l : 0 ≤ p0.toInt) (qp0_h : p0.toInt ≤ 6) (qp1_l : 0 ≤ p1.toInt) (qp1_h : p1.toInt ≤ 12) (hl_o_houses : 0 ≤ o_houses.toInt) (hh_o_houses : o_houses.toInt ≤ 6) (ha_o_f1 : ai o_f1 7 (-1) 40) (hl_c_span : 0 ≤ c_span.toInt) (hh_c_span : c_span.toInt ≤ 12) (hl_c_rule : 0 ≤ c_rule.toInt) (hh_c_rule : c_rule.toInt ≤ 3) (hl_c_odds : 0 ≤ c_odds.toInt) (hh_c_odds : c_odds.toInt ≤ 10) (hl_c_wide : 0 ≤ c_wide.toInt) (hh_c_wide : c_wide.toInt ≤ 8) (hl_c_high : 0 ≤ c_high.toInt) (hh_c_high : c_high.toInt ≤ 8) (hl_c_creeks : 0 ≤ c_creeks.toInt) (hh_c_creeks : c_creeks.toInt ≤ 12) (hl_c_houses : 0 ≤ c_houses.toInt) (hh_c_houses : c_houses.toInt ≤ 6) (hl_c_widows : 0 ≤ c_widows.toInt) (hh_c_widows : c_widows.toInt ≤ 7) (hl_c_acts : 0 ≤ c_acts.toInt) (hh_c_acts : c_acts.toInt ≤ 30) (ha_c_f14 : ai c_f14 7 (-2147483648) 40) (ha_c_f16 : ai c_f16 7 (-2147483648) 8) : CV l yX6_walk (wl_ yX6_walk cX6_walk 14 none) ({ frames := 2, cells := 0, slots := 0, locals := 48 } : Room) G (TY cI cJ cZ cB cQ) [.ref h0, .ref h1, .ref h2, .int p0, .int p1] [(h0, oX6 b o_field o_houses), (b 0, .inl (cI, 287, .inl o_f0)), (b 1, .inl (cI, 7, .inl o_f1)), (b 2, .inl (cI, 7, .inl o_f2)), (b 3, .inl (cJ, 7, .inr (.inl o_f3))), (b 7, .inl (cJ, 13, .inr (.inl o_f7))), (b 8, .inl (cJ, 13, .inr (.inl o_f8))), (b 9, .inl (cJ, 13, .inr (.inl o_f9))), (h1, oX0 bc c_lines c_span c_rule c_odds c_wide c_high c_creeks c_houses c_widows c_acts), (bc 12, .inl (cI, 7, .inl c_f12)), (bc 13, .inl (cI, 7, .inl c_f13)), (bc 14, .inl (cI, 7, .inl c_f14)), (bc 16, .inl (cI, 7, .inl c_f16)), (bc 17, .inl (cI, 56, .inl c_f17)), (h2, oX7 z0 u_rule u_walkers u_creeks u_widow u_faces u_turn)] sz (fun (u : (Nat → Int32) × (Nat → Int32) × (Nat → Int32) × (Nat → Int64) × (Nat → Int64) × (Nat → Int64) × (Nat → Int64)) => ai u.2.1 7 (-1) 40) (fun u : (Nat → Int32) × (Nat → Int32) × (Nat → Int32) × (Nat → Int64) × (Nat → Int64) × (Nat → Int64) × (Nat → Int64) => [(h0, oX6 b o_field o_houses), (b 0, .inl (cI, 287, .inl u.1)), (b 1, .inl (cI, 7, .inl u.2.1)), (b 2, .inl (cI, 7, .inl u.2.2.1)), (b 3, .inl (cJ, 7, .inr (.inl u.2.2.2.1))), (b 7, .inl (cJ, 13, .inr (.inl u.2.2.2.2.1))), (b 8, .inl (cJ, 13, .inr (.inl u.2.2.2.2.2.1))), (b 9, .inl (cJ, 13, .inr (.inl u.2.2.2.2.2.2))), (h1, oX0 bc c_lines c_span c_rule c_odds c_wide c_high c_creeks c_houses c_widows c_acts), (bc 12, .inl (cI, 7, .inl c_f12)), (bc 13, .inl (cI, 7, .inl c_f13)), (bc 14, .inl (cI, 7, .inl c_f14)), (bc 16, .inl (cI, 7, .inl c_f16)), (bc 17, .inl (cI, 56, .inl c_f17)), (h2, oX7 z0 u_rule u_walkers u_creeks u_widow u_faces u_turn)]) 0 0 := by
  refine CV.go (cc := cX6_walk) (maxL := 14) (ret := none) (by decide) rfl (Nat.le_of_ble_eq_true rfl) ?_
  intro p e s m below meth c A ls Q hBd hret
  obtain ⟨hx, hb, hr, hml, hts, hown, hlk, hnm, hP, hK, hD, hA, hZ, hl⟩ := hBd
  have hown : s.vm.findClass RX6 = some m.cls := hown
  have hl : lv_has ls 14 [(0, .ref h0), (1, .ref h1), (2, .ref h2), (3, .int p0), (4, .int p1)] := hl
  have hS : va_S A s.heap s.heap [] := va_S.rf
  refine lv_aload_n hx hb dX6_walk_0 rfl (lv_at hl 0 rfl) ?_
  refine va_get (D := G) (ci := 6) (v := .ref (b 7)) (C := RX6) (T := TX6) (N := 12) hx hb hts iG_X6 hown hK hP 0 rfl rfl 7 (by decide) (hts _ w_246) (fun _ h9 => h9) rfl dX6_walk_1 ?_
  refine lv_iload hx hb dX6_walk_4 (lv_at hl 4 rfl) ?_
  refine va_lald hx hb hK hP 5 1 rfl rfl (ix_in rfl (by omega) (by omega)) dX6_walk_6 ?_
  refine lv_topl (fun v1 ev1 => ?_)
  refine lv_lstore (lv' := [(5, .long v1), (0, .ref h0), (1, .ref h1), (2, .ref h2), (3, .int p0), (4, .int p1)]) hx hb dX6_walk_7 hl (by decide) rfl (fun ls hl => ?_)
  refine lv_aload_n hx hb dX6_walk_9 rfl (lv_at hl 1 rfl) ?_
  refine va_get (D := G) (ci := 6) (v := .long o_field) (C := RX6) (T := TX6) (N := 12) hx hb hts iG_X6 hown hK hP 0 rfl rfl 10 (by decide) (hts _ w_254) (fun _ h9 => h9) rfl dX6_walk_10 ?_
  refine lv_aload_n hx hb dX6_walk_13 rfl (lv_at hl 3 rfl) ?_
  refine va_getN (D := G) (ci := 7) (v := .long u_creeks) (C := RX7) (T := TX7) (N := 6) hx hb hts iG_X7 hown hK hP 14 rfl rfl 2 (by decide) (nz_use hZ nw_206 rfl) (fun _ h9 => h9) rfl dX6_walk_14 ?_
  refine lv_ldc2 (v := (-1)) hx hb hown (hts _ w_603) dX6_walk_17 ?_
  refine lv_lxor hx hb dX6_walk_20 ?_
  refine lv_topl (fun v2 ev2 => ?_)
  refine lv_land hx hb dX6_walk_21 ?_
  refine lv_topl (fun v3 ev3 => ?_)
  refine lv_lstore (lv' := [(7, .long v3), (5, .long v1), (0, .ref h0), (1, .ref h1), (2, .ref h2), (3, .int p0), (4, .int p1)]) hx hb dX6_walk_22 hl (by decide) rfl (fun ls hl => ?_)
  refine lv_aload_n hx hb dX6_walk_24 rfl (lv_at hl 3 rfl) ?_
  refine va_getN (D := G) (ci := 0) (v := .ref (bc 12)) (C := RX0) (T := TX0) (N := 19) hx hb hts iG_X0 hown hK hP 8 rfl rfl 12 (by decide) (nz_use hZ nw_98 rfl) (fun _ h9 => h9) rfl dX6_walk_25 ?_
  refine lv_iload_n hx hb dX6_walk_28 rfl (lv_at hl 5 rfl) ?_
  refine va_iald hx hb hK hP 9 0 rfl rfl (ix_in rfl (by omega) (by omega)) dX6_walk_29 ?_
  refine lv_topi (fun v4 ev4 => ?_)
  refine lv_istore (lv' := [(9, .int v4), (7, .long v3), (5, .long v1), (0, .ref h0), (1, .ref h1), (2, .ref h2), (3, .int p0), (4, .int p1)]) hx hb dX6_walk_30 hl (by decide) rfl (fun ls hl => ?_)
  refine lv_aload_n hx hb dX6_walk_32 rfl (lv_at hl 5 rfl) ?_
  refine lv_aload_n hx hb dX6_walk_33 rfl (lv_at hl 4 rfl) ?_
  refine lv_iload_n hx hb dX6_walk_34 rfl (lv_at hl 6 rfl) ?_
  refine k_i (wc := [(h2, oX7 z0 u_rule u_walkers u_creeks u_widow u_faces u_turn), (h1, oX0 bc c_lines c_span c_rule c_odds c_wide c_high c_creeks c_houses c_widows c_acts), (bc 13, .inl (cI, 7, .inl c_f13))]) (wr := [(h0, oX6 b o_field o_houses), (b 0, .inl (cI, 287, .inl o_f0)), (b 1, .inl (cI, 7, .inl o_f1)), (b 2, .inl (cI, 7, .inl o_f2)), (b 3, .inl (cJ, 7, .inr (.inl o_f3))), (b 7, .inl (cJ, 13, .inr (.inl o_f7))), (b 8, .inl (cJ, 13, .inr (.inl o_f8))), (b 9, .inl (cJ, 13, .inr (.inl o_f9))), (bc 12, .inl (cI, 7, .inl c_f12)), (bc 14, .inl (cI, 7, .inl c_f14)), (bc 16, .inl (cI, 7, .inl c_f16)), (bc 17, .inl (cI, 56, .inl c_f17))]) hP hD hS hA [14, 8, 10] [0, 1, 2, 3, 4, 5, 6, 7, 9, 11, 12, 13] rfl rfl rfl (by decide) (va_runVN (As := [.ref h1, .int p0]) (rest := []) ⟨hx, hb, hml, hown, hts⟩ (f_X7_facesAtFirst l G cI cJ cZ cB cQ _ h2 h1 p0 u_rule u_walkers u_creeks u_widow u_faces u_turn bc c_lines c_span c_rule c_odds c_wide c_high c_creeks c_houses c_widows c_acts c_f13 qp0_l qp0_h hl_c_span hh_c_span hl_c_rule hh_c_rule hl_c_odds hh_c_odds hl_c_wide hh_c_wide hl_c_high hh_c_high hl_c_creeks hh_c_creeks hl_c_houses hh_c_houses hl_c_widows hh_c_widows hl_c_acts hh_c_acts) ⟨va_cnB (host := "WidowRoads") 2 hts (gW w_607) rfl rfl rfl (nz_nw hZ nw_604 rfl) (hts _ w_5) hd_X7_facesAtFirst ⟨Nat.le_of_ble_eq_true rfl, Nat.le_of_ble_eq_true rfl⟩, (hts _ w_606), (hts _ wp_29)⟩ (mV hK hZ hP hD [14, 8, 10] rfl rfl [.ref h1, .int p0] 14 7 rfl rfl) rfl rfl hl.1 rfl (lv_room (Nat.le_of_ble_eq_true rfl)) dX6_walk_35 ⟨Nat.le_of_ble_eq_true rfl, Nat.le_of_ble_eq_true rfl⟩) (fun r5 u6 H locs hw7 hP hD hS => ?_)
  try dsimp only at hw7
  have hP : va_P G vwCl [(h0, oX6 b o_field o_houses), (b 0, .inl (cI, 287, .inl o_f0)), (b 1, .inl (cI, 7, .inl o_f1)), (b 2, .inl (cI, 7, .inl o_f2)), (b 3, .inl (cJ, 7, .inr (.inl o_f3))), (b 7, .inl (cJ, 13, .inr (.inl o_f7))), (b 8, .inl (cJ, 13, .inr (.inl o_f8))), (b 9, .inl (cJ, 13, .inr (.inl o_f9))), (bc 12, .inl (cI, 7, .inl c_f12)), (bc 14, .inl (cI, 7, .inl c_f14)), (bc 16, .inl (cI, 7, .inl c_f16)), (bc 17, .inl (cI, 56, .inl c_f17)), (h2, oX7 z0 u_rule u_walkers u_creeks u_widow u_faces u_turn), (h1, oX0 bc c_lines c_span c_rule c_odds c_wide c_high c_creeks c_houses c_widows c_acts), (bc 13, .inl (cI, 7, .inl c_f13))] H := hP
  have hD : va_D A [(h0, oX6 b o_field o_houses), (b 0, .inl (cI, 287, .inl o_f0)), (b 1, .inl (cI, 7, .inl o_f1)), (b 2, .inl (cI, 7, .inl o_f2)), (b 3, .inl (cJ, 7, .inr (.inl o_f3))), (b 7, .inl (cJ, 13, .inr (.inl o_f7))), (b 8, .inl (cJ, 13, .inr (.inl o_f8))), (b 9, .inl (cJ, 13, .inr (.inl o_f9))), (bc 12, .inl (cI, 7, .inl c_f12)), (bc 14, .inl (cI, 7, .inl c_f14)), (bc 16, .inl (cI, 7, .inl c_f16)), (bc 17, .inl (cI, 56, .inl c_f17)), (h2, oX7 z0 u_rule u_walkers u_creeks u_widow u_faces u_turn), (h1, oX0 bc c_lines c_span c_rule c_odds c_wide c_high c_creeks c_houses c_widows c_acts), (bc 13, .inl (cI, 7, .inl c_f13))] := hD
  refine lv_istore (lv' := [(10, .int r5), (9, .int v4), (7, .long v3), (5, .long v1), (0, .ref h0), (1, .ref h1), (2, .ref h2), (3, .int p0), (4, .int p1)]) hx hb dX6_walk_38 hl (by decide) rfl (fun ls hl => ?_)
  refine lv_iconst (v := 0) hx hb dX6_walk_40 (by decide) ?_
  refine lv_istore (lv' := [(11, .int 0), (10, .int r5), (9, .int v4), (7, .long v3), (5, .long v1), (0, .ref h0), (1, .ref h1), (2, .ref h2), (3, .int p0), (4, .int p1)]) hx hb dX6_walk_41 hl (by decide) rfl (fun ls hl => ?_)
  refine lv_aload_n hx hb dX6_walk_43 rfl (lv_at hl 5 rfl) ?_
  refine va_get (D := G) (ci := 6) (v := .ref (b 3)) (C := RX6) (T := TX6) (N := 12) hx hb hts iG_X6 hown hK hP 0 rfl rfl 3 (by decide) (hts _ w_238) (fun _ h9 => h9) rfl dX6_walk_44 ?_
  refine lv_iload_n hx hb dX6_walk_47 rfl (lv_at hl 8 rfl) ?_
  refine lv_iload hx hb dX6_walk_48 (lv_at hl 2 rfl) ?_
  refine k_l (wc := []) (wr := [(h0, oX6 b o_field o_houses), (b 0, .inl (cI, 287, .inl o_f0)), (b 1, .inl (cI, 7, .inl o_f1)), (b 2, .inl (cI, 7, .inl o_f2)), (b 3, .inl (cJ, 7, .inr (.inl o_f3))), (b 7, .inl (cJ, 13, .inr (.inl o_f7))), (b 8, .inl (cJ, 13, .inr (.inl o_f8))), (b 9, .inl (cJ, 13, .inr (.inl o_f9))), (bc 12, .inl (cI, 7, .inl c_f12)), (bc 14, .inl (cI, 7, .inl c_f14)), (bc 16, .inl (cI, 7, .inl c_f16)), (bc 17, .inl (cI, 56, .inl c_f17)), (h2, oX7 z0 u_rule u_walkers u_creeks u_widow u_faces u_turn), (h1, oX0 bc c_lines c_span c_rule c_odds c_wide c_high c_creeks c_houses c_widows c_acts), (bc 13, .inl (cI, 7, .inl c_f13))]) hP hD hS hA [] [0, 1, 2, 3, 4, 5, 6, 7, 8, 9, 10, 11, 12, 13, 14] rfl rfl rfl (by decide) (va_runSN (As := [.int v4]) (rest := [.int p0, .ref (b 3)]) ⟨hx, hb, hml, hown, hts⟩ (f_X9_bit l G cI cJ cZ cB cQ _ v4) ⟨va_cnB (host := "WidowRoads") 1 hts (gW w_519) rfl rfl rfl (nz_nw hZ nw_608 rfl) (hts _ w_1) hd_X9_bit ⟨Nat.le_of_ble_eq_true rfl, Nat.le_of_ble_eq_true rfl⟩, (hts _ w_518), trivial⟩ (mS hK hZ hP hD [] rfl rfl [.int v4]) rfl rfl hl.1 rfl (lv_room (Nat.le_of_ble_eq_true rfl)) dX6_walk_50 ⟨Nat.le_of_ble_eq_true rfl, Nat.le_of_ble_eq_true rfl⟩) (fun r8 u9 H locs hw10 hP hD hS => ?_)
  try dsimp only at hw10
  have hP : va_P G vwCl [(h0, oX6 b o_field o_houses), (b 0, .inl (cI, 287, .inl o_f0)), (b 1, .inl (cI, 7, .inl o_f1)), (b 2, .inl (cI, 7, .inl o_f2)), (b 3, .inl (cJ, 7, .inr (.inl o_f3))), (b 7, .inl (cJ, 13, .inr (.inl o_f7))), (b 8, .inl (cJ, 13, .inr (.inl o_f8))), (b 9, .inl (cJ, 13, .inr (.inl o_f9))), (bc 12, .inl (cI, 7, .inl c_f12)), (bc 14, .inl (cI, 7, .inl c_f14)), (bc 16, .inl (cI, 7, .inl c_f16)), (bc 17, .inl (cI, 56, .inl c_f17)), (h2, oX7 z0 u_rule u_walkers u_creeks u_widow u_faces u_turn), (h1, oX0 bc c_lines c_span c_rule c_odds c_wide c_high c_creeks c_houses c_widows c_acts), (bc 13, .inl (cI, 7, .inl c_f13))] H := hP
  have hD : va_D A [(h0, oX6 b o_field o_houses), (b 0, .inl (cI, 287, .inl o_f0)), (b 1, .inl (cI, 7, .inl o_f1)), (b 2, .inl (cI, 7, .inl o_f2)), (b 3, .inl (cJ, 7, .inr (.inl o_f3))), (b 7, .inl (cJ, 13, .inr (.inl o_f7))), (b 8, .inl (cJ, 13, .inr (.inl o_f8))), (b 9, .inl (cJ, 13, .inr (.inl o_f9))), (bc 12, .inl (cI, 7, .inl c_f12)), (bc 14, .inl (cI, 7, .inl c_f14)), (bc 16, .inl (cI, 7, .inl c_f16)), (bc 17, .inl (cI, 56, .inl c_f17)), (h2, oX7 z0 u_rule u_walkers u_creeks u_widow u_faces u_turn), (h1, oX0 bc c_lines c_span c_rule c_odds c_wide c_high c_creeks c_houses c_widows c_acts), (bc 13, .inl (cI, 7, .inl c_f13))] := hD
  refine va_last hx hb hK hP hD hS 4 1 rfl rfl (ix_in rfl (by omega) (by omega)) dX6_walk_53 (fun H locs hP hD hS => ?_)
  obtain ⟨f11, qf11⟩ : ∃ g, g = vp_updL o_f3 p0.toNatClampNeg r8 := ⟨_, rfl⟩
  rw [← qf11] at hP hD
  have hP : va_P G vwCl [(h0, oX6 b o_field o_houses), (b 0, .inl (cI, 287, .inl o_f0)), (b 1, .inl (cI, 7, .inl o_f1)), (b 2, .inl (cI, 7, .inl o_f2)), (b 3, .inl (cJ, 7, .inr (.inl f11))), (b 7, .inl (cJ, 13, .inr (.inl o_f7))), (b 8, .inl (cJ, 13, .inr (.inl o_f8))), (b 9, .inl (cJ, 13, .inr (.inl o_f9))), (bc 12, .inl (cI, 7, .inl c_f12)), (bc 14, .inl (cI, 7, .inl c_f14)), (bc 16, .inl (cI, 7, .inl c_f16)), (bc 17, .inl (cI, 56, .inl c_f17)), (h2, oX7 z0 u_rule u_walkers u_creeks u_widow u_faces u_turn), (h1, oX0 bc c_lines c_span c_rule c_odds c_wide c_high c_creeks c_houses c_widows c_acts), (bc 13, .inl (cI, 7, .inl c_f13))] H := hP
  have hD : va_D A [(h0, oX6 b o_field o_houses), (b 0, .inl (cI, 287, .inl o_f0)), (b 1, .inl (cI, 7, .inl o_f1)), (b 2, .inl (cI, 7, .inl o_f2)), (b 3, .inl (cJ, 7, .inr (.inl f11))), (b 7, .inl (cJ, 13, .inr (.inl o_f7))), (b 8, .inl (cJ, 13, .inr (.inl o_f8))), (b 9, .inl (cJ, 13, .inr (.inl o_f9))), (bc 12, .inl (cI, 7, .inl c_f12)), (bc 14, .inl (cI, 7, .inl c_f14)), (bc 16, .inl (cI, 7, .inl c_f16)), (bc 17, .inl (cI, 56, .inl c_f17)), (h2, oX7 z0 u_rule u_walkers u_creeks u_widow u_faces u_turn), (h1, oX0 bc c_lines c_span c_rule c_odds c_wide c_high c_creeks c_houses c_widows c_acts), (bc 13, .inl (cI, 7, .inl c_f13))] := hD
  refine lv_aload_n hx hb dX6_walk_54 rfl (lv_at hl 5 rfl) ?_
  refine va_get (D := G) (ci := 6) (v := .ref (b 0)) (C := RX6) (T := TX6) (N := 12) hx hb hts iG_X6 hown hK hP 0 rfl rfl 0 (by decide) (hts _ w_233) (fun _ h9 => h9) rfl dX6_walk_55 ?_
  refine lv_iload_n hx hb dX6_walk_58 rfl (lv_at hl 8 rfl) ?_
  refine lv_bipush (v := 41) hx hb dX6_walk_59 (by decide) ?_
  refine lv_imul hx hb dX6_walk_61 ?_
  refine lv_topi (fun v12 ev12 => ?_)
  have tv12 : v12.toInt = p0.toInt * 41 := ti_mul rfl ki_41 ev12 (by omega) (by omega)
  refine lv_iload hx hb dX6_walk_62 (lv_at hl 2 rfl) ?_
  refine va_iast hx hb hK hP hD hS 1 0 rfl rfl (ix_in tv12 (by omega) (by omega)) dX6_walk_64 (fun H locs hP hD hS => ?_)
  obtain ⟨f13, qf13⟩ : ∃ g, g = upd o_f0 v12.toNatClampNeg v4 := ⟨_, rfl⟩
  rw [← qf13] at hP hD
  have hP : va_P G vwCl [(h0, oX6 b o_field o_houses), (b 0, .inl (cI, 287, .inl f13)), (b 1, .inl (cI, 7, .inl o_f1)), (b 2, .inl (cI, 7, .inl o_f2)), (b 3, .inl (cJ, 7, .inr (.inl f11))), (b 7, .inl (cJ, 13, .inr (.inl o_f7))), (b 8, .inl (cJ, 13, .inr (.inl o_f8))), (b 9, .inl (cJ, 13, .inr (.inl o_f9))), (bc 12, .inl (cI, 7, .inl c_f12)), (bc 14, .inl (cI, 7, .inl c_f14)), (bc 16, .inl (cI, 7, .inl c_f16)), (bc 17, .inl (cI, 56, .inl c_f17)), (h2, oX7 z0 u_rule u_walkers u_creeks u_widow u_faces u_turn), (h1, oX0 bc c_lines c_span c_rule c_odds c_wide c_high c_creeks c_houses c_widows c_acts), (bc 13, .inl (cI, 7, .inl c_f13))] H := hP
  have hD : va_D A [(h0, oX6 b o_field o_houses), (b 0, .inl (cI, 287, .inl f13)), (b 1, .inl (cI, 7, .inl o_f1)), (b 2, .inl (cI, 7, .inl o_f2)), (b 3, .inl (cJ, 7, .inr (.inl f11))), (b 7, .inl (cJ, 13, .inr (.inl o_f7))), (b 8, .inl (cJ, 13, .inr (.inl o_f8))), (b 9, .inl (cJ, 13, .inr (.inl o_f9))), (bc 12, .inl (cI, 7, .inl c_f12)), (bc 14, .inl (cI, 7, .inl c_f14)), (bc 16, .inl (cI, 7, .inl c_f16)), (bc 17, .inl (cI, 56, .inl c_f17)), (h2, oX7 z0 u_rule u_walkers u_creeks u_widow u_faces u_turn), (h1, oX0 bc c_lines c_span c_rule c_odds c_wide c_high c_creeks c_houses c_widows c_acts), (bc 13, .inl (cI, 7, .inl c_f13))] := hD
  refine lv_aload_n hx hb dX6_walk_65 rfl (lv_at hl 5 rfl) ?_
  refine va_get (D := G) (ci := 6) (v := .ref (b 1)) (C := RX6) (T := TX6) (N := 12) hx hb hts iG_X6 hown hK hP 0 rfl rfl 1 (by decide) (hts _ w_234) (fun _ h9 => h9) rfl dX6_walk_66 ?_
  refine lv_iload_n hx hb dX6_walk_69 rfl (lv_at hl 8 rfl) ?_
  refine lv_iconst (v := 0) hx hb dX6_walk_70 (by decide) ?_
  refine va_iast hx hb hK hP hD hS 2 0 rfl rfl (ix_in rfl (by omega) (by omega)) dX6_walk_71 (fun H locs hP hD hS => ?_)
  obtain ⟨f14, qf14⟩ : ∃ g, g = upd o_f1 p0.toNatClampNeg (0 : Int32) := ⟨_, rfl⟩
  rw [← qf14] at hP hD
  have hi15 : ai f14 7 (-1) 40 := by rw [qf14]; exact ai_put ha_o_f1 ki_0 (by decide) (by decide)
  have hP : va_P G vwCl [(h0, oX6 b o_field o_houses), (b 0, .inl (cI, 287, .inl f13)), (b 1, .inl (cI, 7, .inl f14)), (b 2, .inl (cI, 7, .inl o_f2)), (b 3, .inl (cJ, 7, .inr (.inl f11))), (b 7, .inl (cJ, 13, .inr (.inl o_f7))), (b 8, .inl (cJ, 13, .inr (.inl o_f8))), (b 9, .inl (cJ, 13, .inr (.inl o_f9))), (bc 12, .inl (cI, 7, .inl c_f12)), (bc 14, .inl (cI, 7, .inl c_f14)), (bc 16, .inl (cI, 7, .inl c_f16)), (bc 17, .inl (cI, 56, .inl c_f17)), (h2, oX7 z0 u_rule u_walkers u_creeks u_widow u_faces u_turn), (h1, oX0 bc c_lines c_span c_rule c_odds c_wide c_high c_creeks c_houses c_widows c_acts), (bc 13, .inl (cI, 7, .inl c_f13))] H := hP
  have hD : va_D A [(h0, oX6 b o_field o_houses), (b 0, .inl (cI, 287, .inl f13)), (b 1, .inl (cI, 7, .inl f14)), (b 2, .inl (cI, 7, .inl o_f2)), (b 3, .inl (cJ, 7, .inr (.inl f11))), (b 7, .inl (cJ, 13, .inr (.inl o_f7))), (b 8, .inl (cJ, 13, .inr (.inl o_f8))), (b 9, .inl (cJ, 13, .inr (.inl o_f9))), (bc 12, .inl (cI, 7, .inl c_f12)), (bc 14, .inl (cI, 7, .inl c_f14)), (bc 16, .inl (cI, 7, .inl c_f16)), (bc 17, .inl (cI, 56, .inl c_f17)), (h2, oX7 z0 u_rule u_walkers u_creeks u_widow u_faces u_turn), (h1, oX0 bc c_lines c_span c_rule c_odds c_wide c_high c_creeks c_houses c_widows c_acts), (bc 13, .inl (cI, 7, .inl c_f13))] := hD
  refine lv_iconst (v := 1) hx hb dX6_walk_72 (by decide) ?_
  refine lv_istore (lv' := [(12, .int 1), (11, .int 0), (10, .int r5), (9, .int v4), (7, .long v3), (5, .long v1), (0, .ref h0), (1, .ref h1), (2, .ref h2), (3, .int p0), (4, .int p1)]) hx hb dX6_walk_73 hl (by decide) rfl (fun ls hl => ?_)
  have lp16 : ∀ (n17 : Nat) (x18 : Int32) (x19 : Int32) (x20 : Int32) (x21 : Int32) (g22 : Nat → Int32) (g23 : Nat → Int32) (g24 : Nat → Int32) (g25 : Nat → Int64) (g26 : Nat → Int64) (g27 : Nat → Int64), 0 ≤ x19.toInt → x19.toInt ≤ 1 → 1 ≤ x20.toInt → x20.toInt ≤ 41 → ai g23 7 (-1) 40 → 41 - x20.toInt < (n17 : Int) → ∀ (H : Heap) (locs : List Loc), va_P G vwCl [(h0, oX6 b o_field o_houses), (b 0, .inl (cI, 287, .inl g22)), (b 1, .inl (cI, 7, .inl g23)), (b 2, .inl (cI, 7, .inl g24)), (b 3, .inl (cJ, 7, .inr (.inl g25))), (b 7, .inl (cJ, 13, .inr (.inl o_f7))), (b 8, .inl (cJ, 13, .inr (.inl g26))), (b 9, .inl (cJ, 13, .inr (.inl g27))), (bc 12, .inl (cI, 7, .inl c_f12)), (bc 14, .inl (cI, 7, .inl c_f14)), (bc 16, .inl (cI, 7, .inl c_f16)), (bc 17, .inl (cI, 56, .inl c_f17)), (h2, oX7 z0 u_rule u_walkers u_creeks u_widow u_faces u_turn), (h1, oX0 bc c_lines c_span c_rule c_odds c_wide c_high c_creeks c_houses c_widows c_acts), (bc 13, .inl (cI, 7, .inl c_f13))] H → va_D A [(h0, oX6 b o_field o_houses), (b 0, .inl (cI, 287, .inl g22)), (b 1, .inl (cI, 7, .inl g23)), (b 2, .inl (cI, 7, .inl g24)), (b 3, .inl (cJ, 7, .inr (.inl g25))), (b 7, .inl (cJ, 13, .inr (.inl o_f7))), (b 8, .inl (cJ, 13, .inr (.inl g26))), (b 9, .inl (cJ, 13, .inr (.inl g27))), (bc 12, .inl (cI, 7, .inl c_f12)), (bc 14, .inl (cI, 7, .inl c_f14)), (bc 16, .inl (cI, 7, .inl c_f16)), (bc 17, .inl (cI, 56, .inl c_f17)), (h2, oX7 z0 u_rule u_walkers u_creeks u_widow u_faces u_turn), (h1, oX0 bc c_lines c_span c_rule c_odds c_wide c_high c_creeks c_houses c_widows c_acts), (bc 13, .inl (cI, 7, .inl c_f13))] → va_S A s.heap H locs → ∀ (ls : Array Slot), lv_has ls 14 [(12, .int x20), (11, .int x19), (10, .int x18), (9, .int x21), (7, .long v3), (5, .long v1), (0, .ref h0), (1, .ref h1), (2, .ref h2), (3, .int p0), (4, .int p1)] → W p l e ({ frames := 2, cells := 0, slots := 0, locals := 48 } : Room) s m ([.ref h0, .ref h1, .ref h2, .int p0, .int p1] : List Value).toArray below meth c H locs 0 0 Q (F0 m 75 ls []) := by
    intro n17
    induction n17 with
    | zero =>
      intro x18 x19 x20 x21 g22 g23 g24 g25 g26 g27 k28 k29 k30 k31 k32 mm34
      exact absurd mm34 (by have q9 := fb_rng x20; omega)
    | succ n17 ih33 =>
      intro x18 x19 x20 x21 g22 g23 g24 g25 g26 g27 k28 k29 k30 k31 k32 mm34 H locs hP hD hS ls hl
      refine lv_iload hx hb dX6_walk_75 (lv_at hl 0 rfl) ?_
      refine lv_aload_n hx hb dX6_walk_77 rfl (lv_at hl 7 rfl) ?_
      refine va_getN (D := G) (ci := 0) (v := .ref (bc 14)) (C := RX0) (T := TX0) (N := 19) hx hb hts iG_X0 hown hK hP 13 rfl rfl 14 (by decide) (nz_use hZ nw_106 rfl) (fun _ h9 => h9) rfl dX6_walk_78 ?_
      refine lv_iload_n hx hb dX6_walk_81 rfl (lv_at hl 9 rfl) ?_
      refine va_iald hx hb hK hP 9 0 rfl rfl (ix_in rfl (by omega) (by omega)) dX6_walk_82 ?_
      refine lv_topi (fun v35 ev35 => ?_)
      obtain ⟨ia36, ib37⟩ := ai_get ha_c_f14 rfl (by omega) (by omega) ev35
      refine lv_icmp_gt (tgt := 260) hx hb dX6_walk_83 (by decide) (fun c38 => ?_) (fun c38 => ?_)
      · have c38 := i_lt rfl rfl c38
        refine lv_aload_n hx hb dX6_walk_260 rfl (lv_at hl 6 rfl) ?_
        refine va_get (D := G) (ci := 6) (v := .ref (b 7)) (C := RX6) (T := TX6) (N := 12) hx hb hts iG_X6 hown hK hP 0 rfl rfl 7 (by decide) (hts _ w_246) (fun _ h9 => h9) rfl dX6_walk_261 ?_
        refine lv_iload hx hb dX6_walk_264 (lv_at hl 10 rfl) ?_
        refine lv_dup2_11 hx hb dX6_walk_266 rfl rfl ?_
        refine va_lald hx hb hK hP 5 1 rfl rfl (ix_in rfl (by omega) (by omega)) dX6_walk_267 ?_
        refine lv_topl (fun v39 ev39 => ?_)
        refine lv_aload_n hx hb dX6_walk_268 rfl (lv_at hl 6 rfl) ?_
        refine va_get (D := G) (ci := 6) (v := .ref (b 3)) (C := RX6) (T := TX6) (N := 12) hx hb hts iG_X6 hown hK hP 0 rfl rfl 3 (by decide) (hts _ w_238) (fun _ h9 => h9) rfl dX6_walk_269 ?_
        refine lv_iload_n hx hb dX6_walk_272 rfl (lv_at hl 9 rfl) ?_
        refine va_lald hx hb hK hP 4 1 rfl rfl (ix_in rfl (by omega) (by omega)) dX6_walk_273 ?_
        refine lv_topl (fun v40 ev40 => ?_)
        refine lv_lor hx hb dX6_walk_274 ?_
        refine lv_topl (fun v41 ev41 => ?_)
        refine va_last hx hb hK hP hD hS 5 1 rfl rfl (ix_in rfl (by omega) (by omega)) dX6_walk_275 (fun H locs hP hD hS => ?_)
        obtain ⟨f42, qf42⟩ : ∃ g, g = vp_updL o_f7 p1.toNatClampNeg v41 := ⟨_, rfl⟩
        rw [← qf42] at hP hD
        have hP : va_P G vwCl [(h0, oX6 b o_field o_houses), (b 0, .inl (cI, 287, .inl g22)), (b 1, .inl (cI, 7, .inl g23)), (b 2, .inl (cI, 7, .inl g24)), (b 3, .inl (cJ, 7, .inr (.inl g25))), (b 7, .inl (cJ, 13, .inr (.inl f42))), (b 8, .inl (cJ, 13, .inr (.inl g26))), (b 9, .inl (cJ, 13, .inr (.inl g27))), (bc 12, .inl (cI, 7, .inl c_f12)), (bc 14, .inl (cI, 7, .inl c_f14)), (bc 16, .inl (cI, 7, .inl c_f16)), (bc 17, .inl (cI, 56, .inl c_f17)), (h2, oX7 z0 u_rule u_walkers u_creeks u_widow u_faces u_turn), (h1, oX0 bc c_lines c_span c_rule c_odds c_wide c_high c_creeks c_houses c_widows c_acts), (bc 13, .inl (cI, 7, .inl c_f13))] H := hP
        have hD : va_D A [(h0, oX6 b o_field o_houses), (b 0, .inl (cI, 287, .inl g22)), (b 1, .inl (cI, 7, .inl g23)), (b 2, .inl (cI, 7, .inl g24)), (b 3, .inl (cJ, 7, .inr (.inl g25))), (b 7, .inl (cJ, 13, .inr (.inl f42))), (b 8, .inl (cJ, 13, .inr (.inl g26))), (b 9, .inl (cJ, 13, .inr (.inl g27))), (bc 12, .inl (cI, 7, .inl c_f12)), (bc 14, .inl (cI, 7, .inl c_f14)), (bc 16, .inl (cI, 7, .inl c_f16)), (bc 17, .inl (cI, 56, .inl c_f17)), (h2, oX7 z0 u_rule u_walkers u_creeks u_widow u_faces u_turn), (h1, oX0 bc c_lines c_span c_rule c_odds c_wide c_high c_creeks c_houses c_widows c_acts), (bc 13, .inl (cI, 7, .inl c_f13))] := hD
        exact hret _ _ _ _ (g22, g23, g24, g25, f42, g26, g27) (hP.sub (ws' := [(h0, oX6 b o_field o_houses), (b 0, .inl (cI, 287, .inl g22)), (b 1, .inl (cI, 7, .inl g23)), (b 2, .inl (cI, 7, .inl g24)), (b 3, .inl (cJ, 7, .inr (.inl g25))), (b 7, .inl (cJ, 13, .inr (.inl f42))), (b 8, .inl (cJ, 13, .inr (.inl g26))), (b 9, .inl (cJ, 13, .inr (.inl g27))), (h1, oX0 bc c_lines c_span c_rule c_odds c_wide c_high c_creeks c_houses c_widows c_acts), (bc 12, .inl (cI, 7, .inl c_f12)), (bc 13, .inl (cI, 7, .inl c_f13)), (bc 14, .inl (cI, 7, .inl c_f14)), (bc 16, .inl (cI, 7, .inl c_f16)), (bc 17, .inl (cI, 56, .inl c_f17)), (h2, oX7 z0 u_rule u_walkers u_creeks u_widow u_faces u_turn)]) [0, 1, 2, 3, 4, 5, 6, 7, 13, 8, 14, 9, 10, 11, 12] rfl) (hD.sub (ws' := [(h0, oX6 b o_field o_houses), (b 0, .inl (cI, 287, .inl g22)), (b 1, .inl (cI, 7, .inl g23)), (b 2, .inl (cI, 7, .inl g24)), (b 3, .inl (cJ, 7, .inr (.inl g25))), (b 7, .inl (cJ, 13, .inr (.inl f42))), (b 8, .inl (cJ, 13, .inr (.inl g26))), (b 9, .inl (cJ, 13, .inr (.inl g27))), (h1, oX0 bc c_lines c_span c_rule c_odds c_wide c_high c_creeks c_houses c_widows c_acts), (bc 12, .inl (cI, 7, .inl c_f12)), (bc 13, .inl (cI, 7, .inl c_f13)), (bc 14, .inl (cI, 7, .inl c_f14)), (bc 16, .inl (cI, 7, .inl c_f16)), (bc 17, .inl (cI, 56, .inl c_f17)), (h2, oX7 z0 u_rule u_walkers u_creeks u_widow u_faces u_turn)]) [0, 1, 2, 3, 4, 5, 6, 7, 13, 8, 14, 9, 10, 11, 12] rfl rfl) hS dX6_walk_276 (show ai g23 7 (-1) 40 from k32)
      · have c38 := i_nlt rfl rfl c38
        refine lv_iload hx hb dX6_walk_86 (lv_at hl 1 rfl) ?_
        refine lv_if_ne (tgt := 260) hx hb dX6_walk_88 (by decide) (fun c43 => ?_) (fun c43 => ?_)
        · have c43 := i_ne rfl ki_0 c43
          refine lv_aload_n hx hb dX6_walk_260 rfl (lv_at hl 6 rfl) ?_
          refine va_get (D := G) (ci := 6) (v := .ref (b 7)) (C := RX6) (T := TX6) (N := 12) hx hb hts iG_X6 hown hK hP 0 rfl rfl 7 (by decide) (hts _ w_246) (fun _ h9 => h9) rfl dX6_walk_261 ?_
          refine lv_iload hx hb dX6_walk_264 (lv_at hl 10 rfl) ?_
          refine lv_dup2_11 hx hb dX6_walk_266 rfl rfl ?_
          refine va_lald hx hb hK hP 5 1 rfl rfl (ix_in rfl (by omega) (by omega)) dX6_walk_267 ?_
          refine lv_topl (fun v44 ev44 => ?_)
          refine lv_aload_n hx hb dX6_walk_268 rfl (lv_at hl 6 rfl) ?_
          refine va_get (D := G) (ci := 6) (v := .ref (b 3)) (C := RX6) (T := TX6) (N := 12) hx hb hts iG_X6 hown hK hP 0 rfl rfl 3 (by decide) (hts _ w_238) (fun _ h9 => h9) rfl dX6_walk_269 ?_
          refine lv_iload_n hx hb dX6_walk_272 rfl (lv_at hl 9 rfl) ?_
          refine va_lald hx hb hK hP 4 1 rfl rfl (ix_in rfl (by omega) (by omega)) dX6_walk_273 ?_
          refine lv_topl (fun v45 ev45 => ?_)
          refine lv_lor hx hb dX6_walk_274 ?_
          refine lv_topl (fun v46 ev46 => ?_)
          refine va_last hx hb hK hP hD hS 5 1 rfl rfl (ix_in rfl (by omega) (by omega)) dX6_walk_275 (fun H locs hP hD hS => ?_)
          obtain ⟨f47, qf47⟩ : ∃ g, g = vp_updL o_f7 p1.toNatClampNeg v46 := ⟨_, rfl⟩
          rw [← qf47] at hP hD
          have hP : va_P G vwCl [(h0, oX6 b o_field o_houses), (b 0, .inl (cI, 287, .inl g22)), (b 1, .inl (cI, 7, .inl g23)), (b 2, .inl (cI, 7, .inl g24)), (b 3, .inl (cJ, 7, .inr (.inl g25))), (b 7, .inl (cJ, 13, .inr (.inl f47))), (b 8, .inl (cJ, 13, .inr (.inl g26))), (b 9, .inl (cJ, 13, .inr (.inl g27))), (bc 12, .inl (cI, 7, .inl c_f12)), (bc 14, .inl (cI, 7, .inl c_f14)), (bc 16, .inl (cI, 7, .inl c_f16)), (bc 17, .inl (cI, 56, .inl c_f17)), (h2, oX7 z0 u_rule u_walkers u_creeks u_widow u_faces u_turn), (h1, oX0 bc c_lines c_span c_rule c_odds c_wide c_high c_creeks c_houses c_widows c_acts), (bc 13, .inl (cI, 7, .inl c_f13))] H := hP
          have hD : va_D A [(h0, oX6 b o_field o_houses), (b 0, .inl (cI, 287, .inl g22)), (b 1, .inl (cI, 7, .inl g23)), (b 2, .inl (cI, 7, .inl g24)), (b 3, .inl (cJ, 7, .inr (.inl g25))), (b 7, .inl (cJ, 13, .inr (.inl f47))), (b 8, .inl (cJ, 13, .inr (.inl g26))), (b 9, .inl (cJ, 13, .inr (.inl g27))), (bc 12, .inl (cI, 7, .inl c_f12)), (bc 14, .inl (cI, 7, .inl c_f14)), (bc 16, .inl (cI, 7, .inl c_f16)), (bc 17, .inl (cI, 56, .inl c_f17)), (h2, oX7 z0 u_rule u_walkers u_creeks u_widow u_faces u_turn), (h1, oX0 bc c_lines c_span c_rule c_odds c_wide c_high c_creeks c_houses c_widows c_acts), (bc 13, .inl (cI, 7, .inl c_f13))] := hD
          exact hret _ _ _ _ (g22, g23, g24, g25, f47, g26, g27) (hP.sub (ws' := [(h0, oX6 b o_field o_houses), (b 0, .inl (cI, 287, .inl g22)), (b 1, .inl (cI, 7, .inl g23)), (b 2, .inl (cI, 7, .inl g24)), (b 3, .inl (cJ, 7, .inr (.inl g25))), (b 7, .inl (cJ, 13, .inr (.inl f47))), (b 8, .inl (cJ, 13, .inr (.inl g26))), (b 9, .inl (cJ, 13, .inr (.inl g27))), (h1, oX0 bc c_lines c_span c_rule c_odds c_wide c_high c_creeks c_houses c_widows c_acts), (bc 12, .inl (cI, 7, .inl c_f12)), (bc 13, .inl (cI, 7, .inl c_f13)), (bc 14, .inl (cI, 7, .inl c_f14)), (bc 16, .inl (cI, 7, .inl c_f16)), (bc 17, .inl (cI, 56, .inl c_f17)), (h2, oX7 z0 u_rule u_walkers u_creeks u_widow u_faces u_turn)]) [0, 1, 2, 3, 4, 5, 6, 7, 13, 8, 14, 9, 10, 11, 12] rfl) (hD.sub (ws' := [(h0, oX6 b o_field o_houses), (b 0, .inl (cI, 287, .inl g22)), (b 1, .inl (cI, 7, .inl g23)), (b 2, .inl (cI, 7, .inl g24)), (b 3, .inl (cJ, 7, .inr (.inl g25))), (b 7, .inl (cJ, 13, .inr (.inl f47))), (b 8, .inl (cJ, 13, .inr (.inl g26))), (b 9, .inl (cJ, 13, .inr (.inl g27))), (h1, oX0 bc c_lines c_span c_rule c_odds c_wide c_high c_creeks c_houses c_widows c_acts), (bc 12, .inl (cI, 7, .inl c_f12)), (bc 13, .inl (cI, 7, .inl c_f13)), (bc 14, .inl (cI, 7, .inl c_f14)), (bc 16, .inl (cI, 7, .inl c_f16)), (bc 17, .inl (cI, 56, .inl c_f17)), (h2, oX7 z0 u_rule u_walkers u_creeks u_widow u_faces u_turn)]) [0, 1, 2, 3, 4, 5, 6, 7, 13, 8, 14, 9, 10, 11, 12] rfl rfl) hS dX6_walk_276 (show ai g23 7 (-1) 40 from k32)
        · have c43 := i_eq rfl ki_0 c43
          refine lv_iload hx hb dX6_walk_91 (lv_at hl 2 rfl) ?_
          refine lv_aload_n hx hb dX6_walk_93 rfl (lv_at hl 8 rfl) ?_
          refine lv_aload_n hx hb dX6_walk_94 rfl (lv_at hl 7 rfl) ?_
          refine lv_iload_n hx hb dX6_walk_95 rfl (lv_at hl 9 rfl) ?_
          refine lv_iload hx hb dX6_walk_96 (lv_at hl 0 rfl) ?_
          refine lv_iconst (v := 1) hx hb dX6_walk_98 (by decide) ?_
          refine lv_isub hx hb dX6_walk_99 ?_
          refine lv_topi (fun v48 ev48 => ?_)
          have tv48 : v48.toInt = x20.toInt - 1 := ti_sub rfl ki_1 ev48 (by omega) (by omega)
          refine k_i (wc := [(h2, oX7 z0 u_rule u_walkers u_creeks u_widow u_faces u_turn), (h1, oX0 bc c_lines c_span c_rule c_odds c_wide c_high c_creeks c_houses c_widows c_acts), (bc 16, .inl (cI, 7, .inl c_f16)), (bc 17, .inl (cI, 56, .inl c_f17))]) (wr := [(h0, oX6 b o_field o_houses), (b 0, .inl (cI, 287, .inl g22)), (b 1, .inl (cI, 7, .inl g23)), (b 2, .inl (cI, 7, .inl g24)), (b 3, .inl (cJ, 7, .inr (.inl g25))), (b 7, .inl (cJ, 13, .inr (.inl o_f7))), (b 8, .inl (cJ, 13, .inr (.inl g26))), (b 9, .inl (cJ, 13, .inr (.inl g27))), (bc 12, .inl (cI, 7, .inl c_f12)), (bc 14, .inl (cI, 7, .inl c_f14)), (bc 13, .inl (cI, 7, .inl c_f13))]) hP hD hS hA [12, 13, 10, 11] [0, 1, 2, 3, 4, 5, 6, 7, 8, 9, 14] rfl rfl rfl (by decide) (va_runVN (As := [.ref h1, .int p0, .int v48]) (rest := [.int x18]) ⟨hx, hb, hml, hown, hts⟩ (f_X7_turnOf l G cI cJ cZ cB cQ _ h2 h1 p0 v48 u_rule u_walkers u_creeks u_widow u_faces u_turn bc c_lines c_span c_rule c_odds c_wide c_high c_creeks c_houses c_widows c_acts c_f16 c_f17 qp0_l qp0_h (by omega) hl_c_span hh_c_span hl_c_rule hh_c_rule hl_c_odds hh_c_odds hl_c_wide hh_c_wide hl_c_high hh_c_high hl_c_creeks hh_c_creeks hl_c_houses hh_c_houses hl_c_widows hh_c_widows hl_c_acts hh_c_acts ha_c_f16) ⟨va_cnB (host := "WidowRoads") 3 hts (gW w_612) rfl rfl rfl (nz_nw hZ nw_609 rfl) (hts _ w_5) hd_X7_turnOf ⟨Nat.le_of_ble_eq_true rfl, Nat.le_of_ble_eq_true rfl⟩, (hts _ w_611), (hts _ wp_30)⟩ (mV hK hZ hP hD [12, 13, 10, 11] rfl rfl [.ref h1, .int p0, .int v48] 12 7 rfl rfl) rfl rfl hl.1 rfl (lv_room (Nat.le_of_ble_eq_true rfl)) dX6_walk_100 ⟨Nat.le_of_ble_eq_true rfl, Nat.le_of_ble_eq_true rfl⟩) (fun r49 u50 H locs hw51 hP hD hS => ?_)
          try dsimp only at hw51
          have hP : va_P G vwCl [(h0, oX6 b o_field o_houses), (b 0, .inl (cI, 287, .inl g22)), (b 1, .inl (cI, 7, .inl g23)), (b 2, .inl (cI, 7, .inl g24)), (b 3, .inl (cJ, 7, .inr (.inl g25))), (b 7, .inl (cJ, 13, .inr (.inl o_f7))), (b 8, .inl (cJ, 13, .inr (.inl g26))), (b 9, .inl (cJ, 13, .inr (.inl g27))), (bc 12, .inl (cI, 7, .inl c_f12)), (bc 14, .inl (cI, 7, .inl c_f14)), (bc 13, .inl (cI, 7, .inl c_f13)), (h2, oX7 z0 u_rule u_walkers u_creeks u_widow u_faces u_turn), (h1, oX0 bc c_lines c_span c_rule c_odds c_wide c_high c_creeks c_houses c_widows c_acts), (bc 16, .inl (cI, 7, .inl c_f16)), (bc 17, .inl (cI, 56, .inl c_f17))] H := hP
          have hD : va_D A [(h0, oX6 b o_field o_houses), (b 0, .inl (cI, 287, .inl g22)), (b 1, .inl (cI, 7, .inl g23)), (b 2, .inl (cI, 7, .inl g24)), (b 3, .inl (cJ, 7, .inr (.inl g25))), (b 7, .inl (cJ, 13, .inr (.inl o_f7))), (b 8, .inl (cJ, 13, .inr (.inl g26))), (b 9, .inl (cJ, 13, .inr (.inl g27))), (bc 12, .inl (cI, 7, .inl c_f12)), (bc 14, .inl (cI, 7, .inl c_f14)), (bc 13, .inl (cI, 7, .inl c_f13)), (h2, oX7 z0 u_rule u_walkers u_creeks u_widow u_faces u_turn), (h1, oX0 bc c_lines c_span c_rule c_odds c_wide c_high c_creeks c_houses c_widows c_acts), (bc 16, .inl (cI, 7, .inl c_f16)), (bc 17, .inl (cI, 56, .inl c_f17))] := hD
          refine lv_iadd hx hb dX6_walk_103 ?_
          refine lv_topi (fun v52 ev52 => ?_)
          refine lv_iconst (v := 3) hx hb dX6_walk_104 (by decide) ?_
          refine lv_iand hx hb dX6_walk_105 ?_
          refine lv_topi (fun v53 ev53 => ?_)
          obtain ⟨sa54, sb55⟩ : 0 ≤ v53.toInt ∧ v53.toInt ≤ 3 := and_m 2 (by decide) (by decide) ev53
          refine lv_istore (lv' := [(10, .int v53), (12, .int x20), (11, .int x19), (9, .int x21), (7, .long v3), (5, .long v1), (0, .ref h0), (1, .ref h1), (2, .ref h2), (3, .int p0), (4, .int p1)]) hx hb dX6_walk_106 hl (by decide) rfl (fun ls hl => ?_)
          refine lv_iload hx hb dX6_walk_108 (lv_at hl 3 rfl) ?_
          refine lv_iload hx hb dX6_walk_110 (lv_at hl 0 rfl) ?_
          refine lv_aload_n hx hb dX6_walk_112 rfl (lv_at hl 8 rfl) ?_
          refine va_getN (D := G) (ci := 7) (v := .int u_rule) (C := RX7) (T := TX7) (N := 6) hx hb hts iG_X7 hown hK hP 11 rfl rfl 0 (by decide) (nz_use hZ nw_199 rfl) (fun _ h9 => h9) rfl dX6_walk_113 ?_
          refine lv_lload hx hb dX6_walk_116 (lv_at hl 4 rfl) ?_
          refine lv_lload hx hb dX6_walk_118 (lv_at hl 5 rfl) ?_
          refine lv_aload_n hx hb dX6_walk_120 rfl (lv_at hl 6 rfl) ?_
          refine va_get (D := G) (ci := 6) (v := .ref (b 3)) (C := RX6) (T := TX6) (N := 12) hx hb hts iG_X6 hown hK hP 0 rfl rfl 3 (by decide) (hts _ w_238) (fun _ h9 => h9) rfl dX6_walk_121 ?_
          refine lv_iload_n hx hb dX6_walk_124 rfl (lv_at hl 9 rfl) ?_
          refine va_lald hx hb hK hP 4 1 rfl rfl (ix_in rfl (by omega) (by omega)) dX6_walk_125 ?_
          refine lv_topl (fun v56 ev56 => ?_)
          refine k_l (wc := []) (wr := [(h0, oX6 b o_field o_houses), (b 0, .inl (cI, 287, .inl g22)), (b 1, .inl (cI, 7, .inl g23)), (b 2, .inl (cI, 7, .inl g24)), (b 3, .inl (cJ, 7, .inr (.inl g25))), (b 7, .inl (cJ, 13, .inr (.inl o_f7))), (b 8, .inl (cJ, 13, .inr (.inl g26))), (b 9, .inl (cJ, 13, .inr (.inl g27))), (bc 12, .inl (cI, 7, .inl c_f12)), (bc 14, .inl (cI, 7, .inl c_f14)), (bc 13, .inl (cI, 7, .inl c_f13)), (h2, oX7 z0 u_rule u_walkers u_creeks u_widow u_faces u_turn), (h1, oX0 bc c_lines c_span c_rule c_odds c_wide c_high c_creeks c_houses c_widows c_acts), (bc 16, .inl (cI, 7, .inl c_f16)), (bc 17, .inl (cI, 56, .inl c_f17))]) hP hD hS hA [] [0, 1, 2, 3, 4, 5, 6, 7, 8, 9, 10, 11, 12, 13, 14] rfl rfl rfl (by decide) (va_runS (As := [.int u_rule, .long v3, .long v1, .long v56]) (rest := [.int v53, .int x21]) ⟨hx, hb, hml, hown, hts⟩ (f_X6_wished l G cI cJ cZ cB cQ _ u_rule v3 v1 v56) (va_cwS 4 hts (gS w_613 w_614 w_6 w_615) rfl rfl rfl hd_X6_wished ⟨Nat.le_of_ble_eq_true rfl, Nat.le_of_ble_eq_true rfl⟩) (mS hK hZ hP hD [] rfl rfl [.int u_rule, .long v3, .long v1, .long v56]) rfl rfl hl.1 rfl (lv_room (Nat.le_of_ble_eq_true rfl)) dX6_walk_126 ⟨Nat.le_of_ble_eq_true rfl, Nat.le_of_ble_eq_true rfl⟩) (fun r57 u58 H locs hw59 hP hD hS => ?_)
          try dsimp only at hw59
          have hP : va_P G vwCl [(h0, oX6 b o_field o_houses), (b 0, .inl (cI, 287, .inl g22)), (b 1, .inl (cI, 7, .inl g23)), (b 2, .inl (cI, 7, .inl g24)), (b 3, .inl (cJ, 7, .inr (.inl g25))), (b 7, .inl (cJ, 13, .inr (.inl o_f7))), (b 8, .inl (cJ, 13, .inr (.inl g26))), (b 9, .inl (cJ, 13, .inr (.inl g27))), (bc 12, .inl (cI, 7, .inl c_f12)), (bc 14, .inl (cI, 7, .inl c_f14)), (bc 13, .inl (cI, 7, .inl c_f13)), (h2, oX7 z0 u_rule u_walkers u_creeks u_widow u_faces u_turn), (h1, oX0 bc c_lines c_span c_rule c_odds c_wide c_high c_creeks c_houses c_widows c_acts), (bc 16, .inl (cI, 7, .inl c_f16)), (bc 17, .inl (cI, 56, .inl c_f17))] H := hP
          have hD : va_D A [(h0, oX6 b o_field o_houses), (b 0, .inl (cI, 287, .inl g22)), (b 1, .inl (cI, 7, .inl g23)), (b 2, .inl (cI, 7, .inl g24)), (b 3, .inl (cJ, 7, .inr (.inl g25))), (b 7, .inl (cJ, 13, .inr (.inl o_f7))), (b 8, .inl (cJ, 13, .inr (.inl g26))), (b 9, .inl (cJ, 13, .inr (.inl g27))), (bc 12, .inl (cI, 7, .inl c_f12)), (bc 14, .inl (cI, 7, .inl c_f14)), (bc 13, .inl (cI, 7, .inl c_f13)), (h2, oX7 z0 u_rule u_walkers u_creeks u_widow u_faces u_turn), (h1, oX0 bc c_lines c_span c_rule c_odds c_wide c_high c_creeks c_houses c_widows c_acts), (bc 16, .inl (cI, 7, .inl c_f16)), (bc 17, .inl (cI, 56, .inl c_f17))] := hD
          refine k_i (wc := []) (wr := [(h0, oX6 b o_field o_houses), (b 0, .inl (cI, 287, .inl g22)), (b 1, .inl (cI, 7, .inl g23)), (b 2, .inl (cI, 7, .inl g24)), (b 3, .inl (cJ, 7, .inr (.inl g25))), (b 7, .inl (cJ, 13, .inr (.inl o_f7))), (b 8, .inl (cJ, 13, .inr (.inl g26))), (b 9, .inl (cJ, 13, .inr (.inl g27))), (bc 12, .inl (cI, 7, .inl c_f12)), (bc 14, .inl (cI, 7, .inl c_f14)), (bc 13, .inl (cI, 7, .inl c_f13)), (h2, oX7 z0 u_rule u_walkers u_creeks u_widow u_faces u_turn), (h1, oX0 bc c_lines c_span c_rule c_odds c_wide c_high c_creeks c_houses c_widows c_acts), (bc 16, .inl (cI, 7, .inl c_f16)), (bc 17, .inl (cI, 56, .inl c_f17))]) hP hD hS hA [] [0, 1, 2, 3, 4, 5, 6, 7, 8, 9, 10, 11, 12, 13, 14] rfl rfl rfl (by decide) (va_runS (As := [.int x21, .int v53, .long r57]) (rest := []) ⟨hx, hb, hml, hown, hts⟩ (f_X6_firstWay l G cI cJ cZ cB cQ _ x21 v53 r57) (va_cwS 3 hts (gS w_616 w_617 w_6 w_618) rfl rfl rfl hd_X6_firstWay ⟨Nat.le_of_ble_eq_true rfl, Nat.le_of_ble_eq_true rfl⟩) (mS hK hZ hP hD [] rfl rfl [.int x21, .int v53, .long r57]) rfl rfl hl.1 rfl (lv_room (Nat.le_of_ble_eq_true rfl)) dX6_walk_129 ⟨Nat.le_of_ble_eq_true rfl, Nat.le_of_ble_eq_true rfl⟩) (fun r60 u61 H locs hw62 hP hD hS => ?_)
          try dsimp only at hw62
          have hP : va_P G vwCl [(h0, oX6 b o_field o_houses), (b 0, .inl (cI, 287, .inl g22)), (b 1, .inl (cI, 7, .inl g23)), (b 2, .inl (cI, 7, .inl g24)), (b 3, .inl (cJ, 7, .inr (.inl g25))), (b 7, .inl (cJ, 13, .inr (.inl o_f7))), (b 8, .inl (cJ, 13, .inr (.inl g26))), (b 9, .inl (cJ, 13, .inr (.inl g27))), (bc 12, .inl (cI, 7, .inl c_f12)), (bc 14, .inl (cI, 7, .inl c_f14)), (bc 13, .inl (cI, 7, .inl c_f13)), (h2, oX7 z0 u_rule u_walkers u_creeks u_widow u_faces u_turn), (h1, oX0 bc c_lines c_span c_rule c_odds c_wide c_high c_creeks c_houses c_widows c_acts), (bc 16, .inl (cI, 7, .inl c_f16)), (bc 17, .inl (cI, 56, .inl c_f17))] H := hP
          have hD : va_D A [(h0, oX6 b o_field o_houses), (b 0, .inl (cI, 287, .inl g22)), (b 1, .inl (cI, 7, .inl g23)), (b 2, .inl (cI, 7, .inl g24)), (b 3, .inl (cJ, 7, .inr (.inl g25))), (b 7, .inl (cJ, 13, .inr (.inl o_f7))), (b 8, .inl (cJ, 13, .inr (.inl g26))), (b 9, .inl (cJ, 13, .inr (.inl g27))), (bc 12, .inl (cI, 7, .inl c_f12)), (bc 14, .inl (cI, 7, .inl c_f14)), (bc 13, .inl (cI, 7, .inl c_f13)), (h2, oX7 z0 u_rule u_walkers u_creeks u_widow u_faces u_turn), (h1, oX0 bc c_lines c_span c_rule c_odds c_wide c_high c_creeks c_houses c_widows c_acts), (bc 16, .inl (cI, 7, .inl c_f16)), (bc 17, .inl (cI, 56, .inl c_f17))] := hD
          obtain ⟨w63, w64⟩ : (-1) ≤ r60.toInt ∧ r60.toInt ≤ 3 := hw62
          refine lv_istore (lv' := [(13, .int r60), (10, .int v53), (12, .int x20), (11, .int x19), (9, .int x21), (7, .long v3), (5, .long v1), (0, .ref h0), (1, .ref h1), (2, .ref h2), (3, .int p0), (4, .int p1)]) hx hb dX6_walk_132 hl (by decide) rfl (fun ls hl => ?_)
          refine lv_iload hx hb dX6_walk_134 (lv_at hl 0 rfl) ?_
          refine lv_iconst (v := (-1)) hx hb dX6_walk_136 (by decide) ?_
          refine lv_icmp_ne (tgt := 151) hx hb dX6_walk_137 (by decide) (fun c65 => ?_) (fun c65 => ?_)
          · have c65 := i_ne rfl ki_m1 c65
            refine lv_iload hx hb dX6_walk_151 (lv_at hl 0 rfl) ?_
            refine lv_iconst (v := (-1)) hx hb dX6_walk_153 (by decide) ?_
            refine lv_icmp_ne (tgt := 170) hx hb dX6_walk_154 (by decide) (fun c66 => ?_) (fun c66 => absurd (i_eq rfl ki_m1 c66) (by omega))
            have c66 := i_ne rfl ki_m1 c66
            refine lv_iload hx hb dX6_walk_170 (lv_at hl 0 rfl) ?_
            refine lv_istore (lv' := [(10, .int r60), (13, .int r60), (12, .int x20), (11, .int x19), (9, .int x21), (7, .long v3), (5, .long v1), (0, .ref h0), (1, .ref h1), (2, .ref h2), (3, .int p0), (4, .int p1)]) hx hb dX6_walk_172 hl (by decide) rfl (fun ls hl => ?_)
            refine lv_aload_n hx hb dX6_walk_174 rfl (lv_at hl 7 rfl) ?_
            refine lv_iload hx hb dX6_walk_175 (lv_at hl 4 rfl) ?_
            refine lv_iload hx hb dX6_walk_177 (lv_at hl 1 rfl) ?_
            refine lv_iload hx hb dX6_walk_179 (lv_at hl 11 rfl) ?_
            refine k_v (wc := [(h0, oX6 b o_field o_houses), (b 8, .inl (cJ, 13, .inr (.inl g26))), (b 9, .inl (cJ, 13, .inr (.inl g27)))]) (wr := [(b 0, .inl (cI, 287, .inl g22)), (b 1, .inl (cI, 7, .inl g23)), (b 2, .inl (cI, 7, .inl g24)), (b 3, .inl (cJ, 7, .inr (.inl g25))), (b 7, .inl (cJ, 13, .inr (.inl o_f7))), (bc 12, .inl (cI, 7, .inl c_f12)), (bc 14, .inl (cI, 7, .inl c_f14)), (bc 13, .inl (cI, 7, .inl c_f13)), (h2, oX7 z0 u_rule u_walkers u_creeks u_widow u_faces u_turn), (h1, oX0 bc c_lines c_span c_rule c_odds c_wide c_high c_creeks c_houses c_widows c_acts), (bc 16, .inl (cI, 7, .inl c_f16)), (bc 17, .inl (cI, 56, .inl c_f17))]) hP hD hS hA [0, 6, 7] [1, 2, 3, 4, 5, 8, 9, 10, 11, 12, 13, 14] rfl rfl rfl (by decide) (va_runV (As := [.int x21, .int r60, .int p1]) (rest := []) ⟨hx, hb, hml, hown, hts⟩ (f_X6_peg l G cI cJ cZ cB cQ _ h0 x21 r60 p1 b o_field o_houses g26 g27 qp1_l qp1_h hl_o_houses hh_o_houses) (cwV 3 hts (gV w_623 w_625 wp_31 w_6 w_626) rfl rfl rfl ⟨rfl, hd_X6_peg⟩ ⟨Nat.le_of_ble_eq_true rfl, Nat.le_of_ble_eq_true rfl⟩) (mV hK hZ hP hD [0, 6, 7] rfl rfl [.int x21, .int r60, .int p1] 0 6 rfl rfl) rfl rfl hl.1 rfl (lv_room (Nat.le_of_ble_eq_true rfl)) dX6_walk_181 ⟨Nat.le_of_ble_eq_true rfl, Nat.le_of_ble_eq_true rfl⟩) (fun u68 H locs hw69 hP hD hS => ?_)
            obtain ⟨o_f8o70, o_f9o71⟩ := u68
            try dsimp only at hw69
            have hP : va_P G vwCl [(b 0, .inl (cI, 287, .inl g22)), (b 1, .inl (cI, 7, .inl g23)), (b 2, .inl (cI, 7, .inl g24)), (b 3, .inl (cJ, 7, .inr (.inl g25))), (b 7, .inl (cJ, 13, .inr (.inl o_f7))), (bc 12, .inl (cI, 7, .inl c_f12)), (bc 14, .inl (cI, 7, .inl c_f14)), (bc 13, .inl (cI, 7, .inl c_f13)), (h2, oX7 z0 u_rule u_walkers u_creeks u_widow u_faces u_turn), (h1, oX0 bc c_lines c_span c_rule c_odds c_wide c_high c_creeks c_houses c_widows c_acts), (bc 16, .inl (cI, 7, .inl c_f16)), (bc 17, .inl (cI, 56, .inl c_f17)), (h0, oX6 b o_field o_houses), (b 8, .inl (cJ, 13, .inr (.inl o_f8o70))), (b 9, .inl (cJ, 13, .inr (.inl o_f9o71)))] H := hP
            have hD : va_D A [(b 0, .inl (cI, 287, .inl g22)), (b 1, .inl (cI, 7, .inl g23)), (b 2, .inl (cI, 7, .inl g24)), (b 3, .inl (cJ, 7, .inr (.inl g25))), (b 7, .inl (cJ, 13, .inr (.inl o_f7))), (bc 12, .inl (cI, 7, .inl c_f12)), (bc 14, .inl (cI, 7, .inl c_f14)), (bc 13, .inl (cI, 7, .inl c_f13)), (h2, oX7 z0 u_rule u_walkers u_creeks u_widow u_faces u_turn), (h1, oX0 bc c_lines c_span c_rule c_odds c_wide c_high c_creeks c_houses c_widows c_acts), (bc 16, .inl (cI, 7, .inl c_f16)), (bc 17, .inl (cI, 56, .inl c_f17)), (h0, oX6 b o_field o_houses), (b 8, .inl (cJ, 13, .inr (.inl o_f8o70))), (b 9, .inl (cJ, 13, .inr (.inl o_f9o71)))] := hD
            refine lv_iload hx hb dX6_walk_184 (lv_at hl 4 rfl) ?_
            refine lv_iload hx hb dX6_walk_186 (lv_at hl 1 rfl) ?_
            refine k_i (wc := []) (wr := [(b 0, .inl (cI, 287, .inl g22)), (b 1, .inl (cI, 7, .inl g23)), (b 2, .inl (cI, 7, .inl g24)), (b 3, .inl (cJ, 7, .inr (.inl g25))), (b 7, .inl (cJ, 13, .inr (.inl o_f7))), (bc 12, .inl (cI, 7, .inl c_f12)), (bc 14, .inl (cI, 7, .inl c_f14)), (bc 13, .inl (cI, 7, .inl c_f13)), (h2, oX7 z0 u_rule u_walkers u_creeks u_widow u_faces u_turn), (h1, oX0 bc c_lines c_span c_rule c_odds c_wide c_high c_creeks c_houses c_widows c_acts), (bc 16, .inl (cI, 7, .inl c_f16)), (bc 17, .inl (cI, 56, .inl c_f17)), (h0, oX6 b o_field o_houses), (b 8, .inl (cJ, 13, .inr (.inl o_f8o70))), (b 9, .inl (cJ, 13, .inr (.inl o_f9o71)))]) hP hD hS hA [] [0, 1, 2, 3, 4, 5, 6, 7, 8, 9, 10, 11, 12, 13, 14] rfl rfl rfl (by decide) (va_runSN (As := [.int x21, .int r60]) (rest := []) ⟨hx, hb, hml, hown, hts⟩ (f_X9_beside l G cI cJ cZ cB cQ _ x21 r60) ⟨va_cnB (host := "WidowRoads") 2 hts (gW w_621) rfl rfl rfl (nz_nw hZ nw_619 rfl) (hts _ w_1) hd_X9_beside ⟨Nat.le_of_ble_eq_true rfl, Nat.le_of_ble_eq_true rfl⟩, (hts _ w_620), trivial⟩ (mS hK hZ hP hD [] rfl rfl [.int x21, .int r60]) rfl rfl hl.1 rfl (lv_room (Nat.le_of_ble_eq_true rfl)) dX6_walk_188 ⟨Nat.le_of_ble_eq_true rfl, Nat.le_of_ble_eq_true rfl⟩) (fun r72 u73 H locs hw74 hP hD hS => ?_)
            try dsimp only at hw74
            have hP : va_P G vwCl [(b 0, .inl (cI, 287, .inl g22)), (b 1, .inl (cI, 7, .inl g23)), (b 2, .inl (cI, 7, .inl g24)), (b 3, .inl (cJ, 7, .inr (.inl g25))), (b 7, .inl (cJ, 13, .inr (.inl o_f7))), (bc 12, .inl (cI, 7, .inl c_f12)), (bc 14, .inl (cI, 7, .inl c_f14)), (bc 13, .inl (cI, 7, .inl c_f13)), (h2, oX7 z0 u_rule u_walkers u_creeks u_widow u_faces u_turn), (h1, oX0 bc c_lines c_span c_rule c_odds c_wide c_high c_creeks c_houses c_widows c_acts), (bc 16, .inl (cI, 7, .inl c_f16)), (bc 17, .inl (cI, 56, .inl c_f17)), (h0, oX6 b o_field o_houses), (b 8, .inl (cJ, 13, .inr (.inl o_f8o70))), (b 9, .inl (cJ, 13, .inr (.inl o_f9o71)))] H := hP
            have hD : va_D A [(b 0, .inl (cI, 287, .inl g22)), (b 1, .inl (cI, 7, .inl g23)), (b 2, .inl (cI, 7, .inl g24)), (b 3, .inl (cJ, 7, .inr (.inl g25))), (b 7, .inl (cJ, 13, .inr (.inl o_f7))), (bc 12, .inl (cI, 7, .inl c_f12)), (bc 14, .inl (cI, 7, .inl c_f14)), (bc 13, .inl (cI, 7, .inl c_f13)), (h2, oX7 z0 u_rule u_walkers u_creeks u_widow u_faces u_turn), (h1, oX0 bc c_lines c_span c_rule c_odds c_wide c_high c_creeks c_houses c_widows c_acts), (bc 16, .inl (cI, 7, .inl c_f16)), (bc 17, .inl (cI, 56, .inl c_f17)), (h0, oX6 b o_field o_houses), (b 8, .inl (cJ, 13, .inr (.inl o_f8o70))), (b 9, .inl (cJ, 13, .inr (.inl o_f9o71)))] := hD
            refine lv_istore (lv' := [(9, .int r72), (10, .int r60), (13, .int r60), (12, .int x20), (11, .int x19), (7, .long v3), (5, .long v1), (0, .ref h0), (1, .ref h1), (2, .ref h2), (3, .int p0), (4, .int p1)]) hx hb dX6_walk_191 hl (by decide) rfl (fun ls hl => ?_)
            refine lv_aload_n hx hb dX6_walk_193 rfl (lv_at hl 7 rfl) ?_
            refine va_get (D := G) (ci := 6) (v := .ref (b 3)) (C := RX6) (T := TX6) (N := 12) hx hb hts iG_X6 hown hK hP 12 rfl rfl 3 (by decide) (hts _ w_238) (fun _ h9 => h9) rfl dX6_walk_194 ?_
            refine lv_iload_n hx hb dX6_walk_197 rfl (lv_at hl 10 rfl) ?_
            refine lv_dup2_11 hx hb dX6_walk_198 rfl rfl ?_
            refine va_lald hx hb hK hP 3 1 rfl rfl (ix_in rfl (by omega) (by omega)) dX6_walk_199 ?_
            refine lv_topl (fun v75 ev75 => ?_)
            refine lv_iload hx hb dX6_walk_200 (lv_at hl 0 rfl) ?_
            refine k_l (wc := []) (wr := [(b 0, .inl (cI, 287, .inl g22)), (b 1, .inl (cI, 7, .inl g23)), (b 2, .inl (cI, 7, .inl g24)), (b 3, .inl (cJ, 7, .inr (.inl g25))), (b 7, .inl (cJ, 13, .inr (.inl o_f7))), (bc 12, .inl (cI, 7, .inl c_f12)), (bc 14, .inl (cI, 7, .inl c_f14)), (bc 13, .inl (cI, 7, .inl c_f13)), (h2, oX7 z0 u_rule u_walkers u_creeks u_widow u_faces u_turn), (h1, oX0 bc c_lines c_span c_rule c_odds c_wide c_high c_creeks c_houses c_widows c_acts), (bc 16, .inl (cI, 7, .inl c_f16)), (bc 17, .inl (cI, 56, .inl c_f17)), (h0, oX6 b o_field o_houses), (b 8, .inl (cJ, 13, .inr (.inl o_f8o70))), (b 9, .inl (cJ, 13, .inr (.inl o_f9o71)))]) hP hD hS hA [] [0, 1, 2, 3, 4, 5, 6, 7, 8, 9, 10, 11, 12, 13, 14] rfl rfl rfl (by decide) (va_runSN (As := [.int r72]) (rest := [.long v75, .int p0, .ref (b 3)]) ⟨hx, hb, hml, hown, hts⟩ (f_X9_bit l G cI cJ cZ cB cQ _ r72) ⟨va_cnB (host := "WidowRoads") 1 hts (gW w_519) rfl rfl rfl (nz_nw hZ nw_608 rfl) (hts _ w_1) hd_X9_bit ⟨Nat.le_of_ble_eq_true rfl, Nat.le_of_ble_eq_true rfl⟩, (hts _ w_518), trivial⟩ (mS hK hZ hP hD [] rfl rfl [.int r72]) rfl rfl hl.1 rfl (lv_room (Nat.le_of_ble_eq_true rfl)) dX6_walk_202 ⟨Nat.le_of_ble_eq_true rfl, Nat.le_of_ble_eq_true rfl⟩) (fun r76 u77 H locs hw78 hP hD hS => ?_)
            try dsimp only at hw78
            have hP : va_P G vwCl [(b 0, .inl (cI, 287, .inl g22)), (b 1, .inl (cI, 7, .inl g23)), (b 2, .inl (cI, 7, .inl g24)), (b 3, .inl (cJ, 7, .inr (.inl g25))), (b 7, .inl (cJ, 13, .inr (.inl o_f7))), (bc 12, .inl (cI, 7, .inl c_f12)), (bc 14, .inl (cI, 7, .inl c_f14)), (bc 13, .inl (cI, 7, .inl c_f13)), (h2, oX7 z0 u_rule u_walkers u_creeks u_widow u_faces u_turn), (h1, oX0 bc c_lines c_span c_rule c_odds c_wide c_high c_creeks c_houses c_widows c_acts), (bc 16, .inl (cI, 7, .inl c_f16)), (bc 17, .inl (cI, 56, .inl c_f17)), (h0, oX6 b o_field o_houses), (b 8, .inl (cJ, 13, .inr (.inl o_f8o70))), (b 9, .inl (cJ, 13, .inr (.inl o_f9o71)))] H := hP
            have hD : va_D A [(b 0, .inl (cI, 287, .inl g22)), (b 1, .inl (cI, 7, .inl g23)), (b 2, .inl (cI, 7, .inl g24)), (b 3, .inl (cJ, 7, .inr (.inl g25))), (b 7, .inl (cJ, 13, .inr (.inl o_f7))), (bc 12, .inl (cI, 7, .inl c_f12)), (bc 14, .inl (cI, 7, .inl c_f14)), (bc 13, .inl (cI, 7, .inl c_f13)), (h2, oX7 z0 u_rule u_walkers u_creeks u_widow u_faces u_turn), (h1, oX0 bc c_lines c_span c_rule c_odds c_wide c_high c_creeks c_houses c_widows c_acts), (bc 16, .inl (cI, 7, .inl c_f16)), (bc 17, .inl (cI, 56, .inl c_f17)), (h0, oX6 b o_field o_houses), (b 8, .inl (cJ, 13, .inr (.inl o_f8o70))), (b 9, .inl (cJ, 13, .inr (.inl o_f9o71)))] := hD
            refine lv_lor hx hb dX6_walk_205 ?_
            refine lv_topl (fun v79 ev79 => ?_)
            refine va_last hx hb hK hP hD hS 3 1 rfl rfl (ix_in rfl (by omega) (by omega)) dX6_walk_206 (fun H locs hP hD hS => ?_)
            obtain ⟨f80, qf80⟩ : ∃ g, g = vp_updL g25 p0.toNatClampNeg v79 := ⟨_, rfl⟩
            rw [← qf80] at hP hD
            have hP : va_P G vwCl [(b 0, .inl (cI, 287, .inl g22)), (b 1, .inl (cI, 7, .inl g23)), (b 2, .inl (cI, 7, .inl g24)), (b 3, .inl (cJ, 7, .inr (.inl f80))), (b 7, .inl (cJ, 13, .inr (.inl o_f7))), (bc 12, .inl (cI, 7, .inl c_f12)), (bc 14, .inl (cI, 7, .inl c_f14)), (bc 13, .inl (cI, 7, .inl c_f13)), (h2, oX7 z0 u_rule u_walkers u_creeks u_widow u_faces u_turn), (h1, oX0 bc c_lines c_span c_rule c_odds c_wide c_high c_creeks c_houses c_widows c_acts), (bc 16, .inl (cI, 7, .inl c_f16)), (bc 17, .inl (cI, 56, .inl c_f17)), (h0, oX6 b o_field o_houses), (b 8, .inl (cJ, 13, .inr (.inl o_f8o70))), (b 9, .inl (cJ, 13, .inr (.inl o_f9o71)))] H := hP
            have hD : va_D A [(b 0, .inl (cI, 287, .inl g22)), (b 1, .inl (cI, 7, .inl g23)), (b 2, .inl (cI, 7, .inl g24)), (b 3, .inl (cJ, 7, .inr (.inl f80))), (b 7, .inl (cJ, 13, .inr (.inl o_f7))), (bc 12, .inl (cI, 7, .inl c_f12)), (bc 14, .inl (cI, 7, .inl c_f14)), (bc 13, .inl (cI, 7, .inl c_f13)), (h2, oX7 z0 u_rule u_walkers u_creeks u_widow u_faces u_turn), (h1, oX0 bc c_lines c_span c_rule c_odds c_wide c_high c_creeks c_houses c_widows c_acts), (bc 16, .inl (cI, 7, .inl c_f16)), (bc 17, .inl (cI, 56, .inl c_f17)), (h0, oX6 b o_field o_houses), (b 8, .inl (cJ, 13, .inr (.inl o_f8o70))), (b 9, .inl (cJ, 13, .inr (.inl o_f9o71)))] := hD
            refine lv_aload_n hx hb dX6_walk_207 rfl (lv_at hl 9 rfl) ?_
            refine va_getN (D := G) (ci := 7) (v := .int u_rule) (C := RX7) (T := TX7) (N := 6) hx hb hts iG_X7 hown hK hP 8 rfl rfl 0 (by decide) (nz_use hZ nw_199 rfl) (fun _ h9 => h9) rfl dX6_walk_208 ?_
            refine lv_iconst (v := 3) hx hb dX6_walk_211 (by decide) ?_
            refine lv_icmp_ne (tgt := 229) hx hb dX6_walk_212 (by decide) (fun c81 => ?_) (fun c81 => ?_)
            · have c81 := i_ne rfl ki_3 c81
              refine lv_iconst (v := 0) hx hb dX6_walk_229 (by decide) ?_
              refine lv_istore (lv' := [(11, .int 0), (9, .int r72), (10, .int r60), (13, .int r60), (12, .int x20), (7, .long v3), (5, .long v1), (0, .ref h0), (1, .ref h1), (2, .ref h2), (3, .int p0), (4, .int p1)]) hx hb dX6_walk_230 hl (by decide) rfl (fun ls hl => ?_)
              refine lv_aload_n hx hb dX6_walk_232 rfl (lv_at hl 7 rfl) ?_
              refine va_get (D := G) (ci := 6) (v := .ref (b 0)) (C := RX6) (T := TX6) (N := 12) hx hb hts iG_X6 hown hK hP 12 rfl rfl 0 (by decide) (hts _ w_233) (fun _ h9 => h9) rfl dX6_walk_233 ?_
              refine lv_iload_n hx hb dX6_walk_236 rfl (lv_at hl 10 rfl) ?_
              refine lv_bipush (v := 41) hx hb dX6_walk_237 (by decide) ?_
              refine lv_imul hx hb dX6_walk_239 ?_
              refine lv_topi (fun v82 ev82 => ?_)
              have tv82 : v82.toInt = p0.toInt * 41 := ti_mul rfl ki_41 ev82 (by omega) (by omega)
              refine lv_iload hx hb dX6_walk_240 (lv_at hl 4 rfl) ?_
              refine lv_iadd hx hb dX6_walk_242 ?_
              refine lv_topi (fun v83 ev83 => ?_)
              have tv83 : v83.toInt = p0.toInt * 41 + x20.toInt := ti_add tv82 rfl ev83 (by omega) (by omega)
              refine lv_iload hx hb dX6_walk_243 (lv_at hl 1 rfl) ?_
              refine va_iast hx hb hK hP hD hS 0 0 rfl rfl (ix_in tv83 (by omega) (by omega)) dX6_walk_245 (fun H locs hP hD hS => ?_)
              obtain ⟨f84, qf84⟩ : ∃ g, g = upd g22 v83.toNatClampNeg r72 := ⟨_, rfl⟩
              rw [← qf84] at hP hD
              have hP : va_P G vwCl [(b 0, .inl (cI, 287, .inl f84)), (b 1, .inl (cI, 7, .inl g23)), (b 2, .inl (cI, 7, .inl g24)), (b 3, .inl (cJ, 7, .inr (.inl f80))), (b 7, .inl (cJ, 13, .inr (.inl o_f7))), (bc 12, .inl (cI, 7, .inl c_f12)), (bc 14, .inl (cI, 7, .inl c_f14)), (bc 13, .inl (cI, 7, .inl c_f13)), (h2, oX7 z0 u_rule u_walkers u_creeks u_widow u_faces u_turn), (h1, oX0 bc c_lines c_span c_rule c_odds c_wide c_high c_creeks c_houses c_widows c_acts), (bc 16, .inl (cI, 7, .inl c_f16)), (bc 17, .inl (cI, 56, .inl c_f17)), (h0, oX6 b o_field o_houses), (b 8, .inl (cJ, 13, .inr (.inl o_f8o70))), (b 9, .inl (cJ, 13, .inr (.inl o_f9o71)))] H := hP
              have hD : va_D A [(b 0, .inl (cI, 287, .inl f84)), (b 1, .inl (cI, 7, .inl g23)), (b 2, .inl (cI, 7, .inl g24)), (b 3, .inl (cJ, 7, .inr (.inl f80))), (b 7, .inl (cJ, 13, .inr (.inl o_f7))), (bc 12, .inl (cI, 7, .inl c_f12)), (bc 14, .inl (cI, 7, .inl c_f14)), (bc 13, .inl (cI, 7, .inl c_f13)), (h2, oX7 z0 u_rule u_walkers u_creeks u_widow u_faces u_turn), (h1, oX0 bc c_lines c_span c_rule c_odds c_wide c_high c_creeks c_houses c_widows c_acts), (bc 16, .inl (cI, 7, .inl c_f16)), (bc 17, .inl (cI, 56, .inl c_f17)), (h0, oX6 b o_field o_houses), (b 8, .inl (cJ, 13, .inr (.inl o_f8o70))), (b 9, .inl (cJ, 13, .inr (.inl o_f9o71)))] := hD
              refine lv_aload_n hx hb dX6_walk_246 rfl (lv_at hl 7 rfl) ?_
              refine va_get (D := G) (ci := 6) (v := .ref (b 1)) (C := RX6) (T := TX6) (N := 12) hx hb hts iG_X6 hown hK hP 12 rfl rfl 1 (by decide) (hts _ w_234) (fun _ h9 => h9) rfl dX6_walk_247 ?_
              refine lv_iload_n hx hb dX6_walk_250 rfl (lv_at hl 10 rfl) ?_
              refine lv_iload hx hb dX6_walk_251 (lv_at hl 4 rfl) ?_
              refine va_iast hx hb hK hP hD hS 1 0 rfl rfl (ix_in rfl (by omega) (by omega)) dX6_walk_253 (fun H locs hP hD hS => ?_)
              obtain ⟨f85, qf85⟩ : ∃ g, g = upd g23 p0.toNatClampNeg x20 := ⟨_, rfl⟩
              rw [← qf85] at hP hD
              have hi86 : ai f85 7 (-1) 40 := by rw [qf85]; exact ai_put k32 rfl (by omega) (by omega)
              have hP : va_P G vwCl [(b 0, .inl (cI, 287, .inl f84)), (b 1, .inl (cI, 7, .inl f85)), (b 2, .inl (cI, 7, .inl g24)), (b 3, .inl (cJ, 7, .inr (.inl f80))), (b 7, .inl (cJ, 13, .inr (.inl o_f7))), (bc 12, .inl (cI, 7, .inl c_f12)), (bc 14, .inl (cI, 7, .inl c_f14)), (bc 13, .inl (cI, 7, .inl c_f13)), (h2, oX7 z0 u_rule u_walkers u_creeks u_widow u_faces u_turn), (h1, oX0 bc c_lines c_span c_rule c_odds c_wide c_high c_creeks c_houses c_widows c_acts), (bc 16, .inl (cI, 7, .inl c_f16)), (bc 17, .inl (cI, 56, .inl c_f17)), (h0, oX6 b o_field o_houses), (b 8, .inl (cJ, 13, .inr (.inl o_f8o70))), (b 9, .inl (cJ, 13, .inr (.inl o_f9o71)))] H := hP
              have hD : va_D A [(b 0, .inl (cI, 287, .inl f84)), (b 1, .inl (cI, 7, .inl f85)), (b 2, .inl (cI, 7, .inl g24)), (b 3, .inl (cJ, 7, .inr (.inl f80))), (b 7, .inl (cJ, 13, .inr (.inl o_f7))), (bc 12, .inl (cI, 7, .inl c_f12)), (bc 14, .inl (cI, 7, .inl c_f14)), (bc 13, .inl (cI, 7, .inl c_f13)), (h2, oX7 z0 u_rule u_walkers u_creeks u_widow u_faces u_turn), (h1, oX0 bc c_lines c_span c_rule c_odds c_wide c_high c_creeks c_houses c_widows c_acts), (bc 16, .inl (cI, 7, .inl c_f16)), (bc 17, .inl (cI, 56, .inl c_f17)), (h0, oX6 b o_field o_houses), (b 8, .inl (cJ, 13, .inr (.inl o_f8o70))), (b 9, .inl (cJ, 13, .inr (.inl o_f9o71)))] := hD
              obtain ⟨v87, ev87⟩ : ∃ y : Int32, y = x20 + 1 := ⟨_, rfl⟩
              have tv87 : v87.toInt = x20.toInt + 1 := ti_add rfl ki_1 ev87 (by omega) (by omega)
              refine lv_iinc (v := v87) (lv' := [(12, .int v87), (11, .int 0), (9, .int r72), (10, .int r60), (13, .int r60), (7, .long v3), (5, .long v1), (0, .ref h0), (1, .ref h1), (2, .ref h2), (3, .int p0), (4, .int p1)]) hx hb dX6_walk_254 hl (k := 4) rfl (by rw [ev87]; rfl) (by decide) rfl (fun ls hl => ?_)
              refine lv_goto (tgt := 75) hx hb dX6_walk_257 (by decide) ?_
              exact ih33 r60 0 v87 r72 f84 f85 g24 f80 o_f8o70 o_f9o71 (by rw [ki_0]; decide) (by rw [ki_0]; decide) (by omega) (by omega) hi86 (by omega) _ _ (hP.sub [12, 0, 1, 2, 3, 4, 13, 14, 5, 6, 10, 11, 8, 9, 7] rfl) (hD.sub [12, 0, 1, 2, 3, 4, 13, 14, 5, 6, 10, 11, 8, 9, 7] rfl rfl) hS ls (lv_sub hl [0, 1, 3, 2, 5, 6, 7, 8, 9, 10, 11] rfl)
            · have c81 := i_eq rfl ki_3 c81
              refine lv_lload hx hb dX6_walk_215 (lv_at hl 6 rfl) ?_
              refine lv_iload hx hb dX6_walk_217 (lv_at hl 0 rfl) ?_
              refine k_i (wc := []) (wr := [(b 0, .inl (cI, 287, .inl g22)), (b 1, .inl (cI, 7, .inl g23)), (b 2, .inl (cI, 7, .inl g24)), (b 3, .inl (cJ, 7, .inr (.inl f80))), (b 7, .inl (cJ, 13, .inr (.inl o_f7))), (bc 12, .inl (cI, 7, .inl c_f12)), (bc 14, .inl (cI, 7, .inl c_f14)), (bc 13, .inl (cI, 7, .inl c_f13)), (h2, oX7 z0 u_rule u_walkers u_creeks u_widow u_faces u_turn), (h1, oX0 bc c_lines c_span c_rule c_odds c_wide c_high c_creeks c_houses c_widows c_acts), (bc 16, .inl (cI, 7, .inl c_f16)), (bc 17, .inl (cI, 56, .inl c_f17)), (h0, oX6 b o_field o_houses), (b 8, .inl (cJ, 13, .inr (.inl o_f8o70))), (b 9, .inl (cJ, 13, .inr (.inl o_f9o71)))]) hP hD hS hA [] [0, 1, 2, 3, 4, 5, 6, 7, 8, 9, 10, 11, 12, 13, 14] rfl rfl rfl (by decide) (va_runSN (As := [.long v1, .int r72]) (rest := []) ⟨hx, hb, hml, hown, hts⟩ (f_X9_has l G cI cJ cZ cB cQ _ v1 r72) ⟨va_cnB (host := "WidowRoads") 2 hts (gW w_527) rfl rfl rfl (nz_nw hZ nw_622 rfl) (hts _ w_1) hd_X9_has ⟨Nat.le_of_ble_eq_true rfl, Nat.le_of_ble_eq_true rfl⟩, (hts _ w_526), trivial⟩ (mS hK hZ hP hD [] rfl rfl [.long v1, .int r72]) rfl rfl hl.1 rfl (lv_room (Nat.le_of_ble_eq_true rfl)) dX6_walk_219 ⟨Nat.le_of_ble_eq_true rfl, Nat.le_of_ble_eq_true rfl⟩) (fun r88 u89 H locs hw90 hP hD hS => ?_)
              try dsimp only at hw90
              have hP : va_P G vwCl [(b 0, .inl (cI, 287, .inl g22)), (b 1, .inl (cI, 7, .inl g23)), (b 2, .inl (cI, 7, .inl g24)), (b 3, .inl (cJ, 7, .inr (.inl f80))), (b 7, .inl (cJ, 13, .inr (.inl o_f7))), (bc 12, .inl (cI, 7, .inl c_f12)), (bc 14, .inl (cI, 7, .inl c_f14)), (bc 13, .inl (cI, 7, .inl c_f13)), (h2, oX7 z0 u_rule u_walkers u_creeks u_widow u_faces u_turn), (h1, oX0 bc c_lines c_span c_rule c_odds c_wide c_high c_creeks c_houses c_widows c_acts), (bc 16, .inl (cI, 7, .inl c_f16)), (bc 17, .inl (cI, 56, .inl c_f17)), (h0, oX6 b o_field o_houses), (b 8, .inl (cJ, 13, .inr (.inl o_f8o70))), (b 9, .inl (cJ, 13, .inr (.inl o_f9o71)))] H := hP
              have hD : va_D A [(b 0, .inl (cI, 287, .inl g22)), (b 1, .inl (cI, 7, .inl g23)), (b 2, .inl (cI, 7, .inl g24)), (b 3, .inl (cJ, 7, .inr (.inl f80))), (b 7, .inl (cJ, 13, .inr (.inl o_f7))), (bc 12, .inl (cI, 7, .inl c_f12)), (bc 14, .inl (cI, 7, .inl c_f14)), (bc 13, .inl (cI, 7, .inl c_f13)), (h2, oX7 z0 u_rule u_walkers u_creeks u_widow u_faces u_turn), (h1, oX0 bc c_lines c_span c_rule c_odds c_wide c_high c_creeks c_houses c_widows c_acts), (bc 16, .inl (cI, 7, .inl c_f16)), (bc 17, .inl (cI, 56, .inl c_f17)), (h0, oX6 b o_field o_houses), (b 8, .inl (cJ, 13, .inr (.inl o_f8o70))), (b 9, .inl (cJ, 13, .inr (.inl o_f9o71)))] := hD
              obtain ⟨w91, w92⟩ : 0 ≤ r88.toInt ∧ r88.toInt ≤ 1 := hw90
              refine lv_if_eq (tgt := 229) hx hb dX6_walk_222 (by decide) (fun c93 => ?_) (fun c93 => ?_)
              · have c93 := i_eq rfl ki_0 c93
                refine lv_iconst (v := 0) hx hb dX6_walk_229 (by decide) ?_
                refine lv_istore (lv' := [(11, .int 0), (9, .int r72), (10, .int r60), (13, .int r60), (12, .int x20), (7, .long v3), (5, .long v1), (0, .ref h0), (1, .ref h1), (2, .ref h2), (3, .int p0), (4, .int p1)]) hx hb dX6_walk_230 hl (by decide) rfl (fun ls hl => ?_)
                refine lv_aload_n hx hb dX6_walk_232 rfl (lv_at hl 7 rfl) ?_
                refine va_get (D := G) (ci := 6) (v := .ref (b 0)) (C := RX6) (T := TX6) (N := 12) hx hb hts iG_X6 hown hK hP 12 rfl rfl 0 (by decide) (hts _ w_233) (fun _ h9 => h9) rfl dX6_walk_233 ?_
                refine lv_iload_n hx hb dX6_walk_236 rfl (lv_at hl 10 rfl) ?_
                refine lv_bipush (v := 41) hx hb dX6_walk_237 (by decide) ?_
                refine lv_imul hx hb dX6_walk_239 ?_
                refine lv_topi (fun v94 ev94 => ?_)
                have tv94 : v94.toInt = p0.toInt * 41 := ti_mul rfl ki_41 ev94 (by omega) (by omega)
                refine lv_iload hx hb dX6_walk_240 (lv_at hl 4 rfl) ?_
                refine lv_iadd hx hb dX6_walk_242 ?_
                refine lv_topi (fun v95 ev95 => ?_)
                have tv95 : v95.toInt = p0.toInt * 41 + x20.toInt := ti_add tv94 rfl ev95 (by omega) (by omega)
                refine lv_iload hx hb dX6_walk_243 (lv_at hl 1 rfl) ?_
                refine va_iast hx hb hK hP hD hS 0 0 rfl rfl (ix_in tv95 (by omega) (by omega)) dX6_walk_245 (fun H locs hP hD hS => ?_)
                obtain ⟨f96, qf96⟩ : ∃ g, g = upd g22 v95.toNatClampNeg r72 := ⟨_, rfl⟩
                rw [← qf96] at hP hD
                have hP : va_P G vwCl [(b 0, .inl (cI, 287, .inl f96)), (b 1, .inl (cI, 7, .inl g23)), (b 2, .inl (cI, 7, .inl g24)), (b 3, .inl (cJ, 7, .inr (.inl f80))), (b 7, .inl (cJ, 13, .inr (.inl o_f7))), (bc 12, .inl (cI, 7, .inl c_f12)), (bc 14, .inl (cI, 7, .inl c_f14)), (bc 13, .inl (cI, 7, .inl c_f13)), (h2, oX7 z0 u_rule u_walkers u_creeks u_widow u_faces u_turn), (h1, oX0 bc c_lines c_span c_rule c_odds c_wide c_high c_creeks c_houses c_widows c_acts), (bc 16, .inl (cI, 7, .inl c_f16)), (bc 17, .inl (cI, 56, .inl c_f17)), (h0, oX6 b o_field o_houses), (b 8, .inl (cJ, 13, .inr (.inl o_f8o70))), (b 9, .inl (cJ, 13, .inr (.inl o_f9o71)))] H := hP
                have hD : va_D A [(b 0, .inl (cI, 287, .inl f96)), (b 1, .inl (cI, 7, .inl g23)), (b 2, .inl (cI, 7, .inl g24)), (b 3, .inl (cJ, 7, .inr (.inl f80))), (b 7, .inl (cJ, 13, .inr (.inl o_f7))), (bc 12, .inl (cI, 7, .inl c_f12)), (bc 14, .inl (cI, 7, .inl c_f14)), (bc 13, .inl (cI, 7, .inl c_f13)), (h2, oX7 z0 u_rule u_walkers u_creeks u_widow u_faces u_turn), (h1, oX0 bc c_lines c_span c_rule c_odds c_wide c_high c_creeks c_houses c_widows c_acts), (bc 16, .inl (cI, 7, .inl c_f16)), (bc 17, .inl (cI, 56, .inl c_f17)), (h0, oX6 b o_field o_houses), (b 8, .inl (cJ, 13, .inr (.inl o_f8o70))), (b 9, .inl (cJ, 13, .inr (.inl o_f9o71)))] := hD
                refine lv_aload_n hx hb dX6_walk_246 rfl (lv_at hl 7 rfl) ?_
                refine va_get (D := G) (ci := 6) (v := .ref (b 1)) (C := RX6) (T := TX6) (N := 12) hx hb hts iG_X6 hown hK hP 12 rfl rfl 1 (by decide) (hts _ w_234) (fun _ h9 => h9) rfl dX6_walk_247 ?_
                refine lv_iload_n hx hb dX6_walk_250 rfl (lv_at hl 10 rfl) ?_
                refine lv_iload hx hb dX6_walk_251 (lv_at hl 4 rfl) ?_
                refine va_iast hx hb hK hP hD hS 1 0 rfl rfl (ix_in rfl (by omega) (by omega)) dX6_walk_253 (fun H locs hP hD hS => ?_)
                obtain ⟨f97, qf97⟩ : ∃ g, g = upd g23 p0.toNatClampNeg x20 := ⟨_, rfl⟩
                rw [← qf97] at hP hD
                have hi98 : ai f97 7 (-1) 40 := by rw [qf97]; exact ai_put k32 rfl (by omega) (by omega)
                have hP : va_P G vwCl [(b 0, .inl (cI, 287, .inl f96)), (b 1, .inl (cI, 7, .inl f97)), (b 2, .inl (cI, 7, .inl g24)), (b 3, .inl (cJ, 7, .inr (.inl f80))), (b 7, .inl (cJ, 13, .inr (.inl o_f7))), (bc 12, .inl (cI, 7, .inl c_f12)), (bc 14, .inl (cI, 7, .inl c_f14)), (bc 13, .inl (cI, 7, .inl c_f13)), (h2, oX7 z0 u_rule u_walkers u_creeks u_widow u_faces u_turn), (h1, oX0 bc c_lines c_span c_rule c_odds c_wide c_high c_creeks c_houses c_widows c_acts), (bc 16, .inl (cI, 7, .inl c_f16)), (bc 17, .inl (cI, 56, .inl c_f17)), (h0, oX6 b o_field o_houses), (b 8, .inl (cJ, 13, .inr (.inl o_f8o70))), (b 9, .inl (cJ, 13, .inr (.inl o_f9o71)))] H := hP
                have hD : va_D A [(b 0, .inl (cI, 287, .inl f96)), (b 1, .inl (cI, 7, .inl f97)), (b 2, .inl (cI, 7, .inl g24)), (b 3, .inl (cJ, 7, .inr (.inl f80))), (b 7, .inl (cJ, 13, .inr (.inl o_f7))), (bc 12, .inl (cI, 7, .inl c_f12)), (bc 14, .inl (cI, 7, .inl c_f14)), (bc 13, .inl (cI, 7, .inl c_f13)), (h2, oX7 z0 u_rule u_walkers u_creeks u_widow u_faces u_turn), (h1, oX0 bc c_lines c_span c_rule c_odds c_wide c_high c_creeks c_houses c_widows c_acts), (bc 16, .inl (cI, 7, .inl c_f16)), (bc 17, .inl (cI, 56, .inl c_f17)), (h0, oX6 b o_field o_houses), (b 8, .inl (cJ, 13, .inr (.inl o_f8o70))), (b 9, .inl (cJ, 13, .inr (.inl o_f9o71)))] := hD
                obtain ⟨v99, ev99⟩ : ∃ y : Int32, y = x20 + 1 := ⟨_, rfl⟩
                have tv99 : v99.toInt = x20.toInt + 1 := ti_add rfl ki_1 ev99 (by omega) (by omega)
                refine lv_iinc (v := v99) (lv' := [(12, .int v99), (11, .int 0), (9, .int r72), (10, .int r60), (13, .int r60), (7, .long v3), (5, .long v1), (0, .ref h0), (1, .ref h1), (2, .ref h2), (3, .int p0), (4, .int p1)]) hx hb dX6_walk_254 hl (k := 4) rfl (by rw [ev99]; rfl) (by decide) rfl (fun ls hl => ?_)
                refine lv_goto (tgt := 75) hx hb dX6_walk_257 (by decide) ?_
                exact ih33 r60 0 v99 r72 f96 f97 g24 f80 o_f8o70 o_f9o71 (by rw [ki_0]; decide) (by rw [ki_0]; decide) (by omega) (by omega) hi98 (by omega) _ _ (hP.sub [12, 0, 1, 2, 3, 4, 13, 14, 5, 6, 10, 11, 8, 9, 7] rfl) (hD.sub [12, 0, 1, 2, 3, 4, 13, 14, 5, 6, 10, 11, 8, 9, 7] rfl rfl) hS ls (lv_sub hl [0, 1, 3, 2, 5, 6, 7, 8, 9, 10, 11] rfl)
              · have c93 := i_ne rfl ki_0 c93
                refine lv_iconst (v := 1) hx hb dX6_walk_225 (by decide) ?_
                refine lv_goto (tgt := 230) hx hb dX6_walk_226 (by decide) ?_
                refine lv_istore (lv' := [(11, .int 1), (9, .int r72), (10, .int r60), (13, .int r60), (12, .int x20), (7, .long v3), (5, .long v1), (0, .ref h0), (1, .ref h1), (2, .ref h2), (3, .int p0), (4, .int p1)]) hx hb dX6_walk_230 hl (by decide) rfl (fun ls hl => ?_)
                refine lv_aload_n hx hb dX6_walk_232 rfl (lv_at hl 7 rfl) ?_
                refine va_get (D := G) (ci := 6) (v := .ref (b 0)) (C := RX6) (T := TX6) (N := 12) hx hb hts iG_X6 hown hK hP 12 rfl rfl 0 (by decide) (hts _ w_233) (fun _ h9 => h9) rfl dX6_walk_233 ?_
                refine lv_iload_n hx hb dX6_walk_236 rfl (lv_at hl 10 rfl) ?_
                refine lv_bipush (v := 41) hx hb dX6_walk_237 (by decide) ?_
                refine lv_imul hx hb dX6_walk_239 ?_
                refine lv_topi (fun v100 ev100 => ?_)
                have tv100 : v100.toInt = p0.toInt * 41 := ti_mul rfl ki_41 ev100 (by omega) (by omega)
                refine lv_iload hx hb dX6_walk_240 (lv_at hl 4 rfl) ?_
                refine lv_iadd hx hb dX6_walk_242 ?_
                refine lv_topi (fun v101 ev101 => ?_)
                have tv101 : v101.toInt = p0.toInt * 41 + x20.toInt := ti_add tv100 rfl ev101 (by omega) (by omega)
                refine lv_iload hx hb dX6_walk_243 (lv_at hl 1 rfl) ?_
                refine va_iast hx hb hK hP hD hS 0 0 rfl rfl (ix_in tv101 (by omega) (by omega)) dX6_walk_245 (fun H locs hP hD hS => ?_)
                obtain ⟨f102, qf102⟩ : ∃ g, g = upd g22 v101.toNatClampNeg r72 := ⟨_, rfl⟩
                rw [← qf102] at hP hD
                have hP : va_P G vwCl [(b 0, .inl (cI, 287, .inl f102)), (b 1, .inl (cI, 7, .inl g23)), (b 2, .inl (cI, 7, .inl g24)), (b 3, .inl (cJ, 7, .inr (.inl f80))), (b 7, .inl (cJ, 13, .inr (.inl o_f7))), (bc 12, .inl (cI, 7, .inl c_f12)), (bc 14, .inl (cI, 7, .inl c_f14)), (bc 13, .inl (cI, 7, .inl c_f13)), (h2, oX7 z0 u_rule u_walkers u_creeks u_widow u_faces u_turn), (h1, oX0 bc c_lines c_span c_rule c_odds c_wide c_high c_creeks c_houses c_widows c_acts), (bc 16, .inl (cI, 7, .inl c_f16)), (bc 17, .inl (cI, 56, .inl c_f17)), (h0, oX6 b o_field o_houses), (b 8, .inl (cJ, 13, .inr (.inl o_f8o70))), (b 9, .inl (cJ, 13, .inr (.inl o_f9o71)))] H := hP
                have hD : va_D A [(b 0, .inl (cI, 287, .inl f102)), (b 1, .inl (cI, 7, .inl g23)), (b 2, .inl (cI, 7, .inl g24)), (b 3, .inl (cJ, 7, .inr (.inl f80))), (b 7, .inl (cJ, 13, .inr (.inl o_f7))), (bc 12, .inl (cI, 7, .inl c_f12)), (bc 14, .inl (cI, 7, .inl c_f14)), (bc 13, .inl (cI, 7, .inl c_f13)), (h2, oX7 z0 u_rule u_walkers u_creeks u_widow u_faces u_turn), (h1, oX0 bc c_lines c_span c_rule c_odds c_wide c_high c_creeks c_houses c_widows c_acts), (bc 16, .inl (cI, 7, .inl c_f16)), (bc 17, .inl (cI, 56, .inl c_f17)), (h0, oX6 b o_field o_houses), (b 8, .inl (cJ, 13, .inr (.inl o_f8o70))), (b 9, .inl (cJ, 13, .inr (.inl o_f9o71)))] := hD
                refine lv_aload_n hx hb dX6_walk_246 rfl (lv_at hl 7 rfl) ?_
                refine va_get (D := G) (ci := 6) (v := .ref (b 1)) (C := RX6) (T := TX6) (N := 12) hx hb hts iG_X6 hown hK hP 12 rfl rfl 1 (by decide) (hts _ w_234) (fun _ h9 => h9) rfl dX6_walk_247 ?_
                refine lv_iload_n hx hb dX6_walk_250 rfl (lv_at hl 10 rfl) ?_
                refine lv_iload hx hb dX6_walk_251 (lv_at hl 4 rfl) ?_
                refine va_iast hx hb hK hP hD hS 1 0 rfl rfl (ix_in rfl (by omega) (by omega)) dX6_walk_253 (fun H locs hP hD hS => ?_)
                obtain ⟨f103, qf103⟩ : ∃ g, g = upd g23 p0.toNatClampNeg x20 := ⟨_, rfl⟩
                rw [← qf103] at hP hD
                have hi104 : ai f103 7 (-1) 40 := by rw [qf103]; exact ai_put k32 rfl (by omega) (by omega)
                have hP : va_P G vwCl [(b 0, .inl (cI, 287, .inl f102)), (b 1, .inl (cI, 7, .inl f103)), (b 2, .inl (cI, 7, .inl g24)), (b 3, .inl (cJ, 7, .inr (.inl f80))), (b 7, .inl (cJ, 13, .inr (.inl o_f7))), (bc 12, .inl (cI, 7, .inl c_f12)), (bc 14, .inl (cI, 7, .inl c_f14)), (bc 13, .inl (cI, 7, .inl c_f13)), (h2, oX7 z0 u_rule u_walkers u_creeks u_widow u_faces u_turn), (h1, oX0 bc c_lines c_span c_rule c_odds c_wide c_high c_creeks c_houses c_widows c_acts), (bc 16, .inl (cI, 7, .inl c_f16)), (bc 17, .inl (cI, 56, .inl c_f17)), (h0, oX6 b o_field o_houses), (b 8, .inl (cJ, 13, .inr (.inl o_f8o70))), (b 9, .inl (cJ, 13, .inr (.inl o_f9o71)))] H := hP
                have hD : va_D A [(b 0, .inl (cI, 287, .inl f102)), (b 1, .inl (cI, 7, .inl f103)), (b 2, .inl (cI, 7, .inl g24)), (b 3, .inl (cJ, 7, .inr (.inl f80))), (b 7, .inl (cJ, 13, .inr (.inl o_f7))), (bc 12, .inl (cI, 7, .inl c_f12)), (bc 14, .inl (cI, 7, .inl c_f14)), (bc 13, .inl (cI, 7, .inl c_f13)), (h2, oX7 z0 u_rule u_walkers u_creeks u_widow u_faces u_turn), (h1, oX0 bc c_lines c_span c_rule c_odds c_wide c_high c_creeks c_houses c_widows c_acts), (bc 16, .inl (cI, 7, .inl c_f16)), (bc 17, .inl (cI, 56, .inl c_f17)), (h0, oX6 b o_field o_houses), (b 8, .inl (cJ, 13, .inr (.inl o_f8o70))), (b 9, .inl (cJ, 13, .inr (.inl o_f9o71)))] := hD
                obtain ⟨v105, ev105⟩ : ∃ y : Int32, y = x20 + 1 := ⟨_, rfl⟩
                have tv105 : v105.toInt = x20.toInt + 1 := ti_add rfl ki_1 ev105 (by omega) (by omega)
                refine lv_iinc (v := v105) (lv' := [(12, .int v105), (11, .int 1), (9, .int r72), (10, .int r60), (13, .int r60), (7, .long v3), (5, .long v1), (0, .ref h0), (1, .ref h1), (2, .ref h2), (3, .int p0), (4, .int p1)]) hx hb dX6_walk_254 hl (k := 4) rfl (by rw [ev105]; rfl) (by decide) rfl (fun ls hl => ?_)
                refine lv_goto (tgt := 75) hx hb dX6_walk_257 (by decide) ?_
                exact ih33 r60 1 v105 r72 f102 f103 g24 f80 o_f8o70 o_f9o71 (by rw [ki_1]; decide) (by rw [ki_1]; decide) (by omega) (by omega) hi104 (by omega) _ _ (hP.sub [12, 0, 1, 2, 3, 4, 13, 14, 5, 6, 10, 11, 8, 9, 7] rfl) (hD.sub [12, 0, 1, 2, 3, 4, 13, 14, 5, 6, 10, 11, 8, 9, 7] rfl rfl) hS ls (lv_sub hl [0, 1, 3, 2, 5, 6, 7, 8, 9, 10, 11] rfl)
          · have c65 := i_eq rfl ki_m1 c65
            refine lv_iload hx hb dX6_walk_140 (lv_at hl 4 rfl) ?_
            refine lv_iload hx hb dX6_walk_142 (lv_at hl 1 rfl) ?_
            refine lv_lload hx hb dX6_walk_144 (lv_at hl 5 rfl) ?_
            refine k_i (wc := []) (wr := [(h0, oX6 b o_field o_houses), (b 0, .inl (cI, 287, .inl g22)), (b 1, .inl (cI, 7, .inl g23)), (b 2, .inl (cI, 7, .inl g24)), (b 3, .inl (cJ, 7, .inr (.inl g25))), (b 7, .inl (cJ, 13, .inr (.inl o_f7))), (b 8, .inl (cJ, 13, .inr (.inl g26))), (b 9, .inl (cJ, 13, .inr (.inl g27))), (bc 12, .inl (cI, 7, .inl c_f12)), (bc 14, .inl (cI, 7, .inl c_f14)), (bc 13, .inl (cI, 7, .inl c_f13)), (h2, oX7 z0 u_rule u_walkers u_creeks u_widow u_faces u_turn), (h1, oX0 bc c_lines c_span c_rule c_odds c_wide c_high c_creeks c_houses c_widows c_acts), (bc 16, .inl (cI, 7, .inl c_f16)), (bc 17, .inl (cI, 56, .inl c_f17))]) hP hD hS hA [] [0, 1, 2, 3, 4, 5, 6, 7, 8, 9, 10, 11, 12, 13, 14] rfl rfl rfl (by decide) (va_runS (As := [.int x21, .int v53, .long v3]) (rest := []) ⟨hx, hb, hml, hown, hts⟩ (f_X6_firstWay l G cI cJ cZ cB cQ _ x21 v53 v3) (va_cwS 3 hts (gS w_616 w_617 w_6 w_618) rfl rfl rfl hd_X6_firstWay ⟨Nat.le_of_ble_eq_true rfl, Nat.le_of_ble_eq_true rfl⟩) (mS hK hZ hP hD [] rfl rfl [.int x21, .int v53, .long v3]) rfl rfl hl.1 rfl (lv_room (Nat.le_of_ble_eq_true rfl)) dX6_walk_146 ⟨Nat.le_of_ble_eq_true rfl, Nat.le_of_ble_eq_true rfl⟩) (fun r106 u107 H locs hw108 hP hD hS => ?_)
            try dsimp only at hw108
            have hP : va_P G vwCl [(h0, oX6 b o_field o_houses), (b 0, .inl (cI, 287, .inl g22)), (b 1, .inl (cI, 7, .inl g23)), (b 2, .inl (cI, 7, .inl g24)), (b 3, .inl (cJ, 7, .inr (.inl g25))), (b 7, .inl (cJ, 13, .inr (.inl o_f7))), (b 8, .inl (cJ, 13, .inr (.inl g26))), (b 9, .inl (cJ, 13, .inr (.inl g27))), (bc 12, .inl (cI, 7, .inl c_f12)), (bc 14, .inl (cI, 7, .inl c_f14)), (bc 13, .inl (cI, 7, .inl c_f13)), (h2, oX7 z0 u_rule u_walkers u_creeks u_widow u_faces u_turn), (h1, oX0 bc c_lines c_span c_rule c_odds c_wide c_high c_creeks c_houses c_widows c_acts), (bc 16, .inl (cI, 7, .inl c_f16)), (bc 17, .inl (cI, 56, .inl c_f17))] H := hP
            have hD : va_D A [(h0, oX6 b o_field o_houses), (b 0, .inl (cI, 287, .inl g22)), (b 1, .inl (cI, 7, .inl g23)), (b 2, .inl (cI, 7, .inl g24)), (b 3, .inl (cJ, 7, .inr (.inl g25))), (b 7, .inl (cJ, 13, .inr (.inl o_f7))), (b 8, .inl (cJ, 13, .inr (.inl g26))), (b 9, .inl (cJ, 13, .inr (.inl g27))), (bc 12, .inl (cI, 7, .inl c_f12)), (bc 14, .inl (cI, 7, .inl c_f14)), (bc 13, .inl (cI, 7, .inl c_f13)), (h2, oX7 z0 u_rule u_walkers u_creeks u_widow u_faces u_turn), (h1, oX0 bc c_lines c_span c_rule c_odds c_wide c_high c_creeks c_houses c_widows c_acts), (bc 16, .inl (cI, 7, .inl c_f16)), (bc 17, .inl (cI, 56, .inl c_f17))] := hD
            obtain ⟨w109, w110⟩ : (-1) ≤ r106.toInt ∧ r106.toInt ≤ 3 := hw108
            refine lv_istore (lv' := [(13, .int r106), (10, .int v53), (12, .int x20), (11, .int x19), (9, .int x21), (7, .long v3), (5, .long v1), (0, .ref h0), (1, .ref h1), (2, .ref h2), (3, .int p0), (4, .int p1)]) hx hb dX6_walk_149 hl (by decide) rfl (fun ls hl => ?_)
            refine lv_iload hx hb dX6_walk_151 (lv_at hl 0 rfl) ?_
            refine lv_iconst (v := (-1)) hx hb dX6_walk_153 (by decide) ?_
            refine lv_icmp_ne (tgt := 170) hx hb dX6_walk_154 (by decide) (fun c111 => ?_) (fun c111 => ?_)
            · have c111 := i_ne rfl ki_m1 c111
              refine lv_iload hx hb dX6_walk_170 (lv_at hl 0 rfl) ?_
              refine lv_istore (lv' := [(10, .int r106), (13, .int r106), (12, .int x20), (11, .int x19), (9, .int x21), (7, .long v3), (5, .long v1), (0, .ref h0), (1, .ref h1), (2, .ref h2), (3, .int p0), (4, .int p1)]) hx hb dX6_walk_172 hl (by decide) rfl (fun ls hl => ?_)
              refine lv_aload_n hx hb dX6_walk_174 rfl (lv_at hl 7 rfl) ?_
              refine lv_iload hx hb dX6_walk_175 (lv_at hl 4 rfl) ?_
              refine lv_iload hx hb dX6_walk_177 (lv_at hl 1 rfl) ?_
              refine lv_iload hx hb dX6_walk_179 (lv_at hl 11 rfl) ?_
              refine k_v (wc := [(h0, oX6 b o_field o_houses), (b 8, .inl (cJ, 13, .inr (.inl g26))), (b 9, .inl (cJ, 13, .inr (.inl g27)))]) (wr := [(b 0, .inl (cI, 287, .inl g22)), (b 1, .inl (cI, 7, .inl g23)), (b 2, .inl (cI, 7, .inl g24)), (b 3, .inl (cJ, 7, .inr (.inl g25))), (b 7, .inl (cJ, 13, .inr (.inl o_f7))), (bc 12, .inl (cI, 7, .inl c_f12)), (bc 14, .inl (cI, 7, .inl c_f14)), (bc 13, .inl (cI, 7, .inl c_f13)), (h2, oX7 z0 u_rule u_walkers u_creeks u_widow u_faces u_turn), (h1, oX0 bc c_lines c_span c_rule c_odds c_wide c_high c_creeks c_houses c_widows c_acts), (bc 16, .inl (cI, 7, .inl c_f16)), (bc 17, .inl (cI, 56, .inl c_f17))]) hP hD hS hA [0, 6, 7] [1, 2, 3, 4, 5, 8, 9, 10, 11, 12, 13, 14] rfl rfl rfl (by decide) (va_runV (As := [.int x21, .int r106, .int p1]) (rest := []) ⟨hx, hb, hml, hown, hts⟩ (f_X6_peg l G cI cJ cZ cB cQ _ h0 x21 r106 p1 b o_field o_houses g26 g27 qp1_l qp1_h hl_o_houses hh_o_houses) (cwV 3 hts (gV w_623 w_625 wp_31 w_6 w_626) rfl rfl rfl ⟨rfl, hd_X6_peg⟩ ⟨Nat.le_of_ble_eq_true rfl, Nat.le_of_ble_eq_true rfl⟩) (mV hK hZ hP hD [0, 6, 7] rfl rfl [.int x21, .int r106, .int p1] 0 6 rfl rfl) rfl rfl hl.1 rfl (lv_room (Nat.le_of_ble_eq_true rfl)) dX6_walk_181 ⟨Nat.le_of_ble_eq_true rfl, Nat.le_of_ble_eq_true rfl⟩) (fun u113 H locs hw114 hP hD hS => ?_)
              obtain ⟨o_f8o115, o_f9o116⟩ := u113
              try dsimp only at hw114
              have hP : va_P G vwCl [(b 0, .inl (cI, 287, .inl g22)), (b 1, .inl (cI, 7, .inl g23)), (b 2, .inl (cI, 7, .inl g24)), (b 3, .inl (cJ, 7, .inr (.inl g25))), (b 7, .inl (cJ, 13, .inr (.inl o_f7))), (bc 12, .inl (cI, 7, .inl c_f12)), (bc 14, .inl (cI, 7, .inl c_f14)), (bc 13, .inl (cI, 7, .inl c_f13)), (h2, oX7 z0 u_rule u_walkers u_creeks u_widow u_faces u_turn), (h1, oX0 bc c_lines c_span c_rule c_odds c_wide c_high c_creeks c_houses c_widows c_acts), (bc 16, .inl (cI, 7, .inl c_f16)), (bc 17, .inl (cI, 56, .inl c_f17)), (h0, oX6 b o_field o_houses), (b 8, .inl (cJ, 13, .inr (.inl o_f8o115))), (b 9, .inl (cJ, 13, .inr (.inl o_f9o116)))] H := hP
              have hD : va_D A [(b 0, .inl (cI, 287, .inl g22)), (b 1, .inl (cI, 7, .inl g23)), (b 2, .inl (cI, 7, .inl g24)), (b 3, .inl (cJ, 7, .inr (.inl g25))), (b 7, .inl (cJ, 13, .inr (.inl o_f7))), (bc 12, .inl (cI, 7, .inl c_f12)), (bc 14, .inl (cI, 7, .inl c_f14)), (bc 13, .inl (cI, 7, .inl c_f13)), (h2, oX7 z0 u_rule u_walkers u_creeks u_widow u_faces u_turn), (h1, oX0 bc c_lines c_span c_rule c_odds c_wide c_high c_creeks c_houses c_widows c_acts), (bc 16, .inl (cI, 7, .inl c_f16)), (bc 17, .inl (cI, 56, .inl c_f17)), (h0, oX6 b o_field o_houses), (b 8, .inl (cJ, 13, .inr (.inl o_f8o115))), (b 9, .inl (cJ, 13, .inr (.inl o_f9o116)))] := hD
              refine lv_iload hx hb dX6_walk_184 (lv_at hl 4 rfl) ?_
              refine lv_iload hx hb dX6_walk_186 (lv_at hl 1 rfl) ?_
              refine k_i (wc := []) (wr := [(b 0, .inl (cI, 287, .inl g22)), (b 1, .inl (cI, 7, .inl g23)), (b 2, .inl (cI, 7, .inl g24)), (b 3, .inl (cJ, 7, .inr (.inl g25))), (b 7, .inl (cJ, 13, .inr (.inl o_f7))), (bc 12, .inl (cI, 7, .inl c_f12)), (bc 14, .inl (cI, 7, .inl c_f14)), (bc 13, .inl (cI, 7, .inl c_f13)), (h2, oX7 z0 u_rule u_walkers u_creeks u_widow u_faces u_turn), (h1, oX0 bc c_lines c_span c_rule c_odds c_wide c_high c_creeks c_houses c_widows c_acts), (bc 16, .inl (cI, 7, .inl c_f16)), (bc 17, .inl (cI, 56, .inl c_f17)), (h0, oX6 b o_field o_houses), (b 8, .inl (cJ, 13, .inr (.inl o_f8o115))), (b 9, .inl (cJ, 13, .inr (.inl o_f9o116)))]) hP hD hS hA [] [0, 1, 2, 3, 4, 5, 6, 7, 8, 9, 10, 11, 12, 13, 14] rfl rfl rfl (by decide) (va_runSN (As := [.int x21, .int r106]) (rest := []) ⟨hx, hb, hml, hown, hts⟩ (f_X9_beside l G cI cJ cZ cB cQ _ x21 r106) ⟨va_cnB (host := "WidowRoads") 2 hts (gW w_621) rfl rfl rfl (nz_nw hZ nw_619 rfl) (hts _ w_1) hd_X9_beside ⟨Nat.le_of_ble_eq_true rfl, Nat.le_of_ble_eq_true rfl⟩, (hts _ w_620), trivial⟩ (mS hK hZ hP hD [] rfl rfl [.int x21, .int r106]) rfl rfl hl.1 rfl (lv_room (Nat.le_of_ble_eq_true rfl)) dX6_walk_188 ⟨Nat.le_of_ble_eq_true rfl, Nat.le_of_ble_eq_true rfl⟩) (fun r117 u118 H locs hw119 hP hD hS => ?_)
              try dsimp only at hw119
              have hP : va_P G vwCl [(b 0, .inl (cI, 287, .inl g22)), (b 1, .inl (cI, 7, .inl g23)), (b 2, .inl (cI, 7, .inl g24)), (b 3, .inl (cJ, 7, .inr (.inl g25))), (b 7, .inl (cJ, 13, .inr (.inl o_f7))), (bc 12, .inl (cI, 7, .inl c_f12)), (bc 14, .inl (cI, 7, .inl c_f14)), (bc 13, .inl (cI, 7, .inl c_f13)), (h2, oX7 z0 u_rule u_walkers u_creeks u_widow u_faces u_turn), (h1, oX0 bc c_lines c_span c_rule c_odds c_wide c_high c_creeks c_houses c_widows c_acts), (bc 16, .inl (cI, 7, .inl c_f16)), (bc 17, .inl (cI, 56, .inl c_f17)), (h0, oX6 b o_field o_houses), (b 8, .inl (cJ, 13, .inr (.inl o_f8o115))), (b 9, .inl (cJ, 13, .inr (.inl o_f9o116)))] H := hP
              have hD : va_D A [(b 0, .inl (cI, 287, .inl g22)), (b 1, .inl (cI, 7, .inl g23)), (b 2, .inl (cI, 7, .inl g24)), (b 3, .inl (cJ, 7, .inr (.inl g25))), (b 7, .inl (cJ, 13, .inr (.inl o_f7))), (bc 12, .inl (cI, 7, .inl c_f12)), (bc 14, .inl (cI, 7, .inl c_f14)), (bc 13, .inl (cI, 7, .inl c_f13)), (h2, oX7 z0 u_rule u_walkers u_creeks u_widow u_faces u_turn), (h1, oX0 bc c_lines c_span c_rule c_odds c_wide c_high c_creeks c_houses c_widows c_acts), (bc 16, .inl (cI, 7, .inl c_f16)), (bc 17, .inl (cI, 56, .inl c_f17)), (h0, oX6 b o_field o_houses), (b 8, .inl (cJ, 13, .inr (.inl o_f8o115))), (b 9, .inl (cJ, 13, .inr (.inl o_f9o116)))] := hD
              refine lv_istore (lv' := [(9, .int r117), (10, .int r106), (13, .int r106), (12, .int x20), (11, .int x19), (7, .long v3), (5, .long v1), (0, .ref h0), (1, .ref h1), (2, .ref h2), (3, .int p0), (4, .int p1)]) hx hb dX6_walk_191 hl (by decide) rfl (fun ls hl => ?_)
              refine lv_aload_n hx hb dX6_walk_193 rfl (lv_at hl 7 rfl) ?_
              refine va_get (D := G) (ci := 6) (v := .ref (b 3)) (C := RX6) (T := TX6) (N := 12) hx hb hts iG_X6 hown hK hP 12 rfl rfl 3 (by decide) (hts _ w_238) (fun _ h9 => h9) rfl dX6_walk_194 ?_
              refine lv_iload_n hx hb dX6_walk_197 rfl (lv_at hl 10 rfl) ?_
              refine lv_dup2_11 hx hb dX6_walk_198 rfl rfl ?_
              refine va_lald hx hb hK hP 3 1 rfl rfl (ix_in rfl (by omega) (by omega)) dX6_walk_199 ?_
              refine lv_topl (fun v120 ev120 => ?_)
              refine lv_iload hx hb dX6_walk_200 (lv_at hl 0 rfl) ?_
              refine k_l (wc := []) (wr := [(b 0, .inl (cI, 287, .inl g22)), (b 1, .inl (cI, 7, .inl g23)), (b 2, .inl (cI, 7, .inl g24)), (b 3, .inl (cJ, 7, .inr (.inl g25))), (b 7, .inl (cJ, 13, .inr (.inl o_f7))), (bc 12, .inl (cI, 7, .inl c_f12)), (bc 14, .inl (cI, 7, .inl c_f14)), (bc 13, .inl (cI, 7, .inl c_f13)), (h2, oX7 z0 u_rule u_walkers u_creeks u_widow u_faces u_turn), (h1, oX0 bc c_lines c_span c_rule c_odds c_wide c_high c_creeks c_houses c_widows c_acts), (bc 16, .inl (cI, 7, .inl c_f16)), (bc 17, .inl (cI, 56, .inl c_f17)), (h0, oX6 b o_field o_houses), (b 8, .inl (cJ, 13, .inr (.inl o_f8o115))), (b 9, .inl (cJ, 13, .inr (.inl o_f9o116)))]) hP hD hS hA [] [0, 1, 2, 3, 4, 5, 6, 7, 8, 9, 10, 11, 12, 13, 14] rfl rfl rfl (by decide) (va_runSN (As := [.int r117]) (rest := [.long v120, .int p0, .ref (b 3)]) ⟨hx, hb, hml, hown, hts⟩ (f_X9_bit l G cI cJ cZ cB cQ _ r117) ⟨va_cnB (host := "WidowRoads") 1 hts (gW w_519) rfl rfl rfl (nz_nw hZ nw_608 rfl) (hts _ w_1) hd_X9_bit ⟨Nat.le_of_ble_eq_true rfl, Nat.le_of_ble_eq_true rfl⟩, (hts _ w_518), trivial⟩ (mS hK hZ hP hD [] rfl rfl [.int r117]) rfl rfl hl.1 rfl (lv_room (Nat.le_of_ble_eq_true rfl)) dX6_walk_202 ⟨Nat.le_of_ble_eq_true rfl, Nat.le_of_ble_eq_true rfl⟩) (fun r121 u122 H locs hw123 hP hD hS => ?_)
              try dsimp only at hw123
              have hP : va_P G vwCl [(b 0, .inl (cI, 287, .inl g22)), (b 1, .inl (cI, 7, .inl g23)), (b 2, .inl (cI, 7, .inl g24)), (b 3, .inl (cJ, 7, .inr (.inl g25))), (b 7, .inl (cJ, 13, .inr (.inl o_f7))), (bc 12, .inl (cI, 7, .inl c_f12)), (bc 14, .inl (cI, 7, .inl c_f14)), (bc 13, .inl (cI, 7, .inl c_f13)), (h2, oX7 z0 u_rule u_walkers u_creeks u_widow u_faces u_turn), (h1, oX0 bc c_lines c_span c_rule c_odds c_wide c_high c_creeks c_houses c_widows c_acts), (bc 16, .inl (cI, 7, .inl c_f16)), (bc 17, .inl (cI, 56, .inl c_f17)), (h0, oX6 b o_field o_houses), (b 8, .inl (cJ, 13, .inr (.inl o_f8o115))), (b 9, .inl (cJ, 13, .inr (.inl o_f9o116)))] H := hP
              have hD : va_D A [(b 0, .inl (cI, 287, .inl g22)), (b 1, .inl (cI, 7, .inl g23)), (b 2, .inl (cI, 7, .inl g24)), (b 3, .inl (cJ, 7, .inr (.inl g25))), (b 7, .inl (cJ, 13, .inr (.inl o_f7))), (bc 12, .inl (cI, 7, .inl c_f12)), (bc 14, .inl (cI, 7, .inl c_f14)), (bc 13, .inl (cI, 7, .inl c_f13)), (h2, oX7 z0 u_rule u_walkers u_creeks u_widow u_faces u_turn), (h1, oX0 bc c_lines c_span c_rule c_odds c_wide c_high c_creeks c_houses c_widows c_acts), (bc 16, .inl (cI, 7, .inl c_f16)), (bc 17, .inl (cI, 56, .inl c_f17)), (h0, oX6 b o_field o_houses), (b 8, .inl (cJ, 13, .inr (.inl o_f8o115))), (b 9, .inl (cJ, 13, .inr (.inl o_f9o116)))] := hD
              refine lv_lor hx hb dX6_walk_205 ?_
              refine lv_topl (fun v124 ev124 => ?_)
              refine va_last hx hb hK hP hD hS 3 1 rfl rfl (ix_in rfl (by omega) (by omega)) dX6_walk_206 (fun H locs hP hD hS => ?_)
              obtain ⟨f125, qf125⟩ : ∃ g, g = vp_updL g25 p0.toNatClampNeg v124 := ⟨_, rfl⟩
              rw [← qf125] at hP hD
              have hP : va_P G vwCl [(b 0, .inl (cI, 287, .inl g22)), (b 1, .inl (cI, 7, .inl g23)), (b 2, .inl (cI, 7, .inl g24)), (b 3, .inl (cJ, 7, .inr (.inl f125))), (b 7, .inl (cJ, 13, .inr (.inl o_f7))), (bc 12, .inl (cI, 7, .inl c_f12)), (bc 14, .inl (cI, 7, .inl c_f14)), (bc 13, .inl (cI, 7, .inl c_f13)), (h2, oX7 z0 u_rule u_walkers u_creeks u_widow u_faces u_turn), (h1, oX0 bc c_lines c_span c_rule c_odds c_wide c_high c_creeks c_houses c_widows c_acts), (bc 16, .inl (cI, 7, .inl c_f16)), (bc 17, .inl (cI, 56, .inl c_f17)), (h0, oX6 b o_field o_houses), (b 8, .inl (cJ, 13, .inr (.inl o_f8o115))), (b 9, .inl (cJ, 13, .inr (.inl o_f9o116)))] H := hP
              have hD : va_D A [(b 0, .inl (cI, 287, .inl g22)), (b 1, .inl (cI, 7, .inl g23)), (b 2, .inl (cI, 7, .inl g24)), (b 3, .inl (cJ, 7, .inr (.inl f125))), (b 7, .inl (cJ, 13, .inr (.inl o_f7))), (bc 12, .inl (cI, 7, .inl c_f12)), (bc 14, .inl (cI, 7, .inl c_f14)), (bc 13, .inl (cI, 7, .inl c_f13)), (h2, oX7 z0 u_rule u_walkers u_creeks u_widow u_faces u_turn), (h1, oX0 bc c_lines c_span c_rule c_odds c_wide c_high c_creeks c_houses c_widows c_acts), (bc 16, .inl (cI, 7, .inl c_f16)), (bc 17, .inl (cI, 56, .inl c_f17)), (h0, oX6 b o_field o_houses), (b 8, .inl (cJ, 13, .inr (.inl o_f8o115))), (b 9, .inl (cJ, 13, .inr (.inl o_f9o116)))] := hD
              refine lv_aload_n hx hb dX6_walk_207 rfl (lv_at hl 9 rfl) ?_
              refine va_getN (D := G) (ci := 7) (v := .int u_rule) (C := RX7) (T := TX7) (N := 6) hx hb hts iG_X7 hown hK hP 8 rfl rfl 0 (by decide) (nz_use hZ nw_199 rfl) (fun _ h9 => h9) rfl dX6_walk_208 ?_
              refine lv_iconst (v := 3) hx hb dX6_walk_211 (by decide) ?_
              refine lv_icmp_ne (tgt := 229) hx hb dX6_walk_212 (by decide) (fun c126 => ?_) (fun c126 => ?_)
              · have c126 := i_ne rfl ki_3 c126
                refine lv_iconst (v := 0) hx hb dX6_walk_229 (by decide) ?_
                refine lv_istore (lv' := [(11, .int 0), (9, .int r117), (10, .int r106), (13, .int r106), (12, .int x20), (7, .long v3), (5, .long v1), (0, .ref h0), (1, .ref h1), (2, .ref h2), (3, .int p0), (4, .int p1)]) hx hb dX6_walk_230 hl (by decide) rfl (fun ls hl => ?_)
                refine lv_aload_n hx hb dX6_walk_232 rfl (lv_at hl 7 rfl) ?_
                refine va_get (D := G) (ci := 6) (v := .ref (b 0)) (C := RX6) (T := TX6) (N := 12) hx hb hts iG_X6 hown hK hP 12 rfl rfl 0 (by decide) (hts _ w_233) (fun _ h9 => h9) rfl dX6_walk_233 ?_
                refine lv_iload_n hx hb dX6_walk_236 rfl (lv_at hl 10 rfl) ?_
                refine lv_bipush (v := 41) hx hb dX6_walk_237 (by decide) ?_
                refine lv_imul hx hb dX6_walk_239 ?_
                refine lv_topi (fun v127 ev127 => ?_)
                have tv127 : v127.toInt = p0.toInt * 41 := ti_mul rfl ki_41 ev127 (by omega) (by omega)
                refine lv_iload hx hb dX6_walk_240 (lv_at hl 4 rfl) ?_
                refine lv_iadd hx hb dX6_walk_242 ?_
                refine lv_topi (fun v128 ev128 => ?_)
                have tv128 : v128.toInt = p0.toInt * 41 + x20.toInt := ti_add tv127 rfl ev128 (by omega) (by omega)
                refine lv_iload hx hb dX6_walk_243 (lv_at hl 1 rfl) ?_
                refine va_iast hx hb hK hP hD hS 0 0 rfl rfl (ix_in tv128 (by omega) (by omega)) dX6_walk_245 (fun H locs hP hD hS => ?_)
                obtain ⟨f129, qf129⟩ : ∃ g, g = upd g22 v128.toNatClampNeg r117 := ⟨_, rfl⟩
                rw [← qf129] at hP hD
                have hP : va_P G vwCl [(b 0, .inl (cI, 287, .inl f129)), (b 1, .inl (cI, 7, .inl g23)), (b 2, .inl (cI, 7, .inl g24)), (b 3, .inl (cJ, 7, .inr (.inl f125))), (b 7, .inl (cJ, 13, .inr (.inl o_f7))), (bc 12, .inl (cI, 7, .inl c_f12)), (bc 14, .inl (cI, 7, .inl c_f14)), (bc 13, .inl (cI, 7, .inl c_f13)), (h2, oX7 z0 u_rule u_walkers u_creeks u_widow u_faces u_turn), (h1, oX0 bc c_lines c_span c_rule c_odds c_wide c_high c_creeks c_houses c_widows c_acts), (bc 16, .inl (cI, 7, .inl c_f16)), (bc 17, .inl (cI, 56, .inl c_f17)), (h0, oX6 b o_field o_houses), (b 8, .inl (cJ, 13, .inr (.inl o_f8o115))), (b 9, .inl (cJ, 13, .inr (.inl o_f9o116)))] H := hP
                have hD : va_D A [(b 0, .inl (cI, 287, .inl f129)), (b 1, .inl (cI, 7, .inl g23)), (b 2, .inl (cI, 7, .inl g24)), (b 3, .inl (cJ, 7, .inr (.inl f125))), (b 7, .inl (cJ, 13, .inr (.inl o_f7))), (bc 12, .inl (cI, 7, .inl c_f12)), (bc 14, .inl (cI, 7, .inl c_f14)), (bc 13, .inl (cI, 7, .inl c_f13)), (h2, oX7 z0 u_rule u_walkers u_creeks u_widow u_faces u_turn), (h1, oX0 bc c_lines c_span c_rule c_odds c_wide c_high c_creeks c_houses c_widows c_acts), (bc 16, .inl (cI, 7, .inl c_f16)), (bc 17, .inl (cI, 56, .inl c_f17)), (h0, oX6 b o_field o_houses), (b 8, .inl (cJ, 13, .inr (.inl o_f8o115))), (b 9, .inl (cJ, 13, .inr (.inl o_f9o116)))] := hD
                refine lv_aload_n hx hb dX6_walk_246 rfl (lv_at hl 7 rfl) ?_
                refine va_get (D := G) (ci := 6) (v := .ref (b 1)) (C := RX6) (T := TX6) (N := 12) hx hb hts iG_X6 hown hK hP 12 rfl rfl 1 (by decide) (hts _ w_234) (fun _ h9 => h9) rfl dX6_walk_247 ?_
                refine lv_iload_n hx hb dX6_walk_250 rfl (lv_at hl 10 rfl) ?_
                refine lv_iload hx hb dX6_walk_251 (lv_at hl 4 rfl) ?_
                refine va_iast hx hb hK hP hD hS 1 0 rfl rfl (ix_in rfl (by omega) (by omega)) dX6_walk_253 (fun H locs hP hD hS => ?_)
                obtain ⟨f130, qf130⟩ : ∃ g, g = upd g23 p0.toNatClampNeg x20 := ⟨_, rfl⟩
                rw [← qf130] at hP hD
                have hi131 : ai f130 7 (-1) 40 := by rw [qf130]; exact ai_put k32 rfl (by omega) (by omega)
                have hP : va_P G vwCl [(b 0, .inl (cI, 287, .inl f129)), (b 1, .inl (cI, 7, .inl f130)), (b 2, .inl (cI, 7, .inl g24)), (b 3, .inl (cJ, 7, .inr (.inl f125))), (b 7, .inl (cJ, 13, .inr (.inl o_f7))), (bc 12, .inl (cI, 7, .inl c_f12)), (bc 14, .inl (cI, 7, .inl c_f14)), (bc 13, .inl (cI, 7, .inl c_f13)), (h2, oX7 z0 u_rule u_walkers u_creeks u_widow u_faces u_turn), (h1, oX0 bc c_lines c_span c_rule c_odds c_wide c_high c_creeks c_houses c_widows c_acts), (bc 16, .inl (cI, 7, .inl c_f16)), (bc 17, .inl (cI, 56, .inl c_f17)), (h0, oX6 b o_field o_houses), (b 8, .inl (cJ, 13, .inr (.inl o_f8o115))), (b 9, .inl (cJ, 13, .inr (.inl o_f9o116)))] H := hP
                have hD : va_D A [(b 0, .inl (cI, 287, .inl f129)), (b 1, .inl (cI, 7, .inl f130)), (b 2, .inl (cI, 7, .inl g24)), (b 3, .inl (cJ, 7, .inr (.inl f125))), (b 7, .inl (cJ, 13, .inr (.inl o_f7))), (bc 12, .inl (cI, 7, .inl c_f12)), (bc 14, .inl (cI, 7, .inl c_f14)), (bc 13, .inl (cI, 7, .inl c_f13)), (h2, oX7 z0 u_rule u_walkers u_creeks u_widow u_faces u_turn), (h1, oX0 bc c_lines c_span c_rule c_odds c_wide c_high c_creeks c_houses c_widows c_acts), (bc 16, .inl (cI, 7, .inl c_f16)), (bc 17, .inl (cI, 56, .inl c_f17)), (h0, oX6 b o_field o_houses), (b 8, .inl (cJ, 13, .inr (.inl o_f8o115))), (b 9, .inl (cJ, 13, .inr (.inl o_f9o116)))] := hD
                obtain ⟨v132, ev132⟩ : ∃ y : Int32, y = x20 + 1 := ⟨_, rfl⟩
                have tv132 : v132.toInt = x20.toInt + 1 := ti_add rfl ki_1 ev132 (by omega) (by omega)
                refine lv_iinc (v := v132) (lv' := [(12, .int v132), (11, .int 0), (9, .int r117), (10, .int r106), (13, .int r106), (7, .long v3), (5, .long v1), (0, .ref h0), (1, .ref h1), (2, .ref h2), (3, .int p0), (4, .int p1)]) hx hb dX6_walk_254 hl (k := 4) rfl (by rw [ev132]; rfl) (by decide) rfl (fun ls hl => ?_)
                refine lv_goto (tgt := 75) hx hb dX6_walk_257 (by decide) ?_
                exact ih33 r106 0 v132 r117 f129 f130 g24 f125 o_f8o115 o_f9o116 (by rw [ki_0]; decide) (by rw [ki_0]; decide) (by omega) (by omega) hi131 (by omega) _ _ (hP.sub [12, 0, 1, 2, 3, 4, 13, 14, 5, 6, 10, 11, 8, 9, 7] rfl) (hD.sub [12, 0, 1, 2, 3, 4, 13, 14, 5, 6, 10, 11, 8, 9, 7] rfl rfl) hS ls (lv_sub hl [0, 1, 3, 2, 5, 6, 7, 8, 9, 10, 11] rfl)
              · have c126 := i_eq rfl ki_3 c126
                refine lv_lload hx hb dX6_walk_215 (lv_at hl 6 rfl) ?_
                refine lv_iload hx hb dX6_walk_217 (lv_at hl 0 rfl) ?_
                refine k_i (wc := []) (wr := [(b 0, .inl (cI, 287, .inl g22)), (b 1, .inl (cI, 7, .inl g23)), (b 2, .inl (cI, 7, .inl g24)), (b 3, .inl (cJ, 7, .inr (.inl f125))), (b 7, .inl (cJ, 13, .inr (.inl o_f7))), (bc 12, .inl (cI, 7, .inl c_f12)), (bc 14, .inl (cI, 7, .inl c_f14)), (bc 13, .inl (cI, 7, .inl c_f13)), (h2, oX7 z0 u_rule u_walkers u_creeks u_widow u_faces u_turn), (h1, oX0 bc c_lines c_span c_rule c_odds c_wide c_high c_creeks c_houses c_widows c_acts), (bc 16, .inl (cI, 7, .inl c_f16)), (bc 17, .inl (cI, 56, .inl c_f17)), (h0, oX6 b o_field o_houses), (b 8, .inl (cJ, 13, .inr (.inl o_f8o115))), (b 9, .inl (cJ, 13, .inr (.inl o_f9o116)))]) hP hD hS hA [] [0, 1, 2, 3, 4, 5, 6, 7, 8, 9, 10, 11, 12, 13, 14] rfl rfl rfl (by decide) (va_runSN (As := [.long v1, .int r117]) (rest := []) ⟨hx, hb, hml, hown, hts⟩ (f_X9_has l G cI cJ cZ cB cQ _ v1 r117) ⟨va_cnB (host := "WidowRoads") 2 hts (gW w_527) rfl rfl rfl (nz_nw hZ nw_622 rfl) (hts _ w_1) hd_X9_has ⟨Nat.le_of_ble_eq_true rfl, Nat.le_of_ble_eq_true rfl⟩, (hts _ w_526), trivial⟩ (mS hK hZ hP hD [] rfl rfl [.long v1, .int r117]) rfl rfl hl.1 rfl (lv_room (Nat.le_of_ble_eq_true rfl)) dX6_walk_219 ⟨Nat.le_of_ble_eq_true rfl, Nat.le_of_ble_eq_true rfl⟩) (fun r133 u134 H locs hw135 hP hD hS => ?_)
                try dsimp only at hw135
                have hP : va_P G vwCl [(b 0, .inl (cI, 287, .inl g22)), (b 1, .inl (cI, 7, .inl g23)), (b 2, .inl (cI, 7, .inl g24)), (b 3, .inl (cJ, 7, .inr (.inl f125))), (b 7, .inl (cJ, 13, .inr (.inl o_f7))), (bc 12, .inl (cI, 7, .inl c_f12)), (bc 14, .inl (cI, 7, .inl c_f14)), (bc 13, .inl (cI, 7, .inl c_f13)), (h2, oX7 z0 u_rule u_walkers u_creeks u_widow u_faces u_turn), (h1, oX0 bc c_lines c_span c_rule c_odds c_wide c_high c_creeks c_houses c_widows c_acts), (bc 16, .inl (cI, 7, .inl c_f16)), (bc 17, .inl (cI, 56, .inl c_f17)), (h0, oX6 b o_field o_houses), (b 8, .inl (cJ, 13, .inr (.inl o_f8o115))), (b 9, .inl (cJ, 13, .inr (.inl o_f9o116)))] H := hP
                have hD : va_D A [(b 0, .inl (cI, 287, .inl g22)), (b 1, .inl (cI, 7, .inl g23)), (b 2, .inl (cI, 7, .inl g24)), (b 3, .inl (cJ, 7, .inr (.inl f125))), (b 7, .inl (cJ, 13, .inr (.inl o_f7))), (bc 12, .inl (cI, 7, .inl c_f12)), (bc 14, .inl (cI, 7, .inl c_f14)), (bc 13, .inl (cI, 7, .inl c_f13)), (h2, oX7 z0 u_rule u_walkers u_creeks u_widow u_faces u_turn), (h1, oX0 bc c_lines c_span c_rule c_odds c_wide c_high c_creeks c_houses c_widows c_acts), (bc 16, .inl (cI, 7, .inl c_f16)), (bc 17, .inl (cI, 56, .inl c_f17)), (h0, oX6 b o_field o_houses), (b 8, .inl (cJ, 13, .inr (.inl o_f8o115))), (b 9, .inl (cJ, 13, .inr (.inl o_f9o116)))] := hD
                obtain ⟨w136, w137⟩ : 0 ≤ r133.toInt ∧ r133.toInt ≤ 1 := hw135
                refine lv_if_eq (tgt := 229) hx hb dX6_walk_222 (by decide) (fun c138 => ?_) (fun c138 => ?_)
                · have c138 := i_eq rfl ki_0 c138
                  refine lv_iconst (v := 0) hx hb dX6_walk_229 (by decide) ?_
                  refine lv_istore (lv' := [(11, .int 0), (9, .int r117), (10, .int r106), (13, .int r106), (12, .int x20), (7, .long v3), (5, .long v1), (0, .ref h0), (1, .ref h1), (2, .ref h2), (3, .int p0), (4, .int p1)]) hx hb dX6_walk_230 hl (by decide) rfl (fun ls hl => ?_)
                  refine lv_aload_n hx hb dX6_walk_232 rfl (lv_at hl 7 rfl) ?_
                  refine va_get (D := G) (ci := 6) (v := .ref (b 0)) (C := RX6) (T := TX6) (N := 12) hx hb hts iG_X6 hown hK hP 12 rfl rfl 0 (by decide) (hts _ w_233) (fun _ h9 => h9) rfl dX6_walk_233 ?_
                  refine lv_iload_n hx hb dX6_walk_236 rfl (lv_at hl 10 rfl) ?_
                  refine lv_bipush (v := 41) hx hb dX6_walk_237 (by decide) ?_
                  refine lv_imul hx hb dX6_walk_239 ?_
                  refine lv_topi (fun v139 ev139 => ?_)
                  have tv139 : v139.toInt = p0.toInt * 41 := ti_mul rfl ki_41 ev139 (by omega) (by omega)
                  refine lv_iload hx hb dX6_walk_240 (lv_at hl 4 rfl) ?_
                  refine lv_iadd hx hb dX6_walk_242 ?_
                  refine lv_topi (fun v140 ev140 => ?_)
                  have tv140 : v140.toInt = p0.toInt * 41 + x20.toInt := ti_add tv139 rfl ev140 (by omega) (by omega)
                  refine lv_iload hx hb dX6_walk_243 (lv_at hl 1 rfl) ?_
                  refine va_iast hx hb hK hP hD hS 0 0 rfl rfl (ix_in tv140 (by omega) (by omega)) dX6_walk_245 (fun H locs hP hD hS => ?_)
                  obtain ⟨f141, qf141⟩ : ∃ g, g = upd g22 v140.toNatClampNeg r117 := ⟨_, rfl⟩
                  rw [← qf141] at hP hD
                  have hP : va_P G vwCl [(b 0, .inl (cI, 287, .inl f141)), (b 1, .inl (cI, 7, .inl g23)), (b 2, .inl (cI, 7, .inl g24)), (b 3, .inl (cJ, 7, .inr (.inl f125))), (b 7, .inl (cJ, 13, .inr (.inl o_f7))), (bc 12, .inl (cI, 7, .inl c_f12)), (bc 14, .inl (cI, 7, .inl c_f14)), (bc 13, .inl (cI, 7, .inl c_f13)), (h2, oX7 z0 u_rule u_walkers u_creeks u_widow u_faces u_turn), (h1, oX0 bc c_lines c_span c_rule c_odds c_wide c_high c_creeks c_houses c_widows c_acts), (bc 16, .inl (cI, 7, .inl c_f16)), (bc 17, .inl (cI, 56, .inl c_f17)), (h0, oX6 b o_field o_houses), (b 8, .inl (cJ, 13, .inr (.inl o_f8o115))), (b 9, .inl (cJ, 13, .inr (.inl o_f9o116)))] H := hP
                  have hD : va_D A [(b 0, .inl (cI, 287, .inl f141)), (b 1, .inl (cI, 7, .inl g23)), (b 2, .inl (cI, 7, .inl g24)), (b 3, .inl (cJ, 7, .inr (.inl f125))), (b 7, .inl (cJ, 13, .inr (.inl o_f7))), (bc 12, .inl (cI, 7, .inl c_f12)), (bc 14, .inl (cI, 7, .inl c_f14)), (bc 13, .inl (cI, 7, .inl c_f13)), (h2, oX7 z0 u_rule u_walkers u_creeks u_widow u_faces u_turn), (h1, oX0 bc c_lines c_span c_rule c_odds c_wide c_high c_creeks c_houses c_widows c_acts), (bc 16, .inl (cI, 7, .inl c_f16)), (bc 17, .inl (cI, 56, .inl c_f17)), (h0, oX6 b o_field o_houses), (b 8, .inl (cJ, 13, .inr (.inl o_f8o115))), (b 9, .inl (cJ, 13, .inr (.inl o_f9o116)))] := hD
                  refine lv_aload_n hx hb dX6_walk_246 rfl (lv_at hl 7 rfl) ?_
                  refine va_get (D := G) (ci := 6) (v := .ref (b 1)) (C := RX6) (T := TX6) (N := 12) hx hb hts iG_X6 hown hK hP 12 rfl rfl 1 (by decide) (hts _ w_234) (fun _ h9 => h9) rfl dX6_walk_247 ?_
                  refine lv_iload_n hx hb dX6_walk_250 rfl (lv_at hl 10 rfl) ?_
                  refine lv_iload hx hb dX6_walk_251 (lv_at hl 4 rfl) ?_
                  refine va_iast hx hb hK hP hD hS 1 0 rfl rfl (ix_in rfl (by omega) (by omega)) dX6_walk_253 (fun H locs hP hD hS => ?_)
                  obtain ⟨f142, qf142⟩ : ∃ g, g = upd g23 p0.toNatClampNeg x20 := ⟨_, rfl⟩
                  rw [← qf142] at hP hD
                  have hi143 : ai f142 7 (-1) 40 := by rw [qf142]; exact ai_put k32 rfl (by omega) (by omega)
                  have hP : va_P G vwCl [(b 0, .inl (cI, 287, .inl f141)), (b 1, .inl (cI, 7, .inl f142)), (b 2, .inl (cI, 7, .inl g24)), (b 3, .inl (cJ, 7, .inr (.inl f125))), (b 7, .inl (cJ, 13, .inr (.inl o_f7))), (bc 12, .inl (cI, 7, .inl c_f12)), (bc 14, .inl (cI, 7, .inl c_f14)), (bc 13, .inl (cI, 7, .inl c_f13)), (h2, oX7 z0 u_rule u_walkers u_creeks u_widow u_faces u_turn), (h1, oX0 bc c_lines c_span c_rule c_odds c_wide c_high c_creeks c_houses c_widows c_acts), (bc 16, .inl (cI, 7, .inl c_f16)), (bc 17, .inl (cI, 56, .inl c_f17)), (h0, oX6 b o_field o_houses), (b 8, .inl (cJ, 13, .inr (.inl o_f8o115))), (b 9, .inl (cJ, 13, .inr (.inl o_f9o116)))] H := hP
                  have hD : va_D A [(b 0, .inl (cI, 287, .inl f141)), (b 1, .inl (cI, 7, .inl f142)), (b 2, .inl (cI, 7, .inl g24)), (b 3, .inl (cJ, 7, .inr (.inl f125))), (b 7, .inl (cJ, 13, .inr (.inl o_f7))), (bc 12, .inl (cI, 7, .inl c_f12)), (bc 14, .inl (cI, 7, .inl c_f14)), (bc 13, .inl (cI, 7, .inl c_f13)), (h2, oX7 z0 u_rule u_walkers u_creeks u_widow u_faces u_turn), (h1, oX0 bc c_lines c_span c_rule c_odds c_wide c_high c_creeks c_houses c_widows c_acts), (bc 16, .inl (cI, 7, .inl c_f16)), (bc 17, .inl (cI, 56, .inl c_f17)), (h0, oX6 b o_field o_houses), (b 8, .inl (cJ, 13, .inr (.inl o_f8o115))), (b 9, .inl (cJ, 13, .inr (.inl o_f9o116)))] := hD
                  obtain ⟨v144, ev144⟩ : ∃ y : Int32, y = x20 + 1 := ⟨_, rfl⟩
                  have tv144 : v144.toInt = x20.toInt + 1 := ti_add rfl ki_1 ev144 (by omega) (by omega)
                  refine lv_iinc (v := v144) (lv' := [(12, .int v144), (11, .int 0), (9, .int r117), (10, .int r106), (13, .int r106), (7, .long v3), (5, .long v1), (0, .ref h0), (1, .ref h1), (2, .ref h2), (3, .int p0), (4, .int p1)]) hx hb dX6_walk_254 hl (k := 4) rfl (by rw [ev144]; rfl) (by decide) rfl (fun ls hl => ?_)
                  refine lv_goto (tgt := 75) hx hb dX6_walk_257 (by decide) ?_
                  exact ih33 r106 0 v144 r117 f141 f142 g24 f125 o_f8o115 o_f9o116 (by rw [ki_0]; decide) (by rw [ki_0]; decide) (by omega) (by omega) hi143 (by omega) _ _ (hP.sub [12, 0, 1, 2, 3, 4, 13, 14, 5, 6, 10, 11, 8, 9, 7] rfl) (hD.sub [12, 0, 1, 2, 3, 4, 13, 14, 5, 6, 10, 11, 8, 9, 7] rfl rfl) hS ls (lv_sub hl [0, 1, 3, 2, 5, 6, 7, 8, 9, 10, 11] rfl)
                · have c138 := i_ne rfl ki_0 c138
                  refine lv_iconst (v := 1) hx hb dX6_walk_225 (by decide) ?_
                  refine lv_goto (tgt := 230) hx hb dX6_walk_226 (by decide) ?_
                  refine lv_istore (lv' := [(11, .int 1), (9, .int r117), (10, .int r106), (13, .int r106), (12, .int x20), (7, .long v3), (5, .long v1), (0, .ref h0), (1, .ref h1), (2, .ref h2), (3, .int p0), (4, .int p1)]) hx hb dX6_walk_230 hl (by decide) rfl (fun ls hl => ?_)
                  refine lv_aload_n hx hb dX6_walk_232 rfl (lv_at hl 7 rfl) ?_
                  refine va_get (D := G) (ci := 6) (v := .ref (b 0)) (C := RX6) (T := TX6) (N := 12) hx hb hts iG_X6 hown hK hP 12 rfl rfl 0 (by decide) (hts _ w_233) (fun _ h9 => h9) rfl dX6_walk_233 ?_
                  refine lv_iload_n hx hb dX6_walk_236 rfl (lv_at hl 10 rfl) ?_
                  refine lv_bipush (v := 41) hx hb dX6_walk_237 (by decide) ?_
                  refine lv_imul hx hb dX6_walk_239 ?_
                  refine lv_topi (fun v145 ev145 => ?_)
                  have tv145 : v145.toInt = p0.toInt * 41 := ti_mul rfl ki_41 ev145 (by omega) (by omega)
                  refine lv_iload hx hb dX6_walk_240 (lv_at hl 4 rfl) ?_
                  refine lv_iadd hx hb dX6_walk_242 ?_
                  refine lv_topi (fun v146 ev146 => ?_)
                  have tv146 : v146.toInt = p0.toInt * 41 + x20.toInt := ti_add tv145 rfl ev146 (by omega) (by omega)
                  refine lv_iload hx hb dX6_walk_243 (lv_at hl 1 rfl) ?_
                  refine va_iast hx hb hK hP hD hS 0 0 rfl rfl (ix_in tv146 (by omega) (by omega)) dX6_walk_245 (fun H locs hP hD hS => ?_)
                  obtain ⟨f147, qf147⟩ : ∃ g, g = upd g22 v146.toNatClampNeg r117 := ⟨_, rfl⟩
                  rw [← qf147] at hP hD
                  have hP : va_P G vwCl [(b 0, .inl (cI, 287, .inl f147)), (b 1, .inl (cI, 7, .inl g23)), (b 2, .inl (cI, 7, .inl g24)), (b 3, .inl (cJ, 7, .inr (.inl f125))), (b 7, .inl (cJ, 13, .inr (.inl o_f7))), (bc 12, .inl (cI, 7, .inl c_f12)), (bc 14, .inl (cI, 7, .inl c_f14)), (bc 13, .inl (cI, 7, .inl c_f13)), (h2, oX7 z0 u_rule u_walkers u_creeks u_widow u_faces u_turn), (h1, oX0 bc c_lines c_span c_rule c_odds c_wide c_high c_creeks c_houses c_widows c_acts), (bc 16, .inl (cI, 7, .inl c_f16)), (bc 17, .inl (cI, 56, .inl c_f17)), (h0, oX6 b o_field o_houses), (b 8, .inl (cJ, 13, .inr (.inl o_f8o115))), (b 9, .inl (cJ, 13, .inr (.inl o_f9o116)))] H := hP
                  have hD : va_D A [(b 0, .inl (cI, 287, .inl f147)), (b 1, .inl (cI, 7, .inl g23)), (b 2, .inl (cI, 7, .inl g24)), (b 3, .inl (cJ, 7, .inr (.inl f125))), (b 7, .inl (cJ, 13, .inr (.inl o_f7))), (bc 12, .inl (cI, 7, .inl c_f12)), (bc 14, .inl (cI, 7, .inl c_f14)), (bc 13, .inl (cI, 7, .inl c_f13)), (h2, oX7 z0 u_rule u_walkers u_creeks u_widow u_faces u_turn), (h1, oX0 bc c_lines c_span c_rule c_odds c_wide c_high c_creeks c_houses c_widows c_acts), (bc 16, .inl (cI, 7, .inl c_f16)), (bc 17, .inl (cI, 56, .inl c_f17)), (h0, oX6 b o_field o_houses), (b 8, .inl (cJ, 13, .inr (.inl o_f8o115))), (b 9, .inl (cJ, 13, .inr (.inl o_f9o116)))] := hD
                  refine lv_aload_n hx hb dX6_walk_246 rfl (lv_at hl 7 rfl) ?_
                  refine va_get (D := G) (ci := 6) (v := .ref (b 1)) (C := RX6) (T := TX6) (N := 12) hx hb hts iG_X6 hown hK hP 12 rfl rfl 1 (by decide) (hts _ w_234) (fun _ h9 => h9) rfl dX6_walk_247 ?_
                  refine lv_iload_n hx hb dX6_walk_250 rfl (lv_at hl 10 rfl) ?_
                  refine lv_iload hx hb dX6_walk_251 (lv_at hl 4 rfl) ?_
                  refine va_iast hx hb hK hP hD hS 1 0 rfl rfl (ix_in rfl (by omega) (by omega)) dX6_walk_253 (fun H locs hP hD hS => ?_)
                  obtain ⟨f148, qf148⟩ : ∃ g, g = upd g23 p0.toNatClampNeg x20 := ⟨_, rfl⟩
                  rw [← qf148] at hP hD
                  have hi149 : ai f148 7 (-1) 40 := by rw [qf148]; exact ai_put k32 rfl (by omega) (by omega)
                  have hP : va_P G vwCl [(b 0, .inl (cI, 287, .inl f147)), (b 1, .inl (cI, 7, .inl f148)), (b 2, .inl (cI, 7, .inl g24)), (b 3, .inl (cJ, 7, .inr (.inl f125))), (b 7, .inl (cJ, 13, .inr (.inl o_f7))), (bc 12, .inl (cI, 7, .inl c_f12)), (bc 14, .inl (cI, 7, .inl c_f14)), (bc 13, .inl (cI, 7, .inl c_f13)), (h2, oX7 z0 u_rule u_walkers u_creeks u_widow u_faces u_turn), (h1, oX0 bc c_lines c_span c_rule c_odds c_wide c_high c_creeks c_houses c_widows c_acts), (bc 16, .inl (cI, 7, .inl c_f16)), (bc 17, .inl (cI, 56, .inl c_f17)), (h0, oX6 b o_field o_houses), (b 8, .inl (cJ, 13, .inr (.inl o_f8o115))), (b 9, .inl (cJ, 13, .inr (.inl o_f9o116)))] H := hP
                  have hD : va_D A [(b 0, .inl (cI, 287, .inl f147)), (b 1, .inl (cI, 7, .inl f148)), (b 2, .inl (cI, 7, .inl g24)), (b 3, .inl (cJ, 7, .inr (.inl f125))), (b 7, .inl (cJ, 13, .inr (.inl o_f7))), (bc 12, .inl (cI, 7, .inl c_f12)), (bc 14, .inl (cI, 7, .inl c_f14)), (bc 13, .inl (cI, 7, .inl c_f13)), (h2, oX7 z0 u_rule u_walkers u_creeks u_widow u_faces u_turn), (h1, oX0 bc c_lines c_span c_rule c_odds c_wide c_high c_creeks c_houses c_widows c_acts), (bc 16, .inl (cI, 7, .inl c_f16)), (bc 17, .inl (cI, 56, .inl c_f17)), (h0, oX6 b o_field o_houses), (b 8, .inl (cJ, 13, .inr (.inl o_f8o115))), (b 9, .inl (cJ, 13, .inr (.inl o_f9o116)))] := hD
                  obtain ⟨v150, ev150⟩ : ∃ y : Int32, y = x20 + 1 := ⟨_, rfl⟩
                  have tv150 : v150.toInt = x20.toInt + 1 := ti_add rfl ki_1 ev150 (by omega) (by omega)
                  refine lv_iinc (v := v150) (lv' := [(12, .int v150), (11, .int 1), (9, .int r117), (10, .int r106), (13, .int r106), (7, .long v3), (5, .long v1), (0, .ref h0), (1, .ref h1), (2, .ref h2), (3, .int p0), (4, .int p1)]) hx hb dX6_walk_254 hl (k := 4) rfl (by rw [ev150]; rfl) (by decide) rfl (fun ls hl => ?_)
                  refine lv_goto (tgt := 75) hx hb dX6_walk_257 (by decide) ?_
                  exact ih33 r106 1 v150 r117 f147 f148 g24 f125 o_f8o115 o_f9o116 (by rw [ki_1]; decide) (by rw [ki_1]; decide) (by omega) (by omega) hi149 (by omega) _ _ (hP.sub [12, 0, 1, 2, 3, 4, 13, 14, 5, 6, 10, 11, 8, 9, 7] rfl) (hD.sub [12, 0, 1, 2, 3, 4, 13, 14, 5, 6, 10, 11, 8, 9, 7] rfl rfl) hS ls (lv_sub hl [0, 1, 3, 2, 5, 6, 7, 8, 9, 10, 11] rfl)
            · have c111 := i_eq rfl ki_m1 c111
              refine lv_aload_n hx hb dX6_walk_157 rfl (lv_at hl 7 rfl) ?_
              refine va_get (D := G) (ci := 6) (v := .ref (b 2)) (C := RX6) (T := TX6) (N := 12) hx hb hts iG_X6 hown hK hP 0 rfl rfl 2 (by decide) (hts _ w_236) (fun _ h9 => h9) rfl dX6_walk_158 ?_
              refine lv_iload_n hx hb dX6_walk_161 rfl (lv_at hl 10 rfl) ?_
              refine lv_dup2_11 hx hb dX6_walk_162 rfl rfl ?_
              refine va_iald hx hb hK hP 3 0 rfl rfl (ix_in rfl (by omega) (by omega)) dX6_walk_163 ?_
              refine lv_topi (fun v151 ev151 => ?_)
              refine lv_iconst (v := 1) hx hb dX6_walk_164 (by decide) ?_
              refine lv_iadd hx hb dX6_walk_165 ?_
              refine lv_topi (fun v152 ev152 => ?_)
              refine va_iast hx hb hK hP hD hS 3 0 rfl rfl (ix_in rfl (by omega) (by omega)) dX6_walk_166 (fun H locs hP hD hS => ?_)
              obtain ⟨f153, qf153⟩ : ∃ g, g = upd g24 p0.toNatClampNeg v152 := ⟨_, rfl⟩
              rw [← qf153] at hP hD
              have hP : va_P G vwCl [(h0, oX6 b o_field o_houses), (b 0, .inl (cI, 287, .inl g22)), (b 1, .inl (cI, 7, .inl g23)), (b 2, .inl (cI, 7, .inl f153)), (b 3, .inl (cJ, 7, .inr (.inl g25))), (b 7, .inl (cJ, 13, .inr (.inl o_f7))), (b 8, .inl (cJ, 13, .inr (.inl g26))), (b 9, .inl (cJ, 13, .inr (.inl g27))), (bc 12, .inl (cI, 7, .inl c_f12)), (bc 14, .inl (cI, 7, .inl c_f14)), (bc 13, .inl (cI, 7, .inl c_f13)), (h2, oX7 z0 u_rule u_walkers u_creeks u_widow u_faces u_turn), (h1, oX0 bc c_lines c_span c_rule c_odds c_wide c_high c_creeks c_houses c_widows c_acts), (bc 16, .inl (cI, 7, .inl c_f16)), (bc 17, .inl (cI, 56, .inl c_f17))] H := hP
              have hD : va_D A [(h0, oX6 b o_field o_houses), (b 0, .inl (cI, 287, .inl g22)), (b 1, .inl (cI, 7, .inl g23)), (b 2, .inl (cI, 7, .inl f153)), (b 3, .inl (cJ, 7, .inr (.inl g25))), (b 7, .inl (cJ, 13, .inr (.inl o_f7))), (b 8, .inl (cJ, 13, .inr (.inl g26))), (b 9, .inl (cJ, 13, .inr (.inl g27))), (bc 12, .inl (cI, 7, .inl c_f12)), (bc 14, .inl (cI, 7, .inl c_f14)), (bc 13, .inl (cI, 7, .inl c_f13)), (h2, oX7 z0 u_rule u_walkers u_creeks u_widow u_faces u_turn), (h1, oX0 bc c_lines c_span c_rule c_odds c_wide c_high c_creeks c_houses c_widows c_acts), (bc 16, .inl (cI, 7, .inl c_f16)), (bc 17, .inl (cI, 56, .inl c_f17))] := hD
              refine lv_goto (tgt := 232) hx hb dX6_walk_167 (by decide) ?_
              refine lv_aload_n hx hb dX6_walk_232 rfl (lv_at hl 7 rfl) ?_
              refine va_get (D := G) (ci := 6) (v := .ref (b 0)) (C := RX6) (T := TX6) (N := 12) hx hb hts iG_X6 hown hK hP 0 rfl rfl 0 (by decide) (hts _ w_233) (fun _ h9 => h9) rfl dX6_walk_233 ?_
              refine lv_iload_n hx hb dX6_walk_236 rfl (lv_at hl 10 rfl) ?_
              refine lv_bipush (v := 41) hx hb dX6_walk_237 (by decide) ?_
              refine lv_imul hx hb dX6_walk_239 ?_
              refine lv_topi (fun v154 ev154 => ?_)
              have tv154 : v154.toInt = p0.toInt * 41 := ti_mul rfl ki_41 ev154 (by omega) (by omega)
              refine lv_iload hx hb dX6_walk_240 (lv_at hl 2 rfl) ?_
              refine lv_iadd hx hb dX6_walk_242 ?_
              refine lv_topi (fun v155 ev155 => ?_)
              have tv155 : v155.toInt = p0.toInt * 41 + x20.toInt := ti_add tv154 rfl ev155 (by omega) (by omega)
              refine lv_iload hx hb dX6_walk_243 (lv_at hl 4 rfl) ?_
              refine va_iast hx hb hK hP hD hS 1 0 rfl rfl (ix_in tv155 (by omega) (by omega)) dX6_walk_245 (fun H locs hP hD hS => ?_)
              obtain ⟨f156, qf156⟩ : ∃ g, g = upd g22 v155.toNatClampNeg x21 := ⟨_, rfl⟩
              rw [← qf156] at hP hD
              have hP : va_P G vwCl [(h0, oX6 b o_field o_houses), (b 0, .inl (cI, 287, .inl f156)), (b 1, .inl (cI, 7, .inl g23)), (b 2, .inl (cI, 7, .inl f153)), (b 3, .inl (cJ, 7, .inr (.inl g25))), (b 7, .inl (cJ, 13, .inr (.inl o_f7))), (b 8, .inl (cJ, 13, .inr (.inl g26))), (b 9, .inl (cJ, 13, .inr (.inl g27))), (bc 12, .inl (cI, 7, .inl c_f12)), (bc 14, .inl (cI, 7, .inl c_f14)), (bc 13, .inl (cI, 7, .inl c_f13)), (h2, oX7 z0 u_rule u_walkers u_creeks u_widow u_faces u_turn), (h1, oX0 bc c_lines c_span c_rule c_odds c_wide c_high c_creeks c_houses c_widows c_acts), (bc 16, .inl (cI, 7, .inl c_f16)), (bc 17, .inl (cI, 56, .inl c_f17))] H := hP
              have hD : va_D A [(h0, oX6 b o_field o_houses), (b 0, .inl (cI, 287, .inl f156)), (b 1, .inl (cI, 7, .inl g23)), (b 2, .inl (cI, 7, .inl f153)), (b 3, .inl (cJ, 7, .inr (.inl g25))), (b 7, .inl (cJ, 13, .inr (.inl o_f7))), (b 8, .inl (cJ, 13, .inr (.inl g26))), (b 9, .inl (cJ, 13, .inr (.inl g27))), (bc 12, .inl (cI, 7, .inl c_f12)), (bc 14, .inl (cI, 7, .inl c_f14)), (bc 13, .inl (cI, 7, .inl c_f13)), (h2, oX7 z0 u_rule u_walkers u_creeks u_widow u_faces u_turn), (h1, oX0 bc c_lines c_span c_rule c_odds c_wide c_high c_creeks c_houses c_widows c_acts), (bc 16, .inl (cI, 7, .inl c_f16)), (bc 17, .inl (cI, 56, .inl c_f17))] := hD
              refine lv_aload_n hx hb dX6_walk_246 rfl (lv_at hl 7 rfl) ?_
              refine va_get (D := G) (ci := 6) (v := .ref (b 1)) (C := RX6) (T := TX6) (N := 12) hx hb hts iG_X6 hown hK hP 0 rfl rfl 1 (by decide) (hts _ w_234) (fun _ h9 => h9) rfl dX6_walk_247 ?_
              refine lv_iload_n hx hb dX6_walk_250 rfl (lv_at hl 10 rfl) ?_
              refine lv_iload hx hb dX6_walk_251 (lv_at hl 2 rfl) ?_
              refine va_iast hx hb hK hP hD hS 2 0 rfl rfl (ix_in rfl (by omega) (by omega)) dX6_walk_253 (fun H locs hP hD hS => ?_)
              obtain ⟨f157, qf157⟩ : ∃ g, g = upd g23 p0.toNatClampNeg x20 := ⟨_, rfl⟩
              rw [← qf157] at hP hD
              have hi158 : ai f157 7 (-1) 40 := by rw [qf157]; exact ai_put k32 rfl (by omega) (by omega)
              have hP : va_P G vwCl [(h0, oX6 b o_field o_houses), (b 0, .inl (cI, 287, .inl f156)), (b 1, .inl (cI, 7, .inl f157)), (b 2, .inl (cI, 7, .inl f153)), (b 3, .inl (cJ, 7, .inr (.inl g25))), (b 7, .inl (cJ, 13, .inr (.inl o_f7))), (b 8, .inl (cJ, 13, .inr (.inl g26))), (b 9, .inl (cJ, 13, .inr (.inl g27))), (bc 12, .inl (cI, 7, .inl c_f12)), (bc 14, .inl (cI, 7, .inl c_f14)), (bc 13, .inl (cI, 7, .inl c_f13)), (h2, oX7 z0 u_rule u_walkers u_creeks u_widow u_faces u_turn), (h1, oX0 bc c_lines c_span c_rule c_odds c_wide c_high c_creeks c_houses c_widows c_acts), (bc 16, .inl (cI, 7, .inl c_f16)), (bc 17, .inl (cI, 56, .inl c_f17))] H := hP
              have hD : va_D A [(h0, oX6 b o_field o_houses), (b 0, .inl (cI, 287, .inl f156)), (b 1, .inl (cI, 7, .inl f157)), (b 2, .inl (cI, 7, .inl f153)), (b 3, .inl (cJ, 7, .inr (.inl g25))), (b 7, .inl (cJ, 13, .inr (.inl o_f7))), (b 8, .inl (cJ, 13, .inr (.inl g26))), (b 9, .inl (cJ, 13, .inr (.inl g27))), (bc 12, .inl (cI, 7, .inl c_f12)), (bc 14, .inl (cI, 7, .inl c_f14)), (bc 13, .inl (cI, 7, .inl c_f13)), (h2, oX7 z0 u_rule u_walkers u_creeks u_widow u_faces u_turn), (h1, oX0 bc c_lines c_span c_rule c_odds c_wide c_high c_creeks c_houses c_widows c_acts), (bc 16, .inl (cI, 7, .inl c_f16)), (bc 17, .inl (cI, 56, .inl c_f17))] := hD
              obtain ⟨v159, ev159⟩ : ∃ y : Int32, y = x20 + 1 := ⟨_, rfl⟩
              have tv159 : v159.toInt = x20.toInt + 1 := ti_add rfl ki_1 ev159 (by omega) (by omega)
              refine lv_iinc (v := v159) (lv' := [(12, .int v159), (13, .int r106), (10, .int v53), (11, .int x19), (9, .int x21), (7, .long v3), (5, .long v1), (0, .ref h0), (1, .ref h1), (2, .ref h2), (3, .int p0), (4, .int p1)]) hx hb dX6_walk_254 hl (k := 2) rfl (by rw [ev159]; rfl) (by decide) rfl (fun ls hl => ?_)
              refine lv_goto (tgt := 75) hx hb dX6_walk_257 (by decide) ?_
              exact ih33 v53 x19 v159 x21 f156 f157 f153 g25 g26 g27 k28 (by omega) (by omega) (by omega) hi158 (by omega) _ _ (hP.sub [0, 1, 2, 3, 4, 5, 6, 7, 8, 9, 13, 14, 11, 12, 10] rfl) (hD.sub [0, 1, 2, 3, 4, 5, 6, 7, 8, 9, 13, 14, 11, 12, 10] rfl rfl) hS ls (lv_sub hl [0, 3, 2, 4, 5, 6, 7, 8, 9, 10, 11] rfl)
  exact lp16 41 r5 0 1 v4 f13 f14 o_f2 f11 o_f8 o_f9 (by rw [ki_0]; decide) (by rw [ki_0]; decide) (by rw [ki_1]; decide) (by rw [ki_1]; decide) hi15 (by rw [ki_1]; decide) _ _ hP hD hS ls (lv_sub hl [0, 1, 2, 3, 4, 5, 6, 7, 8, 9, 10] rfl)
set_option maxHeartbeats 4000000 in
set_option maxRecDepth 100000 in
theorem f_X6_tell (l : Launch) (G : va_G) (cI cJ cZ cB cQ : ClassId) (sz : Nat) (h0 : Nat) (h1 : Nat) (h2 : Nat) (b : Nat → Nat) (o_field : Int64) (o_houses : Int32) (o_f0 : Nat → Int32) (o_f1 : Nat → Int32) (o_f2 : Nat → Int32) (o_f3 : Nat → Int64) (o_f4 : Nat → Int32) (o_f5 : Nat → Int32) (o_f6 : Nat → Int32) (o_f7 : Nat → Int64) (o_f8 : Nat → Int64) (o_f9 : Nat → Int64) (bc : Nat → Nat) (c_lines : Int32) (c_span : Int32) (c_rule : Int32) (c_odds : Int32) (c_wide : Int32) (c_high : Int32) (c_creeks : Int32) (c_houses : Int32) (c_widows : Int32) (c_acts : Int32) (c_f11 : Nat → Int32) (c_f12 : Nat → Int32) (c_f13 : Nat → Int32) (c_f14 : Nat → Int32) (c_f15 : Nat → Int32) (c_f16 : Nat → Int32) (c_f17 : Nat → Int32) (u_rule : Int32) (u_walkers : Int32) (u_creeks : Int64) (u_widow : Int32) (u_faces : Int32) (u_turn : Int32) (hl_o_houses : 0 ≤ o_houses.toInt) (hh_o_houses : o_houses.toInt ≤ 6) (ha_o_f1 : ai o_f1 7 (-1) 40) (hl_c_span : 0 ≤ c_span.toInt) (hh_c_span : c_span.toInt ≤ 12) (hl_c_rule : 0 ≤ c_rule.toInt) (hh_c_rule : c_rule.toInt ≤ 3) (hl_c_odds : 0 ≤ c_odds.toInt) (hh_c_odds : c_odds.toInt ≤ 10) (hl_c_wide : 0 ≤ c_wide.toInt) (hh_c_wide : c_wide.toInt ≤ 8) (hl_c_high : 0 ≤ c_high.toInt) (hh_c_high : c_high.toInt ≤ 8) (hl_c_creeks : 0 ≤ c_creeks.toInt) (hh_c_creeks : c_creeks.toInt ≤ 12) (hl_c_houses : 0 ≤ c_houses.toInt) (hh_c_houses : c_houses.toInt ≤ 6) (hl_c_widows : 0 ≤ c_widows.toInt) (hh_c_widows : c_widows.toInt ≤ 7) (hl_c_acts : 0 ≤ c_acts.toInt) (hh_c_acts : c_acts.toInt ≤ 30) (ha_c_f14 : ai c_f14 7 (-2147483648) 40) (ha_c_f16 : ai c_f16 7 (-2147483648) 8) : CV l yX6_tell (wl_ yX6_tell cX6_tell 5 none) ({ frames := 3, cells := 0, slots := 0, locals := 81 } : Room) G (TY cI cJ cZ cB cQ) [.ref h0, .ref h1, .ref h2] [(h0, oX6 b o_field o_houses), (b 0, .inl (cI, 287, .inl o_f0)), (b 1, .inl (cI, 7, .inl o_f1)), (b 2, .inl (cI, 7, .inl o_f2)), (b 3, .inl (cJ, 7, .inr (.inl o_f3))), (b 4, .inl (cI, 7, .inl o_f4)), (b 5, .inl (cI, 6, .inl o_f5)), (b 6, .inl (cI, 78, .inl o_f6)), (b 7, .inl (cJ, 13, .inr (.inl o_f7))), (b 8, .inl (cJ, 13, .inr (.inl o_f8))), (b 9, .inl (cJ, 13, .inr (.inl o_f9))), (h1, oX0 bc c_lines c_span c_rule c_odds c_wide c_high c_creeks c_houses c_widows c_acts), (bc 11, .inl (cI, 6, .inl c_f11)), (bc 12, .inl (cI, 7, .inl c_f12)), (bc 13, .inl (cI, 7, .inl c_f13)), (bc 14, .inl (cI, 7, .inl c_f14)), (bc 15, .inl (cI, 7, .inl c_f15)), (bc 16, .inl (cI, 7, .inl c_f16)), (bc 17, .inl (cI, 56, .inl c_f17)), (h2, oX7 z0 u_rule u_walkers u_creeks u_widow u_faces u_turn)] sz (fun (u : Int64 × Int32 × (Nat → Int32) × (Nat → Int32) × (Nat → Int32) × (Nat → Int64) × (Nat → Int32) × (Nat → Int32) × (Nat → Int32) × (Nat → Int64) × (Nat → Int64) × (Nat → Int64)) => 0 ≤ u.2.1.toInt ∧ u.2.1.toInt ≤ 6 ∧ ai u.2.2.2.1 7 (-1) 40) (fun u : Int64 × Int32 × (Nat → Int32) × (Nat → Int32) × (Nat → Int32) × (Nat → Int64) × (Nat → Int32) × (Nat → Int32) × (Nat → Int32) × (Nat → Int64) × (Nat → Int64) × (Nat → Int64) => [(h0, oX6 b u.1 u.2.1), (b 0, .inl (cI, 287, .inl u.2.2.1)), (b 1, .inl (cI, 7, .inl u.2.2.2.1)), (b 2, .inl (cI, 7, .inl u.2.2.2.2.1)), (b 3, .inl (cJ, 7, .inr (.inl u.2.2.2.2.2.1))), (b 4, .inl (cI, 7, .inl u.2.2.2.2.2.2.1)), (b 5, .inl (cI, 6, .inl u.2.2.2.2.2.2.2.1)), (b 6, .inl (cI, 78, .inl u.2.2.2.2.2.2.2.2.1)), (b 7, .inl (cJ, 13, .inr (.inl u.2.2.2.2.2.2.2.2.2.1))), (b 8, .inl (cJ, 13, .inr (.inl u.2.2.2.2.2.2.2.2.2.2.1))), (b 9, .inl (cJ, 13, .inr (.inl u.2.2.2.2.2.2.2.2.2.2.2))), (h1, oX0 bc c_lines c_span c_rule c_odds c_wide c_high c_creeks c_houses c_widows c_acts), (bc 11, .inl (cI, 6, .inl c_f11)), (bc 12, .inl (cI, 7, .inl c_f12)), (bc 13, .inl (cI, 7, .inl c_f13)), (bc 14, .inl (cI, 7, .inl c_f14)), (bc 15, .inl (cI, 7, .inl c_f15)), (bc 16, .inl (cI, 7, .inl c_f16)), (bc 17, .inl (cI, 56, .inl c_f17)), (h2, oX7 z0 u_rule u_walkers u_creeks u_widow u_faces u_turn)]) 0 0 := by
  refine CV.go (cc := cX6_tell) (maxL := 5) (ret := none) (by decide) rfl (Nat.le_of_ble_eq_true rfl) ?_
  intro p e s m below meth c A ls Q hBd hret
  obtain ⟨hx, hb, hr, hml, hts, hown, hlk, hnm, hP, hK, hD, hA, hZ, hl⟩ := hBd
  have hown : s.vm.findClass RX6 = some m.cls := hown
  have hl : lv_has ls 5 [(0, .ref h0), (1, .ref h1), (2, .ref h2)] := hl
  have hS : va_S A s.heap s.heap [] := va_S.rf
  refine lv_aload_n hx hb dX6_tell_0 rfl (lv_at hl 0 rfl) ?_
  refine lv_aload_n hx hb dX6_tell_1 rfl (lv_at hl 1 rfl) ?_
  refine k_v (wc := [(h0, oX6 b o_field o_houses), (b 1, .inl (cI, 7, .inl o_f1)), (b 2, .inl (cI, 7, .inl o_f2)), (b 3, .inl (cJ, 7, .inr (.inl o_f3))), (b 4, .inl (cI, 7, .inl o_f4)), (b 5, .inl (cI, 6, .inl o_f5)), (b 6, .inl (cI, 78, .inl o_f6)), (b 7, .inl (cJ, 13, .inr (.inl o_f7))), (b 8, .inl (cJ, 13, .inr (.inl o_f8))), (b 9, .inl (cJ, 13, .inr (.inl o_f9))), (h1, oX0 bc c_lines c_span c_rule c_odds c_wide c_high c_creeks c_houses c_widows c_acts), (bc 11, .inl (cI, 6, .inl c_f11))]) (wr := [(b 0, .inl (cI, 287, .inl o_f0)), (bc 12, .inl (cI, 7, .inl c_f12)), (bc 13, .inl (cI, 7, .inl c_f13)), (bc 14, .inl (cI, 7, .inl c_f14)), (bc 15, .inl (cI, 7, .inl c_f15)), (bc 16, .inl (cI, 7, .inl c_f16)), (bc 17, .inl (cI, 56, .inl c_f17)), (h2, oX7 z0 u_rule u_walkers u_creeks u_widow u_faces u_turn)]) hP hD hS hA [0, 2, 3, 4, 5, 6, 7, 8, 9, 10, 11, 12] [1, 13, 14, 15, 16, 17, 18, 19] rfl rfl rfl (by decide) (va_runV (As := [.ref h1]) (rest := []) ⟨hx, hb, hml, hown, hts⟩ (f_X6_begin l G cI cJ cZ cB cQ _ h0 h1 b o_field o_houses o_f1 o_f2 o_f3 o_f4 o_f5 o_f6 o_f7 o_f8 o_f9 bc c_lines c_span c_rule c_odds c_wide c_high c_creeks c_houses c_widows c_acts c_f11 hl_o_houses hh_o_houses ha_o_f1 hl_c_span hh_c_span hl_c_rule hh_c_rule hl_c_odds hh_c_odds hl_c_wide hh_c_wide hl_c_high hh_c_high hl_c_creeks hh_c_creeks hl_c_houses hh_c_houses hl_c_widows hh_c_widows hl_c_acts hh_c_acts) (cwV 1 hts (gV w_586 w_588 wp_25 w_6 w_589) rfl rfl rfl ⟨rfl, hd_X6_begin⟩ ⟨Nat.le_of_ble_eq_true rfl, Nat.le_of_ble_eq_true rfl⟩) (mV hK hZ hP hD [0, 2, 3, 4, 5, 6, 7, 8, 9, 10, 11, 12] rfl rfl [.ref h1] 0 6 rfl rfl) rfl rfl hl.1 rfl (lv_room (Nat.le_of_ble_eq_true rfl)) dX6_tell_2 ⟨Nat.le_of_ble_eq_true rfl, Nat.le_of_ble_eq_true rfl⟩) (fun u2 H locs hw3 hP hD hS => ?_)
  obtain ⟨o_fieldo4, o_houseso5, o_f1o6, o_f2o7, o_f3o8, o_f4o9, o_f5o10, o_f6o11, o_f7o12, o_f8o13, o_f9o14⟩ := u2
  try dsimp only at hw3
  have hP : va_P G vwCl [(b 0, .inl (cI, 287, .inl o_f0)), (bc 12, .inl (cI, 7, .inl c_f12)), (bc 13, .inl (cI, 7, .inl c_f13)), (bc 14, .inl (cI, 7, .inl c_f14)), (bc 15, .inl (cI, 7, .inl c_f15)), (bc 16, .inl (cI, 7, .inl c_f16)), (bc 17, .inl (cI, 56, .inl c_f17)), (h2, oX7 z0 u_rule u_walkers u_creeks u_widow u_faces u_turn), (h0, oX6 b o_fieldo4 o_houseso5), (b 1, .inl (cI, 7, .inl o_f1o6)), (b 2, .inl (cI, 7, .inl o_f2o7)), (b 3, .inl (cJ, 7, .inr (.inl o_f3o8))), (b 4, .inl (cI, 7, .inl o_f4o9)), (b 5, .inl (cI, 6, .inl o_f5o10)), (b 6, .inl (cI, 78, .inl o_f6o11)), (b 7, .inl (cJ, 13, .inr (.inl o_f7o12))), (b 8, .inl (cJ, 13, .inr (.inl o_f8o13))), (b 9, .inl (cJ, 13, .inr (.inl o_f9o14))), (h1, oX0 bc c_lines c_span c_rule c_odds c_wide c_high c_creeks c_houses c_widows c_acts), (bc 11, .inl (cI, 6, .inl c_f11))] H := hP
  have hD : va_D A [(b 0, .inl (cI, 287, .inl o_f0)), (bc 12, .inl (cI, 7, .inl c_f12)), (bc 13, .inl (cI, 7, .inl c_f13)), (bc 14, .inl (cI, 7, .inl c_f14)), (bc 15, .inl (cI, 7, .inl c_f15)), (bc 16, .inl (cI, 7, .inl c_f16)), (bc 17, .inl (cI, 56, .inl c_f17)), (h2, oX7 z0 u_rule u_walkers u_creeks u_widow u_faces u_turn), (h0, oX6 b o_fieldo4 o_houseso5), (b 1, .inl (cI, 7, .inl o_f1o6)), (b 2, .inl (cI, 7, .inl o_f2o7)), (b 3, .inl (cJ, 7, .inr (.inl o_f3o8))), (b 4, .inl (cI, 7, .inl o_f4o9)), (b 5, .inl (cI, 6, .inl o_f5o10)), (b 6, .inl (cI, 78, .inl o_f6o11)), (b 7, .inl (cJ, 13, .inr (.inl o_f7o12))), (b 8, .inl (cJ, 13, .inr (.inl o_f8o13))), (b 9, .inl (cJ, 13, .inr (.inl o_f9o14))), (h1, oX0 bc c_lines c_span c_rule c_odds c_wide c_high c_creeks c_houses c_widows c_acts), (bc 11, .inl (cI, 6, .inl c_f11))] := hD
  obtain ⟨w15, w16, w17⟩ : 0 ≤ o_houseso5.toInt ∧ o_houseso5.toInt ≤ 6 ∧ ai o_f1o6 7 (-1) 40 := hw3
  refine lv_iconst (v := 0) hx hb dX6_tell_5 (by decide) ?_
  refine lv_istore_n (lv' := [(3, .int 0), (0, .ref h0), (1, .ref h1), (2, .ref h2)]) hx hb dX6_tell_6 rfl hl (by decide) rfl (fun ls hl => ?_)
  have lp18 : ∀ (n19 : Nat) (x20 : Int32) (g21 : Nat → Int32) (g22 : Nat → Int32) (g23 : Nat → Int32) (g24 : Nat → Int64) (g25 : Nat → Int32) (g26 : Nat → Int32) (g27 : Nat → Int32) (g28 : Nat → Int64) (g29 : Nat → Int64) (g30 : Nat → Int64), 0 ≤ x20.toInt → x20.toInt ≤ 12 → ai g22 7 (-1) 40 → 12 - x20.toInt < (n19 : Int) → ∀ (H : Heap) (locs : List Loc), va_P G vwCl [(b 0, .inl (cI, 287, .inl g21)), (bc 12, .inl (cI, 7, .inl c_f12)), (bc 13, .inl (cI, 7, .inl c_f13)), (bc 14, .inl (cI, 7, .inl c_f14)), (bc 15, .inl (cI, 7, .inl c_f15)), (bc 16, .inl (cI, 7, .inl c_f16)), (bc 17, .inl (cI, 56, .inl c_f17)), (h2, oX7 z0 u_rule u_walkers u_creeks u_widow u_faces u_turn), (h0, oX6 b o_fieldo4 o_houseso5), (b 1, .inl (cI, 7, .inl g22)), (b 2, .inl (cI, 7, .inl g23)), (b 3, .inl (cJ, 7, .inr (.inl g24))), (b 4, .inl (cI, 7, .inl g25)), (b 5, .inl (cI, 6, .inl g26)), (b 6, .inl (cI, 78, .inl g27)), (b 7, .inl (cJ, 13, .inr (.inl g28))), (b 8, .inl (cJ, 13, .inr (.inl g29))), (b 9, .inl (cJ, 13, .inr (.inl g30))), (h1, oX0 bc c_lines c_span c_rule c_odds c_wide c_high c_creeks c_houses c_widows c_acts), (bc 11, .inl (cI, 6, .inl c_f11))] H → va_D A [(b 0, .inl (cI, 287, .inl g21)), (bc 12, .inl (cI, 7, .inl c_f12)), (bc 13, .inl (cI, 7, .inl c_f13)), (bc 14, .inl (cI, 7, .inl c_f14)), (bc 15, .inl (cI, 7, .inl c_f15)), (bc 16, .inl (cI, 7, .inl c_f16)), (bc 17, .inl (cI, 56, .inl c_f17)), (h2, oX7 z0 u_rule u_walkers u_creeks u_widow u_faces u_turn), (h0, oX6 b o_fieldo4 o_houseso5), (b 1, .inl (cI, 7, .inl g22)), (b 2, .inl (cI, 7, .inl g23)), (b 3, .inl (cJ, 7, .inr (.inl g24))), (b 4, .inl (cI, 7, .inl g25)), (b 5, .inl (cI, 6, .inl g26)), (b 6, .inl (cI, 78, .inl g27)), (b 7, .inl (cJ, 13, .inr (.inl g28))), (b 8, .inl (cJ, 13, .inr (.inl g29))), (b 9, .inl (cJ, 13, .inr (.inl g30))), (h1, oX0 bc c_lines c_span c_rule c_odds c_wide c_high c_creeks c_houses c_widows c_acts), (bc 11, .inl (cI, 6, .inl c_f11))] → va_S A s.heap H locs → ∀ (ls : Array Slot), lv_has ls 5 [(3, .int x20), (0, .ref h0), (1, .ref h1), (2, .ref h2)] → W p l e ({ frames := 3, cells := 0, slots := 0, locals := 81 } : Room) s m ([.ref h0, .ref h1, .ref h2] : List Value).toArray below meth c H locs 0 0 Q (F0 m 7 ls []) := by
    intro n19
    induction n19 with
    | zero =>
      intro x20 g21 g22 g23 g24 g25 g26 g27 g28 g29 g30 k31 k32 k33 mm35
      exact absurd mm35 (by have q9 := fb_rng x20; omega)
    | succ n19 ih34 =>
      intro x20 g21 g22 g23 g24 g25 g26 g27 g28 g29 g30 k31 k32 k33 mm35 H locs hP hD hS ls hl
      refine lv_iload_n hx hb dX6_tell_7 rfl (lv_at hl 0 rfl) ?_
      refine lv_aload_n hx hb dX6_tell_8 rfl (lv_at hl 2 rfl) ?_
      refine va_getN (D := G) (ci := 0) (v := .int c_span) (C := RX0) (T := TX0) (N := 19) hx hb hts iG_X0 hown hK hP 18 rfl rfl 1 (by decide) (nz_use hZ nw_59 rfl) (fun _ h9 => h9) rfl dX6_tell_9 ?_
      refine lv_icmp_ge (tgt := 89) hx hb dX6_tell_12 (by decide) (fun c36 => ?_) (fun c36 => ?_)
      · have c36 := i_le rfl rfl c36
        exact hret _ _ _ _ (o_fieldo4, o_houseso5, g21, g22, g23, g24, g25, g26, g27, g28, g29, g30) (hP.sub (ws' := [(h0, oX6 b o_fieldo4 o_houseso5), (b 0, .inl (cI, 287, .inl g21)), (b 1, .inl (cI, 7, .inl g22)), (b 2, .inl (cI, 7, .inl g23)), (b 3, .inl (cJ, 7, .inr (.inl g24))), (b 4, .inl (cI, 7, .inl g25)), (b 5, .inl (cI, 6, .inl g26)), (b 6, .inl (cI, 78, .inl g27)), (b 7, .inl (cJ, 13, .inr (.inl g28))), (b 8, .inl (cJ, 13, .inr (.inl g29))), (b 9, .inl (cJ, 13, .inr (.inl g30))), (h1, oX0 bc c_lines c_span c_rule c_odds c_wide c_high c_creeks c_houses c_widows c_acts), (bc 11, .inl (cI, 6, .inl c_f11)), (bc 12, .inl (cI, 7, .inl c_f12)), (bc 13, .inl (cI, 7, .inl c_f13)), (bc 14, .inl (cI, 7, .inl c_f14)), (bc 15, .inl (cI, 7, .inl c_f15)), (bc 16, .inl (cI, 7, .inl c_f16)), (bc 17, .inl (cI, 56, .inl c_f17)), (h2, oX7 z0 u_rule u_walkers u_creeks u_widow u_faces u_turn)]) [8, 0, 9, 10, 11, 12, 13, 14, 15, 16, 17, 18, 19, 1, 2, 3, 4, 5, 6, 7] rfl) (hD.sub (ws' := [(h0, oX6 b o_fieldo4 o_houseso5), (b 0, .inl (cI, 287, .inl g21)), (b 1, .inl (cI, 7, .inl g22)), (b 2, .inl (cI, 7, .inl g23)), (b 3, .inl (cJ, 7, .inr (.inl g24))), (b 4, .inl (cI, 7, .inl g25)), (b 5, .inl (cI, 6, .inl g26)), (b 6, .inl (cI, 78, .inl g27)), (b 7, .inl (cJ, 13, .inr (.inl g28))), (b 8, .inl (cJ, 13, .inr (.inl g29))), (b 9, .inl (cJ, 13, .inr (.inl g30))), (h1, oX0 bc c_lines c_span c_rule c_odds c_wide c_high c_creeks c_houses c_widows c_acts), (bc 11, .inl (cI, 6, .inl c_f11)), (bc 12, .inl (cI, 7, .inl c_f12)), (bc 13, .inl (cI, 7, .inl c_f13)), (bc 14, .inl (cI, 7, .inl c_f14)), (bc 15, .inl (cI, 7, .inl c_f15)), (bc 16, .inl (cI, 7, .inl c_f16)), (bc 17, .inl (cI, 56, .inl c_f17)), (h2, oX7 z0 u_rule u_walkers u_creeks u_widow u_faces u_turn)]) [8, 0, 9, 10, 11, 12, 13, 14, 15, 16, 17, 18, 19, 1, 2, 3, 4, 5, 6, 7] rfl rfl) hS dX6_tell_89 (show 0 ≤ o_houseso5.toInt ∧ o_houseso5.toInt ≤ 6 ∧ ai g22 7 (-1) 40 from ⟨w15, w16, k33⟩)
      · have c36 := i_nle rfl rfl c36
        refine lv_aload_n hx hb dX6_tell_15 rfl (lv_at hl 1 rfl) ?_
        refine lv_iload_n hx hb dX6_tell_16 rfl (lv_at hl 0 rfl) ?_
        refine k_v (wc := [(h0, oX6 b o_fieldo4 o_houseso5), (b 6, .inl (cI, 78, .inl g27)), (b 7, .inl (cJ, 13, .inr (.inl g28))), (b 8, .inl (cJ, 13, .inr (.inl g29))), (b 9, .inl (cJ, 13, .inr (.inl g30)))]) (wr := [(b 0, .inl (cI, 287, .inl g21)), (bc 12, .inl (cI, 7, .inl c_f12)), (bc 13, .inl (cI, 7, .inl c_f13)), (bc 14, .inl (cI, 7, .inl c_f14)), (bc 15, .inl (cI, 7, .inl c_f15)), (bc 16, .inl (cI, 7, .inl c_f16)), (bc 17, .inl (cI, 56, .inl c_f17)), (h2, oX7 z0 u_rule u_walkers u_creeks u_widow u_faces u_turn), (b 1, .inl (cI, 7, .inl g22)), (b 2, .inl (cI, 7, .inl g23)), (b 3, .inl (cJ, 7, .inr (.inl g24))), (b 4, .inl (cI, 7, .inl g25)), (b 5, .inl (cI, 6, .inl g26)), (h1, oX0 bc c_lines c_span c_rule c_odds c_wide c_high c_creeks c_houses c_widows c_acts), (bc 11, .inl (cI, 6, .inl c_f11))]) hP hD hS hA [8, 14, 15, 16, 17] [0, 1, 2, 3, 4, 5, 6, 7, 9, 10, 11, 12, 13, 18, 19] rfl rfl rfl (by decide) (va_runV (As := [.int x20]) (rest := []) ⟨hx, hb, hml, hown, hts⟩ (f_X6_copyYear l G cI cJ cZ cB cQ _ h0 x20 b o_fieldo4 o_houseso5 g27 g28 g29 g30 k31 (by omega) w15 w16) (cwV 1 hts (gV w_594 w_596 wp_27 w_6 w_597) rfl rfl rfl ⟨rfl, hd_X6_copyYear⟩ ⟨Nat.le_of_ble_eq_true rfl, Nat.le_of_ble_eq_true rfl⟩) (mV hK hZ hP hD [8, 14, 15, 16, 17] rfl rfl [.int x20] 8 6 rfl rfl) rfl rfl hl.1 rfl (lv_room (Nat.le_of_ble_eq_true rfl)) dX6_tell_17 ⟨Nat.le_of_ble_eq_true rfl, Nat.le_of_ble_eq_true rfl⟩) (fun u38 H locs hw39 hP hD hS => ?_)
        obtain ⟨o_f6o40, o_f7o41, o_f8o42, o_f9o43⟩ := u38
        try dsimp only at hw39
        have hP : va_P G vwCl [(b 0, .inl (cI, 287, .inl g21)), (bc 12, .inl (cI, 7, .inl c_f12)), (bc 13, .inl (cI, 7, .inl c_f13)), (bc 14, .inl (cI, 7, .inl c_f14)), (bc 15, .inl (cI, 7, .inl c_f15)), (bc 16, .inl (cI, 7, .inl c_f16)), (bc 17, .inl (cI, 56, .inl c_f17)), (h2, oX7 z0 u_rule u_walkers u_creeks u_widow u_faces u_turn), (b 1, .inl (cI, 7, .inl g22)), (b 2, .inl (cI, 7, .inl g23)), (b 3, .inl (cJ, 7, .inr (.inl g24))), (b 4, .inl (cI, 7, .inl g25)), (b 5, .inl (cI, 6, .inl g26)), (h1, oX0 bc c_lines c_span c_rule c_odds c_wide c_high c_creeks c_houses c_widows c_acts), (bc 11, .inl (cI, 6, .inl c_f11)), (h0, oX6 b o_fieldo4 o_houseso5), (b 6, .inl (cI, 78, .inl o_f6o40)), (b 7, .inl (cJ, 13, .inr (.inl o_f7o41))), (b 8, .inl (cJ, 13, .inr (.inl o_f8o42))), (b 9, .inl (cJ, 13, .inr (.inl o_f9o43)))] H := hP
        have hD : va_D A [(b 0, .inl (cI, 287, .inl g21)), (bc 12, .inl (cI, 7, .inl c_f12)), (bc 13, .inl (cI, 7, .inl c_f13)), (bc 14, .inl (cI, 7, .inl c_f14)), (bc 15, .inl (cI, 7, .inl c_f15)), (bc 16, .inl (cI, 7, .inl c_f16)), (bc 17, .inl (cI, 56, .inl c_f17)), (h2, oX7 z0 u_rule u_walkers u_creeks u_widow u_faces u_turn), (b 1, .inl (cI, 7, .inl g22)), (b 2, .inl (cI, 7, .inl g23)), (b 3, .inl (cJ, 7, .inr (.inl g24))), (b 4, .inl (cI, 7, .inl g25)), (b 5, .inl (cI, 6, .inl g26)), (h1, oX0 bc c_lines c_span c_rule c_odds c_wide c_high c_creeks c_houses c_widows c_acts), (bc 11, .inl (cI, 6, .inl c_f11)), (h0, oX6 b o_fieldo4 o_houseso5), (b 6, .inl (cI, 78, .inl o_f6o40)), (b 7, .inl (cJ, 13, .inr (.inl o_f7o41))), (b 8, .inl (cJ, 13, .inr (.inl o_f8o42))), (b 9, .inl (cJ, 13, .inr (.inl o_f9o43)))] := hD
        refine lv_iconst (v := 0) hx hb dX6_tell_20 (by decide) ?_
        refine lv_istore (lv' := [(4, .int 0), (3, .int x20), (0, .ref h0), (1, .ref h1), (2, .ref h2)]) hx hb dX6_tell_21 hl (by decide) rfl (fun ls hl => ?_)
        have lp44 : ∀ (n45 : Nat) (x46 : Int32) (g47 : Nat → Int32) (g48 : Nat → Int32) (g49 : Nat → Int32) (g50 : Nat → Int64) (g51 : Nat → Int32) (g52 : Nat → Int32) (g53 : Nat → Int32) (g54 : Nat → Int64) (g55 : Nat → Int64) (g56 : Nat → Int64), 0 ≤ x46.toInt → x46.toInt ≤ 7 → ai g48 7 (-1) 40 → 7 - x46.toInt < (n45 : Int) → ∀ (H : Heap) (locs : List Loc), va_P G vwCl [(b 0, .inl (cI, 287, .inl g47)), (bc 12, .inl (cI, 7, .inl c_f12)), (bc 13, .inl (cI, 7, .inl c_f13)), (bc 14, .inl (cI, 7, .inl c_f14)), (bc 15, .inl (cI, 7, .inl c_f15)), (bc 16, .inl (cI, 7, .inl c_f16)), (bc 17, .inl (cI, 56, .inl c_f17)), (h2, oX7 z0 u_rule u_walkers u_creeks u_widow u_faces u_turn), (b 1, .inl (cI, 7, .inl g48)), (b 2, .inl (cI, 7, .inl g49)), (b 3, .inl (cJ, 7, .inr (.inl g50))), (b 4, .inl (cI, 7, .inl g51)), (b 5, .inl (cI, 6, .inl g52)), (h1, oX0 bc c_lines c_span c_rule c_odds c_wide c_high c_creeks c_houses c_widows c_acts), (bc 11, .inl (cI, 6, .inl c_f11)), (h0, oX6 b o_fieldo4 o_houseso5), (b 6, .inl (cI, 78, .inl g53)), (b 7, .inl (cJ, 13, .inr (.inl g54))), (b 8, .inl (cJ, 13, .inr (.inl g55))), (b 9, .inl (cJ, 13, .inr (.inl g56)))] H → va_D A [(b 0, .inl (cI, 287, .inl g47)), (bc 12, .inl (cI, 7, .inl c_f12)), (bc 13, .inl (cI, 7, .inl c_f13)), (bc 14, .inl (cI, 7, .inl c_f14)), (bc 15, .inl (cI, 7, .inl c_f15)), (bc 16, .inl (cI, 7, .inl c_f16)), (bc 17, .inl (cI, 56, .inl c_f17)), (h2, oX7 z0 u_rule u_walkers u_creeks u_widow u_faces u_turn), (b 1, .inl (cI, 7, .inl g48)), (b 2, .inl (cI, 7, .inl g49)), (b 3, .inl (cJ, 7, .inr (.inl g50))), (b 4, .inl (cI, 7, .inl g51)), (b 5, .inl (cI, 6, .inl g52)), (h1, oX0 bc c_lines c_span c_rule c_odds c_wide c_high c_creeks c_houses c_widows c_acts), (bc 11, .inl (cI, 6, .inl c_f11)), (h0, oX6 b o_fieldo4 o_houseso5), (b 6, .inl (cI, 78, .inl g53)), (b 7, .inl (cJ, 13, .inr (.inl g54))), (b 8, .inl (cJ, 13, .inr (.inl g55))), (b 9, .inl (cJ, 13, .inr (.inl g56)))] → va_S A s.heap H locs → ∀ (ls : Array Slot), lv_has ls 5 [(4, .int x46), (3, .int x20), (0, .ref h0), (1, .ref h1), (2, .ref h2)] → W p l e ({ frames := 3, cells := 0, slots := 0, locals := 81 } : Room) s m ([.ref h0, .ref h1, .ref h2] : List Value).toArray below meth c H locs 0 0 Q (F0 m 23 ls []) := by
          intro n45
          induction n45 with
          | zero =>
            intro x46 g47 g48 g49 g50 g51 g52 g53 g54 g55 g56 k57 k58 k59 mm61
            exact absurd mm61 (by have q9 := fb_rng x46; omega)
          | succ n45 ih60 =>
            intro x46 g47 g48 g49 g50 g51 g52 g53 g54 g55 g56 k57 k58 k59 mm61 H locs hP hD hS ls hl
            refine lv_iload hx hb dX6_tell_23 (lv_at hl 0 rfl) ?_
            refine lv_aload_n hx hb dX6_tell_25 rfl (lv_at hl 3 rfl) ?_
            refine va_getN (D := G) (ci := 0) (v := .int c_widows) (C := RX0) (T := TX0) (N := 19) hx hb hts iG_X0 hown hK hP 13 rfl rfl 8 (by decide) (nz_use hZ nw_85 rfl) (fun _ h9 => h9) rfl dX6_tell_26 ?_
            refine lv_icmp_ge (tgt := 83) hx hb dX6_tell_29 (by decide) (fun c62 => ?_) (fun c62 => ?_)
            · have c62 := i_le rfl rfl c62
              obtain ⟨v63, ev63⟩ : ∃ y : Int32, y = x20 + 1 := ⟨_, rfl⟩
              have tv63 : v63.toInt = x20.toInt + 1 := ti_add rfl ki_1 ev63 (by omega) (by omega)
              refine lv_iinc (v := v63) (lv' := [(3, .int v63), (4, .int x46), (0, .ref h0), (1, .ref h1), (2, .ref h2)]) hx hb dX6_tell_83 hl (k := 1) rfl (by rw [ev63]; rfl) (by decide) rfl (fun ls hl => ?_)
              refine lv_goto (tgt := 7) hx hb dX6_tell_86 (by decide) ?_
              exact ih34 v63 g47 g48 g49 g50 g51 g52 g53 g54 g55 g56 (by omega) (by omega) k59 (by omega) _ _ (hP.sub [0, 1, 2, 3, 4, 5, 6, 7, 15, 8, 9, 10, 11, 12, 16, 17, 18, 19, 13, 14] rfl) (hD.sub [0, 1, 2, 3, 4, 5, 6, 7, 15, 8, 9, 10, 11, 12, 16, 17, 18, 19, 13, 14] rfl rfl) hS ls (lv_sub hl [0, 2, 3, 4] rfl)
            · have c62 := i_nle rfl rfl c62
              refine lv_aload_n hx hb dX6_tell_32 rfl (lv_at hl 3 rfl) ?_
              refine va_getN (D := G) (ci := 0) (v := .ref (bc 15)) (C := RX0) (T := TX0) (N := 19) hx hb hts iG_X0 hown hK hP 13 rfl rfl 15 (by decide) (nz_use hZ nw_110 rfl) (fun _ h9 => h9) rfl dX6_tell_33 ?_
              refine lv_iload hx hb dX6_tell_36 (lv_at hl 0 rfl) ?_
              refine va_iald hx hb hK hP 4 0 rfl rfl (ix_in rfl (by omega) (by omega)) dX6_tell_38 ?_
              refine lv_topi (fun v64 ev64 => ?_)
              refine lv_iload_n hx hb dX6_tell_39 rfl (lv_at hl 1 rfl) ?_
              refine lv_icmp_ne (tgt := 77) hx hb dX6_tell_40 (by decide) (fun c65 => ?_) (fun c65 => ?_)
              · have c65 := i_ne rfl rfl c65
                obtain ⟨v66, ev66⟩ : ∃ y : Int32, y = x46 + 1 := ⟨_, rfl⟩
                have tv66 : v66.toInt = x46.toInt + 1 := ti_add rfl ki_1 ev66 (by omega) (by omega)
                refine lv_iinc (v := v66) (lv' := [(4, .int v66), (3, .int x20), (0, .ref h0), (1, .ref h1), (2, .ref h2)]) hx hb dX6_tell_77 hl (k := 0) rfl (by rw [ev66]; rfl) (by decide) rfl (fun ls hl => ?_)
                refine lv_goto (tgt := 23) hx hb dX6_tell_80 (by decide) ?_
                exact ih60 v66 g47 g48 g49 g50 g51 g52 g53 g54 g55 g56 (by omega) (by omega) k59 (by omega) _ _ hP hD hS ls (lv_sub hl [0, 1, 2, 3, 4] rfl)
              · have c65 := i_eq rfl rfl c65
                refine lv_aload_n hx hb dX6_tell_43 rfl (lv_at hl 4 rfl) ?_
                refine va_getN (D := G) (ci := 7) (v := .int u_walkers) (C := RX7) (T := TX7) (N := 6) hx hb hts iG_X7 hown hK hP 7 rfl rfl 1 (by decide) (nz_use hZ nw_203 rfl) (fun _ h9 => h9) rfl dX6_tell_44 ?_
                refine lv_iload hx hb dX6_tell_47 (lv_at hl 0 rfl) ?_
                refine lv_ishr hx hb dX6_tell_49 ?_
                refine lv_topi (fun v67 ev67 => ?_)
                refine lv_iconst (v := 1) hx hb dX6_tell_50 (by decide) ?_
                refine lv_iand hx hb dX6_tell_51 ?_
                refine lv_topi (fun v68 ev68 => ?_)
                obtain ⟨sa69, sb70⟩ : 0 ≤ v68.toInt ∧ v68.toInt ≤ 1 := and_m 1 (by decide) (by decide) ev68
                refine lv_iconst (v := 1) hx hb dX6_tell_52 (by decide) ?_
                refine lv_icmp_ne (tgt := 77) hx hb dX6_tell_53 (by decide) (fun c71 => ?_) (fun c71 => ?_)
                · have c71 := i_ne rfl ki_1 c71
                  obtain ⟨v72, ev72⟩ : ∃ y : Int32, y = x46 + 1 := ⟨_, rfl⟩
                  have tv72 : v72.toInt = x46.toInt + 1 := ti_add rfl ki_1 ev72 (by omega) (by omega)
                  refine lv_iinc (v := v72) (lv' := [(4, .int v72), (3, .int x20), (0, .ref h0), (1, .ref h1), (2, .ref h2)]) hx hb dX6_tell_77 hl (k := 0) rfl (by rw [ev72]; rfl) (by decide) rfl (fun ls hl => ?_)
                  refine lv_goto (tgt := 23) hx hb dX6_tell_80 (by decide) ?_
                  exact ih60 v72 g47 g48 g49 g50 g51 g52 g53 g54 g55 g56 (by omega) (by omega) k59 (by omega) _ _ hP hD hS ls (lv_sub hl [0, 1, 2, 3, 4] rfl)
                · have c71 := i_eq rfl ki_1 c71
                  refine lv_aload_n hx hb dX6_tell_56 rfl (lv_at hl 2 rfl) ?_
                  refine lv_aload_n hx hb dX6_tell_57 rfl (lv_at hl 3 rfl) ?_
                  refine lv_aload_n hx hb dX6_tell_58 rfl (lv_at hl 4 rfl) ?_
                  refine lv_iload hx hb dX6_tell_59 (lv_at hl 0 rfl) ?_
                  refine lv_iload_n hx hb dX6_tell_61 rfl (lv_at hl 1 rfl) ?_
                  refine lv_iconst (v := 1) hx hb dX6_tell_62 (by decide) ?_
                  refine lv_iadd hx hb dX6_tell_63 ?_
                  refine lv_topi (fun v73 ev73 => ?_)
                  have tv73 : v73.toInt = x20.toInt + 1 := ti_add rfl ki_1 ev73 (by omega) (by omega)
                  refine k_v (wc := [(h0, oX6 b o_fieldo4 o_houseso5), (b 0, .inl (cI, 287, .inl g47)), (b 1, .inl (cI, 7, .inl g48)), (b 2, .inl (cI, 7, .inl g49)), (b 3, .inl (cJ, 7, .inr (.inl g50))), (b 7, .inl (cJ, 13, .inr (.inl g54))), (b 8, .inl (cJ, 13, .inr (.inl g55))), (b 9, .inl (cJ, 13, .inr (.inl g56))), (h1, oX0 bc c_lines c_span c_rule c_odds c_wide c_high c_creeks c_houses c_widows c_acts), (bc 12, .inl (cI, 7, .inl c_f12)), (bc 13, .inl (cI, 7, .inl c_f13)), (bc 14, .inl (cI, 7, .inl c_f14)), (bc 16, .inl (cI, 7, .inl c_f16)), (bc 17, .inl (cI, 56, .inl c_f17)), (h2, oX7 z0 u_rule u_walkers u_creeks u_widow u_faces u_turn)]) (wr := [(bc 15, .inl (cI, 7, .inl c_f15)), (b 4, .inl (cI, 7, .inl g51)), (b 5, .inl (cI, 6, .inl g52)), (bc 11, .inl (cI, 6, .inl c_f11)), (b 6, .inl (cI, 78, .inl g53))]) hP hD hS hA [15, 0, 8, 9, 10, 17, 18, 19, 13, 1, 2, 3, 5, 6, 7] [4, 11, 12, 14, 16] rfl rfl rfl (by decide) (va_runV (As := [.ref h1, .ref h2, .int x46, .int v73]) (rest := []) ⟨hx, hb, hml, hown, hts⟩ (f_X6_walk l G cI cJ cZ cB cQ _ h0 h1 h2 x46 v73 b o_fieldo4 o_houseso5 g47 g48 g49 g50 g54 g55 g56 bc c_lines c_span c_rule c_odds c_wide c_high c_creeks c_houses c_widows c_acts c_f12 c_f13 c_f14 c_f16 c_f17 u_rule u_walkers u_creeks u_widow u_faces u_turn k57 (by omega) (by omega) (by omega) w15 w16 k59 (by omega) hh_c_span hl_c_rule hh_c_rule hl_c_odds hh_c_odds hl_c_wide hh_c_wide hl_c_high hh_c_high hl_c_creeks hh_c_creeks hl_c_houses hh_c_houses (by omega) hh_c_widows hl_c_acts hh_c_acts ha_c_f14 ha_c_f16) (cwV 4 hts (gV w_599 w_601 wp_28 w_6 w_602) rfl rfl rfl ⟨rfl, hd_X6_walk⟩ ⟨Nat.le_of_ble_eq_true rfl, Nat.le_of_ble_eq_true rfl⟩) (mV hK hZ hP hD [15, 0, 8, 9, 10, 17, 18, 19, 13, 1, 2, 3, 5, 6, 7] rfl rfl [.ref h1, .ref h2, .int x46, .int v73] 15 6 rfl rfl) rfl rfl hl.1 rfl (lv_room (Nat.le_of_ble_eq_true rfl)) dX6_tell_64 ⟨Nat.le_of_ble_eq_true rfl, Nat.le_of_ble_eq_true rfl⟩) (fun u75 H locs hw76 hP hD hS => ?_)
                  obtain ⟨o_f0o77, o_f1o78, o_f2o79, o_f3o80, o_f7o81, o_f8o82, o_f9o83⟩ := u75
                  try dsimp only at hw76
                  have hP : va_P G vwCl [(bc 15, .inl (cI, 7, .inl c_f15)), (b 4, .inl (cI, 7, .inl g51)), (b 5, .inl (cI, 6, .inl g52)), (bc 11, .inl (cI, 6, .inl c_f11)), (b 6, .inl (cI, 78, .inl g53)), (h0, oX6 b o_fieldo4 o_houseso5), (b 0, .inl (cI, 287, .inl o_f0o77)), (b 1, .inl (cI, 7, .inl o_f1o78)), (b 2, .inl (cI, 7, .inl o_f2o79)), (b 3, .inl (cJ, 7, .inr (.inl o_f3o80))), (b 7, .inl (cJ, 13, .inr (.inl o_f7o81))), (b 8, .inl (cJ, 13, .inr (.inl o_f8o82))), (b 9, .inl (cJ, 13, .inr (.inl o_f9o83))), (h1, oX0 bc c_lines c_span c_rule c_odds c_wide c_high c_creeks c_houses c_widows c_acts), (bc 12, .inl (cI, 7, .inl c_f12)), (bc 13, .inl (cI, 7, .inl c_f13)), (bc 14, .inl (cI, 7, .inl c_f14)), (bc 16, .inl (cI, 7, .inl c_f16)), (bc 17, .inl (cI, 56, .inl c_f17)), (h2, oX7 z0 u_rule u_walkers u_creeks u_widow u_faces u_turn)] H := hP
                  have hD : va_D A [(bc 15, .inl (cI, 7, .inl c_f15)), (b 4, .inl (cI, 7, .inl g51)), (b 5, .inl (cI, 6, .inl g52)), (bc 11, .inl (cI, 6, .inl c_f11)), (b 6, .inl (cI, 78, .inl g53)), (h0, oX6 b o_fieldo4 o_houseso5), (b 0, .inl (cI, 287, .inl o_f0o77)), (b 1, .inl (cI, 7, .inl o_f1o78)), (b 2, .inl (cI, 7, .inl o_f2o79)), (b 3, .inl (cJ, 7, .inr (.inl o_f3o80))), (b 7, .inl (cJ, 13, .inr (.inl o_f7o81))), (b 8, .inl (cJ, 13, .inr (.inl o_f8o82))), (b 9, .inl (cJ, 13, .inr (.inl o_f9o83))), (h1, oX0 bc c_lines c_span c_rule c_odds c_wide c_high c_creeks c_houses c_widows c_acts), (bc 12, .inl (cI, 7, .inl c_f12)), (bc 13, .inl (cI, 7, .inl c_f13)), (bc 14, .inl (cI, 7, .inl c_f14)), (bc 16, .inl (cI, 7, .inl c_f16)), (bc 17, .inl (cI, 56, .inl c_f17)), (h2, oX7 z0 u_rule u_walkers u_creeks u_widow u_faces u_turn)] := hD
                  have w84 : ai o_f1o78 7 (-1) 40 := hw76
                  refine lv_aload_n hx hb dX6_tell_67 rfl (lv_at hl 2 rfl) ?_
                  refine lv_aload_n hx hb dX6_tell_68 rfl (lv_at hl 4 rfl) ?_
                  refine lv_iload hx hb dX6_tell_69 (lv_at hl 0 rfl) ?_
                  refine lv_iload_n hx hb dX6_tell_71 rfl (lv_at hl 1 rfl) ?_
                  refine lv_iconst (v := 1) hx hb dX6_tell_72 (by decide) ?_
                  refine lv_iadd hx hb dX6_tell_73 ?_
                  refine lv_topi (fun v85 ev85 => ?_)
                  have tv85 : v85.toInt = x20.toInt + 1 := ti_add rfl ki_1 ev85 (by omega) (by omega)
                  refine k_v (wc := [(h0, oX6 b o_fieldo4 o_houseso5), (b 3, .inl (cJ, 7, .inr (.inl o_f3o80))), (b 4, .inl (cI, 7, .inl g51)), (b 5, .inl (cI, 6, .inl g52)), (b 6, .inl (cI, 78, .inl g53)), (b 7, .inl (cJ, 13, .inr (.inl o_f7o81))), (h2, oX7 z0 u_rule u_walkers u_creeks u_widow u_faces u_turn)]) (wr := [(bc 15, .inl (cI, 7, .inl c_f15)), (bc 11, .inl (cI, 6, .inl c_f11)), (b 0, .inl (cI, 287, .inl o_f0o77)), (b 1, .inl (cI, 7, .inl o_f1o78)), (b 2, .inl (cI, 7, .inl o_f2o79)), (b 8, .inl (cJ, 13, .inr (.inl o_f8o82))), (b 9, .inl (cJ, 13, .inr (.inl o_f9o83))), (h1, oX0 bc c_lines c_span c_rule c_odds c_wide c_high c_creeks c_houses c_widows c_acts), (bc 12, .inl (cI, 7, .inl c_f12)), (bc 13, .inl (cI, 7, .inl c_f13)), (bc 14, .inl (cI, 7, .inl c_f14)), (bc 16, .inl (cI, 7, .inl c_f16)), (bc 17, .inl (cI, 56, .inl c_f17))]) hP hD hS hA [5, 9, 1, 2, 4, 10, 19] [0, 3, 6, 7, 8, 11, 12, 13, 14, 15, 16, 17, 18] rfl rfl rfl (by decide) (va_runV (As := [.ref h2, .int x46, .int v85]) (rest := []) ⟨hx, hb, hml, hown, hts⟩ (f_X6_moveHouses l G cI cJ cZ cB cQ _ h0 h2 x46 v85 b o_fieldo4 o_houseso5 o_f3o80 g51 g52 g53 o_f7o81 u_rule u_walkers u_creeks u_widow u_faces u_turn k57 (by omega) (by omega) (by omega) w15 w16) (cwV 3 hts (gV w_628 w_630 wp_32 w_6 w_631) rfl rfl rfl ⟨rfl, hd_X6_moveHouses⟩ ⟨Nat.le_of_ble_eq_true rfl, Nat.le_of_ble_eq_true rfl⟩) (mV hK hZ hP hD [5, 9, 1, 2, 4, 10, 19] rfl rfl [.ref h2, .int x46, .int v85] 5 6 rfl rfl) rfl rfl hl.1 rfl (lv_room (Nat.le_of_ble_eq_true rfl)) dX6_tell_74 ⟨Nat.le_of_ble_eq_true rfl, Nat.le_of_ble_eq_true rfl⟩) (fun u87 H locs hw88 hP hD hS => ?_)
                  obtain ⟨o_f4o89, o_f5o90, o_f6o91⟩ := u87
                  try dsimp only at hw88
                  have hP : va_P G vwCl [(bc 15, .inl (cI, 7, .inl c_f15)), (bc 11, .inl (cI, 6, .inl c_f11)), (b 0, .inl (cI, 287, .inl o_f0o77)), (b 1, .inl (cI, 7, .inl o_f1o78)), (b 2, .inl (cI, 7, .inl o_f2o79)), (b 8, .inl (cJ, 13, .inr (.inl o_f8o82))), (b 9, .inl (cJ, 13, .inr (.inl o_f9o83))), (h1, oX0 bc c_lines c_span c_rule c_odds c_wide c_high c_creeks c_houses c_widows c_acts), (bc 12, .inl (cI, 7, .inl c_f12)), (bc 13, .inl (cI, 7, .inl c_f13)), (bc 14, .inl (cI, 7, .inl c_f14)), (bc 16, .inl (cI, 7, .inl c_f16)), (bc 17, .inl (cI, 56, .inl c_f17)), (h0, oX6 b o_fieldo4 o_houseso5), (b 3, .inl (cJ, 7, .inr (.inl o_f3o80))), (b 4, .inl (cI, 7, .inl o_f4o89)), (b 5, .inl (cI, 6, .inl o_f5o90)), (b 6, .inl (cI, 78, .inl o_f6o91)), (b 7, .inl (cJ, 13, .inr (.inl o_f7o81))), (h2, oX7 z0 u_rule u_walkers u_creeks u_widow u_faces u_turn)] H := hP
                  have hD : va_D A [(bc 15, .inl (cI, 7, .inl c_f15)), (bc 11, .inl (cI, 6, .inl c_f11)), (b 0, .inl (cI, 287, .inl o_f0o77)), (b 1, .inl (cI, 7, .inl o_f1o78)), (b 2, .inl (cI, 7, .inl o_f2o79)), (b 8, .inl (cJ, 13, .inr (.inl o_f8o82))), (b 9, .inl (cJ, 13, .inr (.inl o_f9o83))), (h1, oX0 bc c_lines c_span c_rule c_odds c_wide c_high c_creeks c_houses c_widows c_acts), (bc 12, .inl (cI, 7, .inl c_f12)), (bc 13, .inl (cI, 7, .inl c_f13)), (bc 14, .inl (cI, 7, .inl c_f14)), (bc 16, .inl (cI, 7, .inl c_f16)), (bc 17, .inl (cI, 56, .inl c_f17)), (h0, oX6 b o_fieldo4 o_houseso5), (b 3, .inl (cJ, 7, .inr (.inl o_f3o80))), (b 4, .inl (cI, 7, .inl o_f4o89)), (b 5, .inl (cI, 6, .inl o_f5o90)), (b 6, .inl (cI, 78, .inl o_f6o91)), (b 7, .inl (cJ, 13, .inr (.inl o_f7o81))), (h2, oX7 z0 u_rule u_walkers u_creeks u_widow u_faces u_turn)] := hD
                  obtain ⟨v92, ev92⟩ : ∃ y : Int32, y = x46 + 1 := ⟨_, rfl⟩
                  have tv92 : v92.toInt = x46.toInt + 1 := ti_add rfl ki_1 ev92 (by omega) (by omega)
                  refine lv_iinc (v := v92) (lv' := [(4, .int v92), (3, .int x20), (0, .ref h0), (1, .ref h1), (2, .ref h2)]) hx hb dX6_tell_77 hl (k := 0) rfl (by rw [ev92]; rfl) (by decide) rfl (fun ls hl => ?_)
                  refine lv_goto (tgt := 23) hx hb dX6_tell_80 (by decide) ?_
                  exact ih60 v92 o_f0o77 o_f1o78 o_f2o79 o_f3o80 o_f4o89 o_f5o90 o_f6o91 o_f7o81 o_f8o82 o_f9o83 (by omega) (by omega) w84 (by omega) _ _ (hP.sub [2, 8, 9, 10, 0, 11, 12, 19, 3, 4, 14, 15, 16, 7, 1, 13, 17, 18, 5, 6] rfl) (hD.sub [2, 8, 9, 10, 0, 11, 12, 19, 3, 4, 14, 15, 16, 7, 1, 13, 17, 18, 5, 6] rfl rfl) hS ls (lv_sub hl [0, 1, 2, 3, 4] rfl)
        exact lp44 8 0 g21 g22 g23 g24 g25 g26 o_f6o40 o_f7o41 o_f8o42 o_f9o43 (by rw [ki_0]; decide) (by rw [ki_0]; decide) k33 (by rw [ki_0]; decide) _ _ hP hD hS ls (lv_sub hl [0, 1, 2, 3, 4] rfl)
  exact lp18 13 0 o_f0 o_f1o6 o_f2o7 o_f3o8 o_f4o9 o_f5o10 o_f6o11 o_f7o12 o_f8o13 o_f9o14 (by rw [ki_0]; decide) (by rw [ki_0]; decide) w17 (by rw [ki_0]; decide) _ _ hP hD hS ls (lv_sub hl [0, 1, 2, 3] rfl)
