theorem wp_34 : Cond.selects "WidowRoads$Colony" yX0_spotOf yX0_spotOf ∈ GW := GW_p 34 (by decide +kernel) rfl
theorem wp_35 : Cond.selects "WidowRoads$Colony" yX0_hasWidow yX0_hasWidow ∈ GW := GW_p 35 (by decide +kernel) rfl
theorem wp_36 : Cond.selects "WidowRoads$Story" yX6_spotAt yX6_spotAt ∈ GW := GW_p 36 (by decide +kernel) rfl
theorem w_9 : Jvm.Cond.initialized "WidowRoads$Rows" ∈ GW := GW_t 9 (by decide +kernel) rfl
theorem w_322 : Jvm.Cond.fieldLink "WidowRoads$Rows" (9 : Nat) "WidowRoads$Rows" "numbers" "[J" ∈ GW := GW_t 322 (by decide +kernel) rfl
theorem w_323 : Jvm.Cond.fieldLink "WidowRoads$Rows" (15 : Nat) "WidowRoads$Rows" "had" "[Z" ∈ GW := GW_t 323 (by decide +kernel) rfl
theorem w_324 : Jvm.Cond.fieldLink "WidowRoads$Rows" (19 : Nat) "WidowRoads$Rows" "widths" "[I" ∈ GW := GW_t 324 (by decide +kernel) rfl
theorem w_326 : Jvm.Cond.fieldLink "WidowRoads$Rows" (23 : Nat) "WidowRoads$Rows" "sizes" "[I" ∈ GW := GW_t 326 (by decide +kernel) rfl
theorem w_655 : Jvm.Cond.instanceMethod ({ cls := "WidowRoads$Colony", name := "spotOf", desc := "(J)I" } : Jvm.MethodName) ∈ GW := GW_t 655 (by decide +kernel) rfl
theorem w_656 : Jvm.Cond.code ({ cls := "WidowRoads$Colony", name := "spotOf", desc := "(J)I" } : Jvm.MethodName) prog_2_method_7_code (3 : Nat) (Option.some Jvm.ClassFile.FieldType.int) ∈ GW := GW_t 656 (by decide +kernel) rfl
theorem w_670 : Jvm.Cond.instanceMethod ({ cls := "WidowRoads$Colony", name := "hasWidow", desc := "(J)Z" } : Jvm.MethodName) ∈ GW := GW_t 670 (by decide +kernel) rfl
theorem w_671 : Jvm.Cond.code ({ cls := "WidowRoads$Colony", name := "hasWidow", desc := "(J)Z" } : Jvm.MethodName) prog_2_method_4_code (3 : Nat) (Option.some Jvm.ClassFile.FieldType.boolean) ∈ GW := GW_t 671 (by decide +kernel) rfl
theorem w_684 : Jvm.Cond.static ({ cls := "WidowRoads", name := "isStep", desc := "(J)Z" } : Jvm.MethodName) ∈ GW := GW_t 684 (by decide +kernel) rfl
theorem w_685 : Jvm.Cond.code ({ cls := "WidowRoads", name := "isStep", desc := "(J)Z" } : Jvm.MethodName) prog_1_method_85_code (2 : Nat) (Option.some Jvm.ClassFile.FieldType.boolean) ∈ GW := GW_t 685 (by decide +kernel) rfl
theorem w_689 : Jvm.Cond.instanceMethod ({ cls := "WidowRoads$Story", name := "spotAt", desc := "(II)I" } : Jvm.MethodName) ∈ GW := GW_t 689 (by decide +kernel) rfl
theorem w_690 : Jvm.Cond.code ({ cls := "WidowRoads$Story", name := "spotAt", desc := "(II)I" } : Jvm.MethodName) prog_8_method_12_code (3 : Nat) (Option.some Jvm.ClassFile.FieldType.int) ∈ GW := GW_t 690 (by decide +kernel) rfl
theorem w_1171 : Jvm.Cond.methodLink "WidowRoads$Rows" (30 : Nat) ({ cls := "WidowRoads$Rows", name := "cut", desc := "(JI)J" } : Jvm.MethodName) ∈ GW := GW_t 1171 (by decide +kernel) rfl
theorem w_1172 : Jvm.Cond.static ({ cls := "WidowRoads$Rows", name := "cut", desc := "(JI)J" } : Jvm.MethodName) ∈ GW := GW_t 1172 (by decide +kernel) rfl
theorem w_1173 : Jvm.Cond.code ({ cls := "WidowRoads$Rows", name := "cut", desc := "(JI)J" } : Jvm.MethodName) prog_7_method_6_code (3 : Nat) (Option.some Jvm.ClassFile.FieldType.long) ∈ GW := GW_t 1173 (by decide +kernel) rfl
theorem w_1186 : Jvm.Cond.methodLink "WidowRoads$Rows" (34 : Nat) ({ cls := "java/lang/System", name := "arraycopy", desc := "(Ljava/lang/Object;ILjava/lang/Object;II)V" } : Jvm.MethodName) ∈ GW := GW_t 1186 (by decide +kernel) rfl
theorem iG_X5 : ∀ w ∈ wsX50, w ∈ GW := GW_in [328, 330, 332, 334] (by decide +kernel) (by decide +kernel)
theorem nw_962 : Jvm.Cond.methodLinkNest "WidowRoads$Rows" (40 : Nat) ({ cls := "WidowRoads$Colony", name := "hasWidow", desc := "(J)Z" } : Jvm.MethodName) "WidowRoads" ∈ tables_1 := List.mem_of_getElem? (i := 962) (by decide +kernel)
theorem nw_963 : Jvm.Cond.methodLinkNest "WidowRoads$Rows" (46 : Nat) ({ cls := "WidowRoads", name := "isStep", desc := "(J)Z" } : Jvm.MethodName) "WidowRoads" ∈ tables_1 := List.mem_of_getElem? (i := 963) (by decide +kernel)
theorem nw_964 : Jvm.Cond.methodLinkNest "WidowRoads$Rows" (49 : Nat) ({ cls := "WidowRoads$Colony", name := "spotOf", desc := "(J)I" } : Jvm.MethodName) "WidowRoads" ∈ tables_1 := List.mem_of_getElem? (i := 964) (by decide +kernel)
theorem nw_973 : Jvm.Cond.methodLinkNest "WidowRoads$Rows" (53 : Nat) ({ cls := "WidowRoads$Story", name := "spotAt", desc := "(II)I" } : Jvm.MethodName) "WidowRoads" ∈ tables_1 := List.mem_of_getElem? (i := 973) (by decide +kernel)
theorem nw_1146 : Jvm.Cond.methodLinkNest "WidowRoads$Rows" (26 : Nat) ({ cls := "WidowRoads", name := "oneIf", desc := "(Z)I" } : Jvm.MethodName) "WidowRoads" ∈ tables_1 := List.mem_of_getElem? (i := 1146) (by decide +kernel)
theorem hd_X0_hasWidow : yX0_hasWidow.cls ≠ "java/lang/invoke/MethodHandle" ∧ yX0_hasWidow.cls ≠ "java/lang/invoke/VarHandle" ∧ (parseMethodDescriptor yX0_hasWidow.desc).map (fun d => d.parameters.length) = some 1 := by decide +kernel
theorem hd_X0_spotOf : yX0_spotOf.cls ≠ "java/lang/invoke/MethodHandle" ∧ yX0_spotOf.cls ≠ "java/lang/invoke/VarHandle" ∧ (parseMethodDescriptor yX0_spotOf.desc).map (fun d => d.parameters.length) = some 1 := by decide +kernel
theorem hd_X5_cut : yX5_cut.cls ≠ "java/lang/invoke/MethodHandle" ∧ yX5_cut.cls ≠ "java/lang/invoke/VarHandle" ∧ (parseMethodDescriptor yX5_cut.desc).map (fun d => d.parameters.length) = some 2 := by decide +kernel
theorem hd_X6_spotAt : yX6_spotAt.cls ≠ "java/lang/invoke/MethodHandle" ∧ yX6_spotAt.cls ≠ "java/lang/invoke/VarHandle" ∧ (parseMethodDescriptor yX6_spotAt.desc).map (fun d => d.parameters.length) = some 2 := by decide +kernel
theorem hd_X9_isStep : yX9_isStep.cls ≠ "java/lang/invoke/MethodHandle" ∧ yX9_isStep.cls ≠ "java/lang/invoke/VarHandle" ∧ (parseMethodDescriptor yX9_isStep.desc).map (fun d => d.parameters.length) = some 1 := by decide +kernel
theorem ki_60 : (60 : Int32).toInt = 60 := by decide
theorem dX5_clear_0 : decode cX5_clear 0 = .ok (.aload_n 0, 1) := by decide +kernel
theorem dX5_clear_1 : decode cX5_clear 1 = .ok (.getfield 15, 3) := by decide +kernel
theorem dX5_clear_4 : decode cX5_clear 4 = .ok (.iload_n 1, 1) := by decide +kernel
theorem dX5_clear_5 : decode cX5_clear 5 = .ok (.iconst 1, 1) := by decide +kernel
theorem dX5_clear_6 : decode cX5_clear 6 = .ok (.bastore, 1) := by decide +kernel
theorem dX5_clear_7 : decode cX5_clear 7 = .ok (.aload_n 0, 1) := by decide +kernel
theorem dX5_clear_8 : decode cX5_clear 8 = .ok (.getfield 19, 3) := by decide +kernel
theorem dX5_clear_11 : decode cX5_clear 11 = .ok (.iload_n 1, 1) := by decide +kernel
theorem dX5_clear_12 : decode cX5_clear 12 = .ok (.iload_n 2, 1) := by decide +kernel
theorem dX5_clear_13 : decode cX5_clear 13 = .ok (.iastore, 1) := by decide +kernel
theorem dX5_clear_14 : decode cX5_clear 14 = .ok (.aload_n 0, 1) := by decide +kernel
theorem dX5_clear_15 : decode cX5_clear 15 = .ok (.getfield 23, 3) := by decide +kernel
theorem dX5_clear_18 : decode cX5_clear 18 = .ok (.iload_n 1, 1) := by decide +kernel
theorem dX5_clear_19 : decode cX5_clear 19 = .ok (.iload_n 3, 1) := by decide +kernel
theorem dX5_clear_20 : decode cX5_clear 20 = .ok (.iastore, 1) := by decide +kernel
theorem dX5_clear_21 : decode cX5_clear 21 = .ok (.iconst 0, 1) := by decide +kernel
theorem dX5_clear_22 : decode cX5_clear 22 = .ok (.istore 4, 2) := by decide +kernel
theorem dX5_clear_24 : decode cX5_clear 24 = .ok (.iload 4, 2) := by decide +kernel
theorem dX5_clear_26 : decode cX5_clear 26 = .ok (.bipush 60, 2) := by decide +kernel
theorem dX5_clear_28 : decode cX5_clear 28 = .ok (.if_icmp .ge 22, 3) := by decide +kernel
theorem dX5_clear_31 : decode cX5_clear 31 = .ok (.aload_n 0, 1) := by decide +kernel
theorem dX5_clear_32 : decode cX5_clear 32 = .ok (.getfield 9, 3) := by decide +kernel
theorem dX5_clear_35 : decode cX5_clear 35 = .ok (.iload_n 1, 1) := by decide +kernel
theorem dX5_clear_36 : decode cX5_clear 36 = .ok (.bipush 60, 2) := by decide +kernel
theorem dX5_clear_38 : decode cX5_clear 38 = .ok (.imul, 1) := by decide +kernel
theorem dX5_clear_39 : decode cX5_clear 39 = .ok (.iload 4, 2) := by decide +kernel
theorem dX5_clear_41 : decode cX5_clear 41 = .ok (.iadd, 1) := by decide +kernel
theorem dX5_clear_42 : decode cX5_clear 42 = .ok (.lconst 0, 1) := by decide +kernel
theorem dX5_clear_43 : decode cX5_clear 43 = .ok (.lastore, 1) := by decide +kernel
theorem dX5_clear_44 : decode cX5_clear 44 = .ok (.iinc 4 1, 3) := by decide +kernel
theorem dX5_clear_47 : decode cX5_clear 47 = .ok (.goto (-23), 3) := by decide +kernel
theorem dX5_clear_50 : decode cX5_clear 50 = .ok (.return_, 1) := by decide +kernel
theorem dX5_cut_0 : decode cX5_cut 0 = .ok (.iload_n 2, 1) := by decide +kernel
theorem dX5_cut_1 : decode cX5_cut 1 = .ok (.tableswitch 41 0 2 #[27, 32, 37], 27) := by decide +kernel
theorem dX5_cut_28 : decode cX5_cut 28 = .ok (.lload_n 0, 1) := by decide +kernel
theorem dX5_cut_29 : decode cX5_cut 29 = .ok (.l2i, 1) := by decide +kernel
theorem dX5_cut_30 : decode cX5_cut 30 = .ok (.i2b, 1) := by decide +kernel
theorem dX5_cut_31 : decode cX5_cut 31 = .ok (.i2l, 1) := by decide +kernel
theorem dX5_cut_32 : decode cX5_cut 32 = .ok (.lreturn, 1) := by decide +kernel
theorem dX5_cut_33 : decode cX5_cut 33 = .ok (.lload_n 0, 1) := by decide +kernel
theorem dX5_cut_34 : decode cX5_cut 34 = .ok (.l2i, 1) := by decide +kernel
theorem dX5_cut_35 : decode cX5_cut 35 = .ok (.i2s, 1) := by decide +kernel
theorem dX5_cut_36 : decode cX5_cut 36 = .ok (.i2l, 1) := by decide +kernel
theorem dX5_cut_37 : decode cX5_cut 37 = .ok (.lreturn, 1) := by decide +kernel
theorem dX5_cut_38 : decode cX5_cut 38 = .ok (.lload_n 0, 1) := by decide +kernel
theorem dX5_cut_39 : decode cX5_cut 39 = .ok (.l2i, 1) := by decide +kernel
theorem dX5_cut_40 : decode cX5_cut 40 = .ok (.i2l, 1) := by decide +kernel
theorem dX5_cut_41 : decode cX5_cut 41 = .ok (.lreturn, 1) := by decide +kernel
theorem dX5_cut_42 : decode cX5_cut 42 = .ok (.lload_n 0, 1) := by decide +kernel
theorem dX5_cut_43 : decode cX5_cut 43 = .ok (.lreturn, 1) := by decide +kernel
theorem dX5_empty_0 : decode cX5_empty 0 = .ok (.aload_n 0, 1) := by decide +kernel
theorem dX5_empty_1 : decode cX5_empty 1 = .ok (.getfield 15, 3) := by decide +kernel
theorem dX5_empty_4 : decode cX5_empty 4 = .ok (.iload_n 1, 1) := by decide +kernel
theorem dX5_empty_5 : decode cX5_empty 5 = .ok (.baload, 1) := by decide +kernel
theorem dX5_empty_6 : decode cX5_empty 6 = .ok (.ifCond .ne 7, 3) := by decide +kernel
theorem dX5_empty_9 : decode cX5_empty 9 = .ok (.iconst 1, 1) := by decide +kernel
theorem dX5_empty_10 : decode cX5_empty 10 = .ok (.goto 4, 3) := by decide +kernel
theorem dX5_empty_13 : decode cX5_empty 13 = .ok (.iconst 0, 1) := by decide +kernel
theorem dX5_empty_14 : decode cX5_empty 14 = .ok (.ireturn, 1) := by decide +kernel
theorem dX5_fits_0 : decode cX5_fits 0 = .ok (.iload_n 1, 1) := by decide +kernel
theorem dX5_fits_1 : decode cX5_fits 1 = .ok (.bipush 60, 2) := by decide +kernel
theorem dX5_fits_3 : decode cX5_fits 3 = .ok (.imul, 1) := by decide +kernel
theorem dX5_fits_4 : decode cX5_fits 4 = .ok (.istore 4, 2) := by decide +kernel
theorem dX5_fits_6 : decode cX5_fits 6 = .ok (.iload 4, 2) := by decide +kernel
theorem dX5_fits_8 : decode cX5_fits 8 = .ok (.iload_n 1, 1) := by decide +kernel
theorem dX5_fits_9 : decode cX5_fits 9 = .ok (.bipush 60, 2) := by decide +kernel
theorem dX5_fits_11 : decode cX5_fits 11 = .ok (.imul, 1) := by decide +kernel
theorem dX5_fits_12 : decode cX5_fits 12 = .ok (.aload_n 0, 1) := by decide +kernel
theorem dX5_fits_13 : decode cX5_fits 13 = .ok (.getfield 23, 3) := by decide +kernel
theorem dX5_fits_16 : decode cX5_fits 16 = .ok (.iload_n 1, 1) := by decide +kernel
theorem dX5_fits_17 : decode cX5_fits 17 = .ok (.iaload, 1) := by decide +kernel
theorem dX5_fits_18 : decode cX5_fits 18 = .ok (.iadd, 1) := by decide +kernel
theorem dX5_fits_19 : decode cX5_fits 19 = .ok (.if_icmp .ge 53, 3) := by decide +kernel
theorem dX5_fits_22 : decode cX5_fits 22 = .ok (.aload_n 3, 1) := by decide +kernel
theorem dX5_fits_23 : decode cX5_fits 23 = .ok (.aload_n 0, 1) := by decide +kernel
theorem dX5_fits_24 : decode cX5_fits 24 = .ok (.getfield 9, 3) := by decide +kernel
theorem dX5_fits_27 : decode cX5_fits 27 = .ok (.iload 4, 2) := by decide +kernel
theorem dX5_fits_29 : decode cX5_fits 29 = .ok (.laload, 1) := by decide +kernel
theorem dX5_fits_30 : decode cX5_fits 30 = .ok (.l2i, 1) := by decide +kernel
theorem dX5_fits_31 : decode cX5_fits 31 = .ok (.aload_n 0, 1) := by decide +kernel
theorem dX5_fits_32 : decode cX5_fits 32 = .ok (.getfield 9, 3) := by decide +kernel
theorem dX5_fits_35 : decode cX5_fits 35 = .ok (.iload 4, 2) := by decide +kernel
theorem dX5_fits_37 : decode cX5_fits 37 = .ok (.iconst 1, 1) := by decide +kernel
theorem dX5_fits_38 : decode cX5_fits 38 = .ok (.iadd, 1) := by decide +kernel
theorem dX5_fits_39 : decode cX5_fits 39 = .ok (.laload, 1) := by decide +kernel
theorem dX5_fits_40 : decode cX5_fits 40 = .ok (.l2i, 1) := by decide +kernel
theorem dX5_fits_41 : decode cX5_fits 41 = .ok (.invokevirtual 53, 3) := by decide +kernel
theorem dX5_fits_44 : decode cX5_fits 44 = .ok (.istore 5, 2) := by decide +kernel
theorem dX5_fits_46 : decode cX5_fits 46 = .ok (.iload 5, 2) := by decide +kernel
theorem dX5_fits_48 : decode cX5_fits 48 = .ok (.aload_n 2, 1) := by decide +kernel
theorem dX5_fits_49 : decode cX5_fits 49 = .ok (.aload_n 0, 1) := by decide +kernel
theorem dX5_fits_50 : decode cX5_fits 50 = .ok (.getfield 9, 3) := by decide +kernel
theorem dX5_fits_53 : decode cX5_fits 53 = .ok (.iload 4, 2) := by decide +kernel
theorem dX5_fits_55 : decode cX5_fits 55 = .ok (.iconst 2, 1) := by decide +kernel
theorem dX5_fits_56 : decode cX5_fits 56 = .ok (.iadd, 1) := by decide +kernel
theorem dX5_fits_57 : decode cX5_fits 57 = .ok (.laload, 1) := by decide +kernel
theorem dX5_fits_58 : decode cX5_fits 58 = .ok (.invokevirtual 49, 3) := by decide +kernel
theorem dX5_fits_61 : decode cX5_fits 61 = .ok (.if_icmp .eq 5, 3) := by decide +kernel
theorem dX5_fits_64 : decode cX5_fits 64 = .ok (.iconst 0, 1) := by decide +kernel
theorem dX5_fits_65 : decode cX5_fits 65 = .ok (.ireturn, 1) := by decide +kernel
theorem dX5_fits_66 : decode cX5_fits 66 = .ok (.iinc 4 3, 3) := by decide +kernel
theorem dX5_fits_69 : decode cX5_fits 69 = .ok (.goto (-63), 3) := by decide +kernel
theorem dX5_fits_72 : decode cX5_fits 72 = .ok (.iconst 1, 1) := by decide +kernel
theorem dX5_fits_73 : decode cX5_fits 73 = .ok (.ireturn, 1) := by decide +kernel
theorem dX5_holds_0 : decode cX5_holds 0 = .ok (.iload_n 2, 1) := by decide +kernel
theorem dX5_holds_1 : decode cX5_holds 1 = .ok (.ifCond .lt 33, 3) := by decide +kernel
theorem dX5_holds_4 : decode cX5_holds 4 = .ok (.iload_n 3, 1) := by decide +kernel
theorem dX5_holds_5 : decode cX5_holds 5 = .ok (.ifCond .lt 29, 3) := by decide +kernel
theorem dX5_holds_8 : decode cX5_holds 8 = .ok (.iload_n 3, 1) := by decide +kernel
theorem dX5_holds_9 : decode cX5_holds 9 = .ok (.aload_n 0, 1) := by decide +kernel
theorem dX5_holds_10 : decode cX5_holds 10 = .ok (.getfield 23, 3) := by decide +kernel
theorem dX5_holds_13 : decode cX5_holds 13 = .ok (.iload_n 1, 1) := by decide +kernel
theorem dX5_holds_14 : decode cX5_holds 14 = .ok (.iaload, 1) := by decide +kernel
theorem dX5_holds_15 : decode cX5_holds 15 = .ok (.if_icmp .gt 19, 3) := by decide +kernel
theorem dX5_holds_18 : decode cX5_holds 18 = .ok (.iload_n 2, 1) := by decide +kernel
theorem dX5_holds_19 : decode cX5_holds 19 = .ok (.aload_n 0, 1) := by decide +kernel
theorem dX5_holds_20 : decode cX5_holds 20 = .ok (.getfield 23, 3) := by decide +kernel
theorem dX5_holds_23 : decode cX5_holds 23 = .ok (.iload_n 1, 1) := by decide +kernel
theorem dX5_holds_24 : decode cX5_holds 24 = .ok (.iaload, 1) := by decide +kernel
theorem dX5_holds_25 : decode cX5_holds 25 = .ok (.iload_n 3, 1) := by decide +kernel
theorem dX5_holds_26 : decode cX5_holds 26 = .ok (.isub, 1) := by decide +kernel
theorem dX5_holds_27 : decode cX5_holds 27 = .ok (.if_icmp .gt 7, 3) := by decide +kernel
theorem dX5_holds_30 : decode cX5_holds 30 = .ok (.iconst 1, 1) := by decide +kernel
theorem dX5_holds_31 : decode cX5_holds 31 = .ok (.goto 4, 3) := by decide +kernel
theorem dX5_holds_34 : decode cX5_holds 34 = .ok (.iconst 0, 1) := by decide +kernel
theorem dX5_holds_35 : decode cX5_holds 35 = .ok (.ireturn, 1) := by decide +kernel
theorem dX5_many_0 : decode cX5_many 0 = .ok (.iconst 0, 1) := by decide +kernel
theorem dX5_many_1 : decode cX5_many 1 = .ok (.istore_n 1, 1) := by decide +kernel
theorem dX5_many_2 : decode cX5_many 2 = .ok (.iconst 0, 1) := by decide +kernel
theorem dX5_many_3 : decode cX5_many 3 = .ok (.istore_n 2, 1) := by decide +kernel
theorem dX5_many_4 : decode cX5_many 4 = .ok (.iload_n 2, 1) := by decide +kernel
theorem dX5_many_5 : decode cX5_many 5 = .ok (.iconst 4, 1) := by decide +kernel
theorem dX5_many_6 : decode cX5_many 6 = .ok (.if_icmp .ge 21, 3) := by decide +kernel
theorem dX5_many_9 : decode cX5_many 9 = .ok (.iload_n 1, 1) := by decide +kernel
theorem dX5_many_10 : decode cX5_many 10 = .ok (.aload_n 0, 1) := by decide +kernel
theorem dX5_many_11 : decode cX5_many 11 = .ok (.getfield 15, 3) := by decide +kernel
theorem dX5_many_14 : decode cX5_many 14 = .ok (.iload_n 2, 1) := by decide +kernel
theorem dX5_many_15 : decode cX5_many 15 = .ok (.baload, 1) := by decide +kernel
theorem dX5_many_16 : decode cX5_many 16 = .ok (.invokestatic 26, 3) := by decide +kernel
theorem dX5_many_19 : decode cX5_many 19 = .ok (.iadd, 1) := by decide +kernel
theorem dX5_many_20 : decode cX5_many 20 = .ok (.istore_n 1, 1) := by decide +kernel
theorem dX5_many_21 : decode cX5_many 21 = .ok (.iinc 2 1, 3) := by decide +kernel
theorem dX5_many_24 : decode cX5_many 24 = .ok (.goto (-20), 3) := by decide +kernel
theorem dX5_many_27 : decode cX5_many 27 = .ok (.iload_n 1, 1) := by decide +kernel
theorem dX5_many_28 : decode cX5_many 28 = .ok (.ireturn, 1) := by decide +kernel
theorem dX5_move_0 : decode cX5_move 0 = .ok (.aload_n 0, 1) := by decide +kernel
theorem dX5_move_1 : decode cX5_move 1 = .ok (.getfield 9, 3) := by decide +kernel
theorem dX5_move_4 : decode cX5_move 4 = .ok (.iload_n 1, 1) := by decide +kernel
theorem dX5_move_5 : decode cX5_move 5 = .ok (.bipush 60, 2) := by decide +kernel
theorem dX5_move_7 : decode cX5_move 7 = .ok (.imul, 1) := by decide +kernel
theorem dX5_move_8 : decode cX5_move 8 = .ok (.iload_n 2, 1) := by decide +kernel
theorem dX5_move_9 : decode cX5_move 9 = .ok (.iadd, 1) := by decide +kernel
theorem dX5_move_10 : decode cX5_move 10 = .ok (.aload_n 0, 1) := by decide +kernel
theorem dX5_move_11 : decode cX5_move 11 = .ok (.getfield 9, 3) := by decide +kernel
theorem dX5_move_14 : decode cX5_move 14 = .ok (.iload_n 3, 1) := by decide +kernel
theorem dX5_move_15 : decode cX5_move 15 = .ok (.bipush 60, 2) := by decide +kernel
theorem dX5_move_17 : decode cX5_move 17 = .ok (.imul, 1) := by decide +kernel
theorem dX5_move_18 : decode cX5_move 18 = .ok (.iload 4, 2) := by decide +kernel
theorem dX5_move_20 : decode cX5_move 20 = .ok (.iadd, 1) := by decide +kernel
theorem dX5_move_21 : decode cX5_move 21 = .ok (.iload 5, 2) := by decide +kernel
theorem dX5_move_23 : decode cX5_move 23 = .ok (.invokestatic 34, 3) := by decide +kernel
theorem dX5_move_26 : decode cX5_move 26 = .ok (.return_, 1) := by decide +kernel
theorem dX5_put_0 : decode cX5_put 0 = .ok (.aload_n 0, 1) := by decide +kernel
theorem dX5_put_1 : decode cX5_put 1 = .ok (.getfield 9, 3) := by decide +kernel
theorem dX5_put_4 : decode cX5_put 4 = .ok (.iload_n 1, 1) := by decide +kernel
theorem dX5_put_5 : decode cX5_put 5 = .ok (.bipush 60, 2) := by decide +kernel
theorem dX5_put_7 : decode cX5_put 7 = .ok (.imul, 1) := by decide +kernel
theorem dX5_put_8 : decode cX5_put 8 = .ok (.iload_n 2, 1) := by decide +kernel
theorem dX5_put_9 : decode cX5_put 9 = .ok (.iadd, 1) := by decide +kernel
theorem dX5_put_10 : decode cX5_put 10 = .ok (.lload_n 3, 1) := by decide +kernel
theorem dX5_put_11 : decode cX5_put 11 = .ok (.aload_n 0, 1) := by decide +kernel
theorem dX5_put_12 : decode cX5_put 12 = .ok (.getfield 19, 3) := by decide +kernel
theorem dX5_put_15 : decode cX5_put 15 = .ok (.iload_n 1, 1) := by decide +kernel
theorem dX5_put_16 : decode cX5_put 16 = .ok (.iaload, 1) := by decide +kernel
theorem dX5_put_17 : decode cX5_put 17 = .ok (.invokestatic 30, 3) := by decide +kernel
theorem dX5_put_20 : decode cX5_put 20 = .ok (.lastore, 1) := by decide +kernel
theorem dX5_put_21 : decode cX5_put 21 = .ok (.return_, 1) := by decide +kernel
theorem dX5_tellsOf_0 : decode cX5_tellsOf 0 = .ok (.aload_n 0, 1) := by decide +kernel
theorem dX5_tellsOf_1 : decode cX5_tellsOf 1 = .ok (.getfield 23, 3) := by decide +kernel
theorem dX5_tellsOf_4 : decode cX5_tellsOf 4 = .ok (.iload_n 1, 1) := by decide +kernel
theorem dX5_tellsOf_5 : decode cX5_tellsOf 5 = .ok (.iaload, 1) := by decide +kernel
theorem dX5_tellsOf_6 : decode cX5_tellsOf 6 = .ok (.iconst 3, 1) := by decide +kernel
theorem dX5_tellsOf_7 : decode cX5_tellsOf 7 = .ok (.irem, 1) := by decide +kernel
theorem dX5_tellsOf_8 : decode cX5_tellsOf 8 = .ok (.ifCond .eq 5, 3) := by decide +kernel
theorem dX5_tellsOf_11 : decode cX5_tellsOf 11 = .ok (.iconst 0, 1) := by decide +kernel
theorem dX5_tellsOf_12 : decode cX5_tellsOf 12 = .ok (.ireturn, 1) := by decide +kernel
theorem dX5_tellsOf_13 : decode cX5_tellsOf 13 = .ok (.iload_n 1, 1) := by decide +kernel
theorem dX5_tellsOf_14 : decode cX5_tellsOf 14 = .ok (.bipush 60, 2) := by decide +kernel
theorem dX5_tellsOf_16 : decode cX5_tellsOf 16 = .ok (.imul, 1) := by decide +kernel
theorem dX5_tellsOf_17 : decode cX5_tellsOf 17 = .ok (.istore_n 3, 1) := by decide +kernel
theorem dX5_tellsOf_18 : decode cX5_tellsOf 18 = .ok (.iload_n 3, 1) := by decide +kernel
theorem dX5_tellsOf_19 : decode cX5_tellsOf 19 = .ok (.iload_n 1, 1) := by decide +kernel
theorem dX5_tellsOf_20 : decode cX5_tellsOf 20 = .ok (.bipush 60, 2) := by decide +kernel
theorem dX5_tellsOf_22 : decode cX5_tellsOf 22 = .ok (.imul, 1) := by decide +kernel
theorem dX5_tellsOf_23 : decode cX5_tellsOf 23 = .ok (.aload_n 0, 1) := by decide +kernel
theorem dX5_tellsOf_24 : decode cX5_tellsOf 24 = .ok (.getfield 23, 3) := by decide +kernel
theorem dX5_tellsOf_27 : decode cX5_tellsOf 27 = .ok (.iload_n 1, 1) := by decide +kernel
theorem dX5_tellsOf_28 : decode cX5_tellsOf 28 = .ok (.iaload, 1) := by decide +kernel
theorem dX5_tellsOf_29 : decode cX5_tellsOf 29 = .ok (.iadd, 1) := by decide +kernel
theorem dX5_tellsOf_30 : decode cX5_tellsOf 30 = .ok (.if_icmp .ge 66, 3) := by decide +kernel
theorem dX5_tellsOf_33 : decode cX5_tellsOf 33 = .ok (.aload_n 2, 1) := by decide +kernel
theorem dX5_tellsOf_34 : decode cX5_tellsOf 34 = .ok (.aload_n 0, 1) := by decide +kernel
theorem dX5_tellsOf_35 : decode cX5_tellsOf 35 = .ok (.getfield 9, 3) := by decide +kernel
theorem dX5_tellsOf_38 : decode cX5_tellsOf 38 = .ok (.iload_n 3, 1) := by decide +kernel
theorem dX5_tellsOf_39 : decode cX5_tellsOf 39 = .ok (.laload, 1) := by decide +kernel
theorem dX5_tellsOf_40 : decode cX5_tellsOf 40 = .ok (.invokevirtual 40, 3) := by decide +kernel
theorem dX5_tellsOf_43 : decode cX5_tellsOf 43 = .ok (.ifCond .eq 21, 3) := by decide +kernel
theorem dX5_tellsOf_46 : decode cX5_tellsOf 46 = .ok (.aload_n 0, 1) := by decide +kernel
theorem dX5_tellsOf_47 : decode cX5_tellsOf 47 = .ok (.getfield 9, 3) := by decide +kernel
theorem dX5_tellsOf_50 : decode cX5_tellsOf 50 = .ok (.iload_n 3, 1) := by decide +kernel
theorem dX5_tellsOf_51 : decode cX5_tellsOf 51 = .ok (.iconst 1, 1) := by decide +kernel
theorem dX5_tellsOf_52 : decode cX5_tellsOf 52 = .ok (.iadd, 1) := by decide +kernel
theorem dX5_tellsOf_53 : decode cX5_tellsOf 53 = .ok (.laload, 1) := by decide +kernel
theorem dX5_tellsOf_54 : decode cX5_tellsOf 54 = .ok (.invokestatic 46, 3) := by decide +kernel
theorem dX5_tellsOf_57 : decode cX5_tellsOf 57 = .ok (.ifCond .eq 7, 3) := by decide +kernel
theorem dX5_tellsOf_60 : decode cX5_tellsOf 60 = .ok (.iconst 1, 1) := by decide +kernel
theorem dX5_tellsOf_61 : decode cX5_tellsOf 61 = .ok (.goto 4, 3) := by decide +kernel
theorem dX5_tellsOf_64 : decode cX5_tellsOf 64 = .ok (.iconst 0, 1) := by decide +kernel
theorem dX5_tellsOf_65 : decode cX5_tellsOf 65 = .ok (.istore 4, 2) := by decide +kernel
theorem dX5_tellsOf_67 : decode cX5_tellsOf 67 = .ok (.iload 4, 2) := by decide +kernel
theorem dX5_tellsOf_69 : decode cX5_tellsOf 69 = .ok (.ifCond .eq 19, 3) := by decide +kernel
theorem dX5_tellsOf_72 : decode cX5_tellsOf 72 = .ok (.aload_n 2, 1) := by decide +kernel
theorem dX5_tellsOf_73 : decode cX5_tellsOf 73 = .ok (.aload_n 0, 1) := by decide +kernel
theorem dX5_tellsOf_74 : decode cX5_tellsOf 74 = .ok (.getfield 9, 3) := by decide +kernel
theorem dX5_tellsOf_77 : decode cX5_tellsOf 77 = .ok (.iload_n 3, 1) := by decide +kernel
theorem dX5_tellsOf_78 : decode cX5_tellsOf 78 = .ok (.iconst 2, 1) := by decide +kernel
theorem dX5_tellsOf_79 : decode cX5_tellsOf 79 = .ok (.iadd, 1) := by decide +kernel
theorem dX5_tellsOf_80 : decode cX5_tellsOf 80 = .ok (.laload, 1) := by decide +kernel
theorem dX5_tellsOf_81 : decode cX5_tellsOf 81 = .ok (.invokevirtual 49, 3) := by decide +kernel
theorem dX5_tellsOf_84 : decode cX5_tellsOf 84 = .ok (.iconst (-1), 1) := by decide +kernel
theorem dX5_tellsOf_85 : decode cX5_tellsOf 85 = .ok (.if_icmp .ne 5, 3) := by decide +kernel
theorem dX5_tellsOf_88 : decode cX5_tellsOf 88 = .ok (.iconst 0, 1) := by decide +kernel
theorem dX5_tellsOf_89 : decode cX5_tellsOf 89 = .ok (.ireturn, 1) := by decide +kernel
theorem dX5_tellsOf_90 : decode cX5_tellsOf 90 = .ok (.iinc 3 3, 3) := by decide +kernel
theorem dX5_tellsOf_93 : decode cX5_tellsOf 93 = .ok (.goto (-75), 3) := by decide +kernel
theorem dX5_tellsOf_96 : decode cX5_tellsOf 96 = .ok (.iconst 1, 1) := by decide +kernel
theorem dX5_tellsOf_97 : decode cX5_tellsOf 97 = .ok (.ireturn, 1) := by decide +kernel
set_option maxHeartbeats 4000000 in
set_option maxRecDepth 100000 in
theorem f_X5_empty (l : Launch) (G : va_G) (cI cJ cZ cB cQ : ClassId) (sz : Nat) (h0 : Nat) (p0 : Int32) (b : Nat → Nat) (o_f1 : Nat → Int32) (qp0_l : 0 ≤ p0.toInt) (qp0_h : p0.toInt ≤ 3) (ha_o_f1 : ai o_f1 4 0 1) : CI l yX5_empty (wl_ yX5_empty cX5_empty 2 (some .boolean)) ({ frames := 0, cells := 0, slots := 0, locals := 0 } : Room) G (TY cI cJ cZ cB cQ) [.ref h0, .int p0] [(h0, oX5 b), (b 1, .inl (cZ, 4, .inl o_f1))] sz (fun (r : Int32) (u : Unit) => ((r = 1 ∧ (o_f1 p0.toNatClampNeg).toInt = 0) ∨ (r = 0 ∧ ¬ (o_f1 p0.toNatClampNeg).toInt = 0))) (fun _ : Unit => [(h0, oX5 b), (b 1, .inl (cZ, 4, .inl o_f1))]) 0 0 := by
  refine CI.goz (cc := cX5_empty) (maxL := 2) (ret := (some .boolean)) (by decide) rfl (Nat.le_of_ble_eq_true rfl) ?_
  intro p e s m below meth c A ls Q hBd hret
  obtain ⟨hx, hb, hr, hml, hts, hown, hlk, hnm, hP, hK, hD, hA, hZ, hl⟩ := hBd
  have hown : s.vm.findClass RX5 = some m.cls := hown
  have hl : lv_has ls 2 [(0, .ref h0), (1, .int p0)] := hl
  have hS : va_S A s.heap s.heap [] := va_S.rf
  refine lv_aload_n hx hb dX5_empty_0 rfl (lv_at hl 0 rfl) ?_
  refine va_get (D := G) (ci := 5) (v := .ref (b 1)) (C := RX5) (T := TX5) (N := 4) hx hb hts iG_X5 hown hK hP 0 rfl rfl 1 (by decide) (hts _ w_323) (fun _ h9 => h9) rfl dX5_empty_1 ?_
  refine lv_iload_n hx hb dX5_empty_4 rfl (lv_at hl 1 rfl) ?_
  refine va_zald hx hb hK hP 1 2 rfl rfl (ix_in rfl (by omega) (by omega)) dX5_empty_5 ?_
  refine lv_topi (fun v1 ev1 => ?_)
  obtain ⟨ia2, ib3⟩ := ai_get ha_o_f1 rfl (by omega) (by omega) ev1
  have lkv1 : v1.toInt = (o_f1 p0.toNatClampNeg).toInt := by rw [ev1]
  refine lv_if_ne (tgt := 13) hx hb dX5_empty_6 (by decide) (fun c4 => ?_) (fun c4 => ?_)
  · have c4 := i_ne rfl ki_0 c4
    refine lv_iconst (v := 0) hx hb dX5_empty_13 (by decide) ?_
    exact hret _ _ _ _ 0 () hP hD hS dX5_empty_14 rfl (show (((0 : Int32) = 1 ∧ (o_f1 p0.toNatClampNeg).toInt = 0) ∨ ((0 : Int32) = 0 ∧ ¬ (o_f1 p0.toNatClampNeg).toInt = 0)) from (Or.inr ⟨rfl, by omega⟩))
  · have c4 := i_eq rfl ki_0 c4
    refine lv_iconst (v := 1) hx hb dX5_empty_9 (by decide) ?_
    refine lv_goto (tgt := 14) hx hb dX5_empty_10 (by decide) ?_
    exact hret _ _ _ _ 1 () hP hD hS dX5_empty_14 rfl (show (((1 : Int32) = 1 ∧ (o_f1 p0.toNatClampNeg).toInt = 0) ∨ ((1 : Int32) = 0 ∧ ¬ (o_f1 p0.toNatClampNeg).toInt = 0)) from (Or.inl ⟨rfl, by omega⟩))
set_option maxHeartbeats 4000000 in
set_option maxRecDepth 100000 in
theorem f_X5_many (l : Launch) (G : va_G) (cI cJ cZ cB cQ : ClassId) (sz : Nat) (h0 : Nat) (b : Nat → Nat) (o_f1 : Nat → Int32) (ha_o_f1 : ai o_f1 4 0 1) : CI l yX5_many (wl_ yX5_many cX5_many 3 (some .int)) ({ frames := 1, cells := 0, slots := 0, locals := 20 } : Room) G (TY cI cJ cZ cB cQ) [.ref h0] [(h0, oX5 b), (b 1, .inl (cZ, 4, .inl o_f1))] sz (fun (r : Int32) (u : Unit) => True) (fun _ : Unit => [(h0, oX5 b), (b 1, .inl (cZ, 4, .inl o_f1))]) 0 0 := by
  refine CI.go (cc := cX5_many) (maxL := 3) (ret := (some .int)) (by decide) rfl (Nat.le_of_ble_eq_true rfl) ?_
  intro p e s m below meth c A ls Q hBd hret
  obtain ⟨hx, hb, hr, hml, hts, hown, hlk, hnm, hP, hK, hD, hA, hZ, hl⟩ := hBd
  have hown : s.vm.findClass RX5 = some m.cls := hown
  have hl : lv_has ls 3 [(0, .ref h0)] := hl
  have hS : va_S A s.heap s.heap [] := va_S.rf
  refine lv_iconst (v := 0) hx hb dX5_many_0 (by decide) ?_
  refine lv_istore_n (lv' := [(1, .int 0), (0, .ref h0)]) hx hb dX5_many_1 rfl hl (by decide) rfl (fun ls hl => ?_)
  refine lv_iconst (v := 0) hx hb dX5_many_2 (by decide) ?_
  refine lv_istore_n (lv' := [(2, .int 0), (1, .int 0), (0, .ref h0)]) hx hb dX5_many_3 rfl hl (by decide) rfl (fun ls hl => ?_)
  have lp1 : ∀ (n2 : Nat) (x3 : Int32) (x4 : Int32), 0 ≤ x4.toInt → x4.toInt ≤ 4 → 4 - x4.toInt < (n2 : Int) → ∀ (H : Heap) (locs : List Loc), va_P G vwCl [(h0, oX5 b), (b 1, .inl (cZ, 4, .inl o_f1))] H → va_D A [(h0, oX5 b), (b 1, .inl (cZ, 4, .inl o_f1))] → va_S A s.heap H locs → ∀ (ls : Array Slot), lv_has ls 3 [(2, .int x4), (1, .int x3), (0, .ref h0)] → W p l e ({ frames := 1, cells := 0, slots := 0, locals := 20 } : Room) s m ([.ref h0] : List Value).toArray below meth c H locs 0 0 Q (F0 m 4 ls []) := by
    intro n2
    induction n2 with
    | zero =>
      intro x3 x4 k5 k6 mm8
      exact absurd mm8 (by have q9 := fb_rng x4; omega)
    | succ n2 ih7 =>
      intro x3 x4 k5 k6 mm8 H locs hP hD hS ls hl
      refine lv_iload_n hx hb dX5_many_4 rfl (lv_at hl 0 rfl) ?_
      refine lv_iconst (v := 4) hx hb dX5_many_5 (by decide) ?_
      refine lv_icmp_ge (tgt := 27) hx hb dX5_many_6 (by decide) (fun c9 => ?_) (fun c9 => ?_)
      · have c9 := i_le ki_4 rfl c9
        refine lv_iload_n hx hb dX5_many_27 rfl (lv_at hl 1 rfl) ?_
        exact hret _ _ _ _ x3 () hP hD hS dX5_many_28 trivial
      · have c9 := i_nle ki_4 rfl c9
        refine lv_iload_n hx hb dX5_many_9 rfl (lv_at hl 1 rfl) ?_
        refine lv_aload_n hx hb dX5_many_10 rfl (lv_at hl 2 rfl) ?_
        refine va_get (D := G) (ci := 5) (v := .ref (b 1)) (C := RX5) (T := TX5) (N := 4) hx hb hts iG_X5 hown hK hP 0 rfl rfl 1 (by decide) (hts _ w_323) (fun _ h9 => h9) rfl dX5_many_11 ?_
        refine lv_iload_n hx hb dX5_many_14 rfl (lv_at hl 0 rfl) ?_
        refine va_zald hx hb hK hP 1 2 rfl rfl (ix_in rfl (by omega) (by omega)) dX5_many_15 ?_
        refine lv_topi (fun v10 ev10 => ?_)
        obtain ⟨ia11, ib12⟩ := ai_get ha_o_f1 rfl (by omega) (by omega) ev10
        refine k_i (wc := []) (wr := [(h0, oX5 b), (b 1, .inl (cZ, 4, .inl o_f1))]) hP hD hS hA [] [0, 1] rfl rfl rfl (by decide) (va_runSN (As := [.int v10]) (rest := [.int x3]) ⟨hx, hb, hml, hown, hts⟩ (f_X9_oneIf l G cI cJ cZ cB cQ _ v10) ⟨va_cnB (host := "WidowRoads") 1 hts (gW w_663) rfl rfl rfl (nz_nw hZ nw_1146 rfl) (hts _ w_1) hd_X9_oneIf ⟨Nat.le_of_ble_eq_true rfl, Nat.le_of_ble_eq_true rfl⟩, (hts _ w_662), trivial⟩ (mS hK hZ hP hD [] rfl rfl [.int v10]) rfl rfl hl.1 rfl (lv_room (Nat.le_of_ble_eq_true rfl)) dX5_many_16 ⟨Nat.le_of_ble_eq_true rfl, Nat.le_of_ble_eq_true rfl⟩) (fun r13 u14 H locs hw15 hP hD hS => ?_)
        try dsimp only at hw15
        have hP : va_P G vwCl [(h0, oX5 b), (b 1, .inl (cZ, 4, .inl o_f1))] H := hP
        have hD : va_D A [(h0, oX5 b), (b 1, .inl (cZ, 4, .inl o_f1))] := hD
        obtain ⟨w16, w17⟩ : 0 ≤ r13.toInt ∧ r13.toInt ≤ 1 := hw15
        refine lv_iadd hx hb dX5_many_19 ?_
        refine lv_topi (fun v18 ev18 => ?_)
        refine lv_istore_n (lv' := [(1, .int v18), (2, .int x4), (0, .ref h0)]) hx hb dX5_many_20 rfl hl (by decide) rfl (fun ls hl => ?_)
        obtain ⟨v19, ev19⟩ : ∃ y : Int32, y = x4 + 1 := ⟨_, rfl⟩
        have tv19 : v19.toInt = x4.toInt + 1 := ti_add rfl ki_1 ev19 (by omega) (by omega)
        refine lv_iinc (v := v19) (lv' := [(2, .int v19), (1, .int v18), (0, .ref h0)]) hx hb dX5_many_21 hl (k := 1) rfl (by rw [ev19]; rfl) (by decide) rfl (fun ls hl => ?_)
        refine lv_goto (tgt := 4) hx hb dX5_many_24 (by decide) ?_
        exact ih7 v18 v19 (by omega) (by omega) (by omega) _ _ hP hD hS ls (lv_sub hl [0, 1, 2] rfl)
  exact lp1 5 0 0 (by rw [ki_0]; decide) (by rw [ki_0]; decide) (by rw [ki_0]; decide) _ _ hP hD hS ls (lv_sub hl [0, 1, 2] rfl)
set_option maxHeartbeats 4000000 in
set_option maxRecDepth 100000 in
theorem f_X5_cut (l : Launch) (G : va_G) (cI cJ cZ cB cQ : ClassId) (sz : Nat) (p0 : Int64) (p1 : Int32) : CL l yX5_cut (wl_ yX5_cut cX5_cut 3 (some .long)) ({ frames := 0, cells := 0, slots := 0, locals := 0 } : Room) G (TY cI cJ cZ cB cQ) [.long p0, .int p1] [] sz (fun (r : Int64) (u : Unit) => True) (fun _ : Unit => []) 0 0 := by
  refine CL.go (cc := cX5_cut) (maxL := 3) (ret := (some .long)) (by decide) rfl (Nat.le_of_ble_eq_true rfl) ?_
  intro p e s m below meth c A ls Q hBd hret
  obtain ⟨hx, hb, hr, hml, hts, hown, hlk, hnm, hP, hK, hD, hA, hZ, hl⟩ := hBd
  have hown : s.vm.findClass RX5 = some m.cls := hown
  have hl : lv_has ls 3 [(0, .long p0), (2, .int p1)] := hl
  have hS : va_S A s.heap s.heap [] := va_S.rf
  refine lv_iload_n hx hb dX5_cut_0 rfl (lv_at hl 1 rfl) ?_
  have c1 : (p1.toInt < 0 ∨ 2 < p1.toInt) ∨ p1.toInt = 0 ∨ p1.toInt = 1 ∨ p1.toInt = 2 := by omega
  rcases c1 with c1 | c1 | c1 | c1
  · refine lv_tableOut (tgt := 42) hx hb dX5_cut_1 c1 (by decide) ?_
    refine lv_lload_n hx hb dX5_cut_42 rfl (lv_at hl 0 rfl) ?_
    exact hret _ _ _ _ p0 () hP hD hS dX5_cut_43 trivial
  · have zc1 : p1.toInt = 0 := c1
    refine lv_tableIn (off := 27) (tgt := 28) hx hb dX5_cut_1 (by rw [zc1]; decide) (by rw [zc1]; decide) (by rw [zc1]; rfl) (by decide) ?_
    refine lv_lload_n hx hb dX5_cut_28 rfl (lv_at hl 0 rfl) ?_
    refine lv_l2i hx hb dX5_cut_29 rfl ?_
    refine lv_topi (fun v2 ev2 => ?_)
    refine lv_i2b hx hb dX5_cut_30 rfl ?_
    refine lv_topi (fun v3 ev3 => ?_)
    obtain ⟨v4, ev4⟩ : ∃ y : Int64, v3.toInt64 = y := ⟨_, rfl⟩
    have tv4 : v4.toInt = v3.toInt := ti_wide rfl ev4
    refine lv_i2l (v := v4) hx hb dX5_cut_31 ev4 ?_
    exact hret _ _ _ _ v4 () hP hD hS dX5_cut_32 trivial
  · have zc1 : p1.toInt = 1 := c1
    refine lv_tableIn (off := 32) (tgt := 33) hx hb dX5_cut_1 (by rw [zc1]; decide) (by rw [zc1]; decide) (by rw [zc1]; rfl) (by decide) ?_
    refine lv_lload_n hx hb dX5_cut_33 rfl (lv_at hl 0 rfl) ?_
    refine lv_l2i hx hb dX5_cut_34 rfl ?_
    refine lv_topi (fun v5 ev5 => ?_)
    refine lv_i2s hx hb dX5_cut_35 rfl ?_
    refine lv_topi (fun v6 ev6 => ?_)
    obtain ⟨v7, ev7⟩ : ∃ y : Int64, v6.toInt64 = y := ⟨_, rfl⟩
    have tv7 : v7.toInt = v6.toInt := ti_wide rfl ev7
    refine lv_i2l (v := v7) hx hb dX5_cut_36 ev7 ?_
    exact hret _ _ _ _ v7 () hP hD hS dX5_cut_37 trivial
  · have zc1 : p1.toInt = 2 := c1
    refine lv_tableIn (off := 37) (tgt := 38) hx hb dX5_cut_1 (by rw [zc1]; decide) (by rw [zc1]; decide) (by rw [zc1]; rfl) (by decide) ?_
    refine lv_lload_n hx hb dX5_cut_38 rfl (lv_at hl 0 rfl) ?_
    refine lv_l2i hx hb dX5_cut_39 rfl ?_
    refine lv_topi (fun v8 ev8 => ?_)
    obtain ⟨v9, ev9⟩ : ∃ y : Int64, v8.toInt64 = y := ⟨_, rfl⟩
    have tv9 : v9.toInt = v8.toInt := ti_wide rfl ev9
    refine lv_i2l (v := v9) hx hb dX5_cut_40 ev9 ?_
    exact hret _ _ _ _ v9 () hP hD hS dX5_cut_41 trivial
set_option maxHeartbeats 4000000 in
set_option maxRecDepth 100000 in
theorem f_X5_put (l : Launch) (G : va_G) (cI cJ cZ cB cQ : ClassId) (sz : Nat) (h0 : Nat) (p0 : Int32) (p1 : Int32) (p2 : Int64) (b : Nat → Nat) (o_f0 : Nat → Int64) (o_f2 : Nat → Int32) (qp0_l : 0 ≤ p0.toInt) (qp0_h : p0.toInt ≤ 3) (qp1_l : 0 ≤ p1.toInt) (qp1_h : p1.toInt ≤ 59) : CV l yX5_put (wl_ yX5_put cX5_put 5 none) ({ frames := 1, cells := 0, slots := 0, locals := 22 } : Room) G (TY cI cJ cZ cB cQ) [.ref h0, .int p0, .int p1, .long p2] [(h0, oX5 b), (b 0, .inl (cJ, 240, .inr (.inl o_f0))), (b 2, .inl (cI, 4, .inl o_f2))] sz (fun (u : (Nat → Int64)) => True) (fun u : (Nat → Int64) => [(h0, oX5 b), (b 0, .inl (cJ, 240, .inr (.inl u))), (b 2, .inl (cI, 4, .inl o_f2))]) 0 0 := by
  refine CV.go (cc := cX5_put) (maxL := 5) (ret := none) (by decide) rfl (Nat.le_of_ble_eq_true rfl) ?_
  intro p e s m below meth c A ls Q hBd hret
  obtain ⟨hx, hb, hr, hml, hts, hown, hlk, hnm, hP, hK, hD, hA, hZ, hl⟩ := hBd
  have hown : s.vm.findClass RX5 = some m.cls := hown
  have hl : lv_has ls 5 [(0, .ref h0), (1, .int p0), (2, .int p1), (3, .long p2)] := hl
  have hS : va_S A s.heap s.heap [] := va_S.rf
  refine lv_aload_n hx hb dX5_put_0 rfl (lv_at hl 0 rfl) ?_
  refine va_get (D := G) (ci := 5) (v := .ref (b 0)) (C := RX5) (T := TX5) (N := 4) hx hb hts iG_X5 hown hK hP 0 rfl rfl 0 (by decide) (hts _ w_322) (fun _ h9 => h9) rfl dX5_put_1 ?_
  refine lv_iload_n hx hb dX5_put_4 rfl (lv_at hl 1 rfl) ?_
  refine lv_bipush (v := 60) hx hb dX5_put_5 (by decide) ?_
  refine lv_imul hx hb dX5_put_7 ?_
  refine lv_topi (fun v1 ev1 => ?_)
  have tv1 : v1.toInt = p0.toInt * 60 := ti_mul rfl ki_60 ev1 (by omega) (by omega)
  refine lv_iload_n hx hb dX5_put_8 rfl (lv_at hl 2 rfl) ?_
  refine lv_iadd hx hb dX5_put_9 ?_
  refine lv_topi (fun v2 ev2 => ?_)
  have tv2 : v2.toInt = p0.toInt * 60 + p1.toInt := ti_add tv1 rfl ev2 (by omega) (by omega)
  refine lv_lload_n hx hb dX5_put_10 rfl (lv_at hl 3 rfl) ?_
  refine lv_aload_n hx hb dX5_put_11 rfl (lv_at hl 0 rfl) ?_
  refine va_get (D := G) (ci := 5) (v := .ref (b 2)) (C := RX5) (T := TX5) (N := 4) hx hb hts iG_X5 hown hK hP 0 rfl rfl 2 (by decide) (hts _ w_324) (fun _ h9 => h9) rfl dX5_put_12 ?_
  refine lv_iload_n hx hb dX5_put_15 rfl (lv_at hl 1 rfl) ?_
  refine va_iald hx hb hK hP 2 0 rfl rfl (ix_in rfl (by omega) (by omega)) dX5_put_16 ?_
  refine lv_topi (fun v3 ev3 => ?_)
  refine k_l (wc := []) (wr := [(h0, oX5 b), (b 0, .inl (cJ, 240, .inr (.inl o_f0))), (b 2, .inl (cI, 4, .inl o_f2))]) hP hD hS hA [] [0, 1, 2] rfl rfl rfl (by decide) (va_runS (As := [.long p2, .int v3]) (rest := [.int v2, .ref (b 0)]) ⟨hx, hb, hml, hown, hts⟩ (f_X5_cut l G cI cJ cZ cB cQ _ p2 v3) (va_cwS 2 hts (gS w_1171 w_1172 w_9 w_1173) rfl rfl rfl hd_X5_cut ⟨Nat.le_of_ble_eq_true rfl, Nat.le_of_ble_eq_true rfl⟩) (mS hK hZ hP hD [] rfl rfl [.long p2, .int v3]) rfl rfl hl.1 rfl (lv_room (Nat.le_of_ble_eq_true rfl)) dX5_put_17 ⟨Nat.le_of_ble_eq_true rfl, Nat.le_of_ble_eq_true rfl⟩) (fun r4 u5 H locs hw6 hP hD hS => ?_)
  try dsimp only at hw6
  have hP : va_P G vwCl [(h0, oX5 b), (b 0, .inl (cJ, 240, .inr (.inl o_f0))), (b 2, .inl (cI, 4, .inl o_f2))] H := hP
  have hD : va_D A [(h0, oX5 b), (b 0, .inl (cJ, 240, .inr (.inl o_f0))), (b 2, .inl (cI, 4, .inl o_f2))] := hD
  refine va_last hx hb hK hP hD hS 1 1 rfl rfl (ix_in tv2 (by omega) (by omega)) dX5_put_20 (fun H locs hP hD hS => ?_)
  obtain ⟨f7, qf7⟩ : ∃ g, g = vp_updL o_f0 v2.toNatClampNeg r4 := ⟨_, rfl⟩
  rw [← qf7] at hP hD
  have hP : va_P G vwCl [(h0, oX5 b), (b 0, .inl (cJ, 240, .inr (.inl f7))), (b 2, .inl (cI, 4, .inl o_f2))] H := hP
  have hD : va_D A [(h0, oX5 b), (b 0, .inl (cJ, 240, .inr (.inl f7))), (b 2, .inl (cI, 4, .inl o_f2))] := hD
  exact hret _ _ _ _ f7 hP hD hS dX5_put_21 trivial
set_option maxHeartbeats 4000000 in
set_option maxRecDepth 100000 in
theorem f_X5_clear (l : Launch) (G : va_G) (cI cJ cZ cB cQ : ClassId) (sz : Nat) (h0 : Nat) (p0 : Int32) (p1 : Int32) (p2 : Int32) (b : Nat → Nat) (o_f0 : Nat → Int64) (o_f1 : Nat → Int32) (o_f2 : Nat → Int32) (o_f3 : Nat → Int32) (qp0_l : 0 ≤ p0.toInt) (qp0_h : p0.toInt ≤ 3) (qp2_l : 0 ≤ p2.toInt) (qp2_h : p2.toInt ≤ 60) (ha_o_f1 : ai o_f1 4 0 1) (ha_o_f3 : ai o_f3 4 0 60) : CV l yX5_clear (wl_ yX5_clear cX5_clear 5 none) ({ frames := 0, cells := 0, slots := 0, locals := 0 } : Room) G (TY cI cJ cZ cB cQ) [.ref h0, .int p0, .int p1, .int p2] [(h0, oX5 b), (b 0, .inl (cJ, 240, .inr (.inl o_f0))), (b 1, .inl (cZ, 4, .inl o_f1)), (b 2, .inl (cI, 4, .inl o_f2)), (b 3, .inl (cI, 4, .inl o_f3))] sz (fun (u : (Nat → Int64) × (Nat → Int32) × (Nat → Int32) × (Nat → Int32)) => ai u.2.1 4 0 1 ∧ ai u.2.2.2 4 0 60 ∧ (u.2.1 = upd o_f1 p0.toNatClampNeg 1 ∧ u.2.2.1 = upd o_f2 p0.toNatClampNeg p1 ∧ u.2.2.2 = upd o_f3 p0.toNatClampNeg p2)) (fun u : (Nat → Int64) × (Nat → Int32) × (Nat → Int32) × (Nat → Int32) => [(h0, oX5 b), (b 0, .inl (cJ, 240, .inr (.inl u.1))), (b 1, .inl (cZ, 4, .inl u.2.1)), (b 2, .inl (cI, 4, .inl u.2.2.1)), (b 3, .inl (cI, 4, .inl u.2.2.2))]) 0 0 := by
  refine CV.go (cc := cX5_clear) (maxL := 5) (ret := none) (by decide) rfl (Nat.le_of_ble_eq_true rfl) ?_
  intro p e s m below meth c A ls Q hBd hret
  obtain ⟨hx, hb, hr, hml, hts, hown, hlk, hnm, hP, hK, hD, hA, hZ, hl⟩ := hBd
  have hown : s.vm.findClass RX5 = some m.cls := hown
  have hl : lv_has ls 5 [(0, .ref h0), (1, .int p0), (2, .int p1), (3, .int p2)] := hl
  have hS : va_S A s.heap s.heap [] := va_S.rf
  refine lv_aload_n hx hb dX5_clear_0 rfl (lv_at hl 0 rfl) ?_
  refine va_get (D := G) (ci := 5) (v := .ref (b 1)) (C := RX5) (T := TX5) (N := 4) hx hb hts iG_X5 hown hK hP 0 rfl rfl 1 (by decide) (hts _ w_323) (fun _ h9 => h9) rfl dX5_clear_1 ?_
  refine lv_iload_n hx hb dX5_clear_4 rfl (lv_at hl 1 rfl) ?_
  refine lv_iconst (v := 1) hx hb dX5_clear_5 (by decide) ?_
  refine va_zast hx hb hK hP hD hS 2 2 rfl rfl (ix_in rfl (by omega) (by omega)) dX5_clear_6 (fun H locs hP hD hS => ?_)
  obtain ⟨f1, qf1⟩ : ∃ g, g = upd o_f1 p0.toNatClampNeg (vp_nar .boolean (1 : Int32)) := ⟨_, rfl⟩
  rw [← qf1] at hP hD
  have hi2 : ai f1 4 0 1 := by rw [qf1]; exact ai_putz ha_o_f1
  have hP : va_P G vwCl [(h0, oX5 b), (b 0, .inl (cJ, 240, .inr (.inl o_f0))), (b 1, .inl (cZ, 4, .inl f1)), (b 2, .inl (cI, 4, .inl o_f2)), (b 3, .inl (cI, 4, .inl o_f3))] H := hP
  have hD : va_D A [(h0, oX5 b), (b 0, .inl (cJ, 240, .inr (.inl o_f0))), (b 1, .inl (cZ, 4, .inl f1)), (b 2, .inl (cI, 4, .inl o_f2)), (b 3, .inl (cI, 4, .inl o_f3))] := hD
  refine lv_aload_n hx hb dX5_clear_7 rfl (lv_at hl 0 rfl) ?_
  refine va_get (D := G) (ci := 5) (v := .ref (b 2)) (C := RX5) (T := TX5) (N := 4) hx hb hts iG_X5 hown hK hP 0 rfl rfl 2 (by decide) (hts _ w_324) (fun _ h9 => h9) rfl dX5_clear_8 ?_
  refine lv_iload_n hx hb dX5_clear_11 rfl (lv_at hl 1 rfl) ?_
  refine lv_iload_n hx hb dX5_clear_12 rfl (lv_at hl 2 rfl) ?_
  refine va_iast hx hb hK hP hD hS 3 0 rfl rfl (ix_in rfl (by omega) (by omega)) dX5_clear_13 (fun H locs hP hD hS => ?_)
  obtain ⟨f3, qf3⟩ : ∃ g, g = upd o_f2 p0.toNatClampNeg p1 := ⟨_, rfl⟩
  rw [← qf3] at hP hD
  have hP : va_P G vwCl [(h0, oX5 b), (b 0, .inl (cJ, 240, .inr (.inl o_f0))), (b 1, .inl (cZ, 4, .inl f1)), (b 2, .inl (cI, 4, .inl f3)), (b 3, .inl (cI, 4, .inl o_f3))] H := hP
  have hD : va_D A [(h0, oX5 b), (b 0, .inl (cJ, 240, .inr (.inl o_f0))), (b 1, .inl (cZ, 4, .inl f1)), (b 2, .inl (cI, 4, .inl f3)), (b 3, .inl (cI, 4, .inl o_f3))] := hD
  refine lv_aload_n hx hb dX5_clear_14 rfl (lv_at hl 0 rfl) ?_
  refine va_get (D := G) (ci := 5) (v := .ref (b 3)) (C := RX5) (T := TX5) (N := 4) hx hb hts iG_X5 hown hK hP 0 rfl rfl 3 (by decide) (hts _ w_326) (fun _ h9 => h9) rfl dX5_clear_15 ?_
  refine lv_iload_n hx hb dX5_clear_18 rfl (lv_at hl 1 rfl) ?_
  refine lv_iload_n hx hb dX5_clear_19 rfl (lv_at hl 3 rfl) ?_
  refine va_iast hx hb hK hP hD hS 4 0 rfl rfl (ix_in rfl (by omega) (by omega)) dX5_clear_20 (fun H locs hP hD hS => ?_)
  obtain ⟨f4, qf4⟩ : ∃ g, g = upd o_f3 p0.toNatClampNeg p2 := ⟨_, rfl⟩
  rw [← qf4] at hP hD
  have hi5 : ai f4 4 0 60 := by rw [qf4]; exact ai_put ha_o_f3 rfl qp2_l qp2_h
  have hP : va_P G vwCl [(h0, oX5 b), (b 0, .inl (cJ, 240, .inr (.inl o_f0))), (b 1, .inl (cZ, 4, .inl f1)), (b 2, .inl (cI, 4, .inl f3)), (b 3, .inl (cI, 4, .inl f4))] H := hP
  have hD : va_D A [(h0, oX5 b), (b 0, .inl (cJ, 240, .inr (.inl o_f0))), (b 1, .inl (cZ, 4, .inl f1)), (b 2, .inl (cI, 4, .inl f3)), (b 3, .inl (cI, 4, .inl f4))] := hD
  refine lv_iconst (v := 0) hx hb dX5_clear_21 (by decide) ?_
  refine lv_istore (lv' := [(4, .int 0), (0, .ref h0), (1, .int p0), (2, .int p1), (3, .int p2)]) hx hb dX5_clear_22 hl (by decide) rfl (fun ls hl => ?_)
  have lp6 : ∀ (n7 : Nat) (x8 : Int32) (g9 : Nat → Int64), 0 ≤ x8.toInt → x8.toInt ≤ 60 → 60 - x8.toInt < (n7 : Int) → ∀ (H : Heap) (locs : List Loc), va_P G vwCl [(h0, oX5 b), (b 0, .inl (cJ, 240, .inr (.inl g9))), (b 1, .inl (cZ, 4, .inl f1)), (b 2, .inl (cI, 4, .inl f3)), (b 3, .inl (cI, 4, .inl f4))] H → va_D A [(h0, oX5 b), (b 0, .inl (cJ, 240, .inr (.inl g9))), (b 1, .inl (cZ, 4, .inl f1)), (b 2, .inl (cI, 4, .inl f3)), (b 3, .inl (cI, 4, .inl f4))] → va_S A s.heap H locs → ∀ (ls : Array Slot), lv_has ls 5 [(4, .int x8), (0, .ref h0), (1, .int p0), (2, .int p1), (3, .int p2)] → W p l e ({ frames := 0, cells := 0, slots := 0, locals := 0 } : Room) s m ([.ref h0, .int p0, .int p1, .int p2] : List Value).toArray below meth c H locs 0 0 Q (F0 m 24 ls []) := by
    intro n7
    induction n7 with
    | zero =>
      intro x8 g9 k10 k11 mm13
      exact absurd mm13 (by have q9 := fb_rng x8; omega)
    | succ n7 ih12 =>
      intro x8 g9 k10 k11 mm13 H locs hP hD hS ls hl
      refine lv_iload hx hb dX5_clear_24 (lv_at hl 0 rfl) ?_
      refine lv_bipush (v := 60) hx hb dX5_clear_26 (by decide) ?_
      refine lv_icmp_ge (tgt := 50) hx hb dX5_clear_28 (by decide) (fun c14 => ?_) (fun c14 => ?_)
      · have c14 := i_le ki_60 rfl c14
        exact hret _ _ _ _ (g9, f1, f3, f4) hP hD hS dX5_clear_50 (show ai f1 4 0 1 ∧ ai f4 4 0 60 ∧ (f1 = upd o_f1 p0.toNatClampNeg 1 ∧ f3 = upd o_f2 p0.toNatClampNeg p1 ∧ f4 = upd o_f3 p0.toNatClampNeg p2) from ⟨hi2, hi5, ⟨by rw [qf1]; rfl, qf3, qf4⟩⟩)
      · have c14 := i_nle ki_60 rfl c14
        refine lv_aload_n hx hb dX5_clear_31 rfl (lv_at hl 1 rfl) ?_
        refine va_get (D := G) (ci := 5) (v := .ref (b 0)) (C := RX5) (T := TX5) (N := 4) hx hb hts iG_X5 hown hK hP 0 rfl rfl 0 (by decide) (hts _ w_322) (fun _ h9 => h9) rfl dX5_clear_32 ?_
        refine lv_iload_n hx hb dX5_clear_35 rfl (lv_at hl 2 rfl) ?_
        refine lv_bipush (v := 60) hx hb dX5_clear_36 (by decide) ?_
        refine lv_imul hx hb dX5_clear_38 ?_
        refine lv_topi (fun v15 ev15 => ?_)
        have tv15 : v15.toInt = p0.toInt * 60 := ti_mul rfl ki_60 ev15 (by omega) (by omega)
        refine lv_iload hx hb dX5_clear_39 (lv_at hl 0 rfl) ?_
        refine lv_iadd hx hb dX5_clear_41 ?_
        refine lv_topi (fun v16 ev16 => ?_)
        have tv16 : v16.toInt = p0.toInt * 60 + x8.toInt := ti_add tv15 rfl ev16 (by omega) (by omega)
        refine lv_lconst (v := 0) hx hb dX5_clear_42 (by decide) ?_
        refine va_last hx hb hK hP hD hS 1 1 rfl rfl (ix_in tv16 (by omega) (by omega)) dX5_clear_43 (fun H locs hP hD hS => ?_)
        obtain ⟨f17, qf17⟩ : ∃ g, g = vp_updL g9 v16.toNatClampNeg (0 : Int64) := ⟨_, rfl⟩
        rw [← qf17] at hP hD
        have hP : va_P G vwCl [(h0, oX5 b), (b 0, .inl (cJ, 240, .inr (.inl f17))), (b 1, .inl (cZ, 4, .inl f1)), (b 2, .inl (cI, 4, .inl f3)), (b 3, .inl (cI, 4, .inl f4))] H := hP
        have hD : va_D A [(h0, oX5 b), (b 0, .inl (cJ, 240, .inr (.inl f17))), (b 1, .inl (cZ, 4, .inl f1)), (b 2, .inl (cI, 4, .inl f3)), (b 3, .inl (cI, 4, .inl f4))] := hD
        obtain ⟨v18, ev18⟩ : ∃ y : Int32, y = x8 + 1 := ⟨_, rfl⟩
        have tv18 : v18.toInt = x8.toInt + 1 := ti_add rfl ki_1 ev18 (by omega) (by omega)
        refine lv_iinc (v := v18) (lv' := [(4, .int v18), (0, .ref h0), (1, .int p0), (2, .int p1), (3, .int p2)]) hx hb dX5_clear_44 hl (k := 0) rfl (by rw [ev18]; rfl) (by decide) rfl (fun ls hl => ?_)
        refine lv_goto (tgt := 24) hx hb dX5_clear_47 (by decide) ?_
        exact ih12 v18 f17 (by omega) (by omega) (by omega) _ _ hP hD hS ls (lv_sub hl [0, 1, 2, 3, 4] rfl)
  exact lp6 61 0 o_f0 (by rw [ki_0]; decide) (by rw [ki_0]; decide) (by rw [ki_0]; decide) _ _ hP hD hS ls (lv_sub hl [0, 1, 2, 3, 4] rfl)
set_option maxHeartbeats 4000000 in
set_option maxRecDepth 100000 in
theorem f_X5_holds (l : Launch) (G : va_G) (cI cJ cZ cB cQ : ClassId) (sz : Nat) (h0 : Nat) (p0 : Int32) (p1 : Int32) (p2 : Int32) (b : Nat → Nat) (o_f3 : Nat → Int32) (qp0_l : 0 ≤ p0.toInt) (qp0_h : p0.toInt ≤ 3) (ha_o_f3 : ai o_f3 4 0 60) : CI l yX5_holds (wl_ yX5_holds cX5_holds 4 (some .boolean)) ({ frames := 0, cells := 0, slots := 0, locals := 0 } : Room) G (TY cI cJ cZ cB cQ) [.ref h0, .int p0, .int p1, .int p2] [(h0, oX5 b), (b 3, .inl (cI, 4, .inl o_f3))] sz (fun (r : Int32) (u : Unit) => ((r = 1 ∧ 0 ≤ p1.toInt ∧ 0 ≤ p2.toInt ∧ p1.toInt + p2.toInt ≤ (o_f3 p0.toNatClampNeg).toInt ∧ p1.toInt + p2.toInt ≤ 60 ∧ p1.toInt ≤ 60 ∧ p2.toInt ≤ 60) ∨ (r = 0 ∧ (p1.toInt < 0 ∨ p2.toInt < 0 ∨ (o_f3 p0.toNatClampNeg).toInt < p1.toInt + p2.toInt)))) (fun _ : Unit => [(h0, oX5 b), (b 3, .inl (cI, 4, .inl o_f3))]) 0 0 := by
  refine CI.goz (cc := cX5_holds) (maxL := 4) (ret := (some .boolean)) (by decide) rfl (Nat.le_of_ble_eq_true rfl) ?_
  intro p e s m below meth c A ls Q hBd hret
  obtain ⟨hx, hb, hr, hml, hts, hown, hlk, hnm, hP, hK, hD, hA, hZ, hl⟩ := hBd
  have hown : s.vm.findClass RX5 = some m.cls := hown
  have hl : lv_has ls 4 [(0, .ref h0), (1, .int p0), (2, .int p1), (3, .int p2)] := hl
  have hS : va_S A s.heap s.heap [] := va_S.rf
  refine lv_iload_n hx hb dX5_holds_0 rfl (lv_at hl 2 rfl) ?_
  refine lv_if_lt (tgt := 34) hx hb dX5_holds_1 (by decide) (fun c1 => ?_) (fun c1 => ?_)
  · have c1 := i_lt rfl ki_0 c1
    refine lv_iconst (v := 0) hx hb dX5_holds_34 (by decide) ?_
    exact hret _ _ _ _ 0 () hP hD hS dX5_holds_35 rfl (show (((0 : Int32) = 1 ∧ 0 ≤ p1.toInt ∧ 0 ≤ p2.toInt ∧ p1.toInt + p2.toInt ≤ (o_f3 p0.toNatClampNeg).toInt ∧ p1.toInt + p2.toInt ≤ 60 ∧ p1.toInt ≤ 60 ∧ p2.toInt ≤ 60) ∨ ((0 : Int32) = 0 ∧ (p1.toInt < 0 ∨ p2.toInt < 0 ∨ (o_f3 p0.toNatClampNeg).toInt < p1.toInt + p2.toInt))) from (Or.inr ⟨rfl, by omega⟩))
  · have c1 := i_nlt rfl ki_0 c1
    refine lv_iload_n hx hb dX5_holds_4 rfl (lv_at hl 3 rfl) ?_
    refine lv_if_lt (tgt := 34) hx hb dX5_holds_5 (by decide) (fun c2 => ?_) (fun c2 => ?_)
    · have c2 := i_lt rfl ki_0 c2
      refine lv_iconst (v := 0) hx hb dX5_holds_34 (by decide) ?_
      exact hret _ _ _ _ 0 () hP hD hS dX5_holds_35 rfl (show (((0 : Int32) = 1 ∧ 0 ≤ p1.toInt ∧ 0 ≤ p2.toInt ∧ p1.toInt + p2.toInt ≤ (o_f3 p0.toNatClampNeg).toInt ∧ p1.toInt + p2.toInt ≤ 60 ∧ p1.toInt ≤ 60 ∧ p2.toInt ≤ 60) ∨ ((0 : Int32) = 0 ∧ (p1.toInt < 0 ∨ p2.toInt < 0 ∨ (o_f3 p0.toNatClampNeg).toInt < p1.toInt + p2.toInt))) from (Or.inr ⟨rfl, by omega⟩))
    · have c2 := i_nlt rfl ki_0 c2
      refine lv_iload_n hx hb dX5_holds_8 rfl (lv_at hl 3 rfl) ?_
      refine lv_aload_n hx hb dX5_holds_9 rfl (lv_at hl 0 rfl) ?_
      refine va_get (D := G) (ci := 5) (v := .ref (b 3)) (C := RX5) (T := TX5) (N := 4) hx hb hts iG_X5 hown hK hP 0 rfl rfl 3 (by decide) (hts _ w_326) (fun _ h9 => h9) rfl dX5_holds_10 ?_
      refine lv_iload_n hx hb dX5_holds_13 rfl (lv_at hl 1 rfl) ?_
      refine va_iald hx hb hK hP 1 0 rfl rfl (ix_in rfl (by omega) (by omega)) dX5_holds_14 ?_
      refine lv_topi (fun v3 ev3 => ?_)
      obtain ⟨ia4, ib5⟩ := ai_get ha_o_f3 rfl (by omega) (by omega) ev3
      have lkv3 : v3.toInt = (o_f3 p0.toNatClampNeg).toInt := by rw [ev3]
      refine lv_icmp_gt (tgt := 34) hx hb dX5_holds_15 (by decide) (fun c6 => ?_) (fun c6 => ?_)
      · have c6 := i_lt rfl rfl c6
        refine lv_iconst (v := 0) hx hb dX5_holds_34 (by decide) ?_
        exact hret _ _ _ _ 0 () hP hD hS dX5_holds_35 rfl (show (((0 : Int32) = 1 ∧ 0 ≤ p1.toInt ∧ 0 ≤ p2.toInt ∧ p1.toInt + p2.toInt ≤ (o_f3 p0.toNatClampNeg).toInt ∧ p1.toInt + p2.toInt ≤ 60 ∧ p1.toInt ≤ 60 ∧ p2.toInt ≤ 60) ∨ ((0 : Int32) = 0 ∧ (p1.toInt < 0 ∨ p2.toInt < 0 ∨ (o_f3 p0.toNatClampNeg).toInt < p1.toInt + p2.toInt))) from (Or.inr ⟨rfl, by omega⟩))
      · have c6 := i_nlt rfl rfl c6
        refine lv_iload_n hx hb dX5_holds_18 rfl (lv_at hl 2 rfl) ?_
        refine lv_aload_n hx hb dX5_holds_19 rfl (lv_at hl 0 rfl) ?_
        refine va_get (D := G) (ci := 5) (v := .ref (b 3)) (C := RX5) (T := TX5) (N := 4) hx hb hts iG_X5 hown hK hP 0 rfl rfl 3 (by decide) (hts _ w_326) (fun _ h9 => h9) rfl dX5_holds_20 ?_
        refine lv_iload_n hx hb dX5_holds_23 rfl (lv_at hl 1 rfl) ?_
        refine va_iald hx hb hK hP 1 0 rfl rfl (ix_in rfl (by omega) (by omega)) dX5_holds_24 ?_
        refine lv_topi (fun v7 ev7 => ?_)
        obtain ⟨ia8, ib9⟩ := ai_get ha_o_f3 rfl (by omega) (by omega) ev7
        have lkv7 : v7.toInt = (o_f3 p0.toNatClampNeg).toInt := by rw [ev7]
        refine lv_iload_n hx hb dX5_holds_25 rfl (lv_at hl 3 rfl) ?_
        refine lv_isub hx hb dX5_holds_26 ?_
        refine lv_topi (fun v10 ev10 => ?_)
        have tv10 : v10.toInt = v7.toInt - p2.toInt := ti_sub rfl rfl ev10 (by omega) (by omega)
        refine lv_icmp_gt (tgt := 34) hx hb dX5_holds_27 (by decide) (fun c11 => ?_) (fun c11 => ?_)
        · have c11 := i_lt tv10 rfl c11
          refine lv_iconst (v := 0) hx hb dX5_holds_34 (by decide) ?_
          exact hret _ _ _ _ 0 () hP hD hS dX5_holds_35 rfl (show (((0 : Int32) = 1 ∧ 0 ≤ p1.toInt ∧ 0 ≤ p2.toInt ∧ p1.toInt + p2.toInt ≤ (o_f3 p0.toNatClampNeg).toInt ∧ p1.toInt + p2.toInt ≤ 60 ∧ p1.toInt ≤ 60 ∧ p2.toInt ≤ 60) ∨ ((0 : Int32) = 0 ∧ (p1.toInt < 0 ∨ p2.toInt < 0 ∨ (o_f3 p0.toNatClampNeg).toInt < p1.toInt + p2.toInt))) from (Or.inr ⟨rfl, by omega⟩))
        · have c11 := i_nlt tv10 rfl c11
          refine lv_iconst (v := 1) hx hb dX5_holds_30 (by decide) ?_
          refine lv_goto (tgt := 35) hx hb dX5_holds_31 (by decide) ?_
          exact hret _ _ _ _ 1 () hP hD hS dX5_holds_35 rfl (show (((1 : Int32) = 1 ∧ 0 ≤ p1.toInt ∧ 0 ≤ p2.toInt ∧ p1.toInt + p2.toInt ≤ (o_f3 p0.toNatClampNeg).toInt ∧ p1.toInt + p2.toInt ≤ 60 ∧ p1.toInt ≤ 60 ∧ p2.toInt ≤ 60) ∨ ((1 : Int32) = 0 ∧ (p1.toInt < 0 ∨ p2.toInt < 0 ∨ (o_f3 p0.toNatClampNeg).toInt < p1.toInt + p2.toInt))) from (Or.inl ⟨rfl, by omega, by omega, by omega, by omega, by omega, by omega⟩))
set_option maxHeartbeats 4000000 in
set_option maxRecDepth 100000 in
theorem f_X5_move (l : Launch) (G : va_G) (cI cJ cZ cB cQ : ClassId) (sz : Nat) (h0 : Nat) (p0 : Int32) (p1 : Int32) (p2 : Int32) (p3 : Int32) (p4 : Int32) (b : Nat → Nat) (o_f0 : Nat → Int64) (qp0_l : 0 ≤ p0.toInt) (qp0_h : p0.toInt ≤ 3) (qp1_l : 0 ≤ p1.toInt) (qp1_h : p1.toInt ≤ 60) (qp2_l : 0 ≤ p2.toInt) (qp2_h : p2.toInt ≤ 3) (qp3_l : 0 ≤ p3.toInt) (qp3_h : p3.toInt ≤ 60) (qp4_l : 0 ≤ p4.toInt) (qp4_h : p4.toInt ≤ 60) (m1 : p1.toInt + p4.toInt ≤ 60) (m2 : p3.toInt + p4.toInt ≤ 60) : CV l yX5_move (wl_ yX5_move cX5_move 6 none) ({ frames := 1, cells := 0, slots := 0, locals := 40 } : Room) G (TY cI cJ cZ cB cQ) [.ref h0, .int p0, .int p1, .int p2, .int p3, .int p4] [(h0, oX5 b), (b 0, .inl (cJ, 240, .inr (.inl o_f0)))] sz (fun (u : (Nat → Int64)) => True) (fun u : (Nat → Int64) => [(h0, oX5 b), (b 0, .inl (cJ, 240, .inr (.inl u)))]) 0 0 := by
  refine CV.go (cc := cX5_move) (maxL := 6) (ret := none) (by decide) rfl (Nat.le_of_ble_eq_true rfl) ?_
  intro p e s m below meth c A ls Q hBd hret
  obtain ⟨hx, hb, hr, hml, hts, hown, hlk, hnm, hP, hK, hD, hA, hZ, hl⟩ := hBd
  have hown : s.vm.findClass RX5 = some m.cls := hown
  have hl : lv_has ls 6 [(0, .ref h0), (1, .int p0), (2, .int p1), (3, .int p2), (4, .int p3), (5, .int p4)] := hl
  have hS : va_S A s.heap s.heap [] := va_S.rf
  refine lv_aload_n hx hb dX5_move_0 rfl (lv_at hl 0 rfl) ?_
  refine va_get (D := G) (ci := 5) (v := .ref (b 0)) (C := RX5) (T := TX5) (N := 4) hx hb hts iG_X5 hown hK hP 0 rfl rfl 0 (by decide) (hts _ w_322) (fun _ h9 => h9) rfl dX5_move_1 ?_
  refine lv_iload_n hx hb dX5_move_4 rfl (lv_at hl 1 rfl) ?_
  refine lv_bipush (v := 60) hx hb dX5_move_5 (by decide) ?_
  refine lv_imul hx hb dX5_move_7 ?_
  refine lv_topi (fun v1 ev1 => ?_)
  have tv1 : v1.toInt = p0.toInt * 60 := ti_mul rfl ki_60 ev1 (by omega) (by omega)
  refine lv_iload_n hx hb dX5_move_8 rfl (lv_at hl 2 rfl) ?_
  refine lv_iadd hx hb dX5_move_9 ?_
  refine lv_topi (fun v2 ev2 => ?_)
  have tv2 : v2.toInt = p0.toInt * 60 + p1.toInt := ti_add tv1 rfl ev2 (by omega) (by omega)
  refine lv_aload_n hx hb dX5_move_10 rfl (lv_at hl 0 rfl) ?_
  refine va_get (D := G) (ci := 5) (v := .ref (b 0)) (C := RX5) (T := TX5) (N := 4) hx hb hts iG_X5 hown hK hP 0 rfl rfl 0 (by decide) (hts _ w_322) (fun _ h9 => h9) rfl dX5_move_11 ?_
  refine lv_iload_n hx hb dX5_move_14 rfl (lv_at hl 3 rfl) ?_
  refine lv_bipush (v := 60) hx hb dX5_move_15 (by decide) ?_
  refine lv_imul hx hb dX5_move_17 ?_
  refine lv_topi (fun v3 ev3 => ?_)
  have tv3 : v3.toInt = p2.toInt * 60 := ti_mul rfl ki_60 ev3 (by omega) (by omega)
  refine lv_iload hx hb dX5_move_18 (lv_at hl 4 rfl) ?_
  refine lv_iadd hx hb dX5_move_20 ?_
  refine lv_topi (fun v4 ev4 => ?_)
  have tv4 : v4.toInt = p2.toInt * 60 + p3.toInt := ti_add tv3 rfl ev4 (by omega) (by omega)
  refine lv_iload hx hb dX5_move_21 (lv_at hl 5 rfl) ?_
  refine va_copyl hx hb (by rw [hml]; exact hl.1.symm) hown (hts _ w_1186) (hts _ w_568) (hts _ w_567) (hts _ w_17) hK hP hD hS 1 1 1 1 rfl rfl rfl rfl rfl (ix_nn tv2 (by omega)) (ix_nn tv4 (by omega)) (ix_nn rfl (by omega)) (by rw [ix_nat tv2 (by omega), ix_nat rfl (by omega)]; omega) (by rw [ix_nat tv4 (by omega), ix_nat rfl (by omega)]; omega) (fun _ _ => rfl) (Nat.le_of_ble_eq_true rfl) (Nat.le_of_ble_eq_true rfl) dX5_move_23 (fun H locs hP hD hS => ?_)
  generalize qf5 : va_cpy _ _ _ _ _ = f5 at hP hD
  have hP : va_P G vwCl [(h0, oX5 b), (b 0, .inl (cJ, 240, .inr (.inl f5)))] H := hP
  have hD : va_D A [(h0, oX5 b), (b 0, .inl (cJ, 240, .inr (.inl f5)))] := hD
  exact hret _ _ _ _ f5 hP hD hS dX5_move_26 trivial
set_option maxHeartbeats 4000000 in
set_option maxRecDepth 100000 in
theorem f_X5_tellsOf (l : Launch) (G : va_G) (cI cJ cZ cB cQ : ClassId) (sz : Nat) (h0 : Nat) (p0 : Int32) (h1 : Nat) (b : Nat → Nat) (o_f0 : Nat → Int64) (o_f3 : Nat → Int32) (bc : Nat → Nat) (c_lines : Int32) (c_span : Int32) (c_rule : Int32) (c_odds : Int32) (c_wide : Int32) (c_high : Int32) (c_creeks : Int32) (c_houses : Int32) (c_widows : Int32) (c_acts : Int32) (qp0_l : 0 ≤ p0.toInt) (qp0_h : p0.toInt ≤ 3) (ha_o_f3 : ai o_f3 4 0 60) (hl_c_span : 0 ≤ c_span.toInt) (hh_c_span : c_span.toInt ≤ 12) (hl_c_rule : 0 ≤ c_rule.toInt) (hh_c_rule : c_rule.toInt ≤ 3) (hl_c_odds : 0 ≤ c_odds.toInt) (hh_c_odds : c_odds.toInt ≤ 10) (hl_c_wide : 0 ≤ c_wide.toInt) (hh_c_wide : c_wide.toInt ≤ 8) (hl_c_high : 0 ≤ c_high.toInt) (hh_c_high : c_high.toInt ≤ 8) (hl_c_creeks : 0 ≤ c_creeks.toInt) (hh_c_creeks : c_creeks.toInt ≤ 12) (hl_c_houses : 0 ≤ c_houses.toInt) (hh_c_houses : c_houses.toInt ≤ 6) (hl_c_widows : 0 ≤ c_widows.toInt) (hh_c_widows : c_widows.toInt ≤ 7) (hl_c_acts : 0 ≤ c_acts.toInt) (hh_c_acts : c_acts.toInt ≤ 30) : CI l yX5_tellsOf (wl_ yX5_tellsOf cX5_tellsOf 5 (some .boolean)) ({ frames := 1, cells := 0, slots := 0, locals := 22 } : Room) G (TY cI cJ cZ cB cQ) [.ref h0, .int p0, .ref h1] [(h0, oX5 b), (b 0, .inl (cJ, 240, .inr (.inl o_f0))), (b 3, .inl (cI, 4, .inl o_f3)), (h1, oX0 bc c_lines c_span c_rule c_odds c_wide c_high c_creeks c_houses c_widows c_acts)] sz (fun (r : Int32) (u : Unit) => ((r = 1 ∧ tOK o_f0 (p0.toInt * 60) (o_f3 p0.toNatClampNeg).toInt c_widows.toInt ∧ (o_f3 p0.toNatClampNeg).toInt % 3 = 0) ∨ (r = 0))) (fun _ : Unit => [(h0, oX5 b), (b 0, .inl (cJ, 240, .inr (.inl o_f0))), (b 3, .inl (cI, 4, .inl o_f3)), (h1, oX0 bc c_lines c_span c_rule c_odds c_wide c_high c_creeks c_houses c_widows c_acts)]) 0 0 := by
  refine CI.goz (cc := cX5_tellsOf) (maxL := 5) (ret := (some .boolean)) (by decide) rfl (Nat.le_of_ble_eq_true rfl) ?_
  intro p e s m below meth c A ls Q hBd hret
  obtain ⟨hx, hb, hr, hml, hts, hown, hlk, hnm, hP, hK, hD, hA, hZ, hl⟩ := hBd
  have hown : s.vm.findClass RX5 = some m.cls := hown
  have hl : lv_has ls 5 [(0, .ref h0), (1, .int p0), (2, .ref h1)] := hl
  have hS : va_S A s.heap s.heap [] := va_S.rf
  refine lv_aload_n hx hb dX5_tellsOf_0 rfl (lv_at hl 0 rfl) ?_
  refine va_get (D := G) (ci := 5) (v := .ref (b 3)) (C := RX5) (T := TX5) (N := 4) hx hb hts iG_X5 hown hK hP 0 rfl rfl 3 (by decide) (hts _ w_326) (fun _ h9 => h9) rfl dX5_tellsOf_1 ?_
  refine lv_iload_n hx hb dX5_tellsOf_4 rfl (lv_at hl 1 rfl) ?_
  refine va_iald hx hb hK hP 2 0 rfl rfl (ix_in rfl (by omega) (by omega)) dX5_tellsOf_5 ?_
  refine lv_topi (fun v1 ev1 => ?_)
  obtain ⟨ia2, ib3⟩ := ai_get ha_o_f3 rfl (by omega) (by omega) ev1
  have lkv1 : v1.toInt = (o_f3 p0.toNatClampNeg).toInt := by rw [ev1]
  refine lv_iconst (v := 3) hx hb dX5_tellsOf_6 (by decide) ?_
  refine lv_irem hx hb dX5_tellsOf_7 (by decide) ?_
  refine lv_topi (fun v4 ev4 => ?_)
  have tv4 : v4.toInt = v1.toInt % 3 := ti_rem rfl (by omega) (by decide) ki_3 ev4
  refine lv_if_eq (tgt := 13) hx hb dX5_tellsOf_8 (by decide) (fun c5 => ?_) (fun c5 => ?_)
  · have c5 := i_eq tv4 ki_0 c5
    refine lv_iload_n hx hb dX5_tellsOf_13 rfl (lv_at hl 1 rfl) ?_
    refine lv_bipush (v := 60) hx hb dX5_tellsOf_14 (by decide) ?_
    refine lv_imul hx hb dX5_tellsOf_16 ?_
    refine lv_topi (fun v6 ev6 => ?_)
    have tv6 : v6.toInt = p0.toInt * 60 := ti_mul rfl ki_60 ev6 (by omega) (by omega)
    refine lv_istore_n (lv' := [(3, .int v6), (0, .ref h0), (1, .int p0), (2, .ref h1)]) hx hb dX5_tellsOf_17 rfl hl (by decide) rfl (fun ls hl => ?_)
    have lp7 : ∀ (n8 : Nat) (x9 : Int32), 0 ≤ x9.toInt → x9.toInt ≤ 242 → (x9.toInt - p0.toInt * 60) % 3 = 0 → p0.toInt * 60 ≤ x9.toInt → tOK o_f0 (p0.toInt * 60) (x9.toInt - p0.toInt * 60) c_widows.toInt → 242 - x9.toInt < (n8 : Int) → ∀ (H : Heap) (locs : List Loc), va_P G vwCl [(h0, oX5 b), (b 0, .inl (cJ, 240, .inr (.inl o_f0))), (b 3, .inl (cI, 4, .inl o_f3)), (h1, oX0 bc c_lines c_span c_rule c_odds c_wide c_high c_creeks c_houses c_widows c_acts)] H → va_D A [(h0, oX5 b), (b 0, .inl (cJ, 240, .inr (.inl o_f0))), (b 3, .inl (cI, 4, .inl o_f3)), (h1, oX0 bc c_lines c_span c_rule c_odds c_wide c_high c_creeks c_houses c_widows c_acts)] → va_S A s.heap H locs → ∀ (ls : Array Slot), lv_has ls 5 [(3, .int x9), (0, .ref h0), (1, .int p0), (2, .ref h1)] → W p l e ({ frames := 1, cells := 0, slots := 0, locals := 22 } : Room) s m ([.ref h0, .int p0, .ref h1] : List Value).toArray below meth c H locs 0 0 Q (F0 m 18 ls []) := by
      intro n8
      induction n8 with
      | zero =>
        intro x9 k10 k11 xm11 xg11 xt11 mm13
        exact absurd mm13 (by have q9 := fb_rng x9; omega)
      | succ n8 ih12 =>
        intro x9 k10 k11 xm11 xg11 xt11 mm13 H locs hP hD hS ls hl
        refine lv_iload_n hx hb dX5_tellsOf_18 rfl (lv_at hl 0 rfl) ?_
        refine lv_iload_n hx hb dX5_tellsOf_19 rfl (lv_at hl 2 rfl) ?_
        refine lv_bipush (v := 60) hx hb dX5_tellsOf_20 (by decide) ?_
        refine lv_imul hx hb dX5_tellsOf_22 ?_
        refine lv_topi (fun v14 ev14 => ?_)
        have tv14 : v14.toInt = p0.toInt * 60 := ti_mul rfl ki_60 ev14 (by omega) (by omega)
        refine lv_aload_n hx hb dX5_tellsOf_23 rfl (lv_at hl 1 rfl) ?_
        refine va_get (D := G) (ci := 5) (v := .ref (b 3)) (C := RX5) (T := TX5) (N := 4) hx hb hts iG_X5 hown hK hP 0 rfl rfl 3 (by decide) (hts _ w_326) (fun _ h9 => h9) rfl dX5_tellsOf_24 ?_
        refine lv_iload_n hx hb dX5_tellsOf_27 rfl (lv_at hl 2 rfl) ?_
        refine va_iald hx hb hK hP 2 0 rfl rfl (ix_in rfl (by omega) (by omega)) dX5_tellsOf_28 ?_
        refine lv_topi (fun v15 ev15 => ?_)
        obtain ⟨ia16, ib17⟩ := ai_get ha_o_f3 rfl (by omega) (by omega) ev15
        have lkv15 : v15.toInt = (o_f3 p0.toNatClampNeg).toInt := by rw [ev15]
        refine lv_iadd hx hb dX5_tellsOf_29 ?_
        refine lv_topi (fun v18 ev18 => ?_)
        have tv18 : v18.toInt = p0.toInt * 60 + v15.toInt := ti_add tv14 rfl ev18 (by omega) (by omega)
        refine lv_icmp_ge (tgt := 96) hx hb dX5_tellsOf_30 (by decide) (fun c19 => ?_) (fun c19 => ?_)
        · have c19 := i_le tv18 rfl c19
          refine lv_iconst (v := 1) hx hb dX5_tellsOf_96 (by decide) ?_
          exact hret _ _ _ _ 1 () hP hD hS dX5_tellsOf_97 rfl (show (((1 : Int32) = 1 ∧ tOK o_f0 (p0.toInt * 60) (o_f3 p0.toNatClampNeg).toInt c_widows.toInt ∧ (o_f3 p0.toNatClampNeg).toInt % 3 = 0) ∨ ((1 : Int32) = 0)) from (Or.inl ⟨rfl, fun j h1 h2 h3 => xt11 j h1 (by omega) h3, by omega⟩))
        · have c19 := i_nle tv18 rfl c19
          refine lv_aload_n hx hb dX5_tellsOf_33 rfl (lv_at hl 3 rfl) ?_
          refine lv_aload_n hx hb dX5_tellsOf_34 rfl (lv_at hl 1 rfl) ?_
          refine va_get (D := G) (ci := 5) (v := .ref (b 0)) (C := RX5) (T := TX5) (N := 4) hx hb hts iG_X5 hown hK hP 0 rfl rfl 0 (by decide) (hts _ w_322) (fun _ h9 => h9) rfl dX5_tellsOf_35 ?_
          refine lv_iload_n hx hb dX5_tellsOf_38 rfl (lv_at hl 0 rfl) ?_
          refine va_lald hx hb hK hP 1 1 rfl rfl (ix_in rfl (by omega) (by omega)) dX5_tellsOf_39 ?_
          refine lv_topl (fun v20 ev20 => ?_)
          have lkv20 : v20.toInt = (o_f0 x9.toNatClampNeg).toInt := by rw [ev20]
          refine k_i (wc := [(h1, oX0 bc c_lines c_span c_rule c_odds c_wide c_high c_creeks c_houses c_widows c_acts)]) (wr := [(h0, oX5 b), (b 0, .inl (cJ, 240, .inr (.inl o_f0))), (b 3, .inl (cI, 4, .inl o_f3))]) hP hD hS hA [3] [0, 1, 2] rfl rfl rfl (by decide) (va_runVN (As := [.long v20]) (rest := []) ⟨hx, hb, hml, hown, hts⟩ (f_X0_hasWidow l G cI cJ cZ cB cQ _ h1 v20 v20.toInt bc c_lines c_span c_rule c_odds c_wide c_high c_creeks c_houses c_widows c_acts rfl hl_c_span hh_c_span hl_c_rule hh_c_rule hl_c_odds hh_c_odds hl_c_wide hh_c_wide hl_c_high hh_c_high hl_c_creeks hh_c_creeks hl_c_houses hh_c_houses hl_c_widows hh_c_widows hl_c_acts hh_c_acts) ⟨va_cnB (host := "WidowRoads") 1 hts (gW w_671) rfl rfl rfl (nz_nw hZ nw_962 rfl) (hts _ w_4) hd_X0_hasWidow ⟨Nat.le_of_ble_eq_true rfl, Nat.le_of_ble_eq_true rfl⟩, (hts _ w_670), (hts _ wp_35)⟩ (mV hK hZ hP hD [3] rfl rfl [.long v20] 3 0 rfl rfl) rfl rfl hl.1 rfl (lv_room (Nat.le_of_ble_eq_true rfl)) dX5_tellsOf_40 ⟨Nat.le_of_ble_eq_true rfl, Nat.le_of_ble_eq_true rfl⟩) (fun r21 u22 H locs hw23 hP hD hS => ?_)
          try dsimp only at hw23
          have hP : va_P G vwCl [(h0, oX5 b), (b 0, .inl (cJ, 240, .inr (.inl o_f0))), (b 3, .inl (cI, 4, .inl o_f3)), (h1, oX0 bc c_lines c_span c_rule c_odds c_wide c_high c_creeks c_houses c_widows c_acts)] H := hP
          have hD : va_D A [(h0, oX5 b), (b 0, .inl (cJ, 240, .inr (.inl o_f0))), (b 3, .inl (cI, 4, .inl o_f3)), (h1, oX0 bc c_lines c_span c_rule c_odds c_wide c_high c_creeks c_houses c_widows c_acts)] := hD
          rcases hw23 with ⟨rfl, a25, a26⟩ | ⟨rfl, a27⟩
          · skip
            refine lv_if_eq (tgt := 64) hx hb dX5_tellsOf_43 (by decide) (fun c28 => absurd c28 (by decide)) (fun c28 => ?_)
            refine lv_aload_n hx hb dX5_tellsOf_46 rfl (lv_at hl 1 rfl) ?_
            refine va_get (D := G) (ci := 5) (v := .ref (b 0)) (C := RX5) (T := TX5) (N := 4) hx hb hts iG_X5 hown hK hP 0 rfl rfl 0 (by decide) (hts _ w_322) (fun _ h9 => h9) rfl dX5_tellsOf_47 ?_
            refine lv_iload_n hx hb dX5_tellsOf_50 rfl (lv_at hl 0 rfl) ?_
            refine lv_iconst (v := 1) hx hb dX5_tellsOf_51 (by decide) ?_
            refine lv_iadd hx hb dX5_tellsOf_52 ?_
            refine lv_topi (fun v29 ev29 => ?_)
            have tv29 : v29.toInt = x9.toInt + 1 := ti_add rfl ki_1 ev29 (by omega) (by omega)
            refine va_lald hx hb hK hP 1 1 rfl rfl (ix_in tv29 (by omega) (by omega)) dX5_tellsOf_53 ?_
            refine lv_topl (fun v30 ev30 => ?_)
            have lkv30 : v30.toInt = (o_f0 v29.toNatClampNeg).toInt := by rw [ev30]
            refine k_i (wc := []) (wr := [(h0, oX5 b), (b 0, .inl (cJ, 240, .inr (.inl o_f0))), (b 3, .inl (cI, 4, .inl o_f3)), (h1, oX0 bc c_lines c_span c_rule c_odds c_wide c_high c_creeks c_houses c_widows c_acts)]) hP hD hS hA [] [0, 1, 2, 3] rfl rfl rfl (by decide) (va_runSN (As := [.long v30]) (rest := []) ⟨hx, hb, hml, hown, hts⟩ (f_X9_isStep l G cI cJ cZ cB cQ _ v30 v30.toInt rfl) ⟨va_cnB (host := "WidowRoads") 1 hts (gW w_685) rfl rfl rfl (nz_nw hZ nw_963 rfl) (hts _ w_1) hd_X9_isStep ⟨Nat.le_of_ble_eq_true rfl, Nat.le_of_ble_eq_true rfl⟩, (hts _ w_684), trivial⟩ (mS hK hZ hP hD [] rfl rfl [.long v30]) rfl rfl hl.1 rfl (lv_room (Nat.le_of_ble_eq_true rfl)) dX5_tellsOf_54 ⟨Nat.le_of_ble_eq_true rfl, Nat.le_of_ble_eq_true rfl⟩) (fun r31 u32 H locs hw33 hP hD hS => ?_)
            try dsimp only at hw33
            have hP : va_P G vwCl [(h0, oX5 b), (b 0, .inl (cJ, 240, .inr (.inl o_f0))), (b 3, .inl (cI, 4, .inl o_f3)), (h1, oX0 bc c_lines c_span c_rule c_odds c_wide c_high c_creeks c_houses c_widows c_acts)] H := hP
            have hD : va_D A [(h0, oX5 b), (b 0, .inl (cJ, 240, .inr (.inl o_f0))), (b 3, .inl (cI, 4, .inl o_f3)), (h1, oX0 bc c_lines c_span c_rule c_odds c_wide c_high c_creeks c_houses c_widows c_acts)] := hD
            rcases hw33 with ⟨rfl, a35, a36⟩ | ⟨rfl, a37⟩
            · skip
              refine lv_if_eq (tgt := 64) hx hb dX5_tellsOf_57 (by decide) (fun c38 => absurd c38 (by decide)) (fun c38 => ?_)
              refine lv_iconst (v := 1) hx hb dX5_tellsOf_60 (by decide) ?_
              refine lv_goto (tgt := 65) hx hb dX5_tellsOf_61 (by decide) ?_
              refine lv_istore (lv' := [(4, .int 1), (3, .int x9), (0, .ref h0), (1, .int p0), (2, .ref h1)]) hx hb dX5_tellsOf_65 hl (by decide) rfl (fun ls hl => ?_)
              refine lv_iload hx hb dX5_tellsOf_67 (lv_at hl 0 rfl) ?_
              refine lv_if_eq (tgt := 88) hx hb dX5_tellsOf_69 (by decide) (fun c39 => absurd c39 (by decide)) (fun c39 => ?_)
              refine lv_aload_n hx hb dX5_tellsOf_72 rfl (lv_at hl 4 rfl) ?_
              refine lv_aload_n hx hb dX5_tellsOf_73 rfl (lv_at hl 2 rfl) ?_
              refine va_get (D := G) (ci := 5) (v := .ref (b 0)) (C := RX5) (T := TX5) (N := 4) hx hb hts iG_X5 hown hK hP 0 rfl rfl 0 (by decide) (hts _ w_322) (fun _ h9 => h9) rfl dX5_tellsOf_74 ?_
              refine lv_iload_n hx hb dX5_tellsOf_77 rfl (lv_at hl 1 rfl) ?_
              refine lv_iconst (v := 2) hx hb dX5_tellsOf_78 (by decide) ?_
              refine lv_iadd hx hb dX5_tellsOf_79 ?_
              refine lv_topi (fun v40 ev40 => ?_)
              have tv40 : v40.toInt = x9.toInt + 2 := ti_add rfl ki_2 ev40 (by omega) (by omega)
              refine va_lald hx hb hK hP 1 1 rfl rfl (ix_in tv40 (by omega) (by omega)) dX5_tellsOf_80 ?_
              refine lv_topl (fun v41 ev41 => ?_)
              have lkv41 : v41.toInt = (o_f0 v40.toNatClampNeg).toInt := by rw [ev41]
              refine k_i (wc := [(h1, oX0 bc c_lines c_span c_rule c_odds c_wide c_high c_creeks c_houses c_widows c_acts)]) (wr := [(h0, oX5 b), (b 0, .inl (cJ, 240, .inr (.inl o_f0))), (b 3, .inl (cI, 4, .inl o_f3))]) hP hD hS hA [3] [0, 1, 2] rfl rfl rfl (by decide) (va_runVN (As := [.long v41]) (rest := []) ⟨hx, hb, hml, hown, hts⟩ (f_X0_spotOf l G cI cJ cZ cB cQ _ h1 v41 bc c_lines c_span c_rule c_odds c_wide c_high c_creeks c_houses c_widows c_acts hl_c_span hh_c_span hl_c_rule hh_c_rule hl_c_odds hh_c_odds hl_c_wide hh_c_wide hl_c_high hh_c_high hl_c_creeks hh_c_creeks hl_c_houses hh_c_houses hl_c_widows hh_c_widows hl_c_acts hh_c_acts) ⟨va_cnB (host := "WidowRoads") 1 hts (gW w_656) rfl rfl rfl (nz_nw hZ nw_964 rfl) (hts _ w_4) hd_X0_spotOf ⟨Nat.le_of_ble_eq_true rfl, Nat.le_of_ble_eq_true rfl⟩, (hts _ w_655), (hts _ wp_34)⟩ (mV hK hZ hP hD [3] rfl rfl [.long v41] 3 0 rfl rfl) rfl rfl hl.1 rfl (lv_room (Nat.le_of_ble_eq_true rfl)) dX5_tellsOf_81 ⟨Nat.le_of_ble_eq_true rfl, Nat.le_of_ble_eq_true rfl⟩) (fun r42 u43 H locs hw44 hP hD hS => ?_)
              try dsimp only at hw44
              have hP : va_P G vwCl [(h0, oX5 b), (b 0, .inl (cJ, 240, .inr (.inl o_f0))), (b 3, .inl (cI, 4, .inl o_f3)), (h1, oX0 bc c_lines c_span c_rule c_odds c_wide c_high c_creeks c_houses c_widows c_acts)] H := hP
              have hD : va_D A [(h0, oX5 b), (b 0, .inl (cJ, 240, .inr (.inl o_f0))), (b 3, .inl (cI, 4, .inl o_f3)), (h1, oX0 bc c_lines c_span c_rule c_odds c_wide c_high c_creeks c_houses c_widows c_acts)] := hD
              refine lv_iconst (v := (-1)) hx hb dX5_tellsOf_84 (by decide) ?_
              refine lv_icmp_ne (tgt := 90) hx hb dX5_tellsOf_85 (by decide) (fun c45 => ?_) (fun c45 => ?_)
              · have c45 := i_ne rfl ki_m1 c45
                obtain ⟨v46, ev46⟩ : ∃ y : Int32, y = x9 + 3 := ⟨_, rfl⟩
                have tv46 : v46.toInt = x9.toInt + 3 := ti_add rfl ki_3 ev46 (by omega) (by omega)
                refine lv_iinc (v := v46) (lv' := [(3, .int v46), (4, .int 1), (0, .ref h0), (1, .int p0), (2, .ref h1)]) hx hb dX5_tellsOf_90 hl (k := 1) rfl (by rw [ev46]; rfl) (by decide) rfl (fun ls hl => ?_)
                refine lv_goto (tgt := 18) hx hb dX5_tellsOf_93 (by decide) ?_
                exact ih12 v46 (by omega) (by omega) (by omega) (by omega) (by rw [show v46.toInt - p0.toInt * 60 = x9.toInt + 3 - p0.toInt * 60 by omega]; exact tOK_step xt11 xm11 (by omega) (by omega) tv29 ev20 ev30 (by omega) (by omega) (by omega) (by omega)) (by omega) _ _ hP hD hS ls (lv_sub hl [0, 2, 3, 4] rfl)
              · have c45 := i_eq rfl ki_m1 c45
                refine lv_iconst (v := 0) hx hb dX5_tellsOf_88 (by decide) ?_
                exact hret _ _ _ _ 0 () hP hD hS dX5_tellsOf_89 rfl (show (((0 : Int32) = 1 ∧ tOK o_f0 (p0.toInt * 60) (o_f3 p0.toNatClampNeg).toInt c_widows.toInt ∧ (o_f3 p0.toNatClampNeg).toInt % 3 = 0) ∨ ((0 : Int32) = 0)) from (Or.inr rfl))
            · skip
              refine lv_if_eq (tgt := 64) hx hb dX5_tellsOf_57 (by decide) (fun c47 => ?_) (fun c47 => absurd (by decide) c47)
              refine lv_iconst (v := 0) hx hb dX5_tellsOf_64 (by decide) ?_
              refine lv_istore (lv' := [(4, .int 0), (3, .int x9), (0, .ref h0), (1, .int p0), (2, .ref h1)]) hx hb dX5_tellsOf_65 hl (by decide) rfl (fun ls hl => ?_)
              refine lv_iload hx hb dX5_tellsOf_67 (lv_at hl 0 rfl) ?_
              refine lv_if_eq (tgt := 88) hx hb dX5_tellsOf_69 (by decide) (fun c48 => ?_) (fun c48 => absurd (by decide) c48)
              refine lv_iconst (v := 0) hx hb dX5_tellsOf_88 (by decide) ?_
              exact hret _ _ _ _ 0 () hP hD hS dX5_tellsOf_89 rfl (show (((0 : Int32) = 1 ∧ tOK o_f0 (p0.toInt * 60) (o_f3 p0.toNatClampNeg).toInt c_widows.toInt ∧ (o_f3 p0.toNatClampNeg).toInt % 3 = 0) ∨ ((0 : Int32) = 0)) from (Or.inr rfl))
          · skip
            refine lv_if_eq (tgt := 64) hx hb dX5_tellsOf_43 (by decide) (fun c49 => ?_) (fun c49 => absurd (by decide) c49)
            refine lv_iconst (v := 0) hx hb dX5_tellsOf_64 (by decide) ?_
            refine lv_istore (lv' := [(4, .int 0), (3, .int x9), (0, .ref h0), (1, .int p0), (2, .ref h1)]) hx hb dX5_tellsOf_65 hl (by decide) rfl (fun ls hl => ?_)
            refine lv_iload hx hb dX5_tellsOf_67 (lv_at hl 0 rfl) ?_
            refine lv_if_eq (tgt := 88) hx hb dX5_tellsOf_69 (by decide) (fun c50 => ?_) (fun c50 => absurd (by decide) c50)
            refine lv_iconst (v := 0) hx hb dX5_tellsOf_88 (by decide) ?_
            exact hret _ _ _ _ 0 () hP hD hS dX5_tellsOf_89 rfl (show (((0 : Int32) = 1 ∧ tOK o_f0 (p0.toInt * 60) (o_f3 p0.toNatClampNeg).toInt c_widows.toInt ∧ (o_f3 p0.toNatClampNeg).toInt % 3 = 0) ∨ ((0 : Int32) = 0)) from (Or.inr rfl))
    exact lp7 243 v6 (by omega) (by omega) (by omega) (by omega) (fun j h1 h2 h3 => absurd h2 (by omega)) (by have q9 := fb_rng v6; omega) _ _ hP hD hS ls (lv_sub hl [0, 1, 2, 3] rfl)
  · have c5 := i_ne tv4 ki_0 c5
    refine lv_iconst (v := 0) hx hb dX5_tellsOf_11 (by decide) ?_
    exact hret _ _ _ _ 0 () hP hD hS dX5_tellsOf_12 rfl (show (((0 : Int32) = 1 ∧ tOK o_f0 (p0.toInt * 60) (o_f3 p0.toNatClampNeg).toInt c_widows.toInt ∧ (o_f3 p0.toNatClampNeg).toInt % 3 = 0) ∨ ((0 : Int32) = 0)) from (Or.inr rfl))
set_option maxHeartbeats 4000000 in
set_option maxRecDepth 100000 in
theorem f_X5_fits (l : Launch) (G : va_G) (cI cJ cZ cB cQ : ClassId) (sz : Nat) (h0 : Nat) (p0 : Int32) (h1 : Nat) (h2 : Nat) (b : Nat → Nat) (o_f0 : Nat → Int64) (o_f3 : Nat → Int32) (bc : Nat → Nat) (c_lines : Int32) (c_span : Int32) (c_rule : Int32) (c_odds : Int32) (c_wide : Int32) (c_high : Int32) (c_creeks : Int32) (c_houses : Int32) (c_widows : Int32) (c_acts : Int32) (bs : Nat → Nat) (s_field : Int64) (s_houses : Int32) (s_f0 : Nat → Int32) (s_f1 : Nat → Int32) (qp0_l : 0 ≤ p0.toInt) (qp0_h : p0.toInt ≤ 3) (ht : tOK o_f0 (p0.toInt * 60) (o_f3 p0.toNatClampNeg).toInt c_widows.toInt) (hm3 : (o_f3 p0.toNatClampNeg).toInt % 3 = 0) (ha_o_f3 : ai o_f3 4 0 60) (hl_c_span : 0 ≤ c_span.toInt) (hh_c_span : c_span.toInt ≤ 12) (hl_c_rule : 0 ≤ c_rule.toInt) (hh_c_rule : c_rule.toInt ≤ 3) (hl_c_odds : 0 ≤ c_odds.toInt) (hh_c_odds : c_odds.toInt ≤ 10) (hl_c_wide : 0 ≤ c_wide.toInt) (hh_c_wide : c_wide.toInt ≤ 8) (hl_c_high : 0 ≤ c_high.toInt) (hh_c_high : c_high.toInt ≤ 8) (hl_c_creeks : 0 ≤ c_creeks.toInt) (hh_c_creeks : c_creeks.toInt ≤ 12) (hl_c_houses : 0 ≤ c_houses.toInt) (hh_c_houses : c_houses.toInt ≤ 6) (hl_c_widows : 0 ≤ c_widows.toInt) (hh_c_widows : c_widows.toInt ≤ 7) (hl_c_acts : 0 ≤ c_acts.toInt) (hh_c_acts : c_acts.toInt ≤ 30) (hl_s_houses : 0 ≤ s_houses.toInt) (hh_s_houses : s_houses.toInt ≤ 6) (ha_s_f1 : ai s_f1 7 (-1) 40) : CI l yX5_fits (wl_ yX5_fits cX5_fits 6 (some .boolean)) ({ frames := 1, cells := 0, slots := 0, locals := 22 } : Room) G (TY cI cJ cZ cB cQ) [.ref h0, .int p0, .ref h1, .ref h2] [(h0, oX5 b), (b 0, .inl (cJ, 240, .inr (.inl o_f0))), (b 3, .inl (cI, 4, .inl o_f3)), (h1, oX0 bc c_lines c_span c_rule c_odds c_wide c_high c_creeks c_houses c_widows c_acts), (h2, oX6 bs s_field s_houses), (bs 0, .inl (cI, 287, .inl s_f0)), (bs 1, .inl (cI, 7, .inl s_f1))] sz (fun (r : Int32) (u : Unit) => 0 ≤ r.toInt ∧ r.toInt ≤ 1) (fun _ : Unit => [(h0, oX5 b), (b 0, .inl (cJ, 240, .inr (.inl o_f0))), (b 3, .inl (cI, 4, .inl o_f3)), (h1, oX0 bc c_lines c_span c_rule c_odds c_wide c_high c_creeks c_houses c_widows c_acts), (h2, oX6 bs s_field s_houses), (bs 0, .inl (cI, 287, .inl s_f0)), (bs 1, .inl (cI, 7, .inl s_f1))]) 0 0 := by
  refine CI.goz (cc := cX5_fits) (maxL := 6) (ret := (some .boolean)) (by decide) rfl (Nat.le_of_ble_eq_true rfl) ?_
  intro p e s m below meth c A ls Q hBd hret
  obtain ⟨hx, hb, hr, hml, hts, hown, hlk, hnm, hP, hK, hD, hA, hZ, hl⟩ := hBd
  have hown : s.vm.findClass RX5 = some m.cls := hown
  have hl : lv_has ls 6 [(0, .ref h0), (1, .int p0), (2, .ref h1), (3, .ref h2)] := hl
  have hS : va_S A s.heap s.heap [] := va_S.rf
  refine lv_iload_n hx hb dX5_fits_0 rfl (lv_at hl 1 rfl) ?_
  refine lv_bipush (v := 60) hx hb dX5_fits_1 (by decide) ?_
  refine lv_imul hx hb dX5_fits_3 ?_
  refine lv_topi (fun v1 ev1 => ?_)
  have tv1 : v1.toInt = p0.toInt * 60 := ti_mul rfl ki_60 ev1 (by omega) (by omega)
  refine lv_istore (lv' := [(4, .int v1), (0, .ref h0), (1, .int p0), (2, .ref h1), (3, .ref h2)]) hx hb dX5_fits_4 hl (by decide) rfl (fun ls hl => ?_)
  have lp2 : ∀ (n3 : Nat) (x4 : Int32), 0 ≤ x4.toInt → x4.toInt ≤ 242 → (x4.toInt - p0.toInt * 60) % 3 = 0 → p0.toInt * 60 ≤ x4.toInt → 242 - x4.toInt < (n3 : Int) → ∀ (H : Heap) (locs : List Loc), va_P G vwCl [(h0, oX5 b), (b 0, .inl (cJ, 240, .inr (.inl o_f0))), (b 3, .inl (cI, 4, .inl o_f3)), (h1, oX0 bc c_lines c_span c_rule c_odds c_wide c_high c_creeks c_houses c_widows c_acts), (h2, oX6 bs s_field s_houses), (bs 0, .inl (cI, 287, .inl s_f0)), (bs 1, .inl (cI, 7, .inl s_f1))] H → va_D A [(h0, oX5 b), (b 0, .inl (cJ, 240, .inr (.inl o_f0))), (b 3, .inl (cI, 4, .inl o_f3)), (h1, oX0 bc c_lines c_span c_rule c_odds c_wide c_high c_creeks c_houses c_widows c_acts), (h2, oX6 bs s_field s_houses), (bs 0, .inl (cI, 287, .inl s_f0)), (bs 1, .inl (cI, 7, .inl s_f1))] → va_S A s.heap H locs → ∀ (ls : Array Slot), lv_has ls 6 [(4, .int x4), (0, .ref h0), (1, .int p0), (2, .ref h1), (3, .ref h2)] → W p l e ({ frames := 1, cells := 0, slots := 0, locals := 22 } : Room) s m ([.ref h0, .int p0, .ref h1, .ref h2] : List Value).toArray below meth c H locs 0 0 Q (F0 m 6 ls []) := by
    intro n3
    induction n3 with
    | zero =>
      intro x4 k5 k6 xm6 xg6 mm8
      exact absurd mm8 (by have q9 := fb_rng x4; omega)
    | succ n3 ih7 =>
      intro x4 k5 k6 xm6 xg6 mm8 H locs hP hD hS ls hl
      refine lv_iload hx hb dX5_fits_6 (lv_at hl 0 rfl) ?_
      refine lv_iload_n hx hb dX5_fits_8 rfl (lv_at hl 2 rfl) ?_
      refine lv_bipush (v := 60) hx hb dX5_fits_9 (by decide) ?_
      refine lv_imul hx hb dX5_fits_11 ?_
      refine lv_topi (fun v9 ev9 => ?_)
      have tv9 : v9.toInt = p0.toInt * 60 := ti_mul rfl ki_60 ev9 (by omega) (by omega)
      refine lv_aload_n hx hb dX5_fits_12 rfl (lv_at hl 1 rfl) ?_
      refine va_get (D := G) (ci := 5) (v := .ref (b 3)) (C := RX5) (T := TX5) (N := 4) hx hb hts iG_X5 hown hK hP 0 rfl rfl 3 (by decide) (hts _ w_326) (fun _ h9 => h9) rfl dX5_fits_13 ?_
      refine lv_iload_n hx hb dX5_fits_16 rfl (lv_at hl 2 rfl) ?_
      refine va_iald hx hb hK hP 2 0 rfl rfl (ix_in rfl (by omega) (by omega)) dX5_fits_17 ?_
      refine lv_topi (fun v10 ev10 => ?_)
      obtain ⟨ia11, ib12⟩ := ai_get ha_o_f3 rfl (by omega) (by omega) ev10
      have lkv10 : v10.toInt = (o_f3 p0.toNatClampNeg).toInt := by rw [ev10]
      refine lv_iadd hx hb dX5_fits_18 ?_
      refine lv_topi (fun v13 ev13 => ?_)
      have tv13 : v13.toInt = p0.toInt * 60 + v10.toInt := ti_add tv9 rfl ev13 (by omega) (by omega)
      refine lv_icmp_ge (tgt := 72) hx hb dX5_fits_19 (by decide) (fun c14 => ?_) (fun c14 => ?_)
      · have c14 := i_le tv13 rfl c14
        refine lv_iconst (v := 1) hx hb dX5_fits_72 (by decide) ?_
        exact hret _ _ _ _ 1 () hP hD hS dX5_fits_73 rfl (show 0 ≤ (1 : Int32).toInt ∧ (1 : Int32).toInt ≤ 1 from ⟨(by rw [ki_1]; decide), (by rw [ki_1]; decide)⟩)
      · have c14 := i_nle tv13 rfl c14
        refine lv_aload_n hx hb dX5_fits_22 rfl (lv_at hl 4 rfl) ?_
        refine lv_aload_n hx hb dX5_fits_23 rfl (lv_at hl 1 rfl) ?_
        refine va_get (D := G) (ci := 5) (v := .ref (b 0)) (C := RX5) (T := TX5) (N := 4) hx hb hts iG_X5 hown hK hP 0 rfl rfl 0 (by decide) (hts _ w_322) (fun _ h9 => h9) rfl dX5_fits_24 ?_
        refine lv_iload hx hb dX5_fits_27 (lv_at hl 0 rfl) ?_
        refine va_lald hx hb hK hP 1 1 rfl rfl (ix_in rfl (by omega) (by omega)) dX5_fits_29 ?_
        refine lv_topl (fun v15 ev15 => ?_)
        obtain ⟨ta16, tb17⟩ := tOK_at ht xm6 (by omega) (by omega) (by omega) ev15
        have lkv15 : v15.toInt = (o_f0 x4.toNatClampNeg).toInt := by rw [ev15]
        refine lv_l2i hx hb dX5_fits_30 rfl ?_
        refine lv_topi (fun v18 ev18 => ?_)
        have tv18 : v18.toInt = v15.toInt := tl_2i rfl ev18 (by omega) (by omega)
        refine lv_aload_n hx hb dX5_fits_31 rfl (lv_at hl 1 rfl) ?_
        refine va_get (D := G) (ci := 5) (v := .ref (b 0)) (C := RX5) (T := TX5) (N := 4) hx hb hts iG_X5 hown hK hP 0 rfl rfl 0 (by decide) (hts _ w_322) (fun _ h9 => h9) rfl dX5_fits_32 ?_
        refine lv_iload hx hb dX5_fits_35 (lv_at hl 0 rfl) ?_
        refine lv_iconst (v := 1) hx hb dX5_fits_37 (by decide) ?_
        refine lv_iadd hx hb dX5_fits_38 ?_
        refine lv_topi (fun v19 ev19 => ?_)
        have tv19 : v19.toInt = x4.toInt + 1 := ti_add rfl ki_1 ev19 (by omega) (by omega)
        refine va_lald hx hb hK hP 1 1 rfl rfl (ix_in tv19 (by omega) (by omega)) dX5_fits_39 ?_
        refine lv_topl (fun v20 ev20 => ?_)
        obtain ⟨ta21, tb22⟩ := tOK_at2 (x := x4) ht xm6 (by omega) (by omega) (by omega) tv19 ev20
        have lkv20 : v20.toInt = (o_f0 v19.toNatClampNeg).toInt := by rw [ev20]
        refine lv_l2i hx hb dX5_fits_40 rfl ?_
        refine lv_topi (fun v23 ev23 => ?_)
        have tv23 : v23.toInt = v20.toInt := tl_2i rfl ev23 (by omega) (by omega)
        refine k_i (wc := [(h2, oX6 bs s_field s_houses), (bs 0, .inl (cI, 287, .inl s_f0)), (bs 1, .inl (cI, 7, .inl s_f1))]) (wr := [(h0, oX5 b), (b 0, .inl (cJ, 240, .inr (.inl o_f0))), (b 3, .inl (cI, 4, .inl o_f3)), (h1, oX0 bc c_lines c_span c_rule c_odds c_wide c_high c_creeks c_houses c_widows c_acts)]) hP hD hS hA [4, 5, 6] [0, 1, 2, 3] rfl rfl rfl (by decide) (va_runVN (As := [.int v18, .int v23]) (rest := []) ⟨hx, hb, hml, hown, hts⟩ (f_X6_spotAt l G cI cJ cZ cB cQ _ h2 v18 v23 bs s_field s_houses s_f0 s_f1 (by omega) (by omega) (by omega) hl_s_houses hh_s_houses ha_s_f1) ⟨va_cnB (host := "WidowRoads") 2 hts (gW w_690) rfl rfl rfl (nz_nw hZ nw_973 rfl) (hts _ w_6) hd_X6_spotAt ⟨Nat.le_of_ble_eq_true rfl, Nat.le_of_ble_eq_true rfl⟩, (hts _ w_689), (hts _ wp_36)⟩ (mV hK hZ hP hD [4, 5, 6] rfl rfl [.int v18, .int v23] 4 6 rfl rfl) rfl rfl hl.1 rfl (lv_room (Nat.le_of_ble_eq_true rfl)) dX5_fits_41 ⟨Nat.le_of_ble_eq_true rfl, Nat.le_of_ble_eq_true rfl⟩) (fun r24 u25 H locs hw26 hP hD hS => ?_)
        try dsimp only at hw26
        have hP : va_P G vwCl [(h0, oX5 b), (b 0, .inl (cJ, 240, .inr (.inl o_f0))), (b 3, .inl (cI, 4, .inl o_f3)), (h1, oX0 bc c_lines c_span c_rule c_odds c_wide c_high c_creeks c_houses c_widows c_acts), (h2, oX6 bs s_field s_houses), (bs 0, .inl (cI, 287, .inl s_f0)), (bs 1, .inl (cI, 7, .inl s_f1))] H := hP
        have hD : va_D A [(h0, oX5 b), (b 0, .inl (cJ, 240, .inr (.inl o_f0))), (b 3, .inl (cI, 4, .inl o_f3)), (h1, oX0 bc c_lines c_span c_rule c_odds c_wide c_high c_creeks c_houses c_widows c_acts), (h2, oX6 bs s_field s_houses), (bs 0, .inl (cI, 287, .inl s_f0)), (bs 1, .inl (cI, 7, .inl s_f1))] := hD
        refine lv_istore (lv' := [(5, .int r24), (4, .int x4), (0, .ref h0), (1, .int p0), (2, .ref h1), (3, .ref h2)]) hx hb dX5_fits_44 hl (by decide) rfl (fun ls hl => ?_)
        refine lv_iload hx hb dX5_fits_46 (lv_at hl 0 rfl) ?_
        refine lv_aload_n hx hb dX5_fits_48 rfl (lv_at hl 4 rfl) ?_
        refine lv_aload_n hx hb dX5_fits_49 rfl (lv_at hl 2 rfl) ?_
        refine va_get (D := G) (ci := 5) (v := .ref (b 0)) (C := RX5) (T := TX5) (N := 4) hx hb hts iG_X5 hown hK hP 0 rfl rfl 0 (by decide) (hts _ w_322) (fun _ h9 => h9) rfl dX5_fits_50 ?_
        refine lv_iload hx hb dX5_fits_53 (lv_at hl 1 rfl) ?_
        refine lv_iconst (v := 2) hx hb dX5_fits_55 (by decide) ?_
        refine lv_iadd hx hb dX5_fits_56 ?_
        refine lv_topi (fun v27 ev27 => ?_)
        have tv27 : v27.toInt = x4.toInt + 2 := ti_add rfl ki_2 ev27 (by omega) (by omega)
        refine va_lald hx hb hK hP 1 1 rfl rfl (ix_in tv27 (by omega) (by omega)) dX5_fits_57 ?_
        refine lv_topl (fun v28 ev28 => ?_)
        have lkv28 : v28.toInt = (o_f0 v27.toNatClampNeg).toInt := by rw [ev28]
        refine k_i (wc := [(h1, oX0 bc c_lines c_span c_rule c_odds c_wide c_high c_creeks c_houses c_widows c_acts)]) (wr := [(h0, oX5 b), (b 0, .inl (cJ, 240, .inr (.inl o_f0))), (b 3, .inl (cI, 4, .inl o_f3)), (h2, oX6 bs s_field s_houses), (bs 0, .inl (cI, 287, .inl s_f0)), (bs 1, .inl (cI, 7, .inl s_f1))]) hP hD hS hA [3] [0, 1, 2, 4, 5, 6] rfl rfl rfl (by decide) (va_runVN (As := [.long v28]) (rest := [.int r24]) ⟨hx, hb, hml, hown, hts⟩ (f_X0_spotOf l G cI cJ cZ cB cQ _ h1 v28 bc c_lines c_span c_rule c_odds c_wide c_high c_creeks c_houses c_widows c_acts hl_c_span hh_c_span hl_c_rule hh_c_rule hl_c_odds hh_c_odds hl_c_wide hh_c_wide hl_c_high hh_c_high hl_c_creeks hh_c_creeks hl_c_houses hh_c_houses hl_c_widows hh_c_widows hl_c_acts hh_c_acts) ⟨va_cnB (host := "WidowRoads") 1 hts (gW w_656) rfl rfl rfl (nz_nw hZ nw_964 rfl) (hts _ w_4) hd_X0_spotOf ⟨Nat.le_of_ble_eq_true rfl, Nat.le_of_ble_eq_true rfl⟩, (hts _ w_655), (hts _ wp_34)⟩ (mV hK hZ hP hD [3] rfl rfl [.long v28] 3 0 rfl rfl) rfl rfl hl.1 rfl (lv_room (Nat.le_of_ble_eq_true rfl)) dX5_fits_58 ⟨Nat.le_of_ble_eq_true rfl, Nat.le_of_ble_eq_true rfl⟩) (fun r29 u30 H locs hw31 hP hD hS => ?_)
        try dsimp only at hw31
        have hP : va_P G vwCl [(h0, oX5 b), (b 0, .inl (cJ, 240, .inr (.inl o_f0))), (b 3, .inl (cI, 4, .inl o_f3)), (h2, oX6 bs s_field s_houses), (bs 0, .inl (cI, 287, .inl s_f0)), (bs 1, .inl (cI, 7, .inl s_f1)), (h1, oX0 bc c_lines c_span c_rule c_odds c_wide c_high c_creeks c_houses c_widows c_acts)] H := hP
        have hD : va_D A [(h0, oX5 b), (b 0, .inl (cJ, 240, .inr (.inl o_f0))), (b 3, .inl (cI, 4, .inl o_f3)), (h2, oX6 bs s_field s_houses), (bs 0, .inl (cI, 287, .inl s_f0)), (bs 1, .inl (cI, 7, .inl s_f1)), (h1, oX0 bc c_lines c_span c_rule c_odds c_wide c_high c_creeks c_houses c_widows c_acts)] := hD
        refine lv_icmp_eq (tgt := 66) hx hb dX5_fits_61 (by decide) (fun c32 => ?_) (fun c32 => ?_)
        · have c32 := i_eq rfl rfl c32
          obtain ⟨v33, ev33⟩ : ∃ y : Int32, y = x4 + 3 := ⟨_, rfl⟩
          have tv33 : v33.toInt = x4.toInt + 3 := ti_add rfl ki_3 ev33 (by omega) (by omega)
          refine lv_iinc (v := v33) (lv' := [(4, .int v33), (5, .int r24), (0, .ref h0), (1, .int p0), (2, .ref h1), (3, .ref h2)]) hx hb dX5_fits_66 hl (k := 1) rfl (by rw [ev33]; rfl) (by decide) rfl (fun ls hl => ?_)
          refine lv_goto (tgt := 6) hx hb dX5_fits_69 (by decide) ?_
          exact ih7 v33 (by omega) (by omega) (by omega) (by omega) (by omega) _ _ (hP.sub [0, 1, 2, 6, 3, 4, 5] rfl) (hD.sub [0, 1, 2, 6, 3, 4, 5] rfl rfl) hS ls (lv_sub hl [0, 2, 3, 4, 5] rfl)
        · have c32 := i_ne rfl rfl c32
          refine lv_iconst (v := 0) hx hb dX5_fits_64 (by decide) ?_
          exact hret _ _ _ _ 0 () (hP.sub (ws' := [(h0, oX5 b), (b 0, .inl (cJ, 240, .inr (.inl o_f0))), (b 3, .inl (cI, 4, .inl o_f3)), (h1, oX0 bc c_lines c_span c_rule c_odds c_wide c_high c_creeks c_houses c_widows c_acts), (h2, oX6 bs s_field s_houses), (bs 0, .inl (cI, 287, .inl s_f0)), (bs 1, .inl (cI, 7, .inl s_f1))]) [0, 1, 2, 6, 3, 4, 5] rfl) (hD.sub (ws' := [(h0, oX5 b), (b 0, .inl (cJ, 240, .inr (.inl o_f0))), (b 3, .inl (cI, 4, .inl o_f3)), (h1, oX0 bc c_lines c_span c_rule c_odds c_wide c_high c_creeks c_houses c_widows c_acts), (h2, oX6 bs s_field s_houses), (bs 0, .inl (cI, 287, .inl s_f0)), (bs 1, .inl (cI, 7, .inl s_f1))]) [0, 1, 2, 6, 3, 4, 5] rfl rfl) hS dX5_fits_65 rfl (show 0 ≤ (0 : Int32).toInt ∧ (0 : Int32).toInt ≤ 1 from ⟨(by rw [ki_0]; decide), (by rw [ki_0]; decide)⟩)
  exact lp2 243 v1 (by omega) (by omega) (by omega) (by omega) (by have q9 := fb_rng v1; omega) _ _ hP hD hS ls (lv_sub hl [0, 1, 2, 3, 4] rfl)
