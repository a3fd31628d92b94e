theorem wp_3 : Cond.selects "WidowRoads$Reader" yX4_next yX4_next ∈ GW := GW_p 3 (by decide +kernel) rfl
theorem wp_4 : Cond.selects "WidowRoads$Tape" yX8_byteAt yX8_byteAt ∈ GW := GW_p 4 (by decide +kernel) rfl
theorem wp_6 : Cond.selects "WidowRoads$Reader" yX4_word yX4_word ∈ GW := GW_p 6 (by decide +kernel) rfl
theorem wp_7 : Cond.selects "WidowRoads$Reader" yX4_isWord yX4_isWord ∈ GW := GW_p 7 (by decide +kernel) rfl
theorem wp_8 : Cond.selects "WidowRoads$Reader" yX4_mark yX4_mark ∈ GW := GW_p 8 (by decide +kernel) rfl
theorem wp_10 : Cond.selects "WidowRoads$Reader" yX4_number yX4_number ∈ GW := GW_p 10 (by decide +kernel) rfl
theorem w_2 : Jvm.Cond.initialized "WidowRoads$Reader" ∈ GW := GW_t 2 (by decide +kernel) rfl
theorem w_3 : Jvm.Cond.initialized "WidowRoads$Tape" ∈ GW := GW_t 3 (by decide +kernel) rfl
theorem w_12 : Jvm.Cond.initialized "java/lang/String" ∈ GW := GW_t 12 (by decide +kernel) rfl
theorem w_13 : Jvm.Cond.initialized "java/lang/StringLatin1" ∈ GW := GW_t 13 (by decide +kernel) rfl
theorem w_14 : Jvm.Cond.initialized "jdk/internal/util/Preconditions" ∈ GW := GW_t 14 (by decide +kernel) rfl
theorem w_40 : Jvm.Cond.fieldLink "WidowRoads$Tape" (9 : Nat) "WidowRoads$Tape" "bytes" "[B" ∈ GW := GW_t 40 (by decide +kernel) rfl
theorem w_42 : Jvm.Cond.fieldLink "WidowRoads$Tape" (15 : Nat) "WidowRoads$Tape" "length" "I" ∈ GW := GW_t 42 (by decide +kernel) rfl
theorem w_163 : Jvm.Cond.fieldLink "WidowRoads$Reader" (32 : Nat) "WidowRoads$Reader" "fault" "I" ∈ GW := GW_t 163 (by decide +kernel) rfl
theorem w_165 : Jvm.Cond.fieldLink "WidowRoads$Reader" (9 : Nat) "WidowRoads$Reader" "place" "I" ∈ GW := GW_t 165 (by decide +kernel) rfl
theorem w_167 : Jvm.Cond.fieldLink "WidowRoads$Reader" (18 : Nat) "WidowRoads$Reader" "tape" "LWidowRoads$Tape;" ∈ GW := GW_t 167 (by decide +kernel) rfl
theorem w_169 : Jvm.Cond.fieldLink "WidowRoads$Reader" (25 : Nat) "WidowRoads$Reader" "into" "LWidowRoads$Colony;" ∈ GW := GW_t 169 (by decide +kernel) rfl
theorem w_171 : Jvm.Cond.fieldLink "WidowRoads$Reader" (41 : Nat) "WidowRoads$Reader" "kind" "I" ∈ GW := GW_t 171 (by decide +kernel) rfl
theorem w_172 : Jvm.Cond.fieldLink "WidowRoads$Reader" (69 : Nat) "WidowRoads$Reader" "start" "I" ∈ GW := GW_t 172 (by decide +kernel) rfl
theorem w_173 : Jvm.Cond.fieldLink "WidowRoads$Reader" (35 : Nat) "WidowRoads$Reader" "stop" "I" ∈ GW := GW_t 173 (by decide +kernel) rfl
theorem w_409 : Jvm.Cond.methodLink "WidowRoads$Reader" (38 : Nat) ({ cls := "WidowRoads$Reader", name := "next", desc := "()V" } : Jvm.MethodName) ∈ GW := GW_t 409 (by decide +kernel) rfl
theorem w_411 : Jvm.Cond.instanceMethod ({ cls := "WidowRoads$Reader", name := "next", desc := "()V" } : Jvm.MethodName) ∈ GW := GW_t 411 (by decide +kernel) rfl
theorem w_412 : Jvm.Cond.code ({ cls := "WidowRoads$Reader", name := "next", desc := "()V" } : Jvm.MethodName) prog_6_method_5_code (2 : Nat) (Option.none : Option Jvm.ClassFile.FieldType) ∈ GW := GW_t 412 (by decide +kernel) rfl
theorem w_415 : Jvm.Cond.instanceMethod ({ cls := "WidowRoads$Tape", name := "byteAt", desc := "(I)I" } : Jvm.MethodName) ∈ GW := GW_t 415 (by decide +kernel) rfl
theorem w_416 : Jvm.Cond.code ({ cls := "WidowRoads$Tape", name := "byteAt", desc := "(I)I" } : Jvm.MethodName) prog_10_method_3_code (2 : Nat) (Option.some Jvm.ClassFile.FieldType.int) ∈ GW := GW_t 416 (by decide +kernel) rfl
theorem w_417 : Jvm.Cond.methodLink "WidowRoads$Reader" (83 : Nat) ({ cls := "WidowRoads$Reader", name := "isBlank", desc := "(I)Z" } : Jvm.MethodName) ∈ GW := GW_t 417 (by decide +kernel) rfl
theorem w_418 : Jvm.Cond.static ({ cls := "WidowRoads$Reader", name := "isBlank", desc := "(I)Z" } : Jvm.MethodName) ∈ GW := GW_t 418 (by decide +kernel) rfl
theorem w_419 : Jvm.Cond.code ({ cls := "WidowRoads$Reader", name := "isBlank", desc := "(I)Z" } : Jvm.MethodName) prog_6_method_17_code (1 : Nat) (Option.some Jvm.ClassFile.FieldType.boolean) ∈ GW := GW_t 419 (by decide +kernel) rfl
theorem w_420 : Jvm.Cond.methodLink "WidowRoads$Reader" (87 : Nat) ({ cls := "WidowRoads$Reader", name := "isLetter", desc := "(I)Z" } : Jvm.MethodName) ∈ GW := GW_t 420 (by decide +kernel) rfl
theorem w_421 : Jvm.Cond.static ({ cls := "WidowRoads$Reader", name := "isLetter", desc := "(I)Z" } : Jvm.MethodName) ∈ GW := GW_t 421 (by decide +kernel) rfl
theorem w_422 : Jvm.Cond.code ({ cls := "WidowRoads$Reader", name := "isLetter", desc := "(I)Z" } : Jvm.MethodName) prog_6_method_18_code (1 : Nat) (Option.some Jvm.ClassFile.FieldType.boolean) ∈ GW := GW_t 422 (by decide +kernel) rfl
theorem w_423 : Jvm.Cond.methodLink "WidowRoads$Reader" (90 : Nat) ({ cls := "WidowRoads$Reader", name := "isDigit", desc := "(I)Z" } : Jvm.MethodName) ∈ GW := GW_t 423 (by decide +kernel) rfl
theorem w_424 : Jvm.Cond.static ({ cls := "WidowRoads$Reader", name := "isDigit", desc := "(I)Z" } : Jvm.MethodName) ∈ GW := GW_t 424 (by decide +kernel) rfl
theorem w_425 : Jvm.Cond.code ({ cls := "WidowRoads$Reader", name := "isDigit", desc := "(I)Z" } : Jvm.MethodName) prog_6_method_19_code (1 : Nat) (Option.some Jvm.ClassFile.FieldType.boolean) ∈ GW := GW_t 425 (by decide +kernel) rfl
theorem w_431 : Jvm.Cond.methodLink "WidowRoads$Reader" (95 : Nat) ({ cls := "WidowRoads$Reader", name := "word", desc := "(Ljava/lang/String;)V" } : Jvm.MethodName) ∈ GW := GW_t 431 (by decide +kernel) rfl
theorem w_433 : Jvm.Cond.instanceMethod ({ cls := "WidowRoads$Reader", name := "word", desc := "(Ljava/lang/String;)V" } : Jvm.MethodName) ∈ GW := GW_t 433 (by decide +kernel) rfl
theorem w_434 : Jvm.Cond.code ({ cls := "WidowRoads$Reader", name := "word", desc := "(Ljava/lang/String;)V" } : Jvm.MethodName) prog_6_method_14_code (2 : Nat) (Option.none : Option Jvm.ClassFile.FieldType) ∈ GW := GW_t 434 (by decide +kernel) rfl
theorem w_435 : Jvm.Cond.methodLink "WidowRoads$Reader" (52 : Nat) ({ cls := "WidowRoads$Reader", name := "isWord", desc := "(Ljava/lang/String;)Z" } : Jvm.MethodName) ∈ GW := GW_t 435 (by decide +kernel) rfl
theorem w_437 : Jvm.Cond.instanceMethod ({ cls := "WidowRoads$Reader", name := "isWord", desc := "(Ljava/lang/String;)Z" } : Jvm.MethodName) ∈ GW := GW_t 437 (by decide +kernel) rfl
theorem w_438 : Jvm.Cond.code ({ cls := "WidowRoads$Reader", name := "isWord", desc := "(Ljava/lang/String;)Z" } : Jvm.MethodName) prog_6_method_16_code (3 : Nat) (Option.some Jvm.ClassFile.FieldType.boolean) ∈ GW := GW_t 438 (by decide +kernel) rfl
theorem w_439 : Jvm.Cond.methodLink "WidowRoads$Reader" (206 : Nat) ({ cls := "java/lang/String", name := "length", desc := "()I" } : Jvm.MethodName) ∈ GW := GW_t 439 (by decide +kernel) rfl
theorem w_440 : Jvm.Cond.instanceMethod ({ cls := "java/lang/String", name := "length", desc := "()I" } : Jvm.MethodName) ∈ GW := GW_t 440 (by decide +kernel) rfl
theorem w_441 : Jvm.Cond.selects "java/lang/String" ({ cls := "java/lang/String", name := "length", desc := "()I" } : Jvm.MethodName) ({ cls := "java/lang/String", name := "length", desc := "()I" } : Jvm.MethodName) ∈ GW := GW_t 441 (by decide +kernel) rfl
theorem w_442 : Jvm.Cond.code ({ cls := "java/lang/String", name := "length", desc := "()I" } : Jvm.MethodName) prog_16_method_54_code (1 : Nat) (Option.some Jvm.ClassFile.FieldType.int) ∈ GW := GW_t 442 (by decide +kernel) rfl
theorem w_443 : Jvm.Cond.methodLink "java/lang/String" (335 : Nat) ({ cls := "java/lang/String", name := "coder", desc := "()B" } : Jvm.MethodName) ∈ GW := GW_t 443 (by decide +kernel) rfl
theorem w_444 : Jvm.Cond.instanceMethod ({ cls := "java/lang/String", name := "coder", desc := "()B" } : Jvm.MethodName) ∈ GW := GW_t 444 (by decide +kernel) rfl
theorem w_445 : Jvm.Cond.selects "java/lang/String" ({ cls := "java/lang/String", name := "coder", desc := "()B" } : Jvm.MethodName) ({ cls := "java/lang/String", name := "coder", desc := "()B" } : Jvm.MethodName) ∈ GW := GW_t 445 (by decide +kernel) rfl
theorem w_446 : Jvm.Cond.code ({ cls := "java/lang/String", name := "coder", desc := "()B" } : Jvm.MethodName) prog_16_method_152_code (1 : Nat) (Option.some Jvm.ClassFile.FieldType.byte) ∈ GW := GW_t 446 (by decide +kernel) rfl
theorem w_447 : Jvm.Cond.fieldLink "java/lang/String" (38 : Nat) "java/lang/String" "COMPACT_STRINGS" "Z" ∈ GW := GW_t 447 (by decide +kernel) rfl
theorem w_449 : Jvm.Cond.methodLink "WidowRoads$Reader" (211 : Nat) ({ cls := "java/lang/String", name := "charAt", desc := "(I)C" } : Jvm.MethodName) ∈ GW := GW_t 449 (by decide +kernel) rfl
theorem w_450 : Jvm.Cond.instanceMethod ({ cls := "java/lang/String", name := "charAt", desc := "(I)C" } : Jvm.MethodName) ∈ GW := GW_t 450 (by decide +kernel) rfl
theorem w_451 : Jvm.Cond.selects "java/lang/String" ({ cls := "java/lang/String", name := "charAt", desc := "(I)C" } : Jvm.MethodName) ({ cls := "java/lang/String", name := "charAt", desc := "(I)C" } : Jvm.MethodName) ∈ GW := GW_t 451 (by decide +kernel) rfl
theorem w_452 : Jvm.Cond.code ({ cls := "java/lang/String", name := "charAt", desc := "(I)C" } : Jvm.MethodName) prog_16_method_56_code (2 : Nat) (Option.some Jvm.ClassFile.FieldType.char) ∈ GW := GW_t 452 (by decide +kernel) rfl
theorem w_453 : Jvm.Cond.methodLink "java/lang/String" (492 : Nat) ({ cls := "java/lang/String", name := "isLatin1", desc := "()Z" } : Jvm.MethodName) ∈ GW := GW_t 453 (by decide +kernel) rfl
theorem w_454 : Jvm.Cond.instanceMethod ({ cls := "java/lang/String", name := "isLatin1", desc := "()Z" } : Jvm.MethodName) ∈ GW := GW_t 454 (by decide +kernel) rfl
theorem w_455 : Jvm.Cond.selects "java/lang/String" ({ cls := "java/lang/String", name := "isLatin1", desc := "()Z" } : Jvm.MethodName) ({ cls := "java/lang/String", name := "isLatin1", desc := "()Z" } : Jvm.MethodName) ∈ GW := GW_t 455 (by decide +kernel) rfl
theorem w_456 : Jvm.Cond.code ({ cls := "java/lang/String", name := "isLatin1", desc := "()Z" } : Jvm.MethodName) prog_16_method_154_code (1 : Nat) (Option.some Jvm.ClassFile.FieldType.boolean) ∈ GW := GW_t 456 (by decide +kernel) rfl
theorem w_457 : Jvm.Cond.methodLink "java/lang/String" (495 : Nat) ({ cls := "java/lang/StringLatin1", name := "charAt", desc := "([BI)C" } : Jvm.MethodName) ∈ GW := GW_t 457 (by decide +kernel) rfl
theorem w_458 : Jvm.Cond.static ({ cls := "java/lang/StringLatin1", name := "charAt", desc := "([BI)C" } : Jvm.MethodName) ∈ GW := GW_t 458 (by decide +kernel) rfl
theorem w_459 : Jvm.Cond.code ({ cls := "java/lang/StringLatin1", name := "charAt", desc := "([BI)C" } : Jvm.MethodName) prog_17_method_2_code (2 : Nat) (Option.some Jvm.ClassFile.FieldType.char) ∈ GW := GW_t 459 (by decide +kernel) rfl
theorem w_460 : Jvm.Cond.methodLink "java/lang/StringLatin1" (9 : Nat) ({ cls := "java/lang/String", name := "checkIndex", desc := "(II)V" } : Jvm.MethodName) ∈ GW := GW_t 460 (by decide +kernel) rfl
theorem w_461 : Jvm.Cond.static ({ cls := "java/lang/String", name := "checkIndex", desc := "(II)V" } : Jvm.MethodName) ∈ GW := GW_t 461 (by decide +kernel) rfl
theorem w_462 : Jvm.Cond.code ({ cls := "java/lang/String", name := "checkIndex", desc := "(II)V" } : Jvm.MethodName) prog_16_method_155_code (2 : Nat) (Option.none : Option Jvm.ClassFile.FieldType) ∈ GW := GW_t 462 (by decide +kernel) rfl
theorem w_463 : Jvm.Cond.fieldLink "java/lang/String" (1053 : Nat) "jdk/internal/util/Preconditions" "SIOOBE_FORMATTER" "Ljava/util/function/BiFunction;" ∈ GW := GW_t 463 (by decide +kernel) rfl
theorem w_465 : Jvm.Cond.methodLink "java/lang/String" (1059 : Nat) ({ cls := "jdk/internal/util/Preconditions", name := "checkIndex", desc := "(IILjava/util/function/BiFunction;)I" } : Jvm.MethodName) ∈ GW := GW_t 465 (by decide +kernel) rfl
theorem w_466 : Jvm.Cond.static ({ cls := "jdk/internal/util/Preconditions", name := "checkIndex", desc := "(IILjava/util/function/BiFunction;)I" } : Jvm.MethodName) ∈ GW := GW_t 466 (by decide +kernel) rfl
theorem w_467 : Jvm.Cond.code ({ cls := "jdk/internal/util/Preconditions", name := "checkIndex", desc := "(IILjava/util/function/BiFunction;)I" } : Jvm.MethodName) prog_20_method_11_code (3 : Nat) (Option.some Jvm.ClassFile.FieldType.int) ∈ GW := GW_t 467 (by decide +kernel) rfl
theorem w_487 : Jvm.Cond.methodLink "WidowRoads$Reader" (72 : Nat) ({ cls := "WidowRoads$Reader", name := "mark", desc := "(II)V" } : Jvm.MethodName) ∈ GW := GW_t 487 (by decide +kernel) rfl
theorem w_489 : Jvm.Cond.instanceMethod ({ cls := "WidowRoads$Reader", name := "mark", desc := "(II)V" } : Jvm.MethodName) ∈ GW := GW_t 489 (by decide +kernel) rfl
theorem w_490 : Jvm.Cond.code ({ cls := "WidowRoads$Reader", name := "mark", desc := "(II)V" } : Jvm.MethodName) prog_6_method_4_code (3 : Nat) (Option.none : Option Jvm.ClassFile.FieldType) ∈ GW := GW_t 490 (by decide +kernel) rfl
theorem w_496 : Jvm.Cond.methodLink "WidowRoads$Reader" (192 : Nat) ({ cls := "WidowRoads$Reader", name := "number", desc := "(II)I" } : Jvm.MethodName) ∈ GW := GW_t 496 (by decide +kernel) rfl
theorem w_498 : Jvm.Cond.instanceMethod ({ cls := "WidowRoads$Reader", name := "number", desc := "(II)I" } : Jvm.MethodName) ∈ GW := GW_t 498 (by decide +kernel) rfl
theorem w_499 : Jvm.Cond.code ({ cls := "WidowRoads$Reader", name := "number", desc := "(II)I" } : Jvm.MethodName) prog_6_method_15_code (5 : Nat) (Option.some Jvm.ClassFile.FieldType.int) ∈ GW := GW_t 499 (by decide +kernel) rfl
theorem w_500 : Jvm.Cond.constant "WidowRoads$Reader" (200 : Nat) (1000000 : Int32) ∈ GW := GW_t 500 (by decide +kernel) rfl
theorem w_501 : Jvm.Cond.methodLink "WidowRoads$Reader" (201 : Nat) ({ cls := "java/lang/Math", name := "min", desc := "(II)I" } : Jvm.MethodName) ∈ GW := GW_t 501 (by decide +kernel) rfl
theorem w_1990 : Jvm.Cond.fieldLink "java/lang/String" (9 : Nat) "java/lang/String" "value" "[B" ∈ GW := GW_t 1990 (by decide +kernel) rfl
theorem w_1991 : Jvm.Cond.fieldLink "java/lang/String" (15 : Nat) "java/lang/String" "coder" "B" ∈ GW := GW_t 1991 (by decide +kernel) rfl
theorem iG_X4 : ∀ w ∈ wsX40, w ∈ GW := GW_in [174, 176, 178, 180, 182, 184, 186] (by decide +kernel) (by decide +kernel)
theorem iG_X8 : ∀ w ∈ wsX80, w ∈ GW := GW_in [43, 45] (by decide +kernel) (by decide +kernel)
theorem nw_72 : Jvm.Cond.fieldLinkNest "WidowRoads$Reader" (119 : Nat) "WidowRoads$Colony" "wide" "I" "WidowRoads" ∈ tables_1 := List.mem_of_getElem? (i := 72) (by decide +kernel)
theorem nw_75 : Jvm.Cond.fieldLinkNest "WidowRoads$Reader" (123 : Nat) "WidowRoads$Colony" "high" "I" "WidowRoads" ∈ tables_1 := List.mem_of_getElem? (i := 75) (by decide +kernel)
theorem nw_413 : Jvm.Cond.methodLinkNest "WidowRoads$Reader" (79 : Nat) ({ cls := "WidowRoads$Tape", name := "byteAt", desc := "(I)I" } : Jvm.MethodName) "WidowRoads" ∈ tables_1 := List.mem_of_getElem? (i := 413) (by decide +kernel)
theorem nw_525 : Jvm.Cond.methodLinkNest "WidowRoads$Reader" (196 : Nat) ({ cls := "WidowRoads", name := "has", desc := "(JI)Z" } : Jvm.MethodName) "WidowRoads" ∈ tables_1 := List.mem_of_getElem? (i := 525) (by decide +kernel)
theorem hd_J0_charAt_5068e : yJ0_charAt_5068e.cls ≠ "java/lang/invoke/MethodHandle" ∧ yJ0_charAt_5068e.cls ≠ "java/lang/invoke/VarHandle" ∧ (parseMethodDescriptor yJ0_charAt_5068e.desc).map (fun d => d.parameters.length) = some 1 := by decide +kernel
theorem hd_J0_checkIndex_df160 : yJ0_checkIndex_df160.cls ≠ "java/lang/invoke/MethodHandle" ∧ yJ0_checkIndex_df160.cls ≠ "java/lang/invoke/VarHandle" ∧ (parseMethodDescriptor yJ0_checkIndex_df160.desc).map (fun d => d.parameters.length) = some 2 := by decide +kernel
theorem hd_J0_coder_7d493 : yJ0_coder_7d493.cls ≠ "java/lang/invoke/MethodHandle" ∧ yJ0_coder_7d493.cls ≠ "java/lang/invoke/VarHandle" ∧ (parseMethodDescriptor yJ0_coder_7d493.desc).map (fun d => d.parameters.length) = some 0 := by decide +kernel
theorem hd_J0_isLatin1_aae02 : yJ0_isLatin1_aae02.cls ≠ "java/lang/invoke/MethodHandle" ∧ yJ0_isLatin1_aae02.cls ≠ "java/lang/invoke/VarHandle" ∧ (parseMethodDescriptor yJ0_isLatin1_aae02.desc).map (fun d => d.parameters.length) = some 0 := by decide +kernel
theorem hd_J0_length_8abf5 : yJ0_length_8abf5.cls ≠ "java/lang/invoke/MethodHandle" ∧ yJ0_length_8abf5.cls ≠ "java/lang/invoke/VarHandle" ∧ (parseMethodDescriptor yJ0_length_8abf5.desc).map (fun d => d.parameters.length) = some 0 := by decide +kernel
theorem hd_J1_charAt_3b067 : yJ1_charAt_3b067.cls ≠ "java/lang/invoke/MethodHandle" ∧ yJ1_charAt_3b067.cls ≠ "java/lang/invoke/VarHandle" ∧ (parseMethodDescriptor yJ1_charAt_3b067.desc).map (fun d => d.parameters.length) = some 2 := by decide +kernel
theorem hd_J3_checkIndex_8e157 : yJ3_checkIndex_8e157.cls ≠ "java/lang/invoke/MethodHandle" ∧ yJ3_checkIndex_8e157.cls ≠ "java/lang/invoke/VarHandle" ∧ (parseMethodDescriptor yJ3_checkIndex_8e157.desc).map (fun d => d.parameters.length) = some 3 := by decide +kernel
theorem hd_X4_isBlank : yX4_isBlank.cls ≠ "java/lang/invoke/MethodHandle" ∧ yX4_isBlank.cls ≠ "java/lang/invoke/VarHandle" ∧ (parseMethodDescriptor yX4_isBlank.desc).map (fun d => d.parameters.length) = some 1 := by decide +kernel
theorem hd_X4_isDigit : yX4_isDigit.cls ≠ "java/lang/invoke/MethodHandle" ∧ yX4_isDigit.cls ≠ "java/lang/invoke/VarHandle" ∧ (parseMethodDescriptor yX4_isDigit.desc).map (fun d => d.parameters.length) = some 1 := by decide +kernel
theorem hd_X4_isLetter : yX4_isLetter.cls ≠ "java/lang/invoke/MethodHandle" ∧ yX4_isLetter.cls ≠ "java/lang/invoke/VarHandle" ∧ (parseMethodDescriptor yX4_isLetter.desc).map (fun d => d.parameters.length) = some 1 := by decide +kernel
theorem hd_X4_isWord : yX4_isWord.cls ≠ "java/lang/invoke/MethodHandle" ∧ yX4_isWord.cls ≠ "java/lang/invoke/VarHandle" ∧ (parseMethodDescriptor yX4_isWord.desc).map (fun d => d.parameters.length) = some 1 := by decide +kernel
theorem hd_X4_mark : yX4_mark.cls ≠ "java/lang/invoke/MethodHandle" ∧ yX4_mark.cls ≠ "java/lang/invoke/VarHandle" ∧ (parseMethodDescriptor yX4_mark.desc).map (fun d => d.parameters.length) = some 2 := by decide +kernel
theorem hd_X4_next : yX4_next.cls ≠ "java/lang/invoke/MethodHandle" ∧ yX4_next.cls ≠ "java/lang/invoke/VarHandle" ∧ (parseMethodDescriptor yX4_next.desc).map (fun d => d.parameters.length) = some 0 := by decide +kernel
theorem hd_X4_number : yX4_number.cls ≠ "java/lang/invoke/MethodHandle" ∧ yX4_number.cls ≠ "java/lang/invoke/VarHandle" ∧ (parseMethodDescriptor yX4_number.desc).map (fun d => d.parameters.length) = some 2 := by decide +kernel
theorem hd_X4_word : yX4_word.cls ≠ "java/lang/invoke/MethodHandle" ∧ yX4_word.cls ≠ "java/lang/invoke/VarHandle" ∧ (parseMethodDescriptor yX4_word.desc).map (fun d => d.parameters.length) = some 1 := by decide +kernel
theorem hd_X8_byteAt : yX8_byteAt.cls ≠ "java/lang/invoke/MethodHandle" ∧ yX8_byteAt.cls ≠ "java/lang/invoke/VarHandle" ∧ (parseMethodDescriptor yX8_byteAt.desc).map (fun d => d.parameters.length) = some 1 := by decide +kernel
theorem ki_m8 : ((-8) : Int32).toInt = (-8) := by decide
theorem ki_24 : (24 : Int32).toInt = 24 := by decide
theorem ki_32 : (32 : Int32).toInt = 32 := by decide
theorem ki_48 : (48 : Int32).toInt = 48 := by decide
theorem ki_57 : (57 : Int32).toInt = 57 := by decide
theorem ki_59 : (59 : Int32).toInt = 59 := by decide
theorem ki_97 : (97 : Int32).toInt = 97 := by decide
theorem ki_122 : (122 : Int32).toInt = 122 := by decide
theorem ki_900 : (900 : Int32).toInt = 900 := by decide
theorem dJ0_charAt_5068e_0 : decode cJ0_charAt_5068e 0 = .ok (.aload_n 0, 1) := by decide +kernel
theorem dJ0_charAt_5068e_1 : decode cJ0_charAt_5068e 1 = .ok (.invokevirtual 492, 3) := by decide +kernel
theorem dJ0_charAt_5068e_4 : decode cJ0_charAt_5068e 4 = .ok (.ifCond .eq 12, 3) := by decide +kernel
theorem dJ0_charAt_5068e_7 : decode cJ0_charAt_5068e 7 = .ok (.aload_n 0, 1) := by decide +kernel
theorem dJ0_charAt_5068e_8 : decode cJ0_charAt_5068e 8 = .ok (.getfield 9, 3) := by decide +kernel
theorem dJ0_charAt_5068e_11 : decode cJ0_charAt_5068e 11 = .ok (.iload_n 1, 1) := by decide +kernel
theorem dJ0_charAt_5068e_12 : decode cJ0_charAt_5068e 12 = .ok (.invokestatic 495, 3) := by decide +kernel
theorem dJ0_charAt_5068e_15 : decode cJ0_charAt_5068e 15 = .ok (.ireturn, 1) := by decide +kernel
theorem dJ0_checkIndex_df160_0 : decode cJ0_checkIndex_df160 0 = .ok (.iload_n 0, 1) := by decide +kernel
theorem dJ0_checkIndex_df160_1 : decode cJ0_checkIndex_df160 1 = .ok (.iload_n 1, 1) := by decide +kernel
theorem dJ0_checkIndex_df160_2 : decode cJ0_checkIndex_df160 2 = .ok (.getstatic 1053, 3) := by decide +kernel
theorem dJ0_checkIndex_df160_5 : decode cJ0_checkIndex_df160 5 = .ok (.invokestatic 1059, 3) := by decide +kernel
theorem dJ0_checkIndex_df160_8 : decode cJ0_checkIndex_df160 8 = .ok (.pop, 1) := by decide +kernel
theorem dJ0_checkIndex_df160_9 : decode cJ0_checkIndex_df160 9 = .ok (.return_, 1) := by decide +kernel
theorem dJ0_coder_7d493_0 : decode cJ0_coder_7d493 0 = .ok (.getstatic 38, 3) := by decide +kernel
theorem dJ0_coder_7d493_3 : decode cJ0_coder_7d493 3 = .ok (.ifCond .eq 10, 3) := by decide +kernel
theorem dJ0_coder_7d493_6 : decode cJ0_coder_7d493 6 = .ok (.aload_n 0, 1) := by decide +kernel
theorem dJ0_coder_7d493_7 : decode cJ0_coder_7d493 7 = .ok (.getfield 15, 3) := by decide +kernel
theorem dJ0_coder_7d493_10 : decode cJ0_coder_7d493 10 = .ok (.goto 4, 3) := by decide +kernel
theorem dJ0_coder_7d493_14 : decode cJ0_coder_7d493 14 = .ok (.ireturn, 1) := by decide +kernel
theorem dJ0_isLatin1_aae02_0 : decode cJ0_isLatin1_aae02 0 = .ok (.getstatic 38, 3) := by decide +kernel
theorem dJ0_isLatin1_aae02_3 : decode cJ0_isLatin1_aae02 3 = .ok (.ifCond .eq 14, 3) := by decide +kernel
theorem dJ0_isLatin1_aae02_6 : decode cJ0_isLatin1_aae02 6 = .ok (.aload_n 0, 1) := by decide +kernel
theorem dJ0_isLatin1_aae02_7 : decode cJ0_isLatin1_aae02 7 = .ok (.getfield 15, 3) := by decide +kernel
theorem dJ0_isLatin1_aae02_10 : decode cJ0_isLatin1_aae02 10 = .ok (.ifCond .ne 7, 3) := by decide +kernel
theorem dJ0_isLatin1_aae02_13 : decode cJ0_isLatin1_aae02 13 = .ok (.iconst 1, 1) := by decide +kernel
theorem dJ0_isLatin1_aae02_14 : decode cJ0_isLatin1_aae02 14 = .ok (.goto 4, 3) := by decide +kernel
theorem dJ0_isLatin1_aae02_18 : decode cJ0_isLatin1_aae02 18 = .ok (.ireturn, 1) := by decide +kernel
theorem dJ0_length_8abf5_0 : decode cJ0_length_8abf5 0 = .ok (.aload_n 0, 1) := by decide +kernel
theorem dJ0_length_8abf5_1 : decode cJ0_length_8abf5 1 = .ok (.getfield 9, 3) := by decide +kernel
theorem dJ0_length_8abf5_4 : decode cJ0_length_8abf5 4 = .ok (.arraylength, 1) := by decide +kernel
theorem dJ0_length_8abf5_5 : decode cJ0_length_8abf5 5 = .ok (.aload_n 0, 1) := by decide +kernel
theorem dJ0_length_8abf5_6 : decode cJ0_length_8abf5 6 = .ok (.invokevirtual 335, 3) := by decide +kernel
theorem dJ0_length_8abf5_9 : decode cJ0_length_8abf5 9 = .ok (.ishr, 1) := by decide +kernel
theorem dJ0_length_8abf5_10 : decode cJ0_length_8abf5 10 = .ok (.ireturn, 1) := by decide +kernel
theorem dJ1_charAt_3b067_0 : decode cJ1_charAt_3b067 0 = .ok (.iload_n 1, 1) := by decide +kernel
theorem dJ1_charAt_3b067_1 : decode cJ1_charAt_3b067 1 = .ok (.aload_n 0, 1) := by decide +kernel
theorem dJ1_charAt_3b067_2 : decode cJ1_charAt_3b067 2 = .ok (.arraylength, 1) := by decide +kernel
theorem dJ1_charAt_3b067_3 : decode cJ1_charAt_3b067 3 = .ok (.invokestatic 9, 3) := by decide +kernel
theorem dJ1_charAt_3b067_6 : decode cJ1_charAt_3b067 6 = .ok (.aload_n 0, 1) := by decide +kernel
theorem dJ1_charAt_3b067_7 : decode cJ1_charAt_3b067 7 = .ok (.iload_n 1, 1) := by decide +kernel
theorem dJ1_charAt_3b067_8 : decode cJ1_charAt_3b067 8 = .ok (.baload, 1) := by decide +kernel
theorem dJ1_charAt_3b067_9 : decode cJ1_charAt_3b067 9 = .ok (.sipush 255, 3) := by decide +kernel
theorem dJ1_charAt_3b067_12 : decode cJ1_charAt_3b067 12 = .ok (.iand, 1) := by decide +kernel
theorem dJ1_charAt_3b067_13 : decode cJ1_charAt_3b067 13 = .ok (.i2c, 1) := by decide +kernel
theorem dJ1_charAt_3b067_14 : decode cJ1_charAt_3b067 14 = .ok (.ireturn, 1) := by decide +kernel
theorem dJ3_checkIndex_8e157_0 : decode cJ3_checkIndex_8e157 0 = .ok (.iload_n 0, 1) := by decide +kernel
theorem dJ3_checkIndex_8e157_1 : decode cJ3_checkIndex_8e157 1 = .ok (.ifCond .lt 8, 3) := by decide +kernel
theorem dJ3_checkIndex_8e157_4 : decode cJ3_checkIndex_8e157 4 = .ok (.iload_n 0, 1) := by decide +kernel
theorem dJ3_checkIndex_8e157_5 : decode cJ3_checkIndex_8e157 5 = .ok (.iload_n 1, 1) := by decide +kernel
theorem dJ3_checkIndex_8e157_6 : decode cJ3_checkIndex_8e157 6 = .ok (.if_icmp .lt 10, 3) := by decide +kernel
theorem dJ3_checkIndex_8e157_16 : decode cJ3_checkIndex_8e157 16 = .ok (.iload_n 0, 1) := by decide +kernel
theorem dJ3_checkIndex_8e157_17 : decode cJ3_checkIndex_8e157 17 = .ok (.ireturn, 1) := by decide +kernel
theorem dX4_cell_0 : decode cX4_cell 0 = .ok (.aload_n 0, 1) := by decide +kernel
theorem dX4_cell_1 : decode cX4_cell 1 = .ok (.iconst 0, 1) := by decide +kernel
theorem dX4_cell_2 : decode cX4_cell 2 = .ok (.aload_n 0, 1) := by decide +kernel
theorem dX4_cell_3 : decode cX4_cell 3 = .ok (.getfield 25, 3) := by decide +kernel
theorem dX4_cell_6 : decode cX4_cell 6 = .ok (.getfield 119, 3) := by decide +kernel
theorem dX4_cell_9 : decode cX4_cell 9 = .ok (.iconst 1, 1) := by decide +kernel
theorem dX4_cell_10 : decode cX4_cell 10 = .ok (.isub, 1) := by decide +kernel
theorem dX4_cell_11 : decode cX4_cell 11 = .ok (.invokevirtual 192, 3) := by decide +kernel
theorem dX4_cell_14 : decode cX4_cell 14 = .ok (.istore_n 3, 1) := by decide +kernel
theorem dX4_cell_15 : decode cX4_cell 15 = .ok (.aload_n 0, 1) := by decide +kernel
theorem dX4_cell_16 : decode cX4_cell 16 = .ok (.getfield 69, 3) := by decide +kernel
theorem dX4_cell_19 : decode cX4_cell 19 = .ok (.istore 4, 2) := by decide +kernel
theorem dX4_cell_21 : decode cX4_cell 21 = .ok (.aload_n 0, 1) := by decide +kernel
theorem dX4_cell_22 : decode cX4_cell 22 = .ok (.iconst 0, 1) := by decide +kernel
theorem dX4_cell_23 : decode cX4_cell 23 = .ok (.aload_n 0, 1) := by decide +kernel
theorem dX4_cell_24 : decode cX4_cell 24 = .ok (.getfield 25, 3) := by decide +kernel
theorem dX4_cell_27 : decode cX4_cell 27 = .ok (.getfield 123, 3) := by decide +kernel
theorem dX4_cell_30 : decode cX4_cell 30 = .ok (.iconst 1, 1) := by decide +kernel
theorem dX4_cell_31 : decode cX4_cell 31 = .ok (.isub, 1) := by decide +kernel
theorem dX4_cell_32 : decode cX4_cell 32 = .ok (.invokevirtual 192, 3) := by decide +kernel
theorem dX4_cell_35 : decode cX4_cell 35 = .ok (.istore 5, 2) := by decide +kernel
theorem dX4_cell_37 : decode cX4_cell 37 = .ok (.bipush 8, 2) := by decide +kernel
theorem dX4_cell_39 : decode cX4_cell 39 = .ok (.iload_n 3, 1) := by decide +kernel
theorem dX4_cell_40 : decode cX4_cell 40 = .ok (.imul, 1) := by decide +kernel
theorem dX4_cell_41 : decode cX4_cell 41 = .ok (.iload 5, 2) := by decide +kernel
theorem dX4_cell_43 : decode cX4_cell 43 = .ok (.iadd, 1) := by decide +kernel
theorem dX4_cell_44 : decode cX4_cell 44 = .ok (.istore 6, 2) := by decide +kernel
theorem dX4_cell_46 : decode cX4_cell 46 = .ok (.lload_n 1, 1) := by decide +kernel
theorem dX4_cell_47 : decode cX4_cell 47 = .ok (.iload 6, 2) := by decide +kernel
theorem dX4_cell_49 : decode cX4_cell 49 = .ok (.invokestatic 196, 3) := by decide +kernel
theorem dX4_cell_52 : decode cX4_cell 52 = .ok (.ifCond .eq 10, 3) := by decide +kernel
theorem dX4_cell_55 : decode cX4_cell 55 = .ok (.aload_n 0, 1) := by decide +kernel
theorem dX4_cell_56 : decode cX4_cell 56 = .ok (.iconst 2, 1) := by decide +kernel
theorem dX4_cell_57 : decode cX4_cell 57 = .ok (.iload 4, 2) := by decide +kernel
theorem dX4_cell_59 : decode cX4_cell 59 = .ok (.invokevirtual 72, 3) := by decide +kernel
theorem dX4_cell_62 : decode cX4_cell 62 = .ok (.iload 6, 2) := by decide +kernel
theorem dX4_cell_64 : decode cX4_cell 64 = .ok (.ireturn, 1) := by decide +kernel
theorem dX4_isBlank_0 : decode cX4_isBlank 0 = .ok (.iload_n 0, 1) := by decide +kernel
theorem dX4_isBlank_1 : decode cX4_isBlank 1 = .ok (.bipush 32, 2) := by decide +kernel
theorem dX4_isBlank_3 : decode cX4_isBlank 3 = .ok (.if_icmp .eq 9, 3) := by decide +kernel
theorem dX4_isBlank_6 : decode cX4_isBlank 6 = .ok (.iload_n 0, 1) := by decide +kernel
theorem dX4_isBlank_7 : decode cX4_isBlank 7 = .ok (.bipush 10, 2) := by decide +kernel
theorem dX4_isBlank_9 : decode cX4_isBlank 9 = .ok (.if_icmp .ne 7, 3) := by decide +kernel
theorem dX4_isBlank_12 : decode cX4_isBlank 12 = .ok (.iconst 1, 1) := by decide +kernel
theorem dX4_isBlank_13 : decode cX4_isBlank 13 = .ok (.goto 4, 3) := by decide +kernel
theorem dX4_isBlank_16 : decode cX4_isBlank 16 = .ok (.iconst 0, 1) := by decide +kernel
theorem dX4_isBlank_17 : decode cX4_isBlank 17 = .ok (.ireturn, 1) := by decide +kernel
theorem dX4_isDigit_0 : decode cX4_isDigit 0 = .ok (.iload_n 0, 1) := by decide +kernel
theorem dX4_isDigit_1 : decode cX4_isDigit 1 = .ok (.bipush 48, 2) := by decide +kernel
theorem dX4_isDigit_3 : decode cX4_isDigit 3 = .ok (.if_icmp .lt 13, 3) := by decide +kernel
theorem dX4_isDigit_6 : decode cX4_isDigit 6 = .ok (.iload_n 0, 1) := by decide +kernel
theorem dX4_isDigit_7 : decode cX4_isDigit 7 = .ok (.bipush 57, 2) := by decide +kernel
theorem dX4_isDigit_9 : decode cX4_isDigit 9 = .ok (.if_icmp .gt 7, 3) := by decide +kernel
theorem dX4_isDigit_12 : decode cX4_isDigit 12 = .ok (.iconst 1, 1) := by decide +kernel
theorem dX4_isDigit_13 : decode cX4_isDigit 13 = .ok (.goto 4, 3) := by decide +kernel
theorem dX4_isDigit_16 : decode cX4_isDigit 16 = .ok (.iconst 0, 1) := by decide +kernel
theorem dX4_isDigit_17 : decode cX4_isDigit 17 = .ok (.ireturn, 1) := by decide +kernel
theorem dX4_isLetter_0 : decode cX4_isLetter 0 = .ok (.iload_n 0, 1) := by decide +kernel
theorem dX4_isLetter_1 : decode cX4_isLetter 1 = .ok (.bipush 97, 2) := by decide +kernel
theorem dX4_isLetter_3 : decode cX4_isLetter 3 = .ok (.if_icmp .lt 13, 3) := by decide +kernel
theorem dX4_isLetter_6 : decode cX4_isLetter 6 = .ok (.iload_n 0, 1) := by decide +kernel
theorem dX4_isLetter_7 : decode cX4_isLetter 7 = .ok (.bipush 122, 2) := by decide +kernel
theorem dX4_isLetter_9 : decode cX4_isLetter 9 = .ok (.if_icmp .gt 7, 3) := by decide +kernel
theorem dX4_isLetter_12 : decode cX4_isLetter 12 = .ok (.iconst 1, 1) := by decide +kernel
theorem dX4_isLetter_13 : decode cX4_isLetter 13 = .ok (.goto 4, 3) := by decide +kernel
theorem dX4_isLetter_16 : decode cX4_isLetter 16 = .ok (.iconst 0, 1) := by decide +kernel
theorem dX4_isLetter_17 : decode cX4_isLetter 17 = .ok (.ireturn, 1) := by decide +kernel
theorem dX4_isWord_0 : decode cX4_isWord 0 = .ok (.aload_n 0, 1) := by decide +kernel
theorem dX4_isWord_1 : decode cX4_isWord 1 = .ok (.getfield 41, 3) := by decide +kernel
theorem dX4_isWord_4 : decode cX4_isWord 4 = .ok (.iconst 1, 1) := by decide +kernel
theorem dX4_isWord_5 : decode cX4_isWord 5 = .ok (.if_icmp .ne 19, 3) := by decide +kernel
theorem dX4_isWord_8 : decode cX4_isWord 8 = .ok (.aload_n 0, 1) := by decide +kernel
theorem dX4_isWord_9 : decode cX4_isWord 9 = .ok (.getfield 35, 3) := by decide +kernel
theorem dX4_isWord_12 : decode cX4_isWord 12 = .ok (.aload_n 0, 1) := by decide +kernel
theorem dX4_isWord_13 : decode cX4_isWord 13 = .ok (.getfield 69, 3) := by decide +kernel
theorem dX4_isWord_16 : decode cX4_isWord 16 = .ok (.isub, 1) := by decide +kernel
theorem dX4_isWord_17 : decode cX4_isWord 17 = .ok (.aload_n 1, 1) := by decide +kernel
theorem dX4_isWord_18 : decode cX4_isWord 18 = .ok (.invokevirtual 206, 3) := by decide +kernel
theorem dX4_isWord_21 : decode cX4_isWord 21 = .ok (.if_icmp .eq 5, 3) := by decide +kernel
theorem dX4_isWord_24 : decode cX4_isWord 24 = .ok (.iconst 0, 1) := by decide +kernel
theorem dX4_isWord_25 : decode cX4_isWord 25 = .ok (.ireturn, 1) := by decide +kernel
theorem dX4_isWord_26 : decode cX4_isWord 26 = .ok (.iconst 0, 1) := by decide +kernel
theorem dX4_isWord_27 : decode cX4_isWord 27 = .ok (.istore_n 2, 1) := by decide +kernel
theorem dX4_isWord_28 : decode cX4_isWord 28 = .ok (.iload_n 2, 1) := by decide +kernel
theorem dX4_isWord_29 : decode cX4_isWord 29 = .ok (.aload_n 1, 1) := by decide +kernel
theorem dX4_isWord_30 : decode cX4_isWord 30 = .ok (.invokevirtual 206, 3) := by decide +kernel
theorem dX4_isWord_33 : decode cX4_isWord 33 = .ok (.if_icmp .ge 32, 3) := by decide +kernel
theorem dX4_isWord_36 : decode cX4_isWord 36 = .ok (.aload_n 0, 1) := by decide +kernel
theorem dX4_isWord_37 : decode cX4_isWord 37 = .ok (.getfield 18, 3) := by decide +kernel
theorem dX4_isWord_40 : decode cX4_isWord 40 = .ok (.aload_n 0, 1) := by decide +kernel
theorem dX4_isWord_41 : decode cX4_isWord 41 = .ok (.getfield 69, 3) := by decide +kernel
theorem dX4_isWord_44 : decode cX4_isWord 44 = .ok (.iload_n 2, 1) := by decide +kernel
theorem dX4_isWord_45 : decode cX4_isWord 45 = .ok (.iadd, 1) := by decide +kernel
theorem dX4_isWord_46 : decode cX4_isWord 46 = .ok (.invokevirtual 79, 3) := by decide +kernel
theorem dX4_isWord_49 : decode cX4_isWord 49 = .ok (.aload_n 1, 1) := by decide +kernel
theorem dX4_isWord_50 : decode cX4_isWord 50 = .ok (.iload_n 2, 1) := by decide +kernel
theorem dX4_isWord_51 : decode cX4_isWord 51 = .ok (.invokevirtual 211, 3) := by decide +kernel
theorem dX4_isWord_54 : decode cX4_isWord 54 = .ok (.if_icmp .eq 5, 3) := by decide +kernel
theorem dX4_isWord_57 : decode cX4_isWord 57 = .ok (.iconst 0, 1) := by decide +kernel
theorem dX4_isWord_58 : decode cX4_isWord 58 = .ok (.ireturn, 1) := by decide +kernel
theorem dX4_isWord_59 : decode cX4_isWord 59 = .ok (.iinc 2 1, 3) := by decide +kernel
theorem dX4_isWord_62 : decode cX4_isWord 62 = .ok (.goto (-34), 3) := by decide +kernel
theorem dX4_isWord_65 : decode cX4_isWord 65 = .ok (.iconst 1, 1) := by decide +kernel
theorem dX4_isWord_66 : decode cX4_isWord 66 = .ok (.ireturn, 1) := by decide +kernel
theorem dX4_mark_0 : decode cX4_mark 0 = .ok (.aload_n 0, 1) := by decide +kernel
theorem dX4_mark_1 : decode cX4_mark 1 = .ok (.getfield 32, 3) := by decide +kernel
theorem dX4_mark_4 : decode cX4_mark 4 = .ok (.ifCond .ne 13, 3) := by decide +kernel
theorem dX4_mark_7 : decode cX4_mark 7 = .ok (.aload_n 0, 1) := by decide +kernel
theorem dX4_mark_8 : decode cX4_mark 8 = .ok (.iload_n 1, 1) := by decide +kernel
theorem dX4_mark_9 : decode cX4_mark 9 = .ok (.putfield 32, 3) := by decide +kernel
theorem dX4_mark_12 : decode cX4_mark 12 = .ok (.aload_n 0, 1) := by decide +kernel
theorem dX4_mark_13 : decode cX4_mark 13 = .ok (.iload_n 2, 1) := by decide +kernel
theorem dX4_mark_14 : decode cX4_mark 14 = .ok (.putfield 9, 3) := by decide +kernel
theorem dX4_mark_17 : decode cX4_mark 17 = .ok (.return_, 1) := by decide +kernel
theorem dX4_next_0 : decode cX4_next 0 = .ok (.aload_n 0, 1) := by decide +kernel
theorem dX4_next_1 : decode cX4_next 1 = .ok (.aload_n 0, 1) := by decide +kernel
theorem dX4_next_2 : decode cX4_next 2 = .ok (.getfield 35, 3) := by decide +kernel
theorem dX4_next_5 : decode cX4_next 5 = .ok (.putfield 69, 3) := by decide +kernel
theorem dX4_next_8 : decode cX4_next 8 = .ok (.aload_n 0, 1) := by decide +kernel
theorem dX4_next_9 : decode cX4_next 9 = .ok (.getfield 69, 3) := by decide +kernel
theorem dX4_next_12 : decode cX4_next 12 = .ok (.sipush 900, 3) := by decide +kernel
theorem dX4_next_15 : decode cX4_next 15 = .ok (.if_icmp .ge 33, 3) := by decide +kernel
theorem dX4_next_18 : decode cX4_next 18 = .ok (.aload_n 0, 1) := by decide +kernel
theorem dX4_next_19 : decode cX4_next 19 = .ok (.getfield 18, 3) := by decide +kernel
theorem dX4_next_22 : decode cX4_next 22 = .ok (.aload_n 0, 1) := by decide +kernel
theorem dX4_next_23 : decode cX4_next 23 = .ok (.getfield 69, 3) := by decide +kernel
theorem dX4_next_26 : decode cX4_next 26 = .ok (.invokevirtual 79, 3) := by decide +kernel
theorem dX4_next_29 : decode cX4_next 29 = .ok (.invokestatic 83, 3) := by decide +kernel
theorem dX4_next_32 : decode cX4_next 32 = .ok (.ifCond .eq 16, 3) := by decide +kernel
theorem dX4_next_35 : decode cX4_next 35 = .ok (.aload_n 0, 1) := by decide +kernel
theorem dX4_next_36 : decode cX4_next 36 = .ok (.dup, 1) := by decide +kernel
theorem dX4_next_37 : decode cX4_next 37 = .ok (.getfield 69, 3) := by decide +kernel
theorem dX4_next_40 : decode cX4_next 40 = .ok (.iconst 1, 1) := by decide +kernel
theorem dX4_next_41 : decode cX4_next 41 = .ok (.iadd, 1) := by decide +kernel
theorem dX4_next_42 : decode cX4_next 42 = .ok (.putfield 69, 3) := by decide +kernel
theorem dX4_next_45 : decode cX4_next 45 = .ok (.goto (-37), 3) := by decide +kernel
theorem dX4_next_48 : decode cX4_next 48 = .ok (.aload_n 0, 1) := by decide +kernel
theorem dX4_next_49 : decode cX4_next 49 = .ok (.getfield 18, 3) := by decide +kernel
theorem dX4_next_52 : decode cX4_next 52 = .ok (.aload_n 0, 1) := by decide +kernel
theorem dX4_next_53 : decode cX4_next 53 = .ok (.getfield 69, 3) := by decide +kernel
theorem dX4_next_56 : decode cX4_next 56 = .ok (.invokevirtual 79, 3) := by decide +kernel
theorem dX4_next_59 : decode cX4_next 59 = .ok (.istore_n 1, 1) := by decide +kernel
theorem dX4_next_60 : decode cX4_next 60 = .ok (.aload_n 0, 1) := by decide +kernel
theorem dX4_next_61 : decode cX4_next 61 = .ok (.aload_n 0, 1) := by decide +kernel
theorem dX4_next_62 : decode cX4_next 62 = .ok (.getfield 69, 3) := by decide +kernel
theorem dX4_next_65 : decode cX4_next 65 = .ok (.iconst 1, 1) := by decide +kernel
theorem dX4_next_66 : decode cX4_next 66 = .ok (.iadd, 1) := by decide +kernel
theorem dX4_next_67 : decode cX4_next 67 = .ok (.putfield 35, 3) := by decide +kernel
theorem dX4_next_70 : decode cX4_next 70 = .ok (.iload_n 1, 1) := by decide +kernel
theorem dX4_next_71 : decode cX4_next 71 = .ok (.iconst (-1), 1) := by decide +kernel
theorem dX4_next_72 : decode cX4_next 72 = .ok (.if_icmp .ne 11, 3) := by decide +kernel
theorem dX4_next_75 : decode cX4_next 75 = .ok (.aload_n 0, 1) := by decide +kernel
theorem dX4_next_76 : decode cX4_next 76 = .ok (.iconst 0, 1) := by decide +kernel
theorem dX4_next_77 : decode cX4_next 77 = .ok (.putfield 41, 3) := by decide +kernel
theorem dX4_next_80 : decode cX4_next 80 = .ok (.goto 122, 3) := by decide +kernel
theorem dX4_next_83 : decode cX4_next 83 = .ok (.iload_n 1, 1) := by decide +kernel
theorem dX4_next_84 : decode cX4_next 84 = .ok (.invokestatic 87, 3) := by decide +kernel
theorem dX4_next_87 : decode cX4_next 87 = .ok (.ifCond .eq 48, 3) := by decide +kernel
theorem dX4_next_90 : decode cX4_next 90 = .ok (.aload_n 0, 1) := by decide +kernel
theorem dX4_next_91 : decode cX4_next 91 = .ok (.iconst 1, 1) := by decide +kernel
theorem dX4_next_92 : decode cX4_next 92 = .ok (.putfield 41, 3) := by decide +kernel
theorem dX4_next_95 : decode cX4_next 95 = .ok (.aload_n 0, 1) := by decide +kernel
theorem dX4_next_96 : decode cX4_next 96 = .ok (.getfield 35, 3) := by decide +kernel
theorem dX4_next_99 : decode cX4_next 99 = .ok (.sipush 900, 3) := by decide +kernel
theorem dX4_next_102 : decode cX4_next 102 = .ok (.if_icmp .ge 100, 3) := by decide +kernel
theorem dX4_next_105 : decode cX4_next 105 = .ok (.aload_n 0, 1) := by decide +kernel
theorem dX4_next_106 : decode cX4_next 106 = .ok (.getfield 18, 3) := by decide +kernel
theorem dX4_next_109 : decode cX4_next 109 = .ok (.aload_n 0, 1) := by decide +kernel
theorem dX4_next_110 : decode cX4_next 110 = .ok (.getfield 35, 3) := by decide +kernel
theorem dX4_next_113 : decode cX4_next 113 = .ok (.invokevirtual 79, 3) := by decide +kernel
theorem dX4_next_116 : decode cX4_next 116 = .ok (.invokestatic 87, 3) := by decide +kernel
theorem dX4_next_119 : decode cX4_next 119 = .ok (.ifCond .eq 83, 3) := by decide +kernel
theorem dX4_next_122 : decode cX4_next 122 = .ok (.aload_n 0, 1) := by decide +kernel
theorem dX4_next_123 : decode cX4_next 123 = .ok (.dup, 1) := by decide +kernel
theorem dX4_next_124 : decode cX4_next 124 = .ok (.getfield 35, 3) := by decide +kernel
theorem dX4_next_127 : decode cX4_next 127 = .ok (.iconst 1, 1) := by decide +kernel
theorem dX4_next_128 : decode cX4_next 128 = .ok (.iadd, 1) := by decide +kernel
theorem dX4_next_129 : decode cX4_next 129 = .ok (.putfield 35, 3) := by decide +kernel
theorem dX4_next_132 : decode cX4_next 132 = .ok (.goto (-37), 3) := by decide +kernel
theorem dX4_next_135 : decode cX4_next 135 = .ok (.iload_n 1, 1) := by decide +kernel
theorem dX4_next_136 : decode cX4_next 136 = .ok (.invokestatic 90, 3) := by decide +kernel
theorem dX4_next_139 : decode cX4_next 139 = .ok (.ifCond .eq 48, 3) := by decide +kernel
theorem dX4_next_142 : decode cX4_next 142 = .ok (.aload_n 0, 1) := by decide +kernel
theorem dX4_next_143 : decode cX4_next 143 = .ok (.iconst 2, 1) := by decide +kernel
theorem dX4_next_144 : decode cX4_next 144 = .ok (.putfield 41, 3) := by decide +kernel
theorem dX4_next_147 : decode cX4_next 147 = .ok (.aload_n 0, 1) := by decide +kernel
theorem dX4_next_148 : decode cX4_next 148 = .ok (.getfield 35, 3) := by decide +kernel
theorem dX4_next_151 : decode cX4_next 151 = .ok (.sipush 900, 3) := by decide +kernel
theorem dX4_next_154 : decode cX4_next 154 = .ok (.if_icmp .ge 48, 3) := by decide +kernel
theorem dX4_next_157 : decode cX4_next 157 = .ok (.aload_n 0, 1) := by decide +kernel
theorem dX4_next_158 : decode cX4_next 158 = .ok (.getfield 18, 3) := by decide +kernel
theorem dX4_next_161 : decode cX4_next 161 = .ok (.aload_n 0, 1) := by decide +kernel
theorem dX4_next_162 : decode cX4_next 162 = .ok (.getfield 35, 3) := by decide +kernel
theorem dX4_next_165 : decode cX4_next 165 = .ok (.invokevirtual 79, 3) := by decide +kernel
theorem dX4_next_168 : decode cX4_next 168 = .ok (.invokestatic 90, 3) := by decide +kernel
theorem dX4_next_171 : decode cX4_next 171 = .ok (.ifCond .eq 31, 3) := by decide +kernel
theorem dX4_next_174 : decode cX4_next 174 = .ok (.aload_n 0, 1) := by decide +kernel
theorem dX4_next_175 : decode cX4_next 175 = .ok (.dup, 1) := by decide +kernel
theorem dX4_next_176 : decode cX4_next 176 = .ok (.getfield 35, 3) := by decide +kernel
theorem dX4_next_179 : decode cX4_next 179 = .ok (.iconst 1, 1) := by decide +kernel
theorem dX4_next_180 : decode cX4_next 180 = .ok (.iadd, 1) := by decide +kernel
theorem dX4_next_181 : decode cX4_next 181 = .ok (.putfield 35, 3) := by decide +kernel
theorem dX4_next_184 : decode cX4_next 184 = .ok (.goto (-37), 3) := by decide +kernel
theorem dX4_next_187 : decode cX4_next 187 = .ok (.aload_n 0, 1) := by decide +kernel
theorem dX4_next_188 : decode cX4_next 188 = .ok (.iload_n 1, 1) := by decide +kernel
theorem dX4_next_189 : decode cX4_next 189 = .ok (.bipush 59, 2) := by decide +kernel
theorem dX4_next_191 : decode cX4_next 191 = .ok (.if_icmp .ne 7, 3) := by decide +kernel
theorem dX4_next_194 : decode cX4_next 194 = .ok (.iconst 3, 1) := by decide +kernel
theorem dX4_next_195 : decode cX4_next 195 = .ok (.goto 4, 3) := by decide +kernel
theorem dX4_next_198 : decode cX4_next 198 = .ok (.iconst 4, 1) := by decide +kernel
theorem dX4_next_199 : decode cX4_next 199 = .ok (.putfield 41, 3) := by decide +kernel
theorem dX4_next_202 : decode cX4_next 202 = .ok (.return_, 1) := by decide +kernel
theorem dX4_number_0 : decode cX4_number 0 = .ok (.aload_n 0, 1) := by decide +kernel
theorem dX4_number_1 : decode cX4_number 1 = .ok (.getfield 41, 3) := by decide +kernel
theorem dX4_number_4 : decode cX4_number 4 = .ok (.iconst 2, 1) := by decide +kernel
theorem dX4_number_5 : decode cX4_number 5 = .ok (.if_icmp .eq 12, 3) := by decide +kernel
theorem dX4_number_8 : decode cX4_number 8 = .ok (.aload_n 0, 1) := by decide +kernel
theorem dX4_number_9 : decode cX4_number 9 = .ok (.iconst 1, 1) := by decide +kernel
theorem dX4_number_10 : decode cX4_number 10 = .ok (.aload_n 0, 1) := by decide +kernel
theorem dX4_number_11 : decode cX4_number 11 = .ok (.getfield 69, 3) := by decide +kernel
theorem dX4_number_14 : decode cX4_number 14 = .ok (.invokevirtual 72, 3) := by decide +kernel
theorem dX4_number_17 : decode cX4_number 17 = .ok (.aload_n 0, 1) := by decide +kernel
theorem dX4_number_18 : decode cX4_number 18 = .ok (.getfield 32, 3) := by decide +kernel
theorem dX4_number_21 : decode cX4_number 21 = .ok (.ifCond .eq 5, 3) := by decide +kernel
theorem dX4_number_24 : decode cX4_number 24 = .ok (.iload_n 1, 1) := by decide +kernel
theorem dX4_number_25 : decode cX4_number 25 = .ok (.ireturn, 1) := by decide +kernel
theorem dX4_number_26 : decode cX4_number 26 = .ok (.iconst 0, 1) := by decide +kernel
theorem dX4_number_27 : decode cX4_number 27 = .ok (.istore_n 3, 1) := by decide +kernel
theorem dX4_number_28 : decode cX4_number 28 = .ok (.aload_n 0, 1) := by decide +kernel
theorem dX4_number_29 : decode cX4_number 29 = .ok (.getfield 69, 3) := by decide +kernel
theorem dX4_number_32 : decode cX4_number 32 = .ok (.istore 4, 2) := by decide +kernel
theorem dX4_number_34 : decode cX4_number 34 = .ok (.iload 4, 2) := by decide +kernel
theorem dX4_number_36 : decode cX4_number 36 = .ok (.aload_n 0, 1) := by decide +kernel
theorem dX4_number_37 : decode cX4_number 37 = .ok (.getfield 35, 3) := by decide +kernel
theorem dX4_number_40 : decode cX4_number 40 = .ok (.if_icmp .ge 32, 3) := by decide +kernel
theorem dX4_number_43 : decode cX4_number 43 = .ok (.bipush 10, 2) := by decide +kernel
theorem dX4_number_45 : decode cX4_number 45 = .ok (.iload_n 3, 1) := by decide +kernel
theorem dX4_number_46 : decode cX4_number 46 = .ok (.imul, 1) := by decide +kernel
theorem dX4_number_47 : decode cX4_number 47 = .ok (.aload_n 0, 1) := by decide +kernel
theorem dX4_number_48 : decode cX4_number 48 = .ok (.getfield 18, 3) := by decide +kernel
theorem dX4_number_51 : decode cX4_number 51 = .ok (.iload 4, 2) := by decide +kernel
theorem dX4_number_53 : decode cX4_number 53 = .ok (.invokevirtual 79, 3) := by decide +kernel
theorem dX4_number_56 : decode cX4_number 56 = .ok (.iadd, 1) := by decide +kernel
theorem dX4_number_57 : decode cX4_number 57 = .ok (.bipush 48, 2) := by decide +kernel
theorem dX4_number_59 : decode cX4_number 59 = .ok (.isub, 1) := by decide +kernel
theorem dX4_number_60 : decode cX4_number 60 = .ok (.ldc 200, 2) := by decide +kernel
theorem dX4_number_62 : decode cX4_number 62 = .ok (.invokestatic 201, 3) := by decide +kernel
theorem dX4_number_65 : decode cX4_number 65 = .ok (.istore_n 3, 1) := by decide +kernel
theorem dX4_number_66 : decode cX4_number 66 = .ok (.iinc 4 1, 3) := by decide +kernel
theorem dX4_number_69 : decode cX4_number 69 = .ok (.goto (-35), 3) := by decide +kernel
theorem dX4_number_72 : decode cX4_number 72 = .ok (.iload_n 3, 1) := by decide +kernel
theorem dX4_number_73 : decode cX4_number 73 = .ok (.iload_n 1, 1) := by decide +kernel
theorem dX4_number_74 : decode cX4_number 74 = .ok (.if_icmp .lt 8, 3) := by decide +kernel
theorem dX4_number_77 : decode cX4_number 77 = .ok (.iload_n 3, 1) := by decide +kernel
theorem dX4_number_78 : decode cX4_number 78 = .ok (.iload_n 2, 1) := by decide +kernel
theorem dX4_number_79 : decode cX4_number 79 = .ok (.if_icmp .le 14, 3) := by decide +kernel
theorem dX4_number_82 : decode cX4_number 82 = .ok (.aload_n 0, 1) := by decide +kernel
theorem dX4_number_83 : decode cX4_number 83 = .ok (.iconst 2, 1) := by decide +kernel
theorem dX4_number_84 : decode cX4_number 84 = .ok (.aload_n 0, 1) := by decide +kernel
theorem dX4_number_85 : decode cX4_number 85 = .ok (.getfield 69, 3) := by decide +kernel
theorem dX4_number_88 : decode cX4_number 88 = .ok (.invokevirtual 72, 3) := by decide +kernel
theorem dX4_number_91 : decode cX4_number 91 = .ok (.iload_n 1, 1) := by decide +kernel
theorem dX4_number_92 : decode cX4_number 92 = .ok (.ireturn, 1) := by decide +kernel
theorem dX4_number_93 : decode cX4_number 93 = .ok (.aload_n 0, 1) := by decide +kernel
theorem dX4_number_94 : decode cX4_number 94 = .ok (.invokevirtual 38, 3) := by decide +kernel
theorem dX4_number_97 : decode cX4_number 97 = .ok (.iload_n 3, 1) := by decide +kernel
theorem dX4_number_98 : decode cX4_number 98 = .ok (.ireturn, 1) := by decide +kernel
theorem dX4_turn_0 : decode cX4_turn 0 = .ok (.aload_n 0, 1) := by decide +kernel
theorem dX4_turn_1 : decode cX4_turn 1 = .ok (.ldc 184, 2) := by decide +kernel
theorem dX4_turn_3 : decode cX4_turn 3 = .ok (.invokevirtual 52, 3) := by decide +kernel
theorem dX4_turn_6 : decode cX4_turn 6 = .ok (.ifCond .eq 5, 3) := by decide +kernel
theorem dX4_turn_9 : decode cX4_turn 9 = .ok (.iconst 0, 1) := by decide +kernel
theorem dX4_turn_10 : decode cX4_turn 10 = .ok (.ireturn, 1) := by decide +kernel
theorem dX4_turn_11 : decode cX4_turn 11 = .ok (.aload_n 0, 1) := by decide +kernel
theorem dX4_turn_12 : decode cX4_turn 12 = .ok (.ldc 186, 2) := by decide +kernel
theorem dX4_turn_14 : decode cX4_turn 14 = .ok (.invokevirtual 52, 3) := by decide +kernel
theorem dX4_turn_17 : decode cX4_turn 17 = .ok (.ifCond .eq 5, 3) := by decide +kernel
theorem dX4_turn_20 : decode cX4_turn 20 = .ok (.iconst 1, 1) := by decide +kernel
theorem dX4_turn_21 : decode cX4_turn 21 = .ok (.ireturn, 1) := by decide +kernel
theorem dX4_turn_22 : decode cX4_turn 22 = .ok (.aload_n 0, 1) := by decide +kernel
theorem dX4_turn_23 : decode cX4_turn 23 = .ok (.ldc 188, 2) := by decide +kernel
theorem dX4_turn_25 : decode cX4_turn 25 = .ok (.invokevirtual 52, 3) := by decide +kernel
theorem dX4_turn_28 : decode cX4_turn 28 = .ok (.ifCond .eq 5, 3) := by decide +kernel
theorem dX4_turn_31 : decode cX4_turn 31 = .ok (.iconst 2, 1) := by decide +kernel
theorem dX4_turn_32 : decode cX4_turn 32 = .ok (.ireturn, 1) := by decide +kernel
theorem dX4_turn_33 : decode cX4_turn 33 = .ok (.aload_n 0, 1) := by decide +kernel
theorem dX4_turn_34 : decode cX4_turn 34 = .ok (.ldc 190, 2) := by decide +kernel
theorem dX4_turn_36 : decode cX4_turn 36 = .ok (.invokevirtual 52, 3) := by decide +kernel
theorem dX4_turn_39 : decode cX4_turn 39 = .ok (.ifCond .eq 7, 3) := by decide +kernel
theorem dX4_turn_42 : decode cX4_turn 42 = .ok (.iconst 3, 1) := by decide +kernel
theorem dX4_turn_43 : decode cX4_turn 43 = .ok (.goto 4, 3) := by decide +kernel
theorem dX4_turn_46 : decode cX4_turn 46 = .ok (.iconst (-1), 1) := by decide +kernel
theorem dX4_turn_47 : decode cX4_turn 47 = .ok (.ireturn, 1) := by decide +kernel
theorem dX4_word_0 : decode cX4_word 0 = .ok (.aload_n 0, 1) := by decide +kernel
theorem dX4_word_1 : decode cX4_word 1 = .ok (.aload_n 1, 1) := by decide +kernel
theorem dX4_word_2 : decode cX4_word 2 = .ok (.invokevirtual 52, 3) := by decide +kernel
theorem dX4_word_5 : decode cX4_word 5 = .ok (.ifCond .ne 12, 3) := by decide +kernel
theorem dX4_word_8 : decode cX4_word 8 = .ok (.aload_n 0, 1) := by decide +kernel
theorem dX4_word_9 : decode cX4_word 9 = .ok (.iconst 1, 1) := by decide +kernel
theorem dX4_word_10 : decode cX4_word 10 = .ok (.aload_n 0, 1) := by decide +kernel
theorem dX4_word_11 : decode cX4_word 11 = .ok (.getfield 69, 3) := by decide +kernel
theorem dX4_word_14 : decode cX4_word 14 = .ok (.invokevirtual 72, 3) := by decide +kernel
theorem dX4_word_17 : decode cX4_word 17 = .ok (.aload_n 0, 1) := by decide +kernel
theorem dX4_word_18 : decode cX4_word 18 = .ok (.getfield 32, 3) := by decide +kernel
theorem dX4_word_21 : decode cX4_word 21 = .ok (.ifCond .ne 7, 3) := by decide +kernel
theorem dX4_word_24 : decode cX4_word 24 = .ok (.aload_n 0, 1) := by decide +kernel
theorem dX4_word_25 : decode cX4_word 25 = .ok (.invokevirtual 38, 3) := by decide +kernel
theorem dX4_word_28 : decode cX4_word 28 = .ok (.return_, 1) := by decide +kernel
theorem dX4_wordAndNumber_0 : decode cX4_wordAndNumber 0 = .ok (.aload_n 0, 1) := by decide +kernel
theorem dX4_wordAndNumber_1 : decode cX4_wordAndNumber 1 = .ok (.aload_n 1, 1) := by decide +kernel
theorem dX4_wordAndNumber_2 : decode cX4_wordAndNumber 2 = .ok (.invokevirtual 95, 3) := by decide +kernel
theorem dX4_wordAndNumber_5 : decode cX4_wordAndNumber 5 = .ok (.aload_n 0, 1) := by decide +kernel
theorem dX4_wordAndNumber_6 : decode cX4_wordAndNumber 6 = .ok (.iload_n 2, 1) := by decide +kernel
theorem dX4_wordAndNumber_7 : decode cX4_wordAndNumber 7 = .ok (.iload_n 3, 1) := by decide +kernel
theorem dX4_wordAndNumber_8 : decode cX4_wordAndNumber 8 = .ok (.invokevirtual 192, 3) := by decide +kernel
theorem dX4_wordAndNumber_11 : decode cX4_wordAndNumber 11 = .ok (.ireturn, 1) := by decide +kernel
theorem dX8_byteAt_0 : decode cX8_byteAt 0 = .ok (.iload_n 1, 1) := by decide +kernel
theorem dX8_byteAt_1 : decode cX8_byteAt 1 = .ok (.ifCond .lt 24, 3) := by decide +kernel
theorem dX8_byteAt_4 : decode cX8_byteAt 4 = .ok (.iload_n 1, 1) := by decide +kernel
theorem dX8_byteAt_5 : decode cX8_byteAt 5 = .ok (.aload_n 0, 1) := by decide +kernel
theorem dX8_byteAt_6 : decode cX8_byteAt 6 = .ok (.getfield 15, 3) := by decide +kernel
theorem dX8_byteAt_9 : decode cX8_byteAt 9 = .ok (.if_icmp .ge 16, 3) := by decide +kernel
theorem dX8_byteAt_12 : decode cX8_byteAt 12 = .ok (.aload_n 0, 1) := by decide +kernel
theorem dX8_byteAt_13 : decode cX8_byteAt 13 = .ok (.getfield 9, 3) := by decide +kernel
theorem dX8_byteAt_16 : decode cX8_byteAt 16 = .ok (.iload_n 1, 1) := by decide +kernel
theorem dX8_byteAt_17 : decode cX8_byteAt 17 = .ok (.baload, 1) := by decide +kernel
theorem dX8_byteAt_18 : decode cX8_byteAt 18 = .ok (.sipush 255, 3) := by decide +kernel
theorem dX8_byteAt_21 : decode cX8_byteAt 21 = .ok (.iand, 1) := by decide +kernel
theorem dX8_byteAt_22 : decode cX8_byteAt 22 = .ok (.goto 4, 3) := by decide +kernel
theorem dX8_byteAt_25 : decode cX8_byteAt 25 = .ok (.iconst (-1), 1) := by decide +kernel
theorem dX8_byteAt_26 : decode cX8_byteAt 26 = .ok (.ireturn, 1) := by decide +kernel
theorem dX8_put_0 : decode cX8_put 0 = .ok (.bipush 24, 2) := by decide +kernel
theorem dX8_put_2 : decode cX8_put 2 = .ok (.istore_n 2, 1) := by decide +kernel
theorem dX8_put_3 : decode cX8_put 3 = .ok (.iload_n 2, 1) := by decide +kernel
theorem dX8_put_4 : decode cX8_put 4 = .ok (.ifCond .lt 42, 3) := by decide +kernel
theorem dX8_put_7 : decode cX8_put 7 = .ok (.aload_n 0, 1) := by decide +kernel
theorem dX8_put_8 : decode cX8_put 8 = .ok (.getfield 15, 3) := by decide +kernel
theorem dX8_put_11 : decode cX8_put 11 = .ok (.sipush 900, 3) := by decide +kernel
theorem dX8_put_14 : decode cX8_put 14 = .ok (.if_icmp .ge 32, 3) := by decide +kernel
theorem dX8_put_17 : decode cX8_put 17 = .ok (.aload_n 0, 1) := by decide +kernel
theorem dX8_put_18 : decode cX8_put 18 = .ok (.getfield 9, 3) := by decide +kernel
theorem dX8_put_21 : decode cX8_put 21 = .ok (.aload_n 0, 1) := by decide +kernel
theorem dX8_put_22 : decode cX8_put 22 = .ok (.getfield 15, 3) := by decide +kernel
theorem dX8_put_25 : decode cX8_put 25 = .ok (.iload_n 1, 1) := by decide +kernel
theorem dX8_put_26 : decode cX8_put 26 = .ok (.iload_n 2, 1) := by decide +kernel
theorem dX8_put_27 : decode cX8_put 27 = .ok (.ishr, 1) := by decide +kernel
theorem dX8_put_28 : decode cX8_put 28 = .ok (.i2b, 1) := by decide +kernel
theorem dX8_put_29 : decode cX8_put 29 = .ok (.bastore, 1) := by decide +kernel
theorem dX8_put_30 : decode cX8_put 30 = .ok (.aload_n 0, 1) := by decide +kernel
theorem dX8_put_31 : decode cX8_put 31 = .ok (.dup, 1) := by decide +kernel
theorem dX8_put_32 : decode cX8_put 32 = .ok (.getfield 15, 3) := by decide +kernel
theorem dX8_put_35 : decode cX8_put 35 = .ok (.iconst 1, 1) := by decide +kernel
theorem dX8_put_36 : decode cX8_put 36 = .ok (.iadd, 1) := by decide +kernel
theorem dX8_put_37 : decode cX8_put 37 = .ok (.putfield 15, 3) := by decide +kernel
theorem dX8_put_40 : decode cX8_put 40 = .ok (.iinc 2 (-8), 3) := by decide +kernel
theorem dX8_put_43 : decode cX8_put 43 = .ok (.goto (-40), 3) := by decide +kernel
theorem dX8_put_46 : decode cX8_put 46 = .ok (.return_, 1) := by decide +kernel
set_option maxHeartbeats 4000000 in
set_option maxRecDepth 100000 in
theorem f_J0_coder_7d493 (l : Launch) (G : va_G) (cI cJ cZ cB cQ : ClassId) (sz : Nat) (ad : AdS) (fm : Option Nat) (i : Nat) (hi_i : i < 34) : CIs l yJ0_coder_7d493 (wl_ yJ0_coder_7d493 cJ0_coder_7d493 1 (some .byte)) ({ frames := 0, cells := 0, slots := 0, locals := 0 } : Room) G (TY cI cJ cZ cB cQ) [.ref (ad.1 i)] [] sz ad fm (fun (r : Int32) (u : Unit) => r = 0) (fun _ : Unit => []) 0 0 := by
  refine CIs.gon (cc := cJ0_coder_7d493) (maxL := 1) (ret := (some .byte)) (by decide) rfl (Nat.le_of_ble_eq_true rfl) ?_
  intro p e s m below meth c A ls Q hBd hE hret
  obtain ⟨hx, hb, hr, hml, hts, hown, hlk, hnm, hP, hK, hD, hA, hZ, hl⟩ := hBd
  have hown : s.vm.findClass RJ0 = some m.cls := hown
  have hl : lv_has ls 1 [(0, .ref (ad.1 i))] := hl
  have hS : va_S A s.heap s.heap [] := va_S.rf
  refine va_gets hx hb hE.2.1 hS hown (hts _ w_447) (fun _ h9 => h9) dJ0_coder_7d493_0 ?_
  refine lv_if_eq (tgt := 13) hx hb dJ0_coder_7d493_3 (by decide) (fun c1 => absurd c1 (by decide)) (fun c1 => ?_)
  refine lv_aload_n hx hb dJ0_coder_7d493_6 rfl (lv_at hl 0 rfl) ?_
  refine vk_getf hx hb (hE.1 i hi_i).2.1 hS hown (hts _ w_1991) (fun _ h9 => h9) dJ0_coder_7d493_7 ?_
  refine lv_goto (tgt := 14) hx hb dJ0_coder_7d493_10 (by decide) ?_
  exact hret _ _ _ _ 0 () hP hD hS dJ0_coder_7d493_14 rfl (show (0 : Int32) = 0 from rfl)
set_option maxHeartbeats 4000000 in
set_option maxRecDepth 100000 in
theorem f_J0_isLatin1_aae02 (l : Launch) (G : va_G) (cI cJ cZ cB cQ : ClassId) (sz : Nat) (ad : AdS) (fm : Option Nat) (i : Nat) (hi_i : i < 34) : CIs l yJ0_isLatin1_aae02 (wl_ yJ0_isLatin1_aae02 cJ0_isLatin1_aae02 1 (some .boolean)) ({ frames := 0, cells := 0, slots := 0, locals := 0 } : Room) G (TY cI cJ cZ cB cQ) [.ref (ad.1 i)] [] sz ad fm (fun (r : Int32) (u : Unit) => r = 1) (fun _ : Unit => []) 0 0 := by
  refine CIs.gon (cc := cJ0_isLatin1_aae02) (maxL := 1) (ret := (some .boolean)) (by decide) rfl (Nat.le_of_ble_eq_true rfl) ?_
  intro p e s m below meth c A ls Q hBd hE hret
  obtain ⟨hx, hb, hr, hml, hts, hown, hlk, hnm, hP, hK, hD, hA, hZ, hl⟩ := hBd
  have hown : s.vm.findClass RJ0 = some m.cls := hown
  have hl : lv_has ls 1 [(0, .ref (ad.1 i))] := hl
  have hS : va_S A s.heap s.heap [] := va_S.rf
  refine va_gets hx hb hE.2.1 hS hown (hts _ w_447) (fun _ h9 => h9) dJ0_isLatin1_aae02_0 ?_
  refine lv_if_eq (tgt := 17) hx hb dJ0_isLatin1_aae02_3 (by decide) (fun c1 => absurd c1 (by decide)) (fun c1 => ?_)
  refine lv_aload_n hx hb dJ0_isLatin1_aae02_6 rfl (lv_at hl 0 rfl) ?_
  refine vk_getf hx hb (hE.1 i hi_i).2.1 hS hown (hts _ w_1991) (fun _ h9 => h9) dJ0_isLatin1_aae02_7 ?_
  refine lv_if_ne (tgt := 17) hx hb dJ0_isLatin1_aae02_10 (by decide) (fun c2 => absurd (by decide) c2) (fun c2 => ?_)
  refine lv_iconst (v := 1) hx hb dJ0_isLatin1_aae02_13 (by decide) ?_
  refine lv_goto (tgt := 18) hx hb dJ0_isLatin1_aae02_14 (by decide) ?_
  exact hret _ _ _ _ 1 () hP hD hS dJ0_isLatin1_aae02_18 rfl (show (1 : Int32) = 1 from rfl)
set_option maxHeartbeats 4000000 in
set_option maxRecDepth 100000 in
theorem f_J0_length_8abf5 (l : Launch) (G : va_G) (cI cJ cZ cB cQ : ClassId) (sz : Nat) (ad : AdS) (fm : Option Nat) (i : Nat) (hi_i : i < 34) : CIs l yJ0_length_8abf5 (wl_ yJ0_length_8abf5 cJ0_length_8abf5 1 (some .int)) ({ frames := 1, cells := 0, slots := 0, locals := 20 } : Room) G (TY cI cJ cZ cB cQ) [.ref (ad.1 i)] [] sz ad fm (fun (r : Int32) (u : Unit) => 2 ≤ r.toInt ∧ r.toInt ≤ 6 ∧ r.toInt = ((lenS.getD i 0 : Nat) : Int)) (fun _ : Unit => []) 0 0 := by
  refine CIs.go (cc := cJ0_length_8abf5) (maxL := 1) (ret := (some .int)) (by decide) rfl (Nat.le_of_ble_eq_true rfl) ?_
  intro p e s m below meth c A ls Q hBd hE hret
  obtain ⟨hx, hb, hr, hml, hts, hown, hlk, hnm, hP, hK, hD, hA, hZ, hl⟩ := hBd
  have hown : s.vm.findClass RJ0 = some m.cls := hown
  have hl : lv_has ls 1 [(0, .ref (ad.1 i))] := hl
  have hS : va_S A s.heap s.heap [] := va_S.rf
  refine lv_aload_n hx hb dJ0_length_8abf5_0 rfl (lv_at hl 0 rfl) ?_
  refine vk_getf hx hb (hE.1 i hi_i).2.2.1 hS hown (hts _ w_1990) (fun _ h9 => h9) dJ0_length_8abf5_1 ?_
  refine va_tlen hx hb (hE.1 i hi_i).2.2.2 hS rfl dJ0_length_8abf5_4 ?_
  obtain ⟨la1, lb2⟩ := lenS_ok i hi_i
  refine lv_topi (fun v3 ev3 => ?_)
  have tv3 : v3.toInt = ((lenS.getD i 0 : Nat) : Int) := (by rw [ev3]; exact nI_toInt (by omega))
  refine lv_aload_n hx hb dJ0_length_8abf5_5 rfl (lv_at hl 0 rfl) ?_
  refine k_i (wc := []) (wr := []) hP hD hS hA [] [] rfl rfl rfl (by decide) (va_runV (As := []) (rest := [.int v3]) ⟨hx, hb, hml, hown, hts⟩ (f_J0_coder_7d493 l G cI cJ cZ cB cQ _ ad fm i hi_i) (cwV 0 hts (gV w_443 w_444 w_445 w_12 w_446) rfl rfl rfl ⟨rfl, hd_J0_coder_7d493⟩ ⟨Nat.le_of_ble_eq_true rfl, Nat.le_of_ble_eq_true rfl⟩) (mVk hK hZ hP hD hE hS hA [] rfl rfl [] hi_i) rfl rfl hl.1 rfl (lv_room (Nat.le_of_ble_eq_true rfl)) dJ0_length_8abf5_6 ⟨Nat.le_of_ble_eq_true rfl, Nat.le_of_ble_eq_true rfl⟩) (fun r4 u5 H locs hw6 hP hD hS => ?_)
  try dsimp only at hw6
  have hP : va_P G vwCl [] H := hP
  have hD : va_D A [] := hD
  obtain rfl : r4 = 0 := hw6
  refine lv_ishr hx hb dJ0_length_8abf5_9 ?_
  refine lv_topi (fun v8 ev8 => ?_)
  have tv8 : v8.toInt = ((lenS.getD i 0 : Nat) : Int) := (by rw [ev8, sb_shr0]; exact tv3)
  exact hret _ _ _ _ v8 () hP hD hS dJ0_length_8abf5_10 (show 2 ≤ v8.toInt ∧ v8.toInt ≤ 6 ∧ v8.toInt = ((lenS.getD i 0 : Nat) : Int) from ⟨(by omega), (by omega), tv8⟩)
set_option maxHeartbeats 4000000 in
set_option maxRecDepth 100000 in
theorem f_J3_checkIndex_8e157r (l : Launch) (G : va_G) (cI cJ cZ cB cQ : ClassId) (sz : Nat) (p0 : Int32) (p1 : Int32) (h9 : Nat) (qp0_l : 0 ≤ p0.toInt) (k1 : p0.toInt < p1.toInt) : CI l yJ3_checkIndex_8e157 (wl_ yJ3_checkIndex_8e157 cJ3_checkIndex_8e157 3 (some .int)) ({ frames := 0, cells := 0, slots := 0, locals := 0 } : Room) G (TY cI cJ cZ cB cQ) [.int p0, .int p1, .ref h9] [] sz (fun (r : Int32) (u : Unit) => True) (fun _ : Unit => []) 0 0 := by
  refine CI.go (cc := cJ3_checkIndex_8e157) (maxL := 3) (ret := (some .int)) (by decide) rfl (Nat.le_of_ble_eq_true rfl) ?_
  intro p e s m below meth c A ls Q hBd hret
  obtain ⟨hx, hb, hr, hml, hts, hown, hlk, hnm, hP, hK, hD, hA, hZ, hl⟩ := hBd
  have hown : s.vm.findClass RJ3 = some m.cls := hown
  have hl : lv_has ls 3 [(0, .int p0), (1, .int p1), (2, .ref h9)] := hl
  have hS : va_S A s.heap s.heap [] := va_S.rf
  refine lv_iload_n hx hb dJ3_checkIndex_8e157_0 rfl (lv_at hl 0 rfl) ?_
  refine lv_if_lt (tgt := 9) hx hb dJ3_checkIndex_8e157_1 (by decide) (fun c1 => absurd (i_lt rfl ki_0 c1) (by omega)) (fun c1 => ?_)
  have c1 := i_nlt rfl ki_0 c1
  refine lv_iload_n hx hb dJ3_checkIndex_8e157_4 rfl (lv_at hl 0 rfl) ?_
  refine lv_iload_n hx hb dJ3_checkIndex_8e157_5 rfl (lv_at hl 1 rfl) ?_
  refine lv_icmp_lt (tgt := 16) hx hb dJ3_checkIndex_8e157_6 (by decide) (fun c2 => ?_) (fun c2 => absurd (i_nlt rfl rfl c2) (by omega))
  have c2 := i_lt rfl rfl c2
  refine lv_iload_n hx hb dJ3_checkIndex_8e157_16 rfl (lv_at hl 0 rfl) ?_
  exact hret _ _ _ _ p0 () hP hD hS dJ3_checkIndex_8e157_17 trivial
set_option maxHeartbeats 4000000 in
set_option maxRecDepth 100000 in
theorem f_J3_checkIndex_8e157n (l : Launch) (G : va_G) (cI cJ cZ cB cQ : ClassId) (sz : Nat) (p0 : Int32) (p1 : Int32) (qp0_l : 0 ≤ p0.toInt) (k1 : p0.toInt < p1.toInt) : CI l yJ3_checkIndex_8e157 (wl_ yJ3_checkIndex_8e157 cJ3_checkIndex_8e157 3 (some .int)) ({ frames := 0, cells := 0, slots := 0, locals := 0 } : Room) G (TY cI cJ cZ cB cQ) [.int p0, .int p1, .null] [] sz (fun (r : Int32) (u : Unit) => True) (fun _ : Unit => []) 0 0 := by
  refine CI.go (cc := cJ3_checkIndex_8e157) (maxL := 3) (ret := (some .int)) (by decide) rfl (Nat.le_of_ble_eq_true rfl) ?_
  intro p e s m below meth c A ls Q hBd hret
  obtain ⟨hx, hb, hr, hml, hts, hown, hlk, hnm, hP, hK, hD, hA, hZ, hl⟩ := hBd
  have hown : s.vm.findClass RJ3 = some m.cls := hown
  have hl : lv_has ls 3 [(0, .int p0), (1, .int p1), (2, .null)] := hl
  have hS : va_S A s.heap s.heap [] := va_S.rf
  refine lv_iload_n hx hb dJ3_checkIndex_8e157_0 rfl (lv_at hl 0 rfl) ?_
  refine lv_if_lt (tgt := 9) hx hb dJ3_checkIndex_8e157_1 (by decide) (fun c1 => absurd (i_lt rfl ki_0 c1) (by omega)) (fun c1 => ?_)
  have c1 := i_nlt rfl ki_0 c1
  refine lv_iload_n hx hb dJ3_checkIndex_8e157_4 rfl (lv_at hl 0 rfl) ?_
  refine lv_iload_n hx hb dJ3_checkIndex_8e157_5 rfl (lv_at hl 1 rfl) ?_
  refine lv_icmp_lt (tgt := 16) hx hb dJ3_checkIndex_8e157_6 (by decide) (fun c2 => ?_) (fun c2 => absurd (i_nlt rfl rfl c2) (by omega))
  have c2 := i_lt rfl rfl c2
  refine lv_iload_n hx hb dJ3_checkIndex_8e157_16 rfl (lv_at hl 0 rfl) ?_
  exact hret _ _ _ _ p0 () hP hD hS dJ3_checkIndex_8e157_17 trivial
set_option maxHeartbeats 4000000 in
set_option maxRecDepth 100000 in
theorem f_J0_checkIndex_df160 (l : Launch) (G : va_G) (cI cJ cZ cB cQ : ClassId) (sz : Nat) (ad : AdS) (fm : Option Nat) (p0 : Int32) (p1 : Int32) (qp0_l : 0 ≤ p0.toInt) (k1 : p0.toInt < p1.toInt) : CVs l yJ0_checkIndex_df160 (wl_ yJ0_checkIndex_df160 cJ0_checkIndex_df160 2 none) ({ frames := 1, cells := 0, slots := 0, locals := 22 } : Room) G (TY cI cJ cZ cB cQ) [.int p0, .int p1] [] sz ad fm (fun (u : Unit) => True) (fun _ : Unit => []) 0 0 := by
  refine CVs.go (cc := cJ0_checkIndex_df160) (maxL := 2) (ret := none) (by decide) rfl (Nat.le_of_ble_eq_true rfl) ?_
  intro p e s m below meth c A ls Q hBd hE hret
  obtain ⟨hx, hb, hr, hml, hts, hown, hlk, hnm, hP, hK, hD, hA, hZ, hl⟩ := hBd
  have hown : s.vm.findClass RJ0 = some m.cls := hown
  have hl : lv_has ls 2 [(0, .int p0), (1, .int p1)] := hl
  have hS : va_S A s.heap s.heap [] := va_S.rf
  refine lv_iload_n hx hb dJ0_checkIndex_df160_0 rfl (lv_at hl 0 rfl) ?_
  refine lv_iload_n hx hb dJ0_checkIndex_df160_1 rfl (lv_at hl 1 rfl) ?_
  refine va_gets hx hb hE.2.2.1 hS hown (hts _ w_463) (fun _ h9 => h9) dJ0_checkIndex_df160_2 ?_
  cases fm with
  | none =>
    refine W.eq (g2 := F0 m 5 ls [.null, .int p1, .int p0]) rfl ?_
    refine k_i (wc := []) (wr := []) hP hD hS hA [] [] rfl rfl rfl (by decide) (va_runS (As := [.int p0, .int p1, .null]) (rest := []) ⟨hx, hb, hml, hown, hts⟩ (f_J3_checkIndex_8e157n l G cI cJ cZ cB cQ _ p0 p1 qp0_l (by omega)) (va_cwS 3 hts (gS w_465 w_466 w_14 w_467) rfl rfl rfl hd_J3_checkIndex_8e157 ⟨Nat.le_of_ble_eq_true rfl, Nat.le_of_ble_eq_true rfl⟩) (mS hK hZ hP hD [] rfl rfl [.int p0, .int p1, .null]) rfl rfl hl.1 rfl (lv_room (Nat.le_of_ble_eq_true rfl)) dJ0_checkIndex_df160_5 ⟨Nat.le_of_ble_eq_true rfl, Nat.le_of_ble_eq_true rfl⟩) (fun r1 u2 H locs hw3 hP hD hS => ?_)
    try dsimp only at hw3
    have hP : va_P G vwCl [] H := hP
    have hD : va_D A [] := hD
    refine lv_pop hx hb dJ0_checkIndex_df160_8 rfl ?_
    exact hret _ _ _ _ () hP hD hS dJ0_checkIndex_df160_9 trivial
  | some fa =>
    refine W.eq (g2 := F0 m 5 ls [.ref fa, .int p1, .int p0]) rfl ?_
    refine k_i (wc := []) (wr := []) hP hD hS hA [] [] rfl rfl rfl (by decide) (va_runS (As := [.int p0, .int p1, .ref fa]) (rest := []) ⟨hx, hb, hml, hown, hts⟩ (f_J3_checkIndex_8e157r l G cI cJ cZ cB cQ _ p0 p1 fa qp0_l (by omega)) (va_cwS 3 hts (gS w_465 w_466 w_14 w_467) rfl rfl rfl hd_J3_checkIndex_8e157 ⟨Nat.le_of_ble_eq_true rfl, Nat.le_of_ble_eq_true rfl⟩) (mS hK hZ hP hD [] rfl rfl [.int p0, .int p1, .ref fa]) rfl rfl hl.1 rfl (lv_room (Nat.le_of_ble_eq_true rfl)) dJ0_checkIndex_df160_5 ⟨Nat.le_of_ble_eq_true rfl, Nat.le_of_ble_eq_true rfl⟩) (fun r4 u5 H locs hw6 hP hD hS => ?_)
    try dsimp only at hw6
    have hP : va_P G vwCl [] H := hP
    have hD : va_D A [] := hD
    refine lv_pop hx hb dJ0_checkIndex_df160_8 rfl ?_
    exact hret _ _ _ _ () hP hD hS dJ0_checkIndex_df160_9 trivial
set_option maxHeartbeats 4000000 in
set_option maxRecDepth 100000 in
theorem f_J1_charAt_3b067 (l : Launch) (G : va_G) (cI cJ cZ cB cQ : ClassId) (sz : Nat) (ad : AdS) (fm : Option Nat) (i : Nat) (p0 : Int32) (hi_i : i < 34) (qp0_l : 0 ≤ p0.toInt) (k1 : p0.toInt < ((lenS.getD i 0 : Nat) : Int)) : CIs l yJ1_charAt_3b067 (wl_ yJ1_charAt_3b067 cJ1_charAt_3b067 2 (some .char)) ({ frames := 2, cells := 0, slots := 0, locals := 43 } : Room) G (TY cI cJ cZ cB cQ) [.ref (ad.2 i), .int p0] [] sz ad fm (fun (r : Int32) (u : Unit) => r = chS i p0.toNatClampNeg) (fun _ : Unit => []) 0 0 := by
  refine CIs.gon (cc := cJ1_charAt_3b067) (maxL := 2) (ret := (some .char)) (by decide) rfl (Nat.le_of_ble_eq_true rfl) ?_
  intro p e s m below meth c A ls Q hBd hE hret
  obtain ⟨hx, hb, hr, hml, hts, hown, hlk, hnm, hP, hK, hD, hA, hZ, hl⟩ := hBd
  have hown : s.vm.findClass RJ1 = some m.cls := hown
  have hl : lv_has ls 2 [(0, .ref (ad.2 i)), (1, .int p0)] := hl
  have hS : va_S A s.heap s.heap [] := va_S.rf
  refine lv_iload_n hx hb dJ1_charAt_3b067_0 rfl (lv_at hl 1 rfl) ?_
  refine lv_aload_n hx hb dJ1_charAt_3b067_1 rfl (lv_at hl 0 rfl) ?_
  refine va_tlen hx hb (hE.1 i hi_i).2.2.2 hS rfl dJ1_charAt_3b067_2 ?_
  obtain ⟨la1, lb2⟩ := lenS_ok i hi_i
  refine lv_topi (fun v3 ev3 => ?_)
  have tv3 : v3.toInt = ((lenS.getD i 0 : Nat) : Int) := (by rw [ev3]; exact nI_toInt (by omega))
  refine k_v (wc := []) (wr := []) hP hD hS hA [] [] rfl rfl rfl (by decide) (va_runS (As := [.int p0, .int v3]) (rest := []) ⟨hx, hb, hml, hown, hts⟩ (f_J0_checkIndex_df160 l G cI cJ cZ cB cQ _ ad fm p0 v3 qp0_l (by omega)) (va_cwS 2 hts (gS w_460 w_461 w_12 w_462) rfl rfl rfl hd_J0_checkIndex_df160 ⟨Nat.le_of_ble_eq_true rfl, Nat.le_of_ble_eq_true rfl⟩) (mSs hK hZ hP hD hE hS hA [] rfl rfl [.int p0, .int v3]) rfl rfl hl.1 rfl (lv_room (Nat.le_of_ble_eq_true rfl)) dJ1_charAt_3b067_3 ⟨Nat.le_of_ble_eq_true rfl, Nat.le_of_ble_eq_true rfl⟩) (fun u5 H locs hw6 hP hD hS => ?_)
  try dsimp only at hw6
  have hP : va_P G vwCl [] H := hP
  have hD : va_D A [] := hD
  refine lv_aload_n hx hb dJ1_charAt_3b067_6 rfl (lv_at hl 0 rfl) ?_
  refine lv_iload_n hx hb dJ1_charAt_3b067_7 rfl (lv_at hl 1 rfl) ?_
  refine va_tb hx hb (hE.1 i hi_i).2.2.2 hS (ix_in rfl (by omega) (by omega)) rfl dJ1_charAt_3b067_8 ?_
  refine lv_topi (fun v7 ev7 => ?_)
  refine lv_sipush (v := 255) hx hb dJ1_charAt_3b067_9 (by decide) ?_
  refine lv_iand hx hb dJ1_charAt_3b067_12 ?_
  refine lv_topi (fun v8 ev8 => ?_)
  obtain ⟨sa9, sb10⟩ : 0 ≤ v8.toInt ∧ v8.toInt ≤ 255 := and_m 8 (by decide) (by decide) ev8
  refine lv_i2c hx hb dJ1_charAt_3b067_13 rfl ?_
  refine lv_topi (fun v11 ev11 => ?_)
  exact hret _ _ _ _ v11 () hP hD hS dJ1_charAt_3b067_14 (by rw [ev11]; exact pk_nc _) (show v11 = chS i p0.toNatClampNeg from (by rw [ev11, ev8, ev7]; rfl))
set_option maxHeartbeats 4000000 in
set_option maxRecDepth 100000 in
theorem f_J0_charAt_5068e (l : Launch) (G : va_G) (cI cJ cZ cB cQ : ClassId) (sz : Nat) (ad : AdS) (fm : Option Nat) (i : Nat) (p0 : Int32) (hi_i : i < 34) (qp0_l : 0 ≤ p0.toInt) (k1 : p0.toInt < ((lenS.getD i 0 : Nat) : Int)) : CIs l yJ0_charAt_5068e (wl_ yJ0_charAt_5068e cJ0_charAt_5068e 2 (some .char)) ({ frames := 3, cells := 0, slots := 0, locals := 64 } : Room) G (TY cI cJ cZ cB cQ) [.ref (ad.1 i), .int p0] [] sz ad fm (fun (r : Int32) (u : Unit) => r = chS i p0.toNatClampNeg) (fun _ : Unit => []) 0 0 := by
  refine CIs.gon (cc := cJ0_charAt_5068e) (maxL := 2) (ret := (some .char)) (by decide) rfl (Nat.le_of_ble_eq_true rfl) ?_
  intro p e s m below meth c A ls Q hBd hE hret
  obtain ⟨hx, hb, hr, hml, hts, hown, hlk, hnm, hP, hK, hD, hA, hZ, hl⟩ := hBd
  have hown : s.vm.findClass RJ0 = some m.cls := hown
  have hl : lv_has ls 2 [(0, .ref (ad.1 i)), (1, .int p0)] := hl
  have hS : va_S A s.heap s.heap [] := va_S.rf
  refine lv_aload_n hx hb dJ0_charAt_5068e_0 rfl (lv_at hl 0 rfl) ?_
  refine k_i (wc := []) (wr := []) hP hD hS hA [] [] rfl rfl rfl (by decide) (va_runV (As := []) (rest := []) ⟨hx, hb, hml, hown, hts⟩ (f_J0_isLatin1_aae02 l G cI cJ cZ cB cQ _ ad fm i hi_i) (cwV 0 hts (gV w_453 w_454 w_455 w_12 w_456) rfl rfl rfl ⟨rfl, hd_J0_isLatin1_aae02⟩ ⟨Nat.le_of_ble_eq_true rfl, Nat.le_of_ble_eq_true rfl⟩) (mVk hK hZ hP hD hE hS hA [] rfl rfl [] hi_i) rfl rfl hl.1 rfl (lv_room (Nat.le_of_ble_eq_true rfl)) dJ0_charAt_5068e_1 ⟨Nat.le_of_ble_eq_true rfl, Nat.le_of_ble_eq_true rfl⟩) (fun r1 u2 H locs hw3 hP hD hS => ?_)
  try dsimp only at hw3
  have hP : va_P G vwCl [] H := hP
  have hD : va_D A [] := hD
  obtain rfl : r1 = 1 := hw3
  refine lv_if_eq (tgt := 16) hx hb dJ0_charAt_5068e_4 (by decide) (fun c5 => absurd c5 (by decide)) (fun c5 => ?_)
  refine lv_aload_n hx hb dJ0_charAt_5068e_7 rfl (lv_at hl 0 rfl) ?_
  refine vk_getf hx hb (hE.1 i hi_i).2.2.1 hS hown (hts _ w_1990) (fun _ h9 => h9) dJ0_charAt_5068e_8 ?_
  refine lv_iload_n hx hb dJ0_charAt_5068e_11 rfl (lv_at hl 1 rfl) ?_
  refine k_i (wc := []) (wr := []) hP hD hS hA [] [] rfl rfl rfl (by decide) (va_runS (As := [.ref (ad.2 i), .int p0]) (rest := []) ⟨hx, hb, hml, hown, hts⟩ (f_J1_charAt_3b067 l G cI cJ cZ cB cQ _ ad fm i p0 hi_i qp0_l (by omega)) (va_cwS 2 hts (gS w_457 w_458 w_13 w_459) rfl rfl rfl hd_J1_charAt_3b067 ⟨Nat.le_of_ble_eq_true rfl, Nat.le_of_ble_eq_true rfl⟩) (mSs hK hZ hP hD hE hS hA [] rfl rfl [.ref (ad.2 i), .int p0]) rfl rfl hl.1 rfl (lv_room (Nat.le_of_ble_eq_true rfl)) dJ0_charAt_5068e_12 ⟨Nat.le_of_ble_eq_true rfl, Nat.le_of_ble_eq_true rfl⟩) (fun r6 u7 H locs hw8 hP hD hS => ?_)
  try dsimp only at hw8
  have hP : va_P G vwCl [] H := hP
  have hD : va_D A [] := hD
  have w9 : r6 = chS i p0.toNatClampNeg := hw8
  exact hret _ _ _ _ r6 () hP hD hS dJ0_charAt_5068e_15 (by rw [w9]; exact chS_nar _ _) (show r6 = chS i p0.toNatClampNeg from w9)
set_option maxHeartbeats 4000000 in
set_option maxRecDepth 100000 in
theorem f_X8_put (l : Launch) (G : va_G) (cI cJ cZ cB cQ : ClassId) (sz : Nat) (h0 : Nat) (p0 : Int32) (b : Nat → Nat) (o_length : Int32) (o_f0 : Nat → Int32) (hl_o_length : 0 ≤ o_length.toInt) (hh_o_length : o_length.toInt ≤ 900) : CV l yX8_put (wl_ yX8_put cX8_put 3 none) ({ frames := 0, cells := 0, slots := 0, locals := 0 } : Room) G (TY cI cJ cZ cB cQ) [.ref h0, .int p0] [(h0, oX8 b o_length), (b 0, .inl (cB, 900, .inl o_f0))] sz (fun (u : Int32 × (Nat → Int32)) => 0 ≤ u.1.toInt ∧ u.1.toInt ≤ 900) (fun u : Int32 × (Nat → Int32) => [(h0, oX8 b u.1), (b 0, .inl (cB, 900, .inl u.2))]) 0 0 := by
  refine CV.go (cc := cX8_put) (maxL := 3) (ret := none) (by decide) rfl (Nat.le_of_ble_eq_true rfl) ?_
  intro p e s m below meth c A ls Q hBd hret
  obtain ⟨hx, hb, hr, hml, hts, hown, hlk, hnm, hP, hK, hD, hA, hZ, hl⟩ := hBd
  have hown : s.vm.findClass RX8 = some m.cls := hown
  have hl : lv_has ls 3 [(0, .ref h0), (1, .int p0)] := hl
  have hS : va_S A s.heap s.heap [] := va_S.rf
  refine lv_bipush (v := 24) hx hb dX8_put_0 (by decide) ?_
  refine lv_istore_n (lv' := [(2, .int 24), (0, .ref h0), (1, .int p0)]) hx hb dX8_put_2 rfl hl (by decide) rfl (fun ls hl => ?_)
  have lp1 : ∀ (n2 : Nat) (x3 : Int32) (z4 : Int32) (g5 : Nat → Int32), (-8) ≤ x3.toInt → x3.toInt ≤ 24 → 0 ≤ z4.toInt → z4.toInt ≤ 900 → x3.toInt - (-8) < (n2 : Int) → ∀ (H : Heap) (locs : List Loc), va_P G vwCl [(h0, oX8 b z4), (b 0, .inl (cB, 900, .inl g5))] H → va_D A [(h0, oX8 b z4), (b 0, .inl (cB, 900, .inl g5))] → va_S A s.heap H locs → ∀ (ls : Array Slot), lv_has ls 3 [(2, .int x3), (0, .ref h0), (1, .int p0)] → W p l e ({ frames := 0, cells := 0, slots := 0, locals := 0 } : Room) s m ([.ref h0, .int p0] : List Value).toArray below meth c H locs 0 0 Q (F0 m 3 ls []) := by
    intro n2
    induction n2 with
    | zero =>
      intro x3 z4 g5 k6 k7 k8 k9 mm11
      exact absurd mm11 (by have q9 := fb_rng x3; omega)
    | succ n2 ih10 =>
      intro x3 z4 g5 k6 k7 k8 k9 mm11 H locs hP hD hS ls hl
      refine lv_iload_n hx hb dX8_put_3 rfl (lv_at hl 0 rfl) ?_
      refine lv_if_lt (tgt := 46) hx hb dX8_put_4 (by decide) (fun c12 => ?_) (fun c12 => ?_)
      · have c12 := i_lt rfl ki_0 c12
        exact hret _ _ _ _ (z4, g5) hP hD hS dX8_put_46 (show 0 ≤ z4.toInt ∧ z4.toInt ≤ 900 from ⟨k8, k9⟩)
      · have c12 := i_nlt rfl ki_0 c12
        refine lv_aload_n hx hb dX8_put_7 rfl (lv_at hl 1 rfl) ?_
        refine va_get (D := G) (ci := 8) (v := .int z4) (C := RX8) (T := TX8) (N := 2) hx hb hts iG_X8 hown hK hP 0 rfl rfl 1 (by decide) (hts _ w_42) (fun _ h9 => h9) rfl dX8_put_8 ?_
        refine lv_sipush (v := 900) hx hb dX8_put_11 (by decide) ?_
        refine lv_icmp_ge (tgt := 46) hx hb dX8_put_14 (by decide) (fun c13 => ?_) (fun c13 => ?_)
        · have c13 := i_le ki_900 rfl c13
          exact hret _ _ _ _ (z4, g5) hP hD hS dX8_put_46 (show 0 ≤ z4.toInt ∧ z4.toInt ≤ 900 from ⟨(by omega), k9⟩)
        · have c13 := i_nle ki_900 rfl c13
          refine lv_aload_n hx hb dX8_put_17 rfl (lv_at hl 1 rfl) ?_
          refine va_get (D := G) (ci := 8) (v := .ref (b 0)) (C := RX8) (T := TX8) (N := 2) hx hb hts iG_X8 hown hK hP 0 rfl rfl 0 (by decide) (hts _ w_40) (fun _ h9 => h9) rfl dX8_put_18 ?_
          refine lv_aload_n hx hb dX8_put_21 rfl (lv_at hl 1 rfl) ?_
          refine va_get (D := G) (ci := 8) (v := .int z4) (C := RX8) (T := TX8) (N := 2) hx hb hts iG_X8 hown hK hP 0 rfl rfl 1 (by decide) (hts _ w_42) (fun _ h9 => h9) rfl dX8_put_22 ?_
          refine lv_iload_n hx hb dX8_put_25 rfl (lv_at hl 2 rfl) ?_
          refine lv_iload_n hx hb dX8_put_26 rfl (lv_at hl 0 rfl) ?_
          refine lv_ishr hx hb dX8_put_27 ?_
          refine lv_topi (fun v14 ev14 => ?_)
          refine lv_i2b hx hb dX8_put_28 rfl ?_
          refine lv_topi (fun v15 ev15 => ?_)
          refine va_bast hx hb hK hP hD hS 1 3 rfl rfl (ix_in rfl (by omega) (by omega)) dX8_put_29 (fun H locs hP hD hS => ?_)
          obtain ⟨f16, qf16⟩ : ∃ g, g = upd g5 z4.toNatClampNeg (vp_nar .byte v15) := ⟨_, rfl⟩
          rw [← qf16] at hP hD
          have hP : va_P G vwCl [(h0, oX8 b z4), (b 0, .inl (cB, 900, .inl f16))] H := hP
          have hD : va_D A [(h0, oX8 b z4), (b 0, .inl (cB, 900, .inl f16))] := hD
          refine lv_aload_n hx hb dX8_put_30 rfl (lv_at hl 1 rfl) ?_
          refine lv_dup hx hb dX8_put_31 rfl ?_
          refine va_get (D := G) (ci := 8) (v := .int z4) (C := RX8) (T := TX8) (N := 2) hx hb hts iG_X8 hown hK hP 0 rfl rfl 1 (by decide) (hts _ w_42) (fun _ h9 => h9) rfl dX8_put_32 ?_
          refine lv_iconst (v := 1) hx hb dX8_put_35 (by decide) ?_
          refine lv_iadd hx hb dX8_put_36 ?_
          refine lv_topi (fun v17 ev17 => ?_)
          have tv17 : v17.toInt = z4.toInt + 1 := ti_add rfl ki_1 ev17 (by omega) (by omega)
          refine va_put (D := G) (ci := 8) (v := .int v17) (ty := .int) (C := RX8) (T := TX8) (N := 2) hx hb hts iG_X8 tyX8 tyX8_ok nmX8 hown hK hP hD hS 0 rfl rfl 1 (by decide) (hts _ w_42) (fun _ h9 => h9) rfl (by decide +kernel) rfl rfl (Nat.le_of_ble_eq_true rfl) dX8_put_37 (fun H locs hP hD hS => ?_)
          have hP : va_P G vwCl [(h0, oX8 b v17), (b 0, .inl (cB, 900, .inl f16))] H := hP
          have hD : va_D A [(h0, oX8 b v17), (b 0, .inl (cB, 900, .inl f16))] := hD
          obtain ⟨v18, ev18⟩ : ∃ y : Int32, y = x3 + (-8) := ⟨_, rfl⟩
          have tv18 : v18.toInt = x3.toInt + (-8) := ti_add rfl ki_m8 ev18 (by omega) (by omega)
          refine lv_iinc (v := v18) (lv' := [(2, .int v18), (0, .ref h0), (1, .int p0)]) hx hb dX8_put_40 hl (k := 0) rfl (by rw [ev18]; rfl) (by decide) rfl (fun ls hl => ?_)
          refine lv_goto (tgt := 3) hx hb dX8_put_43 (by decide) ?_
          exact ih10 v18 v17 f16 (by omega) (by omega) (by omega) (by omega) (by omega) _ _ hP hD hS ls (lv_sub hl [0, 1, 2] rfl)
  exact lp1 33 24 o_length o_f0 (by rw [ki_24]; decide) (by rw [ki_24]; decide) hl_o_length hh_o_length (by rw [ki_24]; decide) _ _ hP hD hS ls (lv_sub hl [0, 1, 2] rfl)
set_option maxHeartbeats 4000000 in
set_option maxRecDepth 100000 in
theorem f_X8_byteAt (l : Launch) (G : va_G) (cI cJ cZ cB cQ : ClassId) (sz : Nat) (h0 : Nat) (p0 : Int32) (b : Nat → Nat) (o_length : Int32) (o_f0 : Nat → Int32) (hl_o_length : 0 ≤ o_length.toInt) (hh_o_length : o_length.toInt ≤ 900) : CI l yX8_byteAt (wl_ yX8_byteAt cX8_byteAt 2 (some .int)) ({ frames := 0, cells := 0, slots := 0, locals := 0 } : Room) G (TY cI cJ cZ cB cQ) [.ref h0, .int p0] [(h0, oX8 b o_length), (b 0, .inl (cB, 900, .inl o_f0))] sz (fun (r : Int32) (u : Unit) => (-1) ≤ r.toInt ∧ r.toInt ≤ 255) (fun _ : Unit => [(h0, oX8 b o_length), (b 0, .inl (cB, 900, .inl o_f0))]) 0 0 := by
  refine CI.go (cc := cX8_byteAt) (maxL := 2) (ret := (some .int)) (by decide) rfl (Nat.le_of_ble_eq_true rfl) ?_
  intro p e s m below meth c A ls Q hBd hret
  obtain ⟨hx, hb, hr, hml, hts, hown, hlk, hnm, hP, hK, hD, hA, hZ, hl⟩ := hBd
  have hown : s.vm.findClass RX8 = some m.cls := hown
  have hl : lv_has ls 2 [(0, .ref h0), (1, .int p0)] := hl
  have hS : va_S A s.heap s.heap [] := va_S.rf
  refine lv_iload_n hx hb dX8_byteAt_0 rfl (lv_at hl 1 rfl) ?_
  refine lv_if_lt (tgt := 25) hx hb dX8_byteAt_1 (by decide) (fun c1 => ?_) (fun c1 => ?_)
  · have c1 := i_lt rfl ki_0 c1
    refine lv_iconst (v := (-1)) hx hb dX8_byteAt_25 (by decide) ?_
    exact hret _ _ _ _ (-1) () hP hD hS dX8_byteAt_26 (show (-1) ≤ ((-1) : Int32).toInt ∧ ((-1) : Int32).toInt ≤ 255 from ⟨(by rw [ki_m1]; decide), (by rw [ki_m1]; decide)⟩)
  · have c1 := i_nlt rfl ki_0 c1
    refine lv_iload_n hx hb dX8_byteAt_4 rfl (lv_at hl 1 rfl) ?_
    refine lv_aload_n hx hb dX8_byteAt_5 rfl (lv_at hl 0 rfl) ?_
    refine va_get (D := G) (ci := 8) (v := .int o_length) (C := RX8) (T := TX8) (N := 2) hx hb hts iG_X8 hown hK hP 0 rfl rfl 1 (by decide) (hts _ w_42) (fun _ h9 => h9) rfl dX8_byteAt_6 ?_
    refine lv_icmp_ge (tgt := 25) hx hb dX8_byteAt_9 (by decide) (fun c2 => ?_) (fun c2 => ?_)
    · have c2 := i_le rfl rfl c2
      refine lv_iconst (v := (-1)) hx hb dX8_byteAt_25 (by decide) ?_
      exact hret _ _ _ _ (-1) () hP hD hS dX8_byteAt_26 (show (-1) ≤ ((-1) : Int32).toInt ∧ ((-1) : Int32).toInt ≤ 255 from ⟨(by rw [ki_m1]; decide), (by rw [ki_m1]; decide)⟩)
    · have c2 := i_nle rfl rfl c2
      refine lv_aload_n hx hb dX8_byteAt_12 rfl (lv_at hl 0 rfl) ?_
      refine va_get (D := G) (ci := 8) (v := .ref (b 0)) (C := RX8) (T := TX8) (N := 2) hx hb hts iG_X8 hown hK hP 0 rfl rfl 0 (by decide) (hts _ w_40) (fun _ h9 => h9) rfl dX8_byteAt_13 ?_
      refine lv_iload_n hx hb dX8_byteAt_16 rfl (lv_at hl 1 rfl) ?_
      refine va_bald hx hb hK hP 1 3 rfl rfl (ix_in rfl (by omega) (by omega)) dX8_byteAt_17 ?_
      refine lv_topi (fun v3 ev3 => ?_)
      refine lv_sipush (v := 255) hx hb dX8_byteAt_18 (by decide) ?_
      refine lv_iand hx hb dX8_byteAt_21 ?_
      refine lv_topi (fun v4 ev4 => ?_)
      obtain ⟨sa5, sb6⟩ : 0 ≤ v4.toInt ∧ v4.toInt ≤ 255 := and_m 8 (by decide) (by decide) ev4
      refine lv_goto (tgt := 26) hx hb dX8_byteAt_22 (by decide) ?_
      exact hret _ _ _ _ v4 () hP hD hS dX8_byteAt_26 (show (-1) ≤ v4.toInt ∧ v4.toInt ≤ 255 from ⟨(by omega), sb6⟩)
set_option maxHeartbeats 4000000 in
set_option maxRecDepth 100000 in
theorem f_X4_isBlank (l : Launch) (G : va_G) (cI cJ cZ cB cQ : ClassId) (sz : Nat) (p0 : Int32) : CI l yX4_isBlank (wl_ yX4_isBlank cX4_isBlank 1 (some .boolean)) ({ frames := 0, cells := 0, slots := 0, locals := 0 } : Room) G (TY cI cJ cZ cB cQ) [.int p0] [] sz (fun (r : Int32) (u : Unit) => 0 ≤ r.toInt ∧ r.toInt ≤ 1) (fun _ : Unit => []) 0 0 := by
  refine CI.goz (cc := cX4_isBlank) (maxL := 1) (ret := (some .boolean)) (by decide) rfl (Nat.le_of_ble_eq_true rfl) ?_
  intro p e s m below meth c A ls Q hBd hret
  obtain ⟨hx, hb, hr, hml, hts, hown, hlk, hnm, hP, hK, hD, hA, hZ, hl⟩ := hBd
  have hown : s.vm.findClass RX4 = some m.cls := hown
  have hl : lv_has ls 1 [(0, .int p0)] := hl
  have hS : va_S A s.heap s.heap [] := va_S.rf
  refine lv_iload_n hx hb dX4_isBlank_0 rfl (lv_at hl 0 rfl) ?_
  refine lv_bipush (v := 32) hx hb dX4_isBlank_1 (by decide) ?_
  refine lv_icmp_eq (tgt := 12) hx hb dX4_isBlank_3 (by decide) (fun c1 => ?_) (fun c1 => ?_)
  · have c1 := i_eq rfl ki_32 c1
    refine lv_iconst (v := 1) hx hb dX4_isBlank_12 (by decide) ?_
    refine lv_goto (tgt := 17) hx hb dX4_isBlank_13 (by decide) ?_
    exact hret _ _ _ _ 1 () hP hD hS dX4_isBlank_17 rfl (show 0 ≤ (1 : Int32).toInt ∧ (1 : Int32).toInt ≤ 1 from ⟨(by rw [ki_1]; decide), (by rw [ki_1]; decide)⟩)
  · have c1 := i_ne rfl ki_32 c1
    refine lv_iload_n hx hb dX4_isBlank_6 rfl (lv_at hl 0 rfl) ?_
    refine lv_bipush (v := 10) hx hb dX4_isBlank_7 (by decide) ?_
    refine lv_icmp_ne (tgt := 16) hx hb dX4_isBlank_9 (by decide) (fun c2 => ?_) (fun c2 => ?_)
    · have c2 := i_ne rfl ki_10 c2
      refine lv_iconst (v := 0) hx hb dX4_isBlank_16 (by decide) ?_
      exact hret _ _ _ _ 0 () hP hD hS dX4_isBlank_17 rfl (show 0 ≤ (0 : Int32).toInt ∧ (0 : Int32).toInt ≤ 1 from ⟨(by rw [ki_0]; decide), (by rw [ki_0]; decide)⟩)
    · have c2 := i_eq rfl ki_10 c2
      refine lv_iconst (v := 1) hx hb dX4_isBlank_12 (by decide) ?_
      refine lv_goto (tgt := 17) hx hb dX4_isBlank_13 (by decide) ?_
      exact hret _ _ _ _ 1 () hP hD hS dX4_isBlank_17 rfl (show 0 ≤ (1 : Int32).toInt ∧ (1 : Int32).toInt ≤ 1 from ⟨(by rw [ki_1]; decide), (by rw [ki_1]; decide)⟩)
set_option maxHeartbeats 4000000 in
set_option maxRecDepth 100000 in
theorem f_X4_isLetter (l : Launch) (G : va_G) (cI cJ cZ cB cQ : ClassId) (sz : Nat) (p0 : Int32) : CI l yX4_isLetter (wl_ yX4_isLetter cX4_isLetter 1 (some .boolean)) ({ frames := 0, cells := 0, slots := 0, locals := 0 } : Room) G (TY cI cJ cZ cB cQ) [.int p0] [] sz (fun (r : Int32) (u : Unit) => 0 ≤ r.toInt ∧ r.toInt ≤ 1) (fun _ : Unit => []) 0 0 := by
  refine CI.goz (cc := cX4_isLetter) (maxL := 1) (ret := (some .boolean)) (by decide) rfl (Nat.le_of_ble_eq_true rfl) ?_
  intro p e s m below meth c A ls Q hBd hret
  obtain ⟨hx, hb, hr, hml, hts, hown, hlk, hnm, hP, hK, hD, hA, hZ, hl⟩ := hBd
  have hown : s.vm.findClass RX4 = some m.cls := hown
  have hl : lv_has ls 1 [(0, .int p0)] := hl
  have hS : va_S A s.heap s.heap [] := va_S.rf
  refine lv_iload_n hx hb dX4_isLetter_0 rfl (lv_at hl 0 rfl) ?_
  refine lv_bipush (v := 97) hx hb dX4_isLetter_1 (by decide) ?_
  refine lv_icmp_lt (tgt := 16) hx hb dX4_isLetter_3 (by decide) (fun c1 => ?_) (fun c1 => ?_)
  · have c1 := i_lt rfl ki_97 c1
    refine lv_iconst (v := 0) hx hb dX4_isLetter_16 (by decide) ?_
    exact hret _ _ _ _ 0 () hP hD hS dX4_isLetter_17 rfl (show 0 ≤ (0 : Int32).toInt ∧ (0 : Int32).toInt ≤ 1 from ⟨(by rw [ki_0]; decide), (by rw [ki_0]; decide)⟩)
  · have c1 := i_nlt rfl ki_97 c1
    refine lv_iload_n hx hb dX4_isLetter_6 rfl (lv_at hl 0 rfl) ?_
    refine lv_bipush (v := 122) hx hb dX4_isLetter_7 (by decide) ?_
    refine lv_icmp_gt (tgt := 16) hx hb dX4_isLetter_9 (by decide) (fun c2 => ?_) (fun c2 => ?_)
    · have c2 := i_lt ki_122 rfl c2
      refine lv_iconst (v := 0) hx hb dX4_isLetter_16 (by decide) ?_
      exact hret _ _ _ _ 0 () hP hD hS dX4_isLetter_17 rfl (show 0 ≤ (0 : Int32).toInt ∧ (0 : Int32).toInt ≤ 1 from ⟨(by rw [ki_0]; decide), (by rw [ki_0]; decide)⟩)
    · have c2 := i_nlt ki_122 rfl c2
      refine lv_iconst (v := 1) hx hb dX4_isLetter_12 (by decide) ?_
      refine lv_goto (tgt := 17) hx hb dX4_isLetter_13 (by decide) ?_
      exact hret _ _ _ _ 1 () hP hD hS dX4_isLetter_17 rfl (show 0 ≤ (1 : Int32).toInt ∧ (1 : Int32).toInt ≤ 1 from ⟨(by rw [ki_1]; decide), (by rw [ki_1]; decide)⟩)
set_option maxHeartbeats 4000000 in
set_option maxRecDepth 100000 in
theorem f_X4_isDigit (l : Launch) (G : va_G) (cI cJ cZ cB cQ : ClassId) (sz : Nat) (p0 : Int32) : CI l yX4_isDigit (wl_ yX4_isDigit cX4_isDigit 1 (some .boolean)) ({ frames := 0, cells := 0, slots := 0, locals := 0 } : Room) G (TY cI cJ cZ cB cQ) [.int p0] [] sz (fun (r : Int32) (u : Unit) => 0 ≤ r.toInt ∧ r.toInt ≤ 1) (fun _ : Unit => []) 0 0 := by
  refine CI.goz (cc := cX4_isDigit) (maxL := 1) (ret := (some .boolean)) (by decide) rfl (Nat.le_of_ble_eq_true rfl) ?_
  intro p e s m below meth c A ls Q hBd hret
  obtain ⟨hx, hb, hr, hml, hts, hown, hlk, hnm, hP, hK, hD, hA, hZ, hl⟩ := hBd
  have hown : s.vm.findClass RX4 = some m.cls := hown
  have hl : lv_has ls 1 [(0, .int p0)] := hl
  have hS : va_S A s.heap s.heap [] := va_S.rf
  refine lv_iload_n hx hb dX4_isDigit_0 rfl (lv_at hl 0 rfl) ?_
  refine lv_bipush (v := 48) hx hb dX4_isDigit_1 (by decide) ?_
  refine lv_icmp_lt (tgt := 16) hx hb dX4_isDigit_3 (by decide) (fun c1 => ?_) (fun c1 => ?_)
  · have c1 := i_lt rfl ki_48 c1
    refine lv_iconst (v := 0) hx hb dX4_isDigit_16 (by decide) ?_
    exact hret _ _ _ _ 0 () hP hD hS dX4_isDigit_17 rfl (show 0 ≤ (0 : Int32).toInt ∧ (0 : Int32).toInt ≤ 1 from ⟨(by rw [ki_0]; decide), (by rw [ki_0]; decide)⟩)
  · have c1 := i_nlt rfl ki_48 c1
    refine lv_iload_n hx hb dX4_isDigit_6 rfl (lv_at hl 0 rfl) ?_
    refine lv_bipush (v := 57) hx hb dX4_isDigit_7 (by decide) ?_
    refine lv_icmp_gt (tgt := 16) hx hb dX4_isDigit_9 (by decide) (fun c2 => ?_) (fun c2 => ?_)
    · have c2 := i_lt ki_57 rfl c2
      refine lv_iconst (v := 0) hx hb dX4_isDigit_16 (by decide) ?_
      exact hret _ _ _ _ 0 () hP hD hS dX4_isDigit_17 rfl (show 0 ≤ (0 : Int32).toInt ∧ (0 : Int32).toInt ≤ 1 from ⟨(by rw [ki_0]; decide), (by rw [ki_0]; decide)⟩)
    · have c2 := i_nlt ki_57 rfl c2
      refine lv_iconst (v := 1) hx hb dX4_isDigit_12 (by decide) ?_
      refine lv_goto (tgt := 17) hx hb dX4_isDigit_13 (by decide) ?_
      exact hret _ _ _ _ 1 () hP hD hS dX4_isDigit_17 rfl (show 0 ≤ (1 : Int32).toInt ∧ (1 : Int32).toInt ≤ 1 from ⟨(by rw [ki_1]; decide), (by rw [ki_1]; decide)⟩)
set_option maxHeartbeats 4000000 in
set_option maxRecDepth 100000 in
theorem f_X4_mark (l : Launch) (G : va_G) (cI cJ cZ cB cQ : ClassId) (sz : Nat) (h0 : Nat) (p0 : Int32) (p1 : Int32) (b : Nat → Nat) (o_fault : Int32) (o_place : Int32) (o_kind : Int32) (o_start : Int32) (o_stop : Int32) : CV l yX4_mark (wl_ yX4_mark cX4_mark 3 none) ({ frames := 0, cells := 0, slots := 0, locals := 0 } : Room) G (TY cI cJ cZ cB cQ) [.ref h0, .int p0, .int p1] [(h0, oX4 b o_fault o_place o_kind o_start o_stop)] sz (fun (u : Int32 × Int32) => True) (fun u : Int32 × Int32 => [(h0, oX4 b u.1 u.2 o_kind o_start o_stop)]) 0 0 := by
  refine CV.go (cc := cX4_mark) (maxL := 3) (ret := none) (by decide) rfl (Nat.le_of_ble_eq_true rfl) ?_
  intro p e s m below meth c A ls Q hBd hret
  obtain ⟨hx, hb, hr, hml, hts, hown, hlk, hnm, hP, hK, hD, hA, hZ, hl⟩ := hBd
  have hown : s.vm.findClass RX4 = some m.cls := hown
  have hl : lv_has ls 3 [(0, .ref h0), (1, .int p0), (2, .int p1)] := hl
  have hS : va_S A s.heap s.heap [] := va_S.rf
  refine lv_aload_n hx hb dX4_mark_0 rfl (lv_at hl 0 rfl) ?_
  refine va_get (D := G) (ci := 4) (v := .int o_fault) (C := RX4) (T := TX4) (N := 7) hx hb hts iG_X4 hown hK hP 0 rfl rfl 0 (by decide) (hts _ w_163) (fun _ h9 => h9) rfl dX4_mark_1 ?_
  refine lv_if_ne (tgt := 17) hx hb dX4_mark_4 (by decide) (fun c1 => ?_) (fun c1 => ?_)
  · have c1 := i_ne rfl ki_0 c1
    exact hret _ _ _ _ (o_fault, o_place) hP hD hS dX4_mark_17 trivial
  · have c1 := i_eq rfl ki_0 c1
    refine lv_aload_n hx hb dX4_mark_7 rfl (lv_at hl 0 rfl) ?_
    refine lv_iload_n hx hb dX4_mark_8 rfl (lv_at hl 1 rfl) ?_
    refine va_put (D := G) (ci := 4) (v := .int p0) (ty := .int) (C := RX4) (T := TX4) (N := 7) hx hb hts iG_X4 tyX4 tyX4_ok nmX4 hown hK hP hD hS 0 rfl rfl 0 (by decide) (hts _ w_163) (fun _ h9 => h9) rfl (by decide +kernel) rfl rfl (Nat.le_of_ble_eq_true rfl) dX4_mark_9 (fun H locs hP hD hS => ?_)
    have hP : va_P G vwCl [(h0, oX4 b p0 o_place o_kind o_start o_stop)] H := hP
    have hD : va_D A [(h0, oX4 b p0 o_place o_kind o_start o_stop)] := hD
    refine lv_aload_n hx hb dX4_mark_12 rfl (lv_at hl 0 rfl) ?_
    refine lv_iload_n hx hb dX4_mark_13 rfl (lv_at hl 2 rfl) ?_
    refine va_put (D := G) (ci := 4) (v := .int p1) (ty := .int) (C := RX4) (T := TX4) (N := 7) hx hb hts iG_X4 tyX4 tyX4_ok nmX4 hown hK hP hD hS 0 rfl rfl 1 (by decide) (hts _ w_165) (fun _ h9 => h9) rfl (by decide +kernel) rfl rfl (Nat.le_of_ble_eq_true rfl) dX4_mark_14 (fun H locs hP hD hS => ?_)
    have hP : va_P G vwCl [(h0, oX4 b p0 p1 o_kind o_start o_stop)] H := hP
    have hD : va_D A [(h0, oX4 b p0 p1 o_kind o_start o_stop)] := hD
    exact hret _ _ _ _ (p0, p1) hP hD hS dX4_mark_17 trivial
set_option maxHeartbeats 4000000 in
set_option maxRecDepth 100000 in
theorem f_X4_next (l : Launch) (G : va_G) (cI cJ cZ cB cQ : ClassId) (sz : Nat) (h0 : Nat) (b : Nat → Nat) (o_fault : Int32) (o_place : Int32) (o_kind : Int32) (o_start : Int32) (o_stop : Int32) (bt : Nat → Nat) (t_length : Int32) (t_f0 : Nat → Int32) (hl_t_length : 0 ≤ t_length.toInt) (hh_t_length : t_length.toInt ≤ 900) : CV l yX4_next (wl_ yX4_next cX4_next 2 none) ({ frames := 1, cells := 0, slots := 0, locals := 21 } : Room) G (TY cI cJ cZ cB cQ) [.ref h0] [(h0, oX4 b o_fault o_place o_kind o_start o_stop), (b 2, oX8 bt t_length), (bt 0, .inl (cB, 900, .inl t_f0))] sz (fun (u : Int32 × Int32 × Int32) => True) (fun u : Int32 × Int32 × Int32 => [(h0, oX4 b o_fault o_place u.1 u.2.1 u.2.2), (b 2, oX8 bt t_length), (bt 0, .inl (cB, 900, .inl t_f0))]) 0 0 := by
  refine CV.go (cc := cX4_next) (maxL := 2) (ret := none) (by decide) rfl (Nat.le_of_ble_eq_true rfl) ?_
  intro p e s m below meth c A ls Q hBd hret
  obtain ⟨hx, hb, hr, hml, hts, hown, hlk, hnm, hP, hK, hD, hA, hZ, hl⟩ := hBd
  have hown : s.vm.findClass RX4 = some m.cls := hown
  have hl : lv_has ls 2 [(0, .ref h0)] := hl
  have hS : va_S A s.heap s.heap [] := va_S.rf
  refine lv_aload_n hx hb dX4_next_0 rfl (lv_at hl 0 rfl) ?_
  refine lv_aload_n hx hb dX4_next_1 rfl (lv_at hl 0 rfl) ?_
  refine va_get (D := G) (ci := 4) (v := .int o_stop) (C := RX4) (T := TX4) (N := 7) hx hb hts iG_X4 hown hK hP 0 rfl rfl 6 (by decide) (hts _ w_173) (fun _ h9 => h9) rfl dX4_next_2 ?_
  refine va_put (D := G) (ci := 4) (v := .int o_stop) (ty := .int) (C := RX4) (T := TX4) (N := 7) hx hb hts iG_X4 tyX4 tyX4_ok nmX4 hown hK hP hD hS 0 rfl rfl 5 (by decide) (hts _ w_172) (fun _ h9 => h9) rfl (by decide +kernel) rfl rfl (Nat.le_of_ble_eq_true rfl) dX4_next_5 (fun H locs hP hD hS => ?_)
  have hP : va_P G vwCl [(h0, oX4 b o_fault o_place o_kind o_stop o_stop), (b 2, oX8 bt t_length), (bt 0, .inl (cB, 900, .inl t_f0))] H := hP
  have hD : va_D A [(h0, oX4 b o_fault o_place o_kind o_stop o_stop), (b 2, oX8 bt t_length), (bt 0, .inl (cB, 900, .inl t_f0))] := hD
  have lp1 : ∀ (n2 : Nat) (z3 : Int32), 2147483647 - z3.toInt < (n2 : Int) → ∀ (H : Heap) (locs : List Loc), va_P G vwCl [(h0, oX4 b o_fault o_place o_kind z3 o_stop), (b 2, oX8 bt t_length), (bt 0, .inl (cB, 900, .inl t_f0))] H → va_D A [(h0, oX4 b o_fault o_place o_kind z3 o_stop), (b 2, oX8 bt t_length), (bt 0, .inl (cB, 900, .inl t_f0))] → va_S A s.heap H locs → ∀ (ls : Array Slot), lv_has ls 2 [(0, .ref h0)] → W p l e ({ frames := 1, cells := 0, slots := 0, locals := 21 } : Room) s m ([.ref h0] : List Value).toArray below meth c H locs 0 0 Q (F0 m 8 ls []) := by
    intro n2
    induction n2 with
    | zero =>
      intro z3 mm5
      exact absurd mm5 (by have q9 := fb_rng z3; omega)
    | succ n2 ih4 =>
      intro z3 mm5 H locs hP hD hS ls hl
      refine lv_aload_n hx hb dX4_next_8 rfl (lv_at hl 0 rfl) ?_
      refine va_get (D := G) (ci := 4) (v := .int z3) (C := RX4) (T := TX4) (N := 7) hx hb hts iG_X4 hown hK hP 0 rfl rfl 5 (by decide) (hts _ w_172) (fun _ h9 => h9) rfl dX4_next_9 ?_
      refine lv_sipush (v := 900) hx hb dX4_next_12 (by decide) ?_
      refine lv_icmp_ge (tgt := 48) hx hb dX4_next_15 (by decide) (fun c6 => ?_) (fun c6 => ?_)
      · have c6 := i_le ki_900 rfl c6
        refine lv_aload_n hx hb dX4_next_48 rfl (lv_at hl 0 rfl) ?_
        refine va_get (D := G) (ci := 4) (v := .ref (b 2)) (C := RX4) (T := TX4) (N := 7) hx hb hts iG_X4 hown hK hP 0 rfl rfl 2 (by decide) (hts _ w_167) (fun _ h9 => h9) rfl dX4_next_49 ?_
        refine lv_aload_n hx hb dX4_next_52 rfl (lv_at hl 0 rfl) ?_
        refine va_get (D := G) (ci := 4) (v := .int z3) (C := RX4) (T := TX4) (N := 7) hx hb hts iG_X4 hown hK hP 0 rfl rfl 5 (by decide) (hts _ w_172) (fun _ h9 => h9) rfl dX4_next_53 ?_
        refine k_i (wc := [(b 2, oX8 bt t_length), (bt 0, .inl (cB, 900, .inl t_f0))]) (wr := [(h0, oX4 b o_fault o_place o_kind z3 o_stop)]) hP hD hS hA [1, 2] [0] rfl rfl rfl (by decide) (va_runVN (As := [.int z3]) (rest := []) ⟨hx, hb, hml, hown, hts⟩ (f_X8_byteAt l G cI cJ cZ cB cQ _ (b 2) z3 bt t_length t_f0 hl_t_length hh_t_length) ⟨va_cnB (host := "WidowRoads") 1 hts (gW w_416) rfl rfl rfl (nz_nw hZ nw_413 rfl) (hts _ w_3) hd_X8_byteAt ⟨Nat.le_of_ble_eq_true rfl, Nat.le_of_ble_eq_true rfl⟩, (hts _ w_415), (hts _ wp_4)⟩ (mV hK hZ hP hD [1, 2] rfl rfl [.int z3] 1 8 rfl rfl) rfl rfl hl.1 rfl (lv_room (Nat.le_of_ble_eq_true rfl)) dX4_next_56 ⟨Nat.le_of_ble_eq_true rfl, Nat.le_of_ble_eq_true rfl⟩) (fun r7 u8 H locs hw9 hP hD hS => ?_)
        try dsimp only at hw9
        have hP : va_P G vwCl [(h0, oX4 b o_fault o_place o_kind z3 o_stop), (b 2, oX8 bt t_length), (bt 0, .inl (cB, 900, .inl t_f0))] H := hP
        have hD : va_D A [(h0, oX4 b o_fault o_place o_kind z3 o_stop), (b 2, oX8 bt t_length), (bt 0, .inl (cB, 900, .inl t_f0))] := hD
        obtain ⟨w10, w11⟩ : (-1) ≤ r7.toInt ∧ r7.toInt ≤ 255 := hw9
        refine lv_istore_n (lv' := [(1, .int r7), (0, .ref h0)]) hx hb dX4_next_59 rfl hl (by decide) rfl (fun ls hl => ?_)
        refine lv_aload_n hx hb dX4_next_60 rfl (lv_at hl 1 rfl) ?_
        refine lv_aload_n hx hb dX4_next_61 rfl (lv_at hl 1 rfl) ?_
        refine va_get (D := G) (ci := 4) (v := .int z3) (C := RX4) (T := TX4) (N := 7) hx hb hts iG_X4 hown hK hP 0 rfl rfl 5 (by decide) (hts _ w_172) (fun _ h9 => h9) rfl dX4_next_62 ?_
        refine lv_iconst (v := 1) hx hb dX4_next_65 (by decide) ?_
        refine lv_iadd hx hb dX4_next_66 ?_
        refine lv_topi (fun v12 ev12 => ?_)
        refine va_put (D := G) (ci := 4) (v := .int v12) (ty := .int) (C := RX4) (T := TX4) (N := 7) hx hb hts iG_X4 tyX4 tyX4_ok nmX4 hown hK hP hD hS 0 rfl rfl 6 (by decide) (hts _ w_173) (fun _ h9 => h9) rfl (by decide +kernel) rfl rfl (Nat.le_of_ble_eq_true rfl) dX4_next_67 (fun H locs hP hD hS => ?_)
        have hP : va_P G vwCl [(h0, oX4 b o_fault o_place o_kind z3 v12), (b 2, oX8 bt t_length), (bt 0, .inl (cB, 900, .inl t_f0))] H := hP
        have hD : va_D A [(h0, oX4 b o_fault o_place o_kind z3 v12), (b 2, oX8 bt t_length), (bt 0, .inl (cB, 900, .inl t_f0))] := hD
        refine lv_iload_n hx hb dX4_next_70 rfl (lv_at hl 0 rfl) ?_
        refine lv_iconst (v := (-1)) hx hb dX4_next_71 (by decide) ?_
        refine lv_icmp_ne (tgt := 83) hx hb dX4_next_72 (by decide) (fun c13 => ?_) (fun c13 => ?_)
        · have c13 := i_ne rfl ki_m1 c13
          refine lv_iload_n hx hb dX4_next_83 rfl (lv_at hl 0 rfl) ?_
          refine k_i (wc := []) (wr := [(h0, oX4 b o_fault o_place o_kind z3 v12), (b 2, oX8 bt t_length), (bt 0, .inl (cB, 900, .inl t_f0))]) hP hD hS hA [] [0, 1, 2] rfl rfl rfl (by decide) (va_runS (As := [.int r7]) (rest := []) ⟨hx, hb, hml, hown, hts⟩ (f_X4_isLetter l G cI cJ cZ cB cQ _ r7) (va_cwS 1 hts (gS w_420 w_421 w_2 w_422) rfl rfl rfl hd_X4_isLetter ⟨Nat.le_of_ble_eq_true rfl, Nat.le_of_ble_eq_true rfl⟩) (mS hK hZ hP hD [] rfl rfl [.int r7]) rfl rfl hl.1 rfl (lv_room (Nat.le_of_ble_eq_true rfl)) dX4_next_84 ⟨Nat.le_of_ble_eq_true rfl, Nat.le_of_ble_eq_true rfl⟩) (fun r14 u15 H locs hw16 hP hD hS => ?_)
          try dsimp only at hw16
          have hP : va_P G vwCl [(h0, oX4 b o_fault o_place o_kind z3 v12), (b 2, oX8 bt t_length), (bt 0, .inl (cB, 900, .inl t_f0))] H := hP
          have hD : va_D A [(h0, oX4 b o_fault o_place o_kind z3 v12), (b 2, oX8 bt t_length), (bt 0, .inl (cB, 900, .inl t_f0))] := hD
          obtain ⟨w17, w18⟩ : 0 ≤ r14.toInt ∧ r14.toInt ≤ 1 := hw16
          refine lv_if_eq (tgt := 135) hx hb dX4_next_87 (by decide) (fun c19 => ?_) (fun c19 => ?_)
          · have c19 := i_eq rfl ki_0 c19
            refine lv_iload_n hx hb dX4_next_135 rfl (lv_at hl 0 rfl) ?_
            refine k_i (wc := []) (wr := [(h0, oX4 b o_fault o_place o_kind z3 v12), (b 2, oX8 bt t_length), (bt 0, .inl (cB, 900, .inl t_f0))]) hP hD hS hA [] [0, 1, 2] rfl rfl rfl (by decide) (va_runS (As := [.int r7]) (rest := []) ⟨hx, hb, hml, hown, hts⟩ (f_X4_isDigit l G cI cJ cZ cB cQ _ r7) (va_cwS 1 hts (gS w_423 w_424 w_2 w_425) rfl rfl rfl hd_X4_isDigit ⟨Nat.le_of_ble_eq_true rfl, Nat.le_of_ble_eq_true rfl⟩) (mS hK hZ hP hD [] rfl rfl [.int r7]) rfl rfl hl.1 rfl (lv_room (Nat.le_of_ble_eq_true rfl)) dX4_next_136 ⟨Nat.le_of_ble_eq_true rfl, Nat.le_of_ble_eq_true rfl⟩) (fun r20 u21 H locs hw22 hP hD hS => ?_)
            try dsimp only at hw22
            have hP : va_P G vwCl [(h0, oX4 b o_fault o_place o_kind z3 v12), (b 2, oX8 bt t_length), (bt 0, .inl (cB, 900, .inl t_f0))] H := hP
            have hD : va_D A [(h0, oX4 b o_fault o_place o_kind z3 v12), (b 2, oX8 bt t_length), (bt 0, .inl (cB, 900, .inl t_f0))] := hD
            obtain ⟨w23, w24⟩ : 0 ≤ r20.toInt ∧ r20.toInt ≤ 1 := hw22
            refine lv_if_eq (tgt := 187) hx hb dX4_next_139 (by decide) (fun c25 => ?_) (fun c25 => ?_)
            · have c25 := i_eq rfl ki_0 c25
              refine lv_aload_n hx hb dX4_next_187 rfl (lv_at hl 1 rfl) ?_
              refine lv_iload_n hx hb dX4_next_188 rfl (lv_at hl 0 rfl) ?_
              refine lv_bipush (v := 59) hx hb dX4_next_189 (by decide) ?_
              refine lv_icmp_ne (tgt := 198) hx hb dX4_next_191 (by decide) (fun c26 => ?_) (fun c26 => ?_)
              · have c26 := i_ne rfl ki_59 c26
                refine lv_iconst (v := 4) hx hb dX4_next_198 (by decide) ?_
                refine va_put (D := G) (ci := 4) (v := .int 4) (ty := .int) (C := RX4) (T := TX4) (N := 7) hx hb hts iG_X4 tyX4 tyX4_ok nmX4 hown hK hP hD hS 0 rfl rfl 4 (by decide) (hts _ w_171) (fun _ h9 => h9) rfl (by decide +kernel) rfl rfl (Nat.le_of_ble_eq_true rfl) dX4_next_199 (fun H locs hP hD hS => ?_)
                have hP : va_P G vwCl [(h0, oX4 b o_fault o_place 4 z3 v12), (b 2, oX8 bt t_length), (bt 0, .inl (cB, 900, .inl t_f0))] H := hP
                have hD : va_D A [(h0, oX4 b o_fault o_place 4 z3 v12), (b 2, oX8 bt t_length), (bt 0, .inl (cB, 900, .inl t_f0))] := hD
                exact hret _ _ _ _ (4, z3, v12) hP hD hS dX4_next_202 trivial
              · have c26 := i_eq rfl ki_59 c26
                refine lv_iconst (v := 3) hx hb dX4_next_194 (by decide) ?_
                refine lv_goto (tgt := 199) hx hb dX4_next_195 (by decide) ?_
                refine va_put (D := G) (ci := 4) (v := .int 3) (ty := .int) (C := RX4) (T := TX4) (N := 7) hx hb hts iG_X4 tyX4 tyX4_ok nmX4 hown hK hP hD hS 0 rfl rfl 4 (by decide) (hts _ w_171) (fun _ h9 => h9) rfl (by decide +kernel) rfl rfl (Nat.le_of_ble_eq_true rfl) dX4_next_199 (fun H locs hP hD hS => ?_)
                have hP : va_P G vwCl [(h0, oX4 b o_fault o_place 3 z3 v12), (b 2, oX8 bt t_length), (bt 0, .inl (cB, 900, .inl t_f0))] H := hP
                have hD : va_D A [(h0, oX4 b o_fault o_place 3 z3 v12), (b 2, oX8 bt t_length), (bt 0, .inl (cB, 900, .inl t_f0))] := hD
                exact hret _ _ _ _ (3, z3, v12) hP hD hS dX4_next_202 trivial
            · have c25 := i_ne rfl ki_0 c25
              refine lv_aload_n hx hb dX4_next_142 rfl (lv_at hl 1 rfl) ?_
              refine lv_iconst (v := 2) hx hb dX4_next_143 (by decide) ?_
              refine va_put (D := G) (ci := 4) (v := .int 2) (ty := .int) (C := RX4) (T := TX4) (N := 7) hx hb hts iG_X4 tyX4 tyX4_ok nmX4 hown hK hP hD hS 0 rfl rfl 4 (by decide) (hts _ w_171) (fun _ h9 => h9) rfl (by decide +kernel) rfl rfl (Nat.le_of_ble_eq_true rfl) dX4_next_144 (fun H locs hP hD hS => ?_)
              have hP : va_P G vwCl [(h0, oX4 b o_fault o_place 2 z3 v12), (b 2, oX8 bt t_length), (bt 0, .inl (cB, 900, .inl t_f0))] H := hP
              have hD : va_D A [(h0, oX4 b o_fault o_place 2 z3 v12), (b 2, oX8 bt t_length), (bt 0, .inl (cB, 900, .inl t_f0))] := hD
              have lp27 : ∀ (n28 : Nat) (z29 : Int32), 2147483647 - z29.toInt < (n28 : Int) → ∀ (H : Heap) (locs : List Loc), va_P G vwCl [(h0, oX4 b o_fault o_place 2 z3 z29), (b 2, oX8 bt t_length), (bt 0, .inl (cB, 900, .inl t_f0))] H → va_D A [(h0, oX4 b o_fault o_place 2 z3 z29), (b 2, oX8 bt t_length), (bt 0, .inl (cB, 900, .inl t_f0))] → va_S A s.heap H locs → ∀ (ls : Array Slot), lv_has ls 2 [(1, .int r7), (0, .ref h0)] → W p l e ({ frames := 1, cells := 0, slots := 0, locals := 21 } : Room) s m ([.ref h0] : List Value).toArray below meth c H locs 0 0 Q (F0 m 147 ls []) := by
                intro n28
                induction n28 with
                | zero =>
                  intro z29 mm31
                  exact absurd mm31 (by have q9 := fb_rng z29; omega)
                | succ n28 ih30 =>
                  intro z29 mm31 H locs hP hD hS ls hl
                  refine lv_aload_n hx hb dX4_next_147 rfl (lv_at hl 1 rfl) ?_
                  refine va_get (D := G) (ci := 4) (v := .int z29) (C := RX4) (T := TX4) (N := 7) hx hb hts iG_X4 hown hK hP 0 rfl rfl 6 (by decide) (hts _ w_173) (fun _ h9 => h9) rfl dX4_next_148 ?_
                  refine lv_sipush (v := 900) hx hb dX4_next_151 (by decide) ?_
                  refine lv_icmp_ge (tgt := 202) hx hb dX4_next_154 (by decide) (fun c32 => ?_) (fun c32 => ?_)
                  · have c32 := i_le ki_900 rfl c32
                    exact hret _ _ _ _ (2, z3, z29) hP hD hS dX4_next_202 trivial
                  · have c32 := i_nle ki_900 rfl c32
                    refine lv_aload_n hx hb dX4_next_157 rfl (lv_at hl 1 rfl) ?_
                    refine va_get (D := G) (ci := 4) (v := .ref (b 2)) (C := RX4) (T := TX4) (N := 7) hx hb hts iG_X4 hown hK hP 0 rfl rfl 2 (by decide) (hts _ w_167) (fun _ h9 => h9) rfl dX4_next_158 ?_
                    refine lv_aload_n hx hb dX4_next_161 rfl (lv_at hl 1 rfl) ?_
                    refine va_get (D := G) (ci := 4) (v := .int z29) (C := RX4) (T := TX4) (N := 7) hx hb hts iG_X4 hown hK hP 0 rfl rfl 6 (by decide) (hts _ w_173) (fun _ h9 => h9) rfl dX4_next_162 ?_
                    refine k_i (wc := [(b 2, oX8 bt t_length), (bt 0, .inl (cB, 900, .inl t_f0))]) (wr := [(h0, oX4 b o_fault o_place 2 z3 z29)]) hP hD hS hA [1, 2] [0] rfl rfl rfl (by decide) (va_runVN (As := [.int z29]) (rest := []) ⟨hx, hb, hml, hown, hts⟩ (f_X8_byteAt l G cI cJ cZ cB cQ _ (b 2) z29 bt t_length t_f0 hl_t_length hh_t_length) ⟨va_cnB (host := "WidowRoads") 1 hts (gW w_416) rfl rfl rfl (nz_nw hZ nw_413 rfl) (hts _ w_3) hd_X8_byteAt ⟨Nat.le_of_ble_eq_true rfl, Nat.le_of_ble_eq_true rfl⟩, (hts _ w_415), (hts _ wp_4)⟩ (mV hK hZ hP hD [1, 2] rfl rfl [.int z29] 1 8 rfl rfl) rfl rfl hl.1 rfl (lv_room (Nat.le_of_ble_eq_true rfl)) dX4_next_165 ⟨Nat.le_of_ble_eq_true rfl, Nat.le_of_ble_eq_true rfl⟩) (fun r33 u34 H locs hw35 hP hD hS => ?_)
                    try dsimp only at hw35
                    have hP : va_P G vwCl [(h0, oX4 b o_fault o_place 2 z3 z29), (b 2, oX8 bt t_length), (bt 0, .inl (cB, 900, .inl t_f0))] H := hP
                    have hD : va_D A [(h0, oX4 b o_fault o_place 2 z3 z29), (b 2, oX8 bt t_length), (bt 0, .inl (cB, 900, .inl t_f0))] := hD
                    obtain ⟨w36, w37⟩ : (-1) ≤ r33.toInt ∧ r33.toInt ≤ 255 := hw35
                    refine k_i (wc := []) (wr := [(h0, oX4 b o_fault o_place 2 z3 z29), (b 2, oX8 bt t_length), (bt 0, .inl (cB, 900, .inl t_f0))]) hP hD hS hA [] [0, 1, 2] rfl rfl rfl (by decide) (va_runS (As := [.int r33]) (rest := []) ⟨hx, hb, hml, hown, hts⟩ (f_X4_isDigit l G cI cJ cZ cB cQ _ r33) (va_cwS 1 hts (gS w_423 w_424 w_2 w_425) rfl rfl rfl hd_X4_isDigit ⟨Nat.le_of_ble_eq_true rfl, Nat.le_of_ble_eq_true rfl⟩) (mS hK hZ hP hD [] rfl rfl [.int r33]) rfl rfl hl.1 rfl (lv_room (Nat.le_of_ble_eq_true rfl)) dX4_next_168 ⟨Nat.le_of_ble_eq_true rfl, Nat.le_of_ble_eq_true rfl⟩) (fun r38 u39 H locs hw40 hP hD hS => ?_)
                    try dsimp only at hw40
                    have hP : va_P G vwCl [(h0, oX4 b o_fault o_place 2 z3 z29), (b 2, oX8 bt t_length), (bt 0, .inl (cB, 900, .inl t_f0))] H := hP
                    have hD : va_D A [(h0, oX4 b o_fault o_place 2 z3 z29), (b 2, oX8 bt t_length), (bt 0, .inl (cB, 900, .inl t_f0))] := hD
                    obtain ⟨w41, w42⟩ : 0 ≤ r38.toInt ∧ r38.toInt ≤ 1 := hw40
                    refine lv_if_eq (tgt := 202) hx hb dX4_next_171 (by decide) (fun c43 => ?_) (fun c43 => ?_)
                    · have c43 := i_eq rfl ki_0 c43
                      exact hret _ _ _ _ (2, z3, z29) hP hD hS dX4_next_202 trivial
                    · have c43 := i_ne rfl ki_0 c43
                      refine lv_aload_n hx hb dX4_next_174 rfl (lv_at hl 1 rfl) ?_
                      refine lv_dup hx hb dX4_next_175 rfl ?_
                      refine va_get (D := G) (ci := 4) (v := .int z29) (C := RX4) (T := TX4) (N := 7) hx hb hts iG_X4 hown hK hP 0 rfl rfl 6 (by decide) (hts _ w_173) (fun _ h9 => h9) rfl dX4_next_176 ?_
                      refine lv_iconst (v := 1) hx hb dX4_next_179 (by decide) ?_
                      refine lv_iadd hx hb dX4_next_180 ?_
                      refine lv_topi (fun v44 ev44 => ?_)
                      have tv44 : v44.toInt = z29.toInt + 1 := ti_add rfl ki_1 ev44 (by have q0 := fb_rng z29; have q1 := fb_rng z3; omega) (by have q0 := fb_rng z29; have q1 := fb_rng z3; omega)
                      refine va_put (D := G) (ci := 4) (v := .int v44) (ty := .int) (C := RX4) (T := TX4) (N := 7) hx hb hts iG_X4 tyX4 tyX4_ok nmX4 hown hK hP hD hS 0 rfl rfl 6 (by decide) (hts _ w_173) (fun _ h9 => h9) rfl (by decide +kernel) rfl rfl (Nat.le_of_ble_eq_true rfl) dX4_next_181 (fun H locs hP hD hS => ?_)
                      have hP : va_P G vwCl [(h0, oX4 b o_fault o_place 2 z3 v44), (b 2, oX8 bt t_length), (bt 0, .inl (cB, 900, .inl t_f0))] H := hP
                      have hD : va_D A [(h0, oX4 b o_fault o_place 2 z3 v44), (b 2, oX8 bt t_length), (bt 0, .inl (cB, 900, .inl t_f0))] := hD
                      refine lv_goto (tgt := 147) hx hb dX4_next_184 (by decide) ?_
                      exact ih30 v44 (by omega) _ _ hP hD hS ls (lv_sub hl [0, 1] rfl)
              exact lp27 4294967296 v12 (by have q9 := fb_rng v12; omega) _ _ hP hD hS ls (lv_sub hl [0, 1] rfl)
          · have c19 := i_ne rfl ki_0 c19
            refine lv_aload_n hx hb dX4_next_90 rfl (lv_at hl 1 rfl) ?_
            refine lv_iconst (v := 1) hx hb dX4_next_91 (by decide) ?_
            refine va_put (D := G) (ci := 4) (v := .int 1) (ty := .int) (C := RX4) (T := TX4) (N := 7) hx hb hts iG_X4 tyX4 tyX4_ok nmX4 hown hK hP hD hS 0 rfl rfl 4 (by decide) (hts _ w_171) (fun _ h9 => h9) rfl (by decide +kernel) rfl rfl (Nat.le_of_ble_eq_true rfl) dX4_next_92 (fun H locs hP hD hS => ?_)
            have hP : va_P G vwCl [(h0, oX4 b o_fault o_place 1 z3 v12), (b 2, oX8 bt t_length), (bt 0, .inl (cB, 900, .inl t_f0))] H := hP
            have hD : va_D A [(h0, oX4 b o_fault o_place 1 z3 v12), (b 2, oX8 bt t_length), (bt 0, .inl (cB, 900, .inl t_f0))] := hD
            have lp45 : ∀ (n46 : Nat) (z47 : Int32), 2147483647 - z47.toInt < (n46 : Int) → ∀ (H : Heap) (locs : List Loc), va_P G vwCl [(h0, oX4 b o_fault o_place 1 z3 z47), (b 2, oX8 bt t_length), (bt 0, .inl (cB, 900, .inl t_f0))] H → va_D A [(h0, oX4 b o_fault o_place 1 z3 z47), (b 2, oX8 bt t_length), (bt 0, .inl (cB, 900, .inl t_f0))] → va_S A s.heap H locs → ∀ (ls : Array Slot), lv_has ls 2 [(1, .int r7), (0, .ref h0)] → W p l e ({ frames := 1, cells := 0, slots := 0, locals := 21 } : Room) s m ([.ref h0] : List Value).toArray below meth c H locs 0 0 Q (F0 m 95 ls []) := by
              intro n46
              induction n46 with
              | zero =>
                intro z47 mm49
                exact absurd mm49 (by have q9 := fb_rng z47; omega)
              | succ n46 ih48 =>
                intro z47 mm49 H locs hP hD hS ls hl
                refine lv_aload_n hx hb dX4_next_95 rfl (lv_at hl 1 rfl) ?_
                refine va_get (D := G) (ci := 4) (v := .int z47) (C := RX4) (T := TX4) (N := 7) hx hb hts iG_X4 hown hK hP 0 rfl rfl 6 (by decide) (hts _ w_173) (fun _ h9 => h9) rfl dX4_next_96 ?_
                refine lv_sipush (v := 900) hx hb dX4_next_99 (by decide) ?_
                refine lv_icmp_ge (tgt := 202) hx hb dX4_next_102 (by decide) (fun c50 => ?_) (fun c50 => ?_)
                · have c50 := i_le ki_900 rfl c50
                  exact hret _ _ _ _ (1, z3, z47) hP hD hS dX4_next_202 trivial
                · have c50 := i_nle ki_900 rfl c50
                  refine lv_aload_n hx hb dX4_next_105 rfl (lv_at hl 1 rfl) ?_
                  refine va_get (D := G) (ci := 4) (v := .ref (b 2)) (C := RX4) (T := TX4) (N := 7) hx hb hts iG_X4 hown hK hP 0 rfl rfl 2 (by decide) (hts _ w_167) (fun _ h9 => h9) rfl dX4_next_106 ?_
                  refine lv_aload_n hx hb dX4_next_109 rfl (lv_at hl 1 rfl) ?_
                  refine va_get (D := G) (ci := 4) (v := .int z47) (C := RX4) (T := TX4) (N := 7) hx hb hts iG_X4 hown hK hP 0 rfl rfl 6 (by decide) (hts _ w_173) (fun _ h9 => h9) rfl dX4_next_110 ?_
                  refine k_i (wc := [(b 2, oX8 bt t_length), (bt 0, .inl (cB, 900, .inl t_f0))]) (wr := [(h0, oX4 b o_fault o_place 1 z3 z47)]) hP hD hS hA [1, 2] [0] rfl rfl rfl (by decide) (va_runVN (As := [.int z47]) (rest := []) ⟨hx, hb, hml, hown, hts⟩ (f_X8_byteAt l G cI cJ cZ cB cQ _ (b 2) z47 bt t_length t_f0 hl_t_length hh_t_length) ⟨va_cnB (host := "WidowRoads") 1 hts (gW w_416) rfl rfl rfl (nz_nw hZ nw_413 rfl) (hts _ w_3) hd_X8_byteAt ⟨Nat.le_of_ble_eq_true rfl, Nat.le_of_ble_eq_true rfl⟩, (hts _ w_415), (hts _ wp_4)⟩ (mV hK hZ hP hD [1, 2] rfl rfl [.int z47] 1 8 rfl rfl) rfl rfl hl.1 rfl (lv_room (Nat.le_of_ble_eq_true rfl)) dX4_next_113 ⟨Nat.le_of_ble_eq_true rfl, Nat.le_of_ble_eq_true rfl⟩) (fun r51 u52 H locs hw53 hP hD hS => ?_)
                  try dsimp only at hw53
                  have hP : va_P G vwCl [(h0, oX4 b o_fault o_place 1 z3 z47), (b 2, oX8 bt t_length), (bt 0, .inl (cB, 900, .inl t_f0))] H := hP
                  have hD : va_D A [(h0, oX4 b o_fault o_place 1 z3 z47), (b 2, oX8 bt t_length), (bt 0, .inl (cB, 900, .inl t_f0))] := hD
                  obtain ⟨w54, w55⟩ : (-1) ≤ r51.toInt ∧ r51.toInt ≤ 255 := hw53
                  refine k_i (wc := []) (wr := [(h0, oX4 b o_fault o_place 1 z3 z47), (b 2, oX8 bt t_length), (bt 0, .inl (cB, 900, .inl t_f0))]) hP hD hS hA [] [0, 1, 2] rfl rfl rfl (by decide) (va_runS (As := [.int r51]) (rest := []) ⟨hx, hb, hml, hown, hts⟩ (f_X4_isLetter l G cI cJ cZ cB cQ _ r51) (va_cwS 1 hts (gS w_420 w_421 w_2 w_422) rfl rfl rfl hd_X4_isLetter ⟨Nat.le_of_ble_eq_true rfl, Nat.le_of_ble_eq_true rfl⟩) (mS hK hZ hP hD [] rfl rfl [.int r51]) rfl rfl hl.1 rfl (lv_room (Nat.le_of_ble_eq_true rfl)) dX4_next_116 ⟨Nat.le_of_ble_eq_true rfl, Nat.le_of_ble_eq_true rfl⟩) (fun r56 u57 H locs hw58 hP hD hS => ?_)
                  try dsimp only at hw58
                  have hP : va_P G vwCl [(h0, oX4 b o_fault o_place 1 z3 z47), (b 2, oX8 bt t_length), (bt 0, .inl (cB, 900, .inl t_f0))] H := hP
                  have hD : va_D A [(h0, oX4 b o_fault o_place 1 z3 z47), (b 2, oX8 bt t_length), (bt 0, .inl (cB, 900, .inl t_f0))] := hD
                  obtain ⟨w59, w60⟩ : 0 ≤ r56.toInt ∧ r56.toInt ≤ 1 := hw58
                  refine lv_if_eq (tgt := 202) hx hb dX4_next_119 (by decide) (fun c61 => ?_) (fun c61 => ?_)
                  · have c61 := i_eq rfl ki_0 c61
                    exact hret _ _ _ _ (1, z3, z47) hP hD hS dX4_next_202 trivial
                  · have c61 := i_ne rfl ki_0 c61
                    refine lv_aload_n hx hb dX4_next_122 rfl (lv_at hl 1 rfl) ?_
                    refine lv_dup hx hb dX4_next_123 rfl ?_
                    refine va_get (D := G) (ci := 4) (v := .int z47) (C := RX4) (T := TX4) (N := 7) hx hb hts iG_X4 hown hK hP 0 rfl rfl 6 (by decide) (hts _ w_173) (fun _ h9 => h9) rfl dX4_next_124 ?_
                    refine lv_iconst (v := 1) hx hb dX4_next_127 (by decide) ?_
                    refine lv_iadd hx hb dX4_next_128 ?_
                    refine lv_topi (fun v62 ev62 => ?_)
                    have tv62 : v62.toInt = z47.toInt + 1 := ti_add rfl ki_1 ev62 (by have q0 := fb_rng z47; have q1 := fb_rng z3; omega) (by have q0 := fb_rng z47; have q1 := fb_rng z3; omega)
                    refine va_put (D := G) (ci := 4) (v := .int v62) (ty := .int) (C := RX4) (T := TX4) (N := 7) hx hb hts iG_X4 tyX4 tyX4_ok nmX4 hown hK hP hD hS 0 rfl rfl 6 (by decide) (hts _ w_173) (fun _ h9 => h9) rfl (by decide +kernel) rfl rfl (Nat.le_of_ble_eq_true rfl) dX4_next_129 (fun H locs hP hD hS => ?_)
                    have hP : va_P G vwCl [(h0, oX4 b o_fault o_place 1 z3 v62), (b 2, oX8 bt t_length), (bt 0, .inl (cB, 900, .inl t_f0))] H := hP
                    have hD : va_D A [(h0, oX4 b o_fault o_place 1 z3 v62), (b 2, oX8 bt t_length), (bt 0, .inl (cB, 900, .inl t_f0))] := hD
                    refine lv_goto (tgt := 95) hx hb dX4_next_132 (by decide) ?_
                    exact ih48 v62 (by omega) _ _ hP hD hS ls (lv_sub hl [0, 1] rfl)
            exact lp45 4294967296 v12 (by have q9 := fb_rng v12; omega) _ _ hP hD hS ls (lv_sub hl [0, 1] rfl)
        · have c13 := i_eq rfl ki_m1 c13
          refine lv_aload_n hx hb dX4_next_75 rfl (lv_at hl 1 rfl) ?_
          refine lv_iconst (v := 0) hx hb dX4_next_76 (by decide) ?_
          refine va_put (D := G) (ci := 4) (v := .int 0) (ty := .int) (C := RX4) (T := TX4) (N := 7) hx hb hts iG_X4 tyX4 tyX4_ok nmX4 hown hK hP hD hS 0 rfl rfl 4 (by decide) (hts _ w_171) (fun _ h9 => h9) rfl (by decide +kernel) rfl rfl (Nat.le_of_ble_eq_true rfl) dX4_next_77 (fun H locs hP hD hS => ?_)
          have hP : va_P G vwCl [(h0, oX4 b o_fault o_place 0 z3 v12), (b 2, oX8 bt t_length), (bt 0, .inl (cB, 900, .inl t_f0))] H := hP
          have hD : va_D A [(h0, oX4 b o_fault o_place 0 z3 v12), (b 2, oX8 bt t_length), (bt 0, .inl (cB, 900, .inl t_f0))] := hD
          refine lv_goto (tgt := 202) hx hb dX4_next_80 (by decide) ?_
          exact hret _ _ _ _ (0, z3, v12) hP hD hS dX4_next_202 trivial
      · have c6 := i_nle ki_900 rfl c6
        refine lv_aload_n hx hb dX4_next_18 rfl (lv_at hl 0 rfl) ?_
        refine va_get (D := G) (ci := 4) (v := .ref (b 2)) (C := RX4) (T := TX4) (N := 7) hx hb hts iG_X4 hown hK hP 0 rfl rfl 2 (by decide) (hts _ w_167) (fun _ h9 => h9) rfl dX4_next_19 ?_
        refine lv_aload_n hx hb dX4_next_22 rfl (lv_at hl 0 rfl) ?_
        refine va_get (D := G) (ci := 4) (v := .int z3) (C := RX4) (T := TX4) (N := 7) hx hb hts iG_X4 hown hK hP 0 rfl rfl 5 (by decide) (hts _ w_172) (fun _ h9 => h9) rfl dX4_next_23 ?_
        refine k_i (wc := [(b 2, oX8 bt t_length), (bt 0, .inl (cB, 900, .inl t_f0))]) (wr := [(h0, oX4 b o_fault o_place o_kind z3 o_stop)]) hP hD hS hA [1, 2] [0] rfl rfl rfl (by decide) (va_runVN (As := [.int z3]) (rest := []) ⟨hx, hb, hml, hown, hts⟩ (f_X8_byteAt l G cI cJ cZ cB cQ _ (b 2) z3 bt t_length t_f0 hl_t_length hh_t_length) ⟨va_cnB (host := "WidowRoads") 1 hts (gW w_416) rfl rfl rfl (nz_nw hZ nw_413 rfl) (hts _ w_3) hd_X8_byteAt ⟨Nat.le_of_ble_eq_true rfl, Nat.le_of_ble_eq_true rfl⟩, (hts _ w_415), (hts _ wp_4)⟩ (mV hK hZ hP hD [1, 2] rfl rfl [.int z3] 1 8 rfl rfl) rfl rfl hl.1 rfl (lv_room (Nat.le_of_ble_eq_true rfl)) dX4_next_26 ⟨Nat.le_of_ble_eq_true rfl, Nat.le_of_ble_eq_true rfl⟩) (fun r63 u64 H locs hw65 hP hD hS => ?_)
        try dsimp only at hw65
        have hP : va_P G vwCl [(h0, oX4 b o_fault o_place o_kind z3 o_stop), (b 2, oX8 bt t_length), (bt 0, .inl (cB, 900, .inl t_f0))] H := hP
        have hD : va_D A [(h0, oX4 b o_fault o_place o_kind z3 o_stop), (b 2, oX8 bt t_length), (bt 0, .inl (cB, 900, .inl t_f0))] := hD
        obtain ⟨w66, w67⟩ : (-1) ≤ r63.toInt ∧ r63.toInt ≤ 255 := hw65
        refine k_i (wc := []) (wr := [(h0, oX4 b o_fault o_place o_kind z3 o_stop), (b 2, oX8 bt t_length), (bt 0, .inl (cB, 900, .inl t_f0))]) hP hD hS hA [] [0, 1, 2] rfl rfl rfl (by decide) (va_runS (As := [.int r63]) (rest := []) ⟨hx, hb, hml, hown, hts⟩ (f_X4_isBlank l G cI cJ cZ cB cQ _ r63) (va_cwS 1 hts (gS w_417 w_418 w_2 w_419) rfl rfl rfl hd_X4_isBlank ⟨Nat.le_of_ble_eq_true rfl, Nat.le_of_ble_eq_true rfl⟩) (mS hK hZ hP hD [] rfl rfl [.int r63]) rfl rfl hl.1 rfl (lv_room (Nat.le_of_ble_eq_true rfl)) dX4_next_29 ⟨Nat.le_of_ble_eq_true rfl, Nat.le_of_ble_eq_true rfl⟩) (fun r68 u69 H locs hw70 hP hD hS => ?_)
        try dsimp only at hw70
        have hP : va_P G vwCl [(h0, oX4 b o_fault o_place o_kind z3 o_stop), (b 2, oX8 bt t_length), (bt 0, .inl (cB, 900, .inl t_f0))] H := hP
        have hD : va_D A [(h0, oX4 b o_fault o_place o_kind z3 o_stop), (b 2, oX8 bt t_length), (bt 0, .inl (cB, 900, .inl t_f0))] := hD
        obtain ⟨w71, w72⟩ : 0 ≤ r68.toInt ∧ r68.toInt ≤ 1 := hw70
        refine lv_if_eq (tgt := 48) hx hb dX4_next_32 (by decide) (fun c73 => ?_) (fun c73 => ?_)
        · have c73 := i_eq rfl ki_0 c73
          refine lv_aload_n hx hb dX4_next_48 rfl (lv_at hl 0 rfl) ?_
          refine va_get (D := G) (ci := 4) (v := .ref (b 2)) (C := RX4) (T := TX4) (N := 7) hx hb hts iG_X4 hown hK hP 0 rfl rfl 2 (by decide) (hts _ w_167) (fun _ h9 => h9) rfl dX4_next_49 ?_
          refine lv_aload_n hx hb dX4_next_52 rfl (lv_at hl 0 rfl) ?_
          refine va_get (D := G) (ci := 4) (v := .int z3) (C := RX4) (T := TX4) (N := 7) hx hb hts iG_X4 hown hK hP 0 rfl rfl 5 (by decide) (hts _ w_172) (fun _ h9 => h9) rfl dX4_next_53 ?_
          refine k_i (wc := [(b 2, oX8 bt t_length), (bt 0, .inl (cB, 900, .inl t_f0))]) (wr := [(h0, oX4 b o_fault o_place o_kind z3 o_stop)]) hP hD hS hA [1, 2] [0] rfl rfl rfl (by decide) (va_runVN (As := [.int z3]) (rest := []) ⟨hx, hb, hml, hown, hts⟩ (f_X8_byteAt l G cI cJ cZ cB cQ _ (b 2) z3 bt t_length t_f0 hl_t_length hh_t_length) ⟨va_cnB (host := "WidowRoads") 1 hts (gW w_416) rfl rfl rfl (nz_nw hZ nw_413 rfl) (hts _ w_3) hd_X8_byteAt ⟨Nat.le_of_ble_eq_true rfl, Nat.le_of_ble_eq_true rfl⟩, (hts _ w_415), (hts _ wp_4)⟩ (mV hK hZ hP hD [1, 2] rfl rfl [.int z3] 1 8 rfl rfl) rfl rfl hl.1 rfl (lv_room (Nat.le_of_ble_eq_true rfl)) dX4_next_56 ⟨Nat.le_of_ble_eq_true rfl, Nat.le_of_ble_eq_true rfl⟩) (fun r74 u75 H locs hw76 hP hD hS => ?_)
          try dsimp only at hw76
          have hP : va_P G vwCl [(h0, oX4 b o_fault o_place o_kind z3 o_stop), (b 2, oX8 bt t_length), (bt 0, .inl (cB, 900, .inl t_f0))] H := hP
          have hD : va_D A [(h0, oX4 b o_fault o_place o_kind z3 o_stop), (b 2, oX8 bt t_length), (bt 0, .inl (cB, 900, .inl t_f0))] := hD
          obtain ⟨w77, w78⟩ : (-1) ≤ r74.toInt ∧ r74.toInt ≤ 255 := hw76
          refine lv_istore_n (lv' := [(1, .int r74), (0, .ref h0)]) hx hb dX4_next_59 rfl hl (by decide) rfl (fun ls hl => ?_)
          refine lv_aload_n hx hb dX4_next_60 rfl (lv_at hl 1 rfl) ?_
          refine lv_aload_n hx hb dX4_next_61 rfl (lv_at hl 1 rfl) ?_
          refine va_get (D := G) (ci := 4) (v := .int z3) (C := RX4) (T := TX4) (N := 7) hx hb hts iG_X4 hown hK hP 0 rfl rfl 5 (by decide) (hts _ w_172) (fun _ h9 => h9) rfl dX4_next_62 ?_
          refine lv_iconst (v := 1) hx hb dX4_next_65 (by decide) ?_
          refine lv_iadd hx hb dX4_next_66 ?_
          refine lv_topi (fun v79 ev79 => ?_)
          have tv79 : v79.toInt = z3.toInt + 1 := ti_add rfl ki_1 ev79 (by have q0 := fb_rng z3; omega) (by have q0 := fb_rng z3; omega)
          refine va_put (D := G) (ci := 4) (v := .int v79) (ty := .int) (C := RX4) (T := TX4) (N := 7) hx hb hts iG_X4 tyX4 tyX4_ok nmX4 hown hK hP hD hS 0 rfl rfl 6 (by decide) (hts _ w_173) (fun _ h9 => h9) rfl (by decide +kernel) rfl rfl (Nat.le_of_ble_eq_true rfl) dX4_next_67 (fun H locs hP hD hS => ?_)
          have hP : va_P G vwCl [(h0, oX4 b o_fault o_place o_kind z3 v79), (b 2, oX8 bt t_length), (bt 0, .inl (cB, 900, .inl t_f0))] H := hP
          have hD : va_D A [(h0, oX4 b o_fault o_place o_kind z3 v79), (b 2, oX8 bt t_length), (bt 0, .inl (cB, 900, .inl t_f0))] := hD
          refine lv_iload_n hx hb dX4_next_70 rfl (lv_at hl 0 rfl) ?_
          refine lv_iconst (v := (-1)) hx hb dX4_next_71 (by decide) ?_
          refine lv_icmp_ne (tgt := 83) hx hb dX4_next_72 (by decide) (fun c80 => ?_) (fun c80 => ?_)
          · have c80 := i_ne rfl ki_m1 c80
            refine lv_iload_n hx hb dX4_next_83 rfl (lv_at hl 0 rfl) ?_
            refine k_i (wc := []) (wr := [(h0, oX4 b o_fault o_place o_kind z3 v79), (b 2, oX8 bt t_length), (bt 0, .inl (cB, 900, .inl t_f0))]) hP hD hS hA [] [0, 1, 2] rfl rfl rfl (by decide) (va_runS (As := [.int r74]) (rest := []) ⟨hx, hb, hml, hown, hts⟩ (f_X4_isLetter l G cI cJ cZ cB cQ _ r74) (va_cwS 1 hts (gS w_420 w_421 w_2 w_422) rfl rfl rfl hd_X4_isLetter ⟨Nat.le_of_ble_eq_true rfl, Nat.le_of_ble_eq_true rfl⟩) (mS hK hZ hP hD [] rfl rfl [.int r74]) rfl rfl hl.1 rfl (lv_room (Nat.le_of_ble_eq_true rfl)) dX4_next_84 ⟨Nat.le_of_ble_eq_true rfl, Nat.le_of_ble_eq_true rfl⟩) (fun r81 u82 H locs hw83 hP hD hS => ?_)
            try dsimp only at hw83
            have hP : va_P G vwCl [(h0, oX4 b o_fault o_place o_kind z3 v79), (b 2, oX8 bt t_length), (bt 0, .inl (cB, 900, .inl t_f0))] H := hP
            have hD : va_D A [(h0, oX4 b o_fault o_place o_kind z3 v79), (b 2, oX8 bt t_length), (bt 0, .inl (cB, 900, .inl t_f0))] := hD
            obtain ⟨w84, w85⟩ : 0 ≤ r81.toInt ∧ r81.toInt ≤ 1 := hw83
            refine lv_if_eq (tgt := 135) hx hb dX4_next_87 (by decide) (fun c86 => ?_) (fun c86 => ?_)
            · have c86 := i_eq rfl ki_0 c86
              refine lv_iload_n hx hb dX4_next_135 rfl (lv_at hl 0 rfl) ?_
              refine k_i (wc := []) (wr := [(h0, oX4 b o_fault o_place o_kind z3 v79), (b 2, oX8 bt t_length), (bt 0, .inl (cB, 900, .inl t_f0))]) hP hD hS hA [] [0, 1, 2] rfl rfl rfl (by decide) (va_runS (As := [.int r74]) (rest := []) ⟨hx, hb, hml, hown, hts⟩ (f_X4_isDigit l G cI cJ cZ cB cQ _ r74) (va_cwS 1 hts (gS w_423 w_424 w_2 w_425) rfl rfl rfl hd_X4_isDigit ⟨Nat.le_of_ble_eq_true rfl, Nat.le_of_ble_eq_true rfl⟩) (mS hK hZ hP hD [] rfl rfl [.int r74]) rfl rfl hl.1 rfl (lv_room (Nat.le_of_ble_eq_true rfl)) dX4_next_136 ⟨Nat.le_of_ble_eq_true rfl, Nat.le_of_ble_eq_true rfl⟩) (fun r87 u88 H locs hw89 hP hD hS => ?_)
              try dsimp only at hw89
              have hP : va_P G vwCl [(h0, oX4 b o_fault o_place o_kind z3 v79), (b 2, oX8 bt t_length), (bt 0, .inl (cB, 900, .inl t_f0))] H := hP
              have hD : va_D A [(h0, oX4 b o_fault o_place o_kind z3 v79), (b 2, oX8 bt t_length), (bt 0, .inl (cB, 900, .inl t_f0))] := hD
              obtain ⟨w90, w91⟩ : 0 ≤ r87.toInt ∧ r87.toInt ≤ 1 := hw89
              refine lv_if_eq (tgt := 187) hx hb dX4_next_139 (by decide) (fun c92 => ?_) (fun c92 => ?_)
              · have c92 := i_eq rfl ki_0 c92
                refine lv_aload_n hx hb dX4_next_187 rfl (lv_at hl 1 rfl) ?_
                refine lv_iload_n hx hb dX4_next_188 rfl (lv_at hl 0 rfl) ?_
                refine lv_bipush (v := 59) hx hb dX4_next_189 (by decide) ?_
                refine lv_icmp_ne (tgt := 198) hx hb dX4_next_191 (by decide) (fun c93 => ?_) (fun c93 => ?_)
                · have c93 := i_ne rfl ki_59 c93
                  refine lv_iconst (v := 4) hx hb dX4_next_198 (by decide) ?_
                  refine va_put (D := G) (ci := 4) (v := .int 4) (ty := .int) (C := RX4) (T := TX4) (N := 7) hx hb hts iG_X4 tyX4 tyX4_ok nmX4 hown hK hP hD hS 0 rfl rfl 4 (by decide) (hts _ w_171) (fun _ h9 => h9) rfl (by decide +kernel) rfl rfl (Nat.le_of_ble_eq_true rfl) dX4_next_199 (fun H locs hP hD hS => ?_)
                  have hP : va_P G vwCl [(h0, oX4 b o_fault o_place 4 z3 v79), (b 2, oX8 bt t_length), (bt 0, .inl (cB, 900, .inl t_f0))] H := hP
                  have hD : va_D A [(h0, oX4 b o_fault o_place 4 z3 v79), (b 2, oX8 bt t_length), (bt 0, .inl (cB, 900, .inl t_f0))] := hD
                  exact hret _ _ _ _ (4, z3, v79) hP hD hS dX4_next_202 trivial
                · have c93 := i_eq rfl ki_59 c93
                  refine lv_iconst (v := 3) hx hb dX4_next_194 (by decide) ?_
                  refine lv_goto (tgt := 199) hx hb dX4_next_195 (by decide) ?_
                  refine va_put (D := G) (ci := 4) (v := .int 3) (ty := .int) (C := RX4) (T := TX4) (N := 7) hx hb hts iG_X4 tyX4 tyX4_ok nmX4 hown hK hP hD hS 0 rfl rfl 4 (by decide) (hts _ w_171) (fun _ h9 => h9) rfl (by decide +kernel) rfl rfl (Nat.le_of_ble_eq_true rfl) dX4_next_199 (fun H locs hP hD hS => ?_)
                  have hP : va_P G vwCl [(h0, oX4 b o_fault o_place 3 z3 v79), (b 2, oX8 bt t_length), (bt 0, .inl (cB, 900, .inl t_f0))] H := hP
                  have hD : va_D A [(h0, oX4 b o_fault o_place 3 z3 v79), (b 2, oX8 bt t_length), (bt 0, .inl (cB, 900, .inl t_f0))] := hD
                  exact hret _ _ _ _ (3, z3, v79) hP hD hS dX4_next_202 trivial
              · have c92 := i_ne rfl ki_0 c92
                refine lv_aload_n hx hb dX4_next_142 rfl (lv_at hl 1 rfl) ?_
                refine lv_iconst (v := 2) hx hb dX4_next_143 (by decide) ?_
                refine va_put (D := G) (ci := 4) (v := .int 2) (ty := .int) (C := RX4) (T := TX4) (N := 7) hx hb hts iG_X4 tyX4 tyX4_ok nmX4 hown hK hP hD hS 0 rfl rfl 4 (by decide) (hts _ w_171) (fun _ h9 => h9) rfl (by decide +kernel) rfl rfl (Nat.le_of_ble_eq_true rfl) dX4_next_144 (fun H locs hP hD hS => ?_)
                have hP : va_P G vwCl [(h0, oX4 b o_fault o_place 2 z3 v79), (b 2, oX8 bt t_length), (bt 0, .inl (cB, 900, .inl t_f0))] H := hP
                have hD : va_D A [(h0, oX4 b o_fault o_place 2 z3 v79), (b 2, oX8 bt t_length), (bt 0, .inl (cB, 900, .inl t_f0))] := hD
                have lp94 : ∀ (n95 : Nat) (z96 : Int32), z96.toInt ≤ 900 → 900 - z96.toInt < (n95 : Int) → ∀ (H : Heap) (locs : List Loc), va_P G vwCl [(h0, oX4 b o_fault o_place 2 z3 z96), (b 2, oX8 bt t_length), (bt 0, .inl (cB, 900, .inl t_f0))] H → va_D A [(h0, oX4 b o_fault o_place 2 z3 z96), (b 2, oX8 bt t_length), (bt 0, .inl (cB, 900, .inl t_f0))] → va_S A s.heap H locs → ∀ (ls : Array Slot), lv_has ls 2 [(1, .int r74), (0, .ref h0)] → W p l e ({ frames := 1, cells := 0, slots := 0, locals := 21 } : Room) s m ([.ref h0] : List Value).toArray below meth c H locs 0 0 Q (F0 m 147 ls []) := by
                  intro n95
                  induction n95 with
                  | zero =>
                    intro z96 k97 mm99
                    exact absurd mm99 (by have q9 := fb_rng z96; omega)
                  | succ n95 ih98 =>
                    intro z96 k97 mm99 H locs hP hD hS ls hl
                    refine lv_aload_n hx hb dX4_next_147 rfl (lv_at hl 1 rfl) ?_
                    refine va_get (D := G) (ci := 4) (v := .int z96) (C := RX4) (T := TX4) (N := 7) hx hb hts iG_X4 hown hK hP 0 rfl rfl 6 (by decide) (hts _ w_173) (fun _ h9 => h9) rfl dX4_next_148 ?_
                    refine lv_sipush (v := 900) hx hb dX4_next_151 (by decide) ?_
                    refine lv_icmp_ge (tgt := 202) hx hb dX4_next_154 (by decide) (fun c100 => ?_) (fun c100 => ?_)
                    · have c100 := i_le ki_900 rfl c100
                      exact hret _ _ _ _ (2, z3, z96) hP hD hS dX4_next_202 trivial
                    · have c100 := i_nle ki_900 rfl c100
                      refine lv_aload_n hx hb dX4_next_157 rfl (lv_at hl 1 rfl) ?_
                      refine va_get (D := G) (ci := 4) (v := .ref (b 2)) (C := RX4) (T := TX4) (N := 7) hx hb hts iG_X4 hown hK hP 0 rfl rfl 2 (by decide) (hts _ w_167) (fun _ h9 => h9) rfl dX4_next_158 ?_
                      refine lv_aload_n hx hb dX4_next_161 rfl (lv_at hl 1 rfl) ?_
                      refine va_get (D := G) (ci := 4) (v := .int z96) (C := RX4) (T := TX4) (N := 7) hx hb hts iG_X4 hown hK hP 0 rfl rfl 6 (by decide) (hts _ w_173) (fun _ h9 => h9) rfl dX4_next_162 ?_
                      refine k_i (wc := [(b 2, oX8 bt t_length), (bt 0, .inl (cB, 900, .inl t_f0))]) (wr := [(h0, oX4 b o_fault o_place 2 z3 z96)]) hP hD hS hA [1, 2] [0] rfl rfl rfl (by decide) (va_runVN (As := [.int z96]) (rest := []) ⟨hx, hb, hml, hown, hts⟩ (f_X8_byteAt l G cI cJ cZ cB cQ _ (b 2) z96 bt t_length t_f0 hl_t_length hh_t_length) ⟨va_cnB (host := "WidowRoads") 1 hts (gW w_416) rfl rfl rfl (nz_nw hZ nw_413 rfl) (hts _ w_3) hd_X8_byteAt ⟨Nat.le_of_ble_eq_true rfl, Nat.le_of_ble_eq_true rfl⟩, (hts _ w_415), (hts _ wp_4)⟩ (mV hK hZ hP hD [1, 2] rfl rfl [.int z96] 1 8 rfl rfl) rfl rfl hl.1 rfl (lv_room (Nat.le_of_ble_eq_true rfl)) dX4_next_165 ⟨Nat.le_of_ble_eq_true rfl, Nat.le_of_ble_eq_true rfl⟩) (fun r101 u102 H locs hw103 hP hD hS => ?_)
                      try dsimp only at hw103
                      have hP : va_P G vwCl [(h0, oX4 b o_fault o_place 2 z3 z96), (b 2, oX8 bt t_length), (bt 0, .inl (cB, 900, .inl t_f0))] H := hP
                      have hD : va_D A [(h0, oX4 b o_fault o_place 2 z3 z96), (b 2, oX8 bt t_length), (bt 0, .inl (cB, 900, .inl t_f0))] := hD
                      obtain ⟨w104, w105⟩ : (-1) ≤ r101.toInt ∧ r101.toInt ≤ 255 := hw103
                      refine k_i (wc := []) (wr := [(h0, oX4 b o_fault o_place 2 z3 z96), (b 2, oX8 bt t_length), (bt 0, .inl (cB, 900, .inl t_f0))]) hP hD hS hA [] [0, 1, 2] rfl rfl rfl (by decide) (va_runS (As := [.int r101]) (rest := []) ⟨hx, hb, hml, hown, hts⟩ (f_X4_isDigit l G cI cJ cZ cB cQ _ r101) (va_cwS 1 hts (gS w_423 w_424 w_2 w_425) rfl rfl rfl hd_X4_isDigit ⟨Nat.le_of_ble_eq_true rfl, Nat.le_of_ble_eq_true rfl⟩) (mS hK hZ hP hD [] rfl rfl [.int r101]) rfl rfl hl.1 rfl (lv_room (Nat.le_of_ble_eq_true rfl)) dX4_next_168 ⟨Nat.le_of_ble_eq_true rfl, Nat.le_of_ble_eq_true rfl⟩) (fun r106 u107 H locs hw108 hP hD hS => ?_)
                      try dsimp only at hw108
                      have hP : va_P G vwCl [(h0, oX4 b o_fault o_place 2 z3 z96), (b 2, oX8 bt t_length), (bt 0, .inl (cB, 900, .inl t_f0))] H := hP
                      have hD : va_D A [(h0, oX4 b o_fault o_place 2 z3 z96), (b 2, oX8 bt t_length), (bt 0, .inl (cB, 900, .inl t_f0))] := hD
                      obtain ⟨w109, w110⟩ : 0 ≤ r106.toInt ∧ r106.toInt ≤ 1 := hw108
                      refine lv_if_eq (tgt := 202) hx hb dX4_next_171 (by decide) (fun c111 => ?_) (fun c111 => ?_)
                      · have c111 := i_eq rfl ki_0 c111
                        exact hret _ _ _ _ (2, z3, z96) hP hD hS dX4_next_202 trivial
                      · have c111 := i_ne rfl ki_0 c111
                        refine lv_aload_n hx hb dX4_next_174 rfl (lv_at hl 1 rfl) ?_
                        refine lv_dup hx hb dX4_next_175 rfl ?_
                        refine va_get (D := G) (ci := 4) (v := .int z96) (C := RX4) (T := TX4) (N := 7) hx hb hts iG_X4 hown hK hP 0 rfl rfl 6 (by decide) (hts _ w_173) (fun _ h9 => h9) rfl dX4_next_176 ?_
                        refine lv_iconst (v := 1) hx hb dX4_next_179 (by decide) ?_
                        refine lv_iadd hx hb dX4_next_180 ?_
                        refine lv_topi (fun v112 ev112 => ?_)
                        have tv112 : v112.toInt = z96.toInt + 1 := ti_add rfl ki_1 ev112 (by have q0 := fb_rng z96; have q1 := fb_rng z3; omega) (by have q0 := fb_rng z96; have q1 := fb_rng z3; omega)
                        refine va_put (D := G) (ci := 4) (v := .int v112) (ty := .int) (C := RX4) (T := TX4) (N := 7) hx hb hts iG_X4 tyX4 tyX4_ok nmX4 hown hK hP hD hS 0 rfl rfl 6 (by decide) (hts _ w_173) (fun _ h9 => h9) rfl (by decide +kernel) rfl rfl (Nat.le_of_ble_eq_true rfl) dX4_next_181 (fun H locs hP hD hS => ?_)
                        have hP : va_P G vwCl [(h0, oX4 b o_fault o_place 2 z3 v112), (b 2, oX8 bt t_length), (bt 0, .inl (cB, 900, .inl t_f0))] H := hP
                        have hD : va_D A [(h0, oX4 b o_fault o_place 2 z3 v112), (b 2, oX8 bt t_length), (bt 0, .inl (cB, 900, .inl t_f0))] := hD
                        refine lv_goto (tgt := 147) hx hb dX4_next_184 (by decide) ?_
                        exact ih98 v112 (by omega) (by omega) _ _ hP hD hS ls (lv_sub hl [0, 1] rfl)
                exact lp94 2147484549 v79 (by omega) (by have q9 := fb_rng v79; omega) _ _ hP hD hS ls (lv_sub hl [0, 1] rfl)
            · have c86 := i_ne rfl ki_0 c86
              refine lv_aload_n hx hb dX4_next_90 rfl (lv_at hl 1 rfl) ?_
              refine lv_iconst (v := 1) hx hb dX4_next_91 (by decide) ?_
              refine va_put (D := G) (ci := 4) (v := .int 1) (ty := .int) (C := RX4) (T := TX4) (N := 7) hx hb hts iG_X4 tyX4 tyX4_ok nmX4 hown hK hP hD hS 0 rfl rfl 4 (by decide) (hts _ w_171) (fun _ h9 => h9) rfl (by decide +kernel) rfl rfl (Nat.le_of_ble_eq_true rfl) dX4_next_92 (fun H locs hP hD hS => ?_)
              have hP : va_P G vwCl [(h0, oX4 b o_fault o_place 1 z3 v79), (b 2, oX8 bt t_length), (bt 0, .inl (cB, 900, .inl t_f0))] H := hP
              have hD : va_D A [(h0, oX4 b o_fault o_place 1 z3 v79), (b 2, oX8 bt t_length), (bt 0, .inl (cB, 900, .inl t_f0))] := hD
              have lp113 : ∀ (n114 : Nat) (z115 : Int32), z115.toInt ≤ 900 → 900 - z115.toInt < (n114 : Int) → ∀ (H : Heap) (locs : List Loc), va_P G vwCl [(h0, oX4 b o_fault o_place 1 z3 z115), (b 2, oX8 bt t_length), (bt 0, .inl (cB, 900, .inl t_f0))] H → va_D A [(h0, oX4 b o_fault o_place 1 z3 z115), (b 2, oX8 bt t_length), (bt 0, .inl (cB, 900, .inl t_f0))] → va_S A s.heap H locs → ∀ (ls : Array Slot), lv_has ls 2 [(1, .int r74), (0, .ref h0)] → W p l e ({ frames := 1, cells := 0, slots := 0, locals := 21 } : Room) s m ([.ref h0] : List Value).toArray below meth c H locs 0 0 Q (F0 m 95 ls []) := by
                intro n114
                induction n114 with
                | zero =>
                  intro z115 k116 mm118
                  exact absurd mm118 (by have q9 := fb_rng z115; omega)
                | succ n114 ih117 =>
                  intro z115 k116 mm118 H locs hP hD hS ls hl
                  refine lv_aload_n hx hb dX4_next_95 rfl (lv_at hl 1 rfl) ?_
                  refine va_get (D := G) (ci := 4) (v := .int z115) (C := RX4) (T := TX4) (N := 7) hx hb hts iG_X4 hown hK hP 0 rfl rfl 6 (by decide) (hts _ w_173) (fun _ h9 => h9) rfl dX4_next_96 ?_
                  refine lv_sipush (v := 900) hx hb dX4_next_99 (by decide) ?_
                  refine lv_icmp_ge (tgt := 202) hx hb dX4_next_102 (by decide) (fun c119 => ?_) (fun c119 => ?_)
                  · have c119 := i_le ki_900 rfl c119
                    exact hret _ _ _ _ (1, z3, z115) hP hD hS dX4_next_202 trivial
                  · have c119 := i_nle ki_900 rfl c119
                    refine lv_aload_n hx hb dX4_next_105 rfl (lv_at hl 1 rfl) ?_
                    refine va_get (D := G) (ci := 4) (v := .ref (b 2)) (C := RX4) (T := TX4) (N := 7) hx hb hts iG_X4 hown hK hP 0 rfl rfl 2 (by decide) (hts _ w_167) (fun _ h9 => h9) rfl dX4_next_106 ?_
                    refine lv_aload_n hx hb dX4_next_109 rfl (lv_at hl 1 rfl) ?_
                    refine va_get (D := G) (ci := 4) (v := .int z115) (C := RX4) (T := TX4) (N := 7) hx hb hts iG_X4 hown hK hP 0 rfl rfl 6 (by decide) (hts _ w_173) (fun _ h9 => h9) rfl dX4_next_110 ?_
                    refine k_i (wc := [(b 2, oX8 bt t_length), (bt 0, .inl (cB, 900, .inl t_f0))]) (wr := [(h0, oX4 b o_fault o_place 1 z3 z115)]) hP hD hS hA [1, 2] [0] rfl rfl rfl (by decide) (va_runVN (As := [.int z115]) (rest := []) ⟨hx, hb, hml, hown, hts⟩ (f_X8_byteAt l G cI cJ cZ cB cQ _ (b 2) z115 bt t_length t_f0 hl_t_length hh_t_length) ⟨va_cnB (host := "WidowRoads") 1 hts (gW w_416) rfl rfl rfl (nz_nw hZ nw_413 rfl) (hts _ w_3) hd_X8_byteAt ⟨Nat.le_of_ble_eq_true rfl, Nat.le_of_ble_eq_true rfl⟩, (hts _ w_415), (hts _ wp_4)⟩ (mV hK hZ hP hD [1, 2] rfl rfl [.int z115] 1 8 rfl rfl) rfl rfl hl.1 rfl (lv_room (Nat.le_of_ble_eq_true rfl)) dX4_next_113 ⟨Nat.le_of_ble_eq_true rfl, Nat.le_of_ble_eq_true rfl⟩) (fun r120 u121 H locs hw122 hP hD hS => ?_)
                    try dsimp only at hw122
                    have hP : va_P G vwCl [(h0, oX4 b o_fault o_place 1 z3 z115), (b 2, oX8 bt t_length), (bt 0, .inl (cB, 900, .inl t_f0))] H := hP
                    have hD : va_D A [(h0, oX4 b o_fault o_place 1 z3 z115), (b 2, oX8 bt t_length), (bt 0, .inl (cB, 900, .inl t_f0))] := hD
                    obtain ⟨w123, w124⟩ : (-1) ≤ r120.toInt ∧ r120.toInt ≤ 255 := hw122
                    refine k_i (wc := []) (wr := [(h0, oX4 b o_fault o_place 1 z3 z115), (b 2, oX8 bt t_length), (bt 0, .inl (cB, 900, .inl t_f0))]) hP hD hS hA [] [0, 1, 2] rfl rfl rfl (by decide) (va_runS (As := [.int r120]) (rest := []) ⟨hx, hb, hml, hown, hts⟩ (f_X4_isLetter l G cI cJ cZ cB cQ _ r120) (va_cwS 1 hts (gS w_420 w_421 w_2 w_422) rfl rfl rfl hd_X4_isLetter ⟨Nat.le_of_ble_eq_true rfl, Nat.le_of_ble_eq_true rfl⟩) (mS hK hZ hP hD [] rfl rfl [.int r120]) rfl rfl hl.1 rfl (lv_room (Nat.le_of_ble_eq_true rfl)) dX4_next_116 ⟨Nat.le_of_ble_eq_true rfl, Nat.le_of_ble_eq_true rfl⟩) (fun r125 u126 H locs hw127 hP hD hS => ?_)
                    try dsimp only at hw127
                    have hP : va_P G vwCl [(h0, oX4 b o_fault o_place 1 z3 z115), (b 2, oX8 bt t_length), (bt 0, .inl (cB, 900, .inl t_f0))] H := hP
                    have hD : va_D A [(h0, oX4 b o_fault o_place 1 z3 z115), (b 2, oX8 bt t_length), (bt 0, .inl (cB, 900, .inl t_f0))] := hD
                    obtain ⟨w128, w129⟩ : 0 ≤ r125.toInt ∧ r125.toInt ≤ 1 := hw127
                    refine lv_if_eq (tgt := 202) hx hb dX4_next_119 (by decide) (fun c130 => ?_) (fun c130 => ?_)
                    · have c130 := i_eq rfl ki_0 c130
                      exact hret _ _ _ _ (1, z3, z115) hP hD hS dX4_next_202 trivial
                    · have c130 := i_ne rfl ki_0 c130
                      refine lv_aload_n hx hb dX4_next_122 rfl (lv_at hl 1 rfl) ?_
                      refine lv_dup hx hb dX4_next_123 rfl ?_
                      refine va_get (D := G) (ci := 4) (v := .int z115) (C := RX4) (T := TX4) (N := 7) hx hb hts iG_X4 hown hK hP 0 rfl rfl 6 (by decide) (hts _ w_173) (fun _ h9 => h9) rfl dX4_next_124 ?_
                      refine lv_iconst (v := 1) hx hb dX4_next_127 (by decide) ?_
                      refine lv_iadd hx hb dX4_next_128 ?_
                      refine lv_topi (fun v131 ev131 => ?_)
                      have tv131 : v131.toInt = z115.toInt + 1 := ti_add rfl ki_1 ev131 (by have q0 := fb_rng z115; have q1 := fb_rng z3; omega) (by have q0 := fb_rng z115; have q1 := fb_rng z3; omega)
                      refine va_put (D := G) (ci := 4) (v := .int v131) (ty := .int) (C := RX4) (T := TX4) (N := 7) hx hb hts iG_X4 tyX4 tyX4_ok nmX4 hown hK hP hD hS 0 rfl rfl 6 (by decide) (hts _ w_173) (fun _ h9 => h9) rfl (by decide +kernel) rfl rfl (Nat.le_of_ble_eq_true rfl) dX4_next_129 (fun H locs hP hD hS => ?_)
                      have hP : va_P G vwCl [(h0, oX4 b o_fault o_place 1 z3 v131), (b 2, oX8 bt t_length), (bt 0, .inl (cB, 900, .inl t_f0))] H := hP
                      have hD : va_D A [(h0, oX4 b o_fault o_place 1 z3 v131), (b 2, oX8 bt t_length), (bt 0, .inl (cB, 900, .inl t_f0))] := hD
                      refine lv_goto (tgt := 95) hx hb dX4_next_132 (by decide) ?_
                      exact ih117 v131 (by omega) (by omega) _ _ hP hD hS ls (lv_sub hl [0, 1] rfl)
              exact lp113 2147484549 v79 (by omega) (by have q9 := fb_rng v79; omega) _ _ hP hD hS ls (lv_sub hl [0, 1] rfl)
          · have c80 := i_eq rfl ki_m1 c80
            refine lv_aload_n hx hb dX4_next_75 rfl (lv_at hl 1 rfl) ?_
            refine lv_iconst (v := 0) hx hb dX4_next_76 (by decide) ?_
            refine va_put (D := G) (ci := 4) (v := .int 0) (ty := .int) (C := RX4) (T := TX4) (N := 7) hx hb hts iG_X4 tyX4 tyX4_ok nmX4 hown hK hP hD hS 0 rfl rfl 4 (by decide) (hts _ w_171) (fun _ h9 => h9) rfl (by decide +kernel) rfl rfl (Nat.le_of_ble_eq_true rfl) dX4_next_77 (fun H locs hP hD hS => ?_)
            have hP : va_P G vwCl [(h0, oX4 b o_fault o_place 0 z3 v79), (b 2, oX8 bt t_length), (bt 0, .inl (cB, 900, .inl t_f0))] H := hP
            have hD : va_D A [(h0, oX4 b o_fault o_place 0 z3 v79), (b 2, oX8 bt t_length), (bt 0, .inl (cB, 900, .inl t_f0))] := hD
            refine lv_goto (tgt := 202) hx hb dX4_next_80 (by decide) ?_
            exact hret _ _ _ _ (0, z3, v79) hP hD hS dX4_next_202 trivial
        · have c73 := i_ne rfl ki_0 c73
          refine lv_aload_n hx hb dX4_next_35 rfl (lv_at hl 0 rfl) ?_
          refine lv_dup hx hb dX4_next_36 rfl ?_
          refine va_get (D := G) (ci := 4) (v := .int z3) (C := RX4) (T := TX4) (N := 7) hx hb hts iG_X4 hown hK hP 0 rfl rfl 5 (by decide) (hts _ w_172) (fun _ h9 => h9) rfl dX4_next_37 ?_
          refine lv_iconst (v := 1) hx hb dX4_next_40 (by decide) ?_
          refine lv_iadd hx hb dX4_next_41 ?_
          refine lv_topi (fun v132 ev132 => ?_)
          have tv132 : v132.toInt = z3.toInt + 1 := ti_add rfl ki_1 ev132 (by have q0 := fb_rng z3; omega) (by have q0 := fb_rng z3; omega)
          refine va_put (D := G) (ci := 4) (v := .int v132) (ty := .int) (C := RX4) (T := TX4) (N := 7) hx hb hts iG_X4 tyX4 tyX4_ok nmX4 hown hK hP hD hS 0 rfl rfl 5 (by decide) (hts _ w_172) (fun _ h9 => h9) rfl (by decide +kernel) rfl rfl (Nat.le_of_ble_eq_true rfl) dX4_next_42 (fun H locs hP hD hS => ?_)
          have hP : va_P G vwCl [(h0, oX4 b o_fault o_place o_kind v132 o_stop), (b 2, oX8 bt t_length), (bt 0, .inl (cB, 900, .inl t_f0))] H := hP
          have hD : va_D A [(h0, oX4 b o_fault o_place o_kind v132 o_stop), (b 2, oX8 bt t_length), (bt 0, .inl (cB, 900, .inl t_f0))] := hD
          refine lv_goto (tgt := 8) hx hb dX4_next_45 (by decide) ?_
          exact ih4 v132 (by omega) _ _ hP hD hS ls (lv_sub hl [0] rfl)
  exact lp1 4294967296 o_stop (by have q9 := fb_rng o_stop; omega) _ _ hP hD hS ls (lv_sub hl [0] rfl)
set_option maxHeartbeats 4000000 in
set_option maxRecDepth 100000 in
theorem f_X4_isWord (l : Launch) (G : va_G) (cI cJ cZ cB cQ : ClassId) (sz : Nat) (ad : AdS) (fm : Option Nat) (h0 : Nat) (i : Nat) (b : Nat → Nat) (o_fault : Int32) (o_place : Int32) (o_kind : Int32) (o_start : Int32) (o_stop : Int32) (bt : Nat → Nat) (t_length : Int32) (t_f0 : Nat → Int32) (hi_i : i < 34) (hl_t_length : 0 ≤ t_length.toInt) (hh_t_length : t_length.toInt ≤ 900) : CIs l yX4_isWord (wl_ yX4_isWord cX4_isWord 3 (some .boolean)) ({ frames := 4, cells := 0, slots := 0, locals := 85 } : Room) G (TY cI cJ cZ cB cQ) [.ref h0, .ref (ad.1 i)] [(h0, oX4 b o_fault o_place o_kind o_start o_stop), (b 2, oX8 bt t_length), (bt 0, .inl (cB, 900, .inl t_f0))] sz ad fm (fun (r : Int32) (u : Unit) => 0 ≤ r.toInt ∧ r.toInt ≤ 1) (fun _ : Unit => [(h0, oX4 b o_fault o_place o_kind o_start o_stop), (b 2, oX8 bt t_length), (bt 0, .inl (cB, 900, .inl t_f0))]) 0 0 := by
  refine CIs.gon (cc := cX4_isWord) (maxL := 3) (ret := (some .boolean)) (by decide) rfl (Nat.le_of_ble_eq_true rfl) ?_
  intro p e s m below meth c A ls Q hBd hE hret
  obtain ⟨hx, hb, hr, hml, hts, hown, hlk, hnm, hP, hK, hD, hA, hZ, hl⟩ := hBd
  have hown : s.vm.findClass RX4 = some m.cls := hown
  have hl : lv_has ls 3 [(0, .ref h0), (1, .ref (ad.1 i))] := hl
  have hS : va_S A s.heap s.heap [] := va_S.rf
  refine lv_aload_n hx hb dX4_isWord_0 rfl (lv_at hl 0 rfl) ?_
  refine va_get (D := G) (ci := 4) (v := .int o_kind) (C := RX4) (T := TX4) (N := 7) hx hb hts iG_X4 hown hK hP 0 rfl rfl 4 (by decide) (hts _ w_171) (fun _ h9 => h9) rfl dX4_isWord_1 ?_
  refine lv_iconst (v := 1) hx hb dX4_isWord_4 (by decide) ?_
  refine lv_icmp_ne (tgt := 24) hx hb dX4_isWord_5 (by decide) (fun c1 => ?_) (fun c1 => ?_)
  · have c1 := i_ne rfl ki_1 c1
    refine lv_iconst (v := 0) hx hb dX4_isWord_24 (by decide) ?_
    exact hret _ _ _ _ 0 () hP hD hS dX4_isWord_25 rfl (show 0 ≤ (0 : Int32).toInt ∧ (0 : Int32).toInt ≤ 1 from ⟨(by rw [ki_0]; decide), (by rw [ki_0]; decide)⟩)
  · have c1 := i_eq rfl ki_1 c1
    refine lv_aload_n hx hb dX4_isWord_8 rfl (lv_at hl 0 rfl) ?_
    refine va_get (D := G) (ci := 4) (v := .int o_stop) (C := RX4) (T := TX4) (N := 7) hx hb hts iG_X4 hown hK hP 0 rfl rfl 6 (by decide) (hts _ w_173) (fun _ h9 => h9) rfl dX4_isWord_9 ?_
    refine lv_aload_n hx hb dX4_isWord_12 rfl (lv_at hl 0 rfl) ?_
    refine va_get (D := G) (ci := 4) (v := .int o_start) (C := RX4) (T := TX4) (N := 7) hx hb hts iG_X4 hown hK hP 0 rfl rfl 5 (by decide) (hts _ w_172) (fun _ h9 => h9) rfl dX4_isWord_13 ?_
    refine lv_isub hx hb dX4_isWord_16 ?_
    refine lv_topi (fun v2 ev2 => ?_)
    refine lv_aload_n hx hb dX4_isWord_17 rfl (lv_at hl 1 rfl) ?_
    refine k_i (wc := []) (wr := [(h0, oX4 b o_fault o_place o_kind o_start o_stop), (b 2, oX8 bt t_length), (bt 0, .inl (cB, 900, .inl t_f0))]) hP hD hS hA [] [0, 1, 2] rfl rfl rfl (by decide) (va_runV (As := []) (rest := [.int v2]) ⟨hx, hb, hml, hown, hts⟩ (f_J0_length_8abf5 l G cI cJ cZ cB cQ _ ad fm i hi_i) (cwV 0 hts (gV w_439 w_440 w_441 w_12 w_442) rfl rfl rfl ⟨rfl, hd_J0_length_8abf5⟩ ⟨Nat.le_of_ble_eq_true rfl, Nat.le_of_ble_eq_true rfl⟩) (mVk hK hZ hP hD hE hS hA [] rfl rfl [] hi_i) rfl rfl hl.1 rfl (lv_room (Nat.le_of_ble_eq_true rfl)) dX4_isWord_18 ⟨Nat.le_of_ble_eq_true rfl, Nat.le_of_ble_eq_true rfl⟩) (fun r3 u4 H locs hw5 hP hD hS => ?_)
    try dsimp only at hw5
    have hP : va_P G vwCl [(h0, oX4 b o_fault o_place o_kind o_start o_stop), (b 2, oX8 bt t_length), (bt 0, .inl (cB, 900, .inl t_f0))] H := hP
    have hD : va_D A [(h0, oX4 b o_fault o_place o_kind o_start o_stop), (b 2, oX8 bt t_length), (bt 0, .inl (cB, 900, .inl t_f0))] := hD
    obtain ⟨w6, w7, w8⟩ : 2 ≤ r3.toInt ∧ r3.toInt ≤ 6 ∧ r3.toInt = ((lenS.getD i 0 : Nat) : Int) := hw5
    refine lv_icmp_eq (tgt := 26) hx hb dX4_isWord_21 (by decide) (fun c9 => ?_) (fun c9 => ?_)
    · have c9 := i_eq rfl w8 c9
      refine lv_iconst (v := 0) hx hb dX4_isWord_26 (by decide) ?_
      refine lv_istore_n (lv' := [(2, .int 0), (0, .ref h0), (1, .ref (ad.1 i))]) hx hb dX4_isWord_27 rfl hl (by decide) rfl (fun ls hl => ?_)
      have lp10 : ∀ (n11 : Nat) (x12 : Int32), 0 ≤ x12.toInt → x12.toInt ≤ 6 → 6 - x12.toInt < (n11 : Int) → ∀ (H : Heap) (locs : List Loc), va_P G vwCl [(h0, oX4 b o_fault o_place o_kind o_start o_stop), (b 2, oX8 bt t_length), (bt 0, .inl (cB, 900, .inl t_f0))] H → va_D A [(h0, oX4 b o_fault o_place o_kind o_start o_stop), (b 2, oX8 bt t_length), (bt 0, .inl (cB, 900, .inl t_f0))] → va_S A s.heap H locs → ∀ (ls : Array Slot), lv_has ls 3 [(2, .int x12), (0, .ref h0), (1, .ref (ad.1 i))] → W p l e ({ frames := 4, cells := 0, slots := 0, locals := 85 } : Room) s m ([.ref h0, .ref (ad.1 i)] : List Value).toArray below meth c H locs 0 0 Q (F0 m 28 ls []) := by
        intro n11
        induction n11 with
        | zero =>
          intro x12 k13 k14 mm16
          exact absurd mm16 (by have q9 := fb_rng x12; omega)
        | succ n11 ih15 =>
          intro x12 k13 k14 mm16 H locs hP hD hS ls hl
          refine lv_iload_n hx hb dX4_isWord_28 rfl (lv_at hl 0 rfl) ?_
          refine lv_aload_n hx hb dX4_isWord_29 rfl (lv_at hl 2 rfl) ?_
          refine k_i (wc := []) (wr := [(h0, oX4 b o_fault o_place o_kind o_start o_stop), (b 2, oX8 bt t_length), (bt 0, .inl (cB, 900, .inl t_f0))]) hP hD hS hA [] [0, 1, 2] rfl rfl rfl (by decide) (va_runV (As := []) (rest := [.int x12]) ⟨hx, hb, hml, hown, hts⟩ (f_J0_length_8abf5 l G cI cJ cZ cB cQ _ ad fm i hi_i) (cwV 0 hts (gV w_439 w_440 w_441 w_12 w_442) rfl rfl rfl ⟨rfl, hd_J0_length_8abf5⟩ ⟨Nat.le_of_ble_eq_true rfl, Nat.le_of_ble_eq_true rfl⟩) (mVk hK hZ hP hD hE hS hA [] rfl rfl [] hi_i) rfl rfl hl.1 rfl (lv_room (Nat.le_of_ble_eq_true rfl)) dX4_isWord_30 ⟨Nat.le_of_ble_eq_true rfl, Nat.le_of_ble_eq_true rfl⟩) (fun r17 u18 H locs hw19 hP hD hS => ?_)
          try dsimp only at hw19
          have hP : va_P G vwCl [(h0, oX4 b o_fault o_place o_kind o_start o_stop), (b 2, oX8 bt t_length), (bt 0, .inl (cB, 900, .inl t_f0))] H := hP
          have hD : va_D A [(h0, oX4 b o_fault o_place o_kind o_start o_stop), (b 2, oX8 bt t_length), (bt 0, .inl (cB, 900, .inl t_f0))] := hD
          obtain ⟨w20, w21, w22⟩ : 2 ≤ r17.toInt ∧ r17.toInt ≤ 6 ∧ r17.toInt = ((lenS.getD i 0 : Nat) : Int) := hw19
          refine lv_icmp_ge (tgt := 65) hx hb dX4_isWord_33 (by decide) (fun c23 => ?_) (fun c23 => ?_)
          · have c23 := i_le w22 rfl c23
            refine lv_iconst (v := 1) hx hb dX4_isWord_65 (by decide) ?_
            exact hret _ _ _ _ 1 () hP hD hS dX4_isWord_66 rfl (show 0 ≤ (1 : Int32).toInt ∧ (1 : Int32).toInt ≤ 1 from ⟨(by rw [ki_1]; decide), (by rw [ki_1]; decide)⟩)
          · have c23 := i_nle w22 rfl c23
            refine lv_aload_n hx hb dX4_isWord_36 rfl (lv_at hl 1 rfl) ?_
            refine va_get (D := G) (ci := 4) (v := .ref (b 2)) (C := RX4) (T := TX4) (N := 7) hx hb hts iG_X4 hown hK hP 0 rfl rfl 2 (by decide) (hts _ w_167) (fun _ h9 => h9) rfl dX4_isWord_37 ?_
            refine lv_aload_n hx hb dX4_isWord_40 rfl (lv_at hl 1 rfl) ?_
            refine va_get (D := G) (ci := 4) (v := .int o_start) (C := RX4) (T := TX4) (N := 7) hx hb hts iG_X4 hown hK hP 0 rfl rfl 5 (by decide) (hts _ w_172) (fun _ h9 => h9) rfl dX4_isWord_41 ?_
            refine lv_iload_n hx hb dX4_isWord_44 rfl (lv_at hl 0 rfl) ?_
            refine lv_iadd hx hb dX4_isWord_45 ?_
            refine lv_topi (fun v24 ev24 => ?_)
            refine k_i (wc := [(b 2, oX8 bt t_length), (bt 0, .inl (cB, 900, .inl t_f0))]) (wr := [(h0, oX4 b o_fault o_place o_kind o_start o_stop)]) hP hD hS hA [1, 2] [0] rfl rfl rfl (by decide) (va_runVN (As := [.int v24]) (rest := []) ⟨hx, hb, hml, hown, hts⟩ (f_X8_byteAt l G cI cJ cZ cB cQ _ (b 2) v24 bt t_length t_f0 hl_t_length hh_t_length) ⟨va_cnB (host := "WidowRoads") 1 hts (gW w_416) rfl rfl rfl (nz_nw hZ nw_413 rfl) (hts _ w_3) hd_X8_byteAt ⟨Nat.le_of_ble_eq_true rfl, Nat.le_of_ble_eq_true rfl⟩, (hts _ w_415), (hts _ wp_4)⟩ (mV hK hZ hP hD [1, 2] rfl rfl [.int v24] 1 8 rfl rfl) rfl rfl hl.1 rfl (lv_room (Nat.le_of_ble_eq_true rfl)) dX4_isWord_46 ⟨Nat.le_of_ble_eq_true rfl, Nat.le_of_ble_eq_true rfl⟩) (fun r25 u26 H locs hw27 hP hD hS => ?_)
            try dsimp only at hw27
            have hP : va_P G vwCl [(h0, oX4 b o_fault o_place o_kind o_start o_stop), (b 2, oX8 bt t_length), (bt 0, .inl (cB, 900, .inl t_f0))] H := hP
            have hD : va_D A [(h0, oX4 b o_fault o_place o_kind o_start o_stop), (b 2, oX8 bt t_length), (bt 0, .inl (cB, 900, .inl t_f0))] := hD
            obtain ⟨w28, w29⟩ : (-1) ≤ r25.toInt ∧ r25.toInt ≤ 255 := hw27
            refine lv_aload_n hx hb dX4_isWord_49 rfl (lv_at hl 2 rfl) ?_
            refine lv_iload_n hx hb dX4_isWord_50 rfl (lv_at hl 0 rfl) ?_
            refine k_i (wc := []) (wr := [(h0, oX4 b o_fault o_place o_kind o_start o_stop), (b 2, oX8 bt t_length), (bt 0, .inl (cB, 900, .inl t_f0))]) hP hD hS hA [] [0, 1, 2] rfl rfl rfl (by decide) (va_runV (As := [.int x12]) (rest := [.int r25]) ⟨hx, hb, hml, hown, hts⟩ (f_J0_charAt_5068e l G cI cJ cZ cB cQ _ ad fm i x12 hi_i k13 (by omega)) (cwV 1 hts (gV w_449 w_450 w_451 w_12 w_452) rfl rfl rfl ⟨rfl, hd_J0_charAt_5068e⟩ ⟨Nat.le_of_ble_eq_true rfl, Nat.le_of_ble_eq_true rfl⟩) (mVk hK hZ hP hD hE hS hA [] rfl rfl [.int x12] hi_i) rfl rfl hl.1 rfl (lv_room (Nat.le_of_ble_eq_true rfl)) dX4_isWord_51 ⟨Nat.le_of_ble_eq_true rfl, Nat.le_of_ble_eq_true rfl⟩) (fun r30 u31 H locs hw32 hP hD hS => ?_)
            try dsimp only at hw32
            have hP : va_P G vwCl [(h0, oX4 b o_fault o_place o_kind o_start o_stop), (b 2, oX8 bt t_length), (bt 0, .inl (cB, 900, .inl t_f0))] H := hP
            have hD : va_D A [(h0, oX4 b o_fault o_place o_kind o_start o_stop), (b 2, oX8 bt t_length), (bt 0, .inl (cB, 900, .inl t_f0))] := hD
            have w33 : r30 = chS i x12.toNatClampNeg := hw32
            refine lv_icmp_eq (tgt := 59) hx hb dX4_isWord_54 (by decide) (fun c34 => ?_) (fun c34 => ?_)
            · have c34 := i_eq rfl rfl c34
              obtain ⟨v35, ev35⟩ : ∃ y : Int32, y = x12 + 1 := ⟨_, rfl⟩
              have tv35 : v35.toInt = x12.toInt + 1 := ti_add rfl ki_1 ev35 (by omega) (by omega)
              refine lv_iinc (v := v35) (lv' := [(2, .int v35), (0, .ref h0), (1, .ref (ad.1 i))]) hx hb dX4_isWord_59 hl (k := 0) rfl (by rw [ev35]; rfl) (by decide) rfl (fun ls hl => ?_)
              refine lv_goto (tgt := 28) hx hb dX4_isWord_62 (by decide) ?_
              exact ih15 v35 (by omega) (by omega) (by omega) _ _ hP hD hS ls (lv_sub hl [0, 1, 2] rfl)
            · have c34 := i_ne rfl rfl c34
              refine lv_iconst (v := 0) hx hb dX4_isWord_57 (by decide) ?_
              exact hret _ _ _ _ 0 () hP hD hS dX4_isWord_58 rfl (show 0 ≤ (0 : Int32).toInt ∧ (0 : Int32).toInt ≤ 1 from ⟨(by rw [ki_0]; decide), (by rw [ki_0]; decide)⟩)
      exact lp10 7 0 (by rw [ki_0]; decide) (by rw [ki_0]; decide) (by rw [ki_0]; decide) _ _ hP hD hS ls (lv_sub hl [0, 1, 2] rfl)
    · have c9 := i_ne rfl w8 c9
      refine lv_iconst (v := 0) hx hb dX4_isWord_24 (by decide) ?_
      exact hret _ _ _ _ 0 () hP hD hS dX4_isWord_25 rfl (show 0 ≤ (0 : Int32).toInt ∧ (0 : Int32).toInt ≤ 1 from ⟨(by rw [ki_0]; decide), (by rw [ki_0]; decide)⟩)
set_option maxHeartbeats 4000000 in
set_option maxRecDepth 100000 in
theorem f_X4_word (l : Launch) (G : va_G) (cI cJ cZ cB cQ : ClassId) (sz : Nat) (ad : AdS) (fm : Option Nat) (h0 : Nat) (i : Nat) (b : Nat → Nat) (o_fault : Int32) (o_place : Int32) (o_kind : Int32) (o_start : Int32) (o_stop : Int32) (bt : Nat → Nat) (t_length : Int32) (t_f0 : Nat → Int32) (hi_i : i < 34) (hl_t_length : 0 ≤ t_length.toInt) (hh_t_length : t_length.toInt ≤ 900) : CVs l yX4_word (wl_ yX4_word cX4_word 2 none) ({ frames := 5, cells := 0, slots := 0, locals := 107 } : Room) G (TY cI cJ cZ cB cQ) [.ref h0, .ref (ad.1 i)] [(h0, oX4 b o_fault o_place o_kind o_start o_stop), (b 2, oX8 bt t_length), (bt 0, .inl (cB, 900, .inl t_f0))] sz ad fm (fun (u : Int32 × Int32 × Int32 × Int32 × Int32) => True) (fun u : Int32 × Int32 × Int32 × Int32 × Int32 => [(h0, oX4 b u.1 u.2.1 u.2.2.1 u.2.2.2.1 u.2.2.2.2), (b 2, oX8 bt t_length), (bt 0, .inl (cB, 900, .inl t_f0))]) 0 0 := by
  refine CVs.go (cc := cX4_word) (maxL := 2) (ret := none) (by decide) rfl (Nat.le_of_ble_eq_true rfl) ?_
  intro p e s m below meth c A ls Q hBd hE hret
  obtain ⟨hx, hb, hr, hml, hts, hown, hlk, hnm, hP, hK, hD, hA, hZ, hl⟩ := hBd
  have hown : s.vm.findClass RX4 = some m.cls := hown
  have hl : lv_has ls 2 [(0, .ref h0), (1, .ref (ad.1 i))] := hl
  have hS : va_S A s.heap s.heap [] := va_S.rf
  refine lv_aload_n hx hb dX4_word_0 rfl (lv_at hl 0 rfl) ?_
  refine lv_aload_n hx hb dX4_word_1 rfl (lv_at hl 1 rfl) ?_
  refine k_i (wc := [(h0, oX4 b o_fault o_place o_kind o_start o_stop), (b 2, oX8 bt t_length), (bt 0, .inl (cB, 900, .inl t_f0))]) (wr := []) hP hD hS hA [0, 1, 2] [] rfl rfl rfl (by decide) (va_runV (As := [.ref (ad.1 i)]) (rest := []) ⟨hx, hb, hml, hown, hts⟩ (f_X4_isWord l G cI cJ cZ cB cQ _ ad fm h0 i b o_fault o_place o_kind o_start o_stop bt t_length t_f0 hi_i hl_t_length hh_t_length) (cwV 1 hts (gV w_435 w_437 wp_7 w_2 w_438) rfl rfl rfl ⟨rfl, hd_X4_isWord⟩ ⟨Nat.le_of_ble_eq_true rfl, Nat.le_of_ble_eq_true rfl⟩) (mVs hK hZ hP hD hE hS hA [0, 1, 2] rfl rfl [.ref (ad.1 i)] 0 4 rfl rfl) rfl rfl hl.1 rfl (lv_room (Nat.le_of_ble_eq_true rfl)) dX4_word_2 ⟨Nat.le_of_ble_eq_true rfl, Nat.le_of_ble_eq_true rfl⟩) (fun r1 u2 H locs hw3 hP hD hS => ?_)
  try dsimp only at hw3
  have hP : va_P G vwCl [(h0, oX4 b o_fault o_place o_kind o_start o_stop), (b 2, oX8 bt t_length), (bt 0, .inl (cB, 900, .inl t_f0))] H := hP
  have hD : va_D A [(h0, oX4 b o_fault o_place o_kind o_start o_stop), (b 2, oX8 bt t_length), (bt 0, .inl (cB, 900, .inl t_f0))] := hD
  obtain ⟨w4, w5⟩ : 0 ≤ r1.toInt ∧ r1.toInt ≤ 1 := hw3
  refine lv_if_ne (tgt := 17) hx hb dX4_word_5 (by decide) (fun c6 => ?_) (fun c6 => ?_)
  · have c6 := i_ne rfl ki_0 c6
    refine lv_aload_n hx hb dX4_word_17 rfl (lv_at hl 0 rfl) ?_
    refine va_get (D := G) (ci := 4) (v := .int o_fault) (C := RX4) (T := TX4) (N := 7) hx hb hts iG_X4 hown hK hP 0 rfl rfl 0 (by decide) (hts _ w_163) (fun _ h9 => h9) rfl dX4_word_18 ?_
    refine lv_if_ne (tgt := 28) hx hb dX4_word_21 (by decide) (fun c7 => ?_) (fun c7 => ?_)
    · have c7 := i_ne rfl ki_0 c7
      exact hret _ _ _ _ (o_fault, o_place, o_kind, o_start, o_stop) hP hD hS dX4_word_28 trivial
    · have c7 := i_eq rfl ki_0 c7
      refine lv_aload_n hx hb dX4_word_24 rfl (lv_at hl 0 rfl) ?_
      refine k_v (wc := [(h0, oX4 b o_fault o_place o_kind o_start o_stop), (b 2, oX8 bt t_length), (bt 0, .inl (cB, 900, .inl t_f0))]) (wr := []) hP hD hS hA [0, 1, 2] [] rfl rfl rfl (by decide) (va_runV (As := []) (rest := []) ⟨hx, hb, hml, hown, hts⟩ (f_X4_next l G cI cJ cZ cB cQ _ h0 b o_fault o_place o_kind o_start o_stop bt t_length t_f0 hl_t_length hh_t_length) (cwV 0 hts (gV w_409 w_411 wp_3 w_2 w_412) rfl rfl rfl ⟨rfl, hd_X4_next⟩ ⟨Nat.le_of_ble_eq_true rfl, Nat.le_of_ble_eq_true rfl⟩) (mV hK hZ hP hD [0, 1, 2] rfl rfl [] 0 4 rfl rfl) rfl rfl hl.1 rfl (lv_room (Nat.le_of_ble_eq_true rfl)) dX4_word_25 ⟨Nat.le_of_ble_eq_true rfl, Nat.le_of_ble_eq_true rfl⟩) (fun u9 H locs hw10 hP hD hS => ?_)
      obtain ⟨o_kindo11, o_starto12, o_stopo13⟩ := u9
      try dsimp only at hw10
      have hP : va_P G vwCl [(h0, oX4 b o_fault o_place o_kindo11 o_starto12 o_stopo13), (b 2, oX8 bt t_length), (bt 0, .inl (cB, 900, .inl t_f0))] H := hP
      have hD : va_D A [(h0, oX4 b o_fault o_place o_kindo11 o_starto12 o_stopo13), (b 2, oX8 bt t_length), (bt 0, .inl (cB, 900, .inl t_f0))] := hD
      exact hret _ _ _ _ (o_fault, o_place, o_kindo11, o_starto12, o_stopo13) hP hD hS dX4_word_28 trivial
  · have c6 := i_eq rfl ki_0 c6
    refine lv_aload_n hx hb dX4_word_8 rfl (lv_at hl 0 rfl) ?_
    refine lv_iconst (v := 1) hx hb dX4_word_9 (by decide) ?_
    refine lv_aload_n hx hb dX4_word_10 rfl (lv_at hl 0 rfl) ?_
    refine va_get (D := G) (ci := 4) (v := .int o_start) (C := RX4) (T := TX4) (N := 7) hx hb hts iG_X4 hown hK hP 0 rfl rfl 5 (by decide) (hts _ w_172) (fun _ h9 => h9) rfl dX4_word_11 ?_
    refine k_v (wc := [(h0, oX4 b o_fault o_place o_kind o_start o_stop)]) (wr := [(b 2, oX8 bt t_length), (bt 0, .inl (cB, 900, .inl t_f0))]) hP hD hS hA [0] [1, 2] rfl rfl rfl (by decide) (va_runV (As := [.int 1, .int o_start]) (rest := []) ⟨hx, hb, hml, hown, hts⟩ (f_X4_mark l G cI cJ cZ cB cQ _ h0 1 o_start b o_fault o_place o_kind o_start o_stop) (cwV 2 hts (gV w_487 w_489 wp_8 w_2 w_490) rfl rfl rfl ⟨rfl, hd_X4_mark⟩ ⟨Nat.le_of_ble_eq_true rfl, Nat.le_of_ble_eq_true rfl⟩) (mV hK hZ hP hD [0] rfl rfl [.int 1, .int o_start] 0 4 rfl rfl) rfl rfl hl.1 rfl (lv_room (Nat.le_of_ble_eq_true rfl)) dX4_word_14 ⟨Nat.le_of_ble_eq_true rfl, Nat.le_of_ble_eq_true rfl⟩) (fun u15 H locs hw16 hP hD hS => ?_)
    obtain ⟨o_faulto17, o_placeo18⟩ := u15
    try dsimp only at hw16
    have hP : va_P G vwCl [(b 2, oX8 bt t_length), (bt 0, .inl (cB, 900, .inl t_f0)), (h0, oX4 b o_faulto17 o_placeo18 o_kind o_start o_stop)] H := hP
    have hD : va_D A [(b 2, oX8 bt t_length), (bt 0, .inl (cB, 900, .inl t_f0)), (h0, oX4 b o_faulto17 o_placeo18 o_kind o_start o_stop)] := hD
    refine lv_aload_n hx hb dX4_word_17 rfl (lv_at hl 0 rfl) ?_
    refine va_get (D := G) (ci := 4) (v := .int o_faulto17) (C := RX4) (T := TX4) (N := 7) hx hb hts iG_X4 hown hK hP 2 rfl rfl 0 (by decide) (hts _ w_163) (fun _ h9 => h9) rfl dX4_word_18 ?_
    refine lv_if_ne (tgt := 28) hx hb dX4_word_21 (by decide) (fun c19 => ?_) (fun c19 => ?_)
    · have c19 := i_ne rfl ki_0 c19
      exact hret _ _ _ _ (o_faulto17, o_placeo18, o_kind, o_start, o_stop) (hP.sub (ws' := [(h0, oX4 b o_faulto17 o_placeo18 o_kind o_start o_stop), (b 2, oX8 bt t_length), (bt 0, .inl (cB, 900, .inl t_f0))]) [2, 0, 1] rfl) (hD.sub (ws' := [(h0, oX4 b o_faulto17 o_placeo18 o_kind o_start o_stop), (b 2, oX8 bt t_length), (bt 0, .inl (cB, 900, .inl t_f0))]) [2, 0, 1] rfl rfl) hS dX4_word_28 trivial
    · have c19 := i_eq rfl ki_0 c19
      refine lv_aload_n hx hb dX4_word_24 rfl (lv_at hl 0 rfl) ?_
      refine k_v (wc := [(h0, oX4 b o_faulto17 o_placeo18 o_kind o_start o_stop), (b 2, oX8 bt t_length), (bt 0, .inl (cB, 900, .inl t_f0))]) (wr := []) hP hD hS hA [2, 0, 1] [] rfl rfl rfl (by decide) (va_runV (As := []) (rest := []) ⟨hx, hb, hml, hown, hts⟩ (f_X4_next l G cI cJ cZ cB cQ _ h0 b o_faulto17 o_placeo18 o_kind o_start o_stop bt t_length t_f0 hl_t_length hh_t_length) (cwV 0 hts (gV w_409 w_411 wp_3 w_2 w_412) rfl rfl rfl ⟨rfl, hd_X4_next⟩ ⟨Nat.le_of_ble_eq_true rfl, Nat.le_of_ble_eq_true rfl⟩) (mV hK hZ hP hD [2, 0, 1] rfl rfl [] 2 4 rfl rfl) rfl rfl hl.1 rfl (lv_room (Nat.le_of_ble_eq_true rfl)) dX4_word_25 ⟨Nat.le_of_ble_eq_true rfl, Nat.le_of_ble_eq_true rfl⟩) (fun u21 H locs hw22 hP hD hS => ?_)
      obtain ⟨o_kindo23, o_starto24, o_stopo25⟩ := u21
      try dsimp only at hw22
      have hP : va_P G vwCl [(h0, oX4 b o_faulto17 o_placeo18 o_kindo23 o_starto24 o_stopo25), (b 2, oX8 bt t_length), (bt 0, .inl (cB, 900, .inl t_f0))] H := hP
      have hD : va_D A [(h0, oX4 b o_faulto17 o_placeo18 o_kindo23 o_starto24 o_stopo25), (b 2, oX8 bt t_length), (bt 0, .inl (cB, 900, .inl t_f0))] := hD
      exact hret _ _ _ _ (o_faulto17, o_placeo18, o_kindo23, o_starto24, o_stopo25) hP hD hS dX4_word_28 trivial
set_option maxHeartbeats 4000000 in
set_option maxRecDepth 100000 in
theorem f_X4_number (l : Launch) (G : va_G) (cI cJ cZ cB cQ : ClassId) (sz : Nat) (h0 : Nat) (p0 : Int32) (p1 : Int32) (a0 : Int) (a1 : Int) (b : Nat → Nat) (o_fault : Int32) (o_place : Int32) (o_kind : Int32) (o_start : Int32) (o_stop : Int32) (bt : Nat → Nat) (t_length : Int32) (t_f0 : Nat → Int32) (hp0 : p0.toInt = a0) (hp1 : p1.toInt = a1) (hl_t_length : 0 ≤ t_length.toInt) (hh_t_length : t_length.toInt ≤ 900) : CI l yX4_number (wl_ yX4_number cX4_number 5 (some .int)) ({ frames := 2, cells := 0, slots := 0, locals := 42 } : Room) G (TY cI cJ cZ cB cQ) [.ref h0, .int p0, .int p1] [(h0, oX4 b o_fault o_place o_kind o_start o_stop), (b 2, oX8 bt t_length), (bt 0, .inl (cB, 900, .inl t_f0))] sz (fun (r : Int32) (u : Int32 × Int32 × Int32 × Int32 × Int32) => (a0 ≤ r.toInt ∧ (r.toInt ≤ a1 ∨ r.toInt = a0))) (fun u : Int32 × Int32 × Int32 × Int32 × Int32 => [(h0, oX4 b u.1 u.2.1 u.2.2.1 u.2.2.2.1 u.2.2.2.2), (b 2, oX8 bt t_length), (bt 0, .inl (cB, 900, .inl t_f0))]) 0 0 := by
  refine CI.go (cc := cX4_number) (maxL := 5) (ret := (some .int)) (by decide) rfl (Nat.le_of_ble_eq_true rfl) ?_
  intro p e s m below meth c A ls Q hBd hret
  obtain ⟨hx, hb, hr, hml, hts, hown, hlk, hnm, hP, hK, hD, hA, hZ, hl⟩ := hBd
  have hown : s.vm.findClass RX4 = some m.cls := hown
  have hl : lv_has ls 5 [(0, .ref h0), (1, .int p0), (2, .int p1)] := hl
  have hS : va_S A s.heap s.heap [] := va_S.rf
  refine lv_aload_n hx hb dX4_number_0 rfl (lv_at hl 0 rfl) ?_
  refine va_get (D := G) (ci := 4) (v := .int o_kind) (C := RX4) (T := TX4) (N := 7) hx hb hts iG_X4 hown hK hP 0 rfl rfl 4 (by decide) (hts _ w_171) (fun _ h9 => h9) rfl dX4_number_1 ?_
  refine lv_iconst (v := 2) hx hb dX4_number_4 (by decide) ?_
  refine lv_icmp_eq (tgt := 17) hx hb dX4_number_5 (by decide) (fun c1 => ?_) (fun c1 => ?_)
  · have c1 := i_eq rfl ki_2 c1
    refine lv_aload_n hx hb dX4_number_17 rfl (lv_at hl 0 rfl) ?_
    refine va_get (D := G) (ci := 4) (v := .int o_fault) (C := RX4) (T := TX4) (N := 7) hx hb hts iG_X4 hown hK hP 0 rfl rfl 0 (by decide) (hts _ w_163) (fun _ h9 => h9) rfl dX4_number_18 ?_
    refine lv_if_eq (tgt := 26) hx hb dX4_number_21 (by decide) (fun c2 => ?_) (fun c2 => ?_)
    · have c2 := i_eq rfl ki_0 c2
      refine lv_iconst (v := 0) hx hb dX4_number_26 (by decide) ?_
      refine lv_istore_n (lv' := [(3, .int 0), (0, .ref h0), (1, .int p0), (2, .int p1)]) hx hb dX4_number_27 rfl hl (by decide) rfl (fun ls hl => ?_)
      refine lv_aload_n hx hb dX4_number_28 rfl (lv_at hl 1 rfl) ?_
      refine va_get (D := G) (ci := 4) (v := .int o_start) (C := RX4) (T := TX4) (N := 7) hx hb hts iG_X4 hown hK hP 0 rfl rfl 5 (by decide) (hts _ w_172) (fun _ h9 => h9) rfl dX4_number_29 ?_
      refine lv_istore (lv' := [(4, .int o_start), (3, .int 0), (0, .ref h0), (1, .int p0), (2, .int p1)]) hx hb dX4_number_32 hl (by decide) rfl (fun ls hl => ?_)
      have lp3 : ∀ (n4 : Nat) (x5 : Int32) (x6 : Int32), 2147483647 - x6.toInt < (n4 : Int) → ∀ (H : Heap) (locs : List Loc), va_P G vwCl [(h0, oX4 b o_fault o_place o_kind o_start o_stop), (b 2, oX8 bt t_length), (bt 0, .inl (cB, 900, .inl t_f0))] H → va_D A [(h0, oX4 b o_fault o_place o_kind o_start o_stop), (b 2, oX8 bt t_length), (bt 0, .inl (cB, 900, .inl t_f0))] → va_S A s.heap H locs → ∀ (ls : Array Slot), lv_has ls 5 [(4, .int x6), (3, .int x5), (0, .ref h0), (1, .int p0), (2, .int p1)] → W p l e ({ frames := 2, cells := 0, slots := 0, locals := 42 } : Room) s m ([.ref h0, .int p0, .int p1] : List Value).toArray below meth c H locs 0 0 Q (F0 m 34 ls []) := by
        intro n4
        induction n4 with
        | zero =>
          intro x5 x6 mm8
          exact absurd mm8 (by have q9 := fb_rng x6; omega)
        | succ n4 ih7 =>
          intro x5 x6 mm8 H locs hP hD hS ls hl
          refine lv_iload hx hb dX4_number_34 (lv_at hl 0 rfl) ?_
          refine lv_aload_n hx hb dX4_number_36 rfl (lv_at hl 2 rfl) ?_
          refine va_get (D := G) (ci := 4) (v := .int o_stop) (C := RX4) (T := TX4) (N := 7) hx hb hts iG_X4 hown hK hP 0 rfl rfl 6 (by decide) (hts _ w_173) (fun _ h9 => h9) rfl dX4_number_37 ?_
          refine lv_icmp_ge (tgt := 72) hx hb dX4_number_40 (by decide) (fun c9 => ?_) (fun c9 => ?_)
          · have c9 := i_le rfl rfl c9
            refine lv_iload_n hx hb dX4_number_72 rfl (lv_at hl 1 rfl) ?_
            refine lv_iload_n hx hb dX4_number_73 rfl (lv_at hl 3 rfl) ?_
            refine lv_icmp_lt (tgt := 82) hx hb dX4_number_74 (by decide) (fun c10 => ?_) (fun c10 => ?_)
            · have c10 := i_lt rfl hp0 c10
              refine lv_aload_n hx hb dX4_number_82 rfl (lv_at hl 2 rfl) ?_
              refine lv_iconst (v := 2) hx hb dX4_number_83 (by decide) ?_
              refine lv_aload_n hx hb dX4_number_84 rfl (lv_at hl 2 rfl) ?_
              refine va_get (D := G) (ci := 4) (v := .int o_start) (C := RX4) (T := TX4) (N := 7) hx hb hts iG_X4 hown hK hP 0 rfl rfl 5 (by decide) (hts _ w_172) (fun _ h9 => h9) rfl dX4_number_85 ?_
              refine k_v (wc := [(h0, oX4 b o_fault o_place o_kind o_start o_stop)]) (wr := [(b 2, oX8 bt t_length), (bt 0, .inl (cB, 900, .inl t_f0))]) hP hD hS hA [0] [1, 2] rfl rfl rfl (by decide) (va_runV (As := [.int 2, .int o_start]) (rest := []) ⟨hx, hb, hml, hown, hts⟩ (f_X4_mark l G cI cJ cZ cB cQ _ h0 2 o_start b o_fault o_place o_kind o_start o_stop) (cwV 2 hts (gV w_487 w_489 wp_8 w_2 w_490) rfl rfl rfl ⟨rfl, hd_X4_mark⟩ ⟨Nat.le_of_ble_eq_true rfl, Nat.le_of_ble_eq_true rfl⟩) (mV hK hZ hP hD [0] rfl rfl [.int 2, .int o_start] 0 4 rfl rfl) rfl rfl hl.1 rfl (lv_room (Nat.le_of_ble_eq_true rfl)) dX4_number_88 ⟨Nat.le_of_ble_eq_true rfl, Nat.le_of_ble_eq_true rfl⟩) (fun u12 H locs hw13 hP hD hS => ?_)
              obtain ⟨o_faulto14, o_placeo15⟩ := u12
              try dsimp only at hw13
              have hP : va_P G vwCl [(b 2, oX8 bt t_length), (bt 0, .inl (cB, 900, .inl t_f0)), (h0, oX4 b o_faulto14 o_placeo15 o_kind o_start o_stop)] H := hP
              have hD : va_D A [(b 2, oX8 bt t_length), (bt 0, .inl (cB, 900, .inl t_f0)), (h0, oX4 b o_faulto14 o_placeo15 o_kind o_start o_stop)] := hD
              refine lv_iload_n hx hb dX4_number_91 rfl (lv_at hl 3 rfl) ?_
              exact hret _ _ _ _ p0 (o_faulto14, o_placeo15, o_kind, o_start, o_stop) (hP.sub (ws' := [(h0, oX4 b o_faulto14 o_placeo15 o_kind o_start o_stop), (b 2, oX8 bt t_length), (bt 0, .inl (cB, 900, .inl t_f0))]) [2, 0, 1] rfl) (hD.sub (ws' := [(h0, oX4 b o_faulto14 o_placeo15 o_kind o_start o_stop), (b 2, oX8 bt t_length), (bt 0, .inl (cB, 900, .inl t_f0))]) [2, 0, 1] rfl rfl) hS dX4_number_92 (show (a0 ≤ p0.toInt ∧ (p0.toInt ≤ a1 ∨ p0.toInt = a0)) from (by omega))
            · have c10 := i_nlt rfl hp0 c10
              refine lv_iload_n hx hb dX4_number_77 rfl (lv_at hl 1 rfl) ?_
              refine lv_iload_n hx hb dX4_number_78 rfl (lv_at hl 4 rfl) ?_
              refine lv_icmp_le (tgt := 93) hx hb dX4_number_79 (by decide) (fun c16 => ?_) (fun c16 => ?_)
              · have c16 := i_le rfl hp1 c16
                refine lv_aload_n hx hb dX4_number_93 rfl (lv_at hl 2 rfl) ?_
                refine k_v (wc := [(h0, oX4 b o_fault o_place o_kind o_start o_stop), (b 2, oX8 bt t_length), (bt 0, .inl (cB, 900, .inl t_f0))]) (wr := []) hP hD hS hA [0, 1, 2] [] rfl rfl rfl (by decide) (va_runV (As := []) (rest := []) ⟨hx, hb, hml, hown, hts⟩ (f_X4_next l G cI cJ cZ cB cQ _ h0 b o_fault o_place o_kind o_start o_stop bt t_length t_f0 hl_t_length hh_t_length) (cwV 0 hts (gV w_409 w_411 wp_3 w_2 w_412) rfl rfl rfl ⟨rfl, hd_X4_next⟩ ⟨Nat.le_of_ble_eq_true rfl, Nat.le_of_ble_eq_true rfl⟩) (mV hK hZ hP hD [0, 1, 2] rfl rfl [] 0 4 rfl rfl) rfl rfl hl.1 rfl (lv_room (Nat.le_of_ble_eq_true rfl)) dX4_number_94 ⟨Nat.le_of_ble_eq_true rfl, Nat.le_of_ble_eq_true rfl⟩) (fun u18 H locs hw19 hP hD hS => ?_)
                obtain ⟨o_kindo20, o_starto21, o_stopo22⟩ := u18
                try dsimp only at hw19
                have hP : va_P G vwCl [(h0, oX4 b o_fault o_place o_kindo20 o_starto21 o_stopo22), (b 2, oX8 bt t_length), (bt 0, .inl (cB, 900, .inl t_f0))] H := hP
                have hD : va_D A [(h0, oX4 b o_fault o_place o_kindo20 o_starto21 o_stopo22), (b 2, oX8 bt t_length), (bt 0, .inl (cB, 900, .inl t_f0))] := hD
                refine lv_iload_n hx hb dX4_number_97 rfl (lv_at hl 1 rfl) ?_
                exact hret _ _ _ _ x5 (o_fault, o_place, o_kindo20, o_starto21, o_stopo22) hP hD hS dX4_number_98 (show (a0 ≤ x5.toInt ∧ (x5.toInt ≤ a1 ∨ x5.toInt = a0)) from (by omega))
              · have c16 := i_nle rfl hp1 c16
                refine lv_aload_n hx hb dX4_number_82 rfl (lv_at hl 2 rfl) ?_
                refine lv_iconst (v := 2) hx hb dX4_number_83 (by decide) ?_
                refine lv_aload_n hx hb dX4_number_84 rfl (lv_at hl 2 rfl) ?_
                refine va_get (D := G) (ci := 4) (v := .int o_start) (C := RX4) (T := TX4) (N := 7) hx hb hts iG_X4 hown hK hP 0 rfl rfl 5 (by decide) (hts _ w_172) (fun _ h9 => h9) rfl dX4_number_85 ?_
                refine k_v (wc := [(h0, oX4 b o_fault o_place o_kind o_start o_stop)]) (wr := [(b 2, oX8 bt t_length), (bt 0, .inl (cB, 900, .inl t_f0))]) hP hD hS hA [0] [1, 2] rfl rfl rfl (by decide) (va_runV (As := [.int 2, .int o_start]) (rest := []) ⟨hx, hb, hml, hown, hts⟩ (f_X4_mark l G cI cJ cZ cB cQ _ h0 2 o_start b o_fault o_place o_kind o_start o_stop) (cwV 2 hts (gV w_487 w_489 wp_8 w_2 w_490) rfl rfl rfl ⟨rfl, hd_X4_mark⟩ ⟨Nat.le_of_ble_eq_true rfl, Nat.le_of_ble_eq_true rfl⟩) (mV hK hZ hP hD [0] rfl rfl [.int 2, .int o_start] 0 4 rfl rfl) rfl rfl hl.1 rfl (lv_room (Nat.le_of_ble_eq_true rfl)) dX4_number_88 ⟨Nat.le_of_ble_eq_true rfl, Nat.le_of_ble_eq_true rfl⟩) (fun u24 H locs hw25 hP hD hS => ?_)
                obtain ⟨o_faulto26, o_placeo27⟩ := u24
                try dsimp only at hw25
                have hP : va_P G vwCl [(b 2, oX8 bt t_length), (bt 0, .inl (cB, 900, .inl t_f0)), (h0, oX4 b o_faulto26 o_placeo27 o_kind o_start o_stop)] H := hP
                have hD : va_D A [(b 2, oX8 bt t_length), (bt 0, .inl (cB, 900, .inl t_f0)), (h0, oX4 b o_faulto26 o_placeo27 o_kind o_start o_stop)] := hD
                refine lv_iload_n hx hb dX4_number_91 rfl (lv_at hl 3 rfl) ?_
                exact hret _ _ _ _ p0 (o_faulto26, o_placeo27, o_kind, o_start, o_stop) (hP.sub (ws' := [(h0, oX4 b o_faulto26 o_placeo27 o_kind o_start o_stop), (b 2, oX8 bt t_length), (bt 0, .inl (cB, 900, .inl t_f0))]) [2, 0, 1] rfl) (hD.sub (ws' := [(h0, oX4 b o_faulto26 o_placeo27 o_kind o_start o_stop), (b 2, oX8 bt t_length), (bt 0, .inl (cB, 900, .inl t_f0))]) [2, 0, 1] rfl rfl) hS dX4_number_92 (show (a0 ≤ p0.toInt ∧ (p0.toInt ≤ a1 ∨ p0.toInt = a0)) from (by omega))
          · have c9 := i_nle rfl rfl c9
            refine lv_bipush (v := 10) hx hb dX4_number_43 (by decide) ?_
            refine lv_iload_n hx hb dX4_number_45 rfl (lv_at hl 1 rfl) ?_
            refine lv_imul hx hb dX4_number_46 ?_
            refine lv_topi (fun v28 ev28 => ?_)
            refine lv_aload_n hx hb dX4_number_47 rfl (lv_at hl 2 rfl) ?_
            refine va_get (D := G) (ci := 4) (v := .ref (b 2)) (C := RX4) (T := TX4) (N := 7) hx hb hts iG_X4 hown hK hP 0 rfl rfl 2 (by decide) (hts _ w_167) (fun _ h9 => h9) rfl dX4_number_48 ?_
            refine lv_iload hx hb dX4_number_51 (lv_at hl 0 rfl) ?_
            refine k_i (wc := [(b 2, oX8 bt t_length), (bt 0, .inl (cB, 900, .inl t_f0))]) (wr := [(h0, oX4 b o_fault o_place o_kind o_start o_stop)]) hP hD hS hA [1, 2] [0] rfl rfl rfl (by decide) (va_runVN (As := [.int x6]) (rest := [.int v28]) ⟨hx, hb, hml, hown, hts⟩ (f_X8_byteAt l G cI cJ cZ cB cQ _ (b 2) x6 bt t_length t_f0 hl_t_length hh_t_length) ⟨va_cnB (host := "WidowRoads") 1 hts (gW w_416) rfl rfl rfl (nz_nw hZ nw_413 rfl) (hts _ w_3) hd_X8_byteAt ⟨Nat.le_of_ble_eq_true rfl, Nat.le_of_ble_eq_true rfl⟩, (hts _ w_415), (hts _ wp_4)⟩ (mV hK hZ hP hD [1, 2] rfl rfl [.int x6] 1 8 rfl rfl) rfl rfl hl.1 rfl (lv_room (Nat.le_of_ble_eq_true rfl)) dX4_number_53 ⟨Nat.le_of_ble_eq_true rfl, Nat.le_of_ble_eq_true rfl⟩) (fun r29 u30 H locs hw31 hP hD hS => ?_)
            try dsimp only at hw31
            have hP : va_P G vwCl [(h0, oX4 b o_fault o_place o_kind o_start o_stop), (b 2, oX8 bt t_length), (bt 0, .inl (cB, 900, .inl t_f0))] H := hP
            have hD : va_D A [(h0, oX4 b o_fault o_place o_kind o_start o_stop), (b 2, oX8 bt t_length), (bt 0, .inl (cB, 900, .inl t_f0))] := hD
            obtain ⟨w32, w33⟩ : (-1) ≤ r29.toInt ∧ r29.toInt ≤ 255 := hw31
            refine lv_iadd hx hb dX4_number_56 ?_
            refine lv_topi (fun v34 ev34 => ?_)
            refine lv_bipush (v := 48) hx hb dX4_number_57 (by decide) ?_
            refine lv_isub hx hb dX4_number_59 ?_
            refine lv_topi (fun v35 ev35 => ?_)
            refine lv_ldc (v := 1000000) hx hb hown (hts _ w_500) dX4_number_60 ?_
            refine va_mmin hx hb (by rw [hml]; exact hl.1.symm) hown (hts _ w_501) (hts _ w_502) (hts _ w_16) (hts _ w_503) (Nat.le_of_ble_eq_true rfl) (Nat.le_of_ble_eq_true rfl) (Nat.le_of_ble_eq_true rfl) (Nat.le_of_ble_eq_true rfl) dX4_number_62 ?_
            refine lv_topi (fun v36 ev36 => ?_)
            refine lv_istore_n (lv' := [(3, .int v36), (4, .int x6), (0, .ref h0), (1, .int p0), (2, .int p1)]) hx hb dX4_number_65 rfl hl (by decide) rfl (fun ls hl => ?_)
            obtain ⟨v37, ev37⟩ : ∃ y : Int32, y = x6 + 1 := ⟨_, rfl⟩
            have tv37 : v37.toInt = x6.toInt + 1 := ti_add rfl ki_1 ev37 (by have q0 := fb_rng x6; have q1 := fb_rng o_kind; have q2 := fb_rng o_fault; have q3 := fb_rng o_stop; omega) (by have q0 := fb_rng x6; have q1 := fb_rng o_kind; have q2 := fb_rng o_fault; have q3 := fb_rng o_stop; omega)
            refine lv_iinc (v := v37) (lv' := [(4, .int v37), (3, .int v36), (0, .ref h0), (1, .int p0), (2, .int p1)]) hx hb dX4_number_66 hl (k := 1) rfl (by rw [ev37]; rfl) (by decide) rfl (fun ls hl => ?_)
            refine lv_goto (tgt := 34) hx hb dX4_number_69 (by decide) ?_
            exact ih7 v36 v37 (by omega) _ _ hP hD hS ls (lv_sub hl [0, 1, 2, 3, 4] rfl)
      exact lp3 4294967296 0 o_start (by have q9 := fb_rng o_start; omega) _ _ hP hD hS ls (lv_sub hl [0, 1, 2, 3, 4] rfl)
    · have c2 := i_ne rfl ki_0 c2
      refine lv_iload_n hx hb dX4_number_24 rfl (lv_at hl 1 rfl) ?_
      exact hret _ _ _ _ p0 (o_fault, o_place, o_kind, o_start, o_stop) hP hD hS dX4_number_25 (show (a0 ≤ p0.toInt ∧ (p0.toInt ≤ a1 ∨ p0.toInt = a0)) from (by omega))
  · have c1 := i_ne rfl ki_2 c1
    refine lv_aload_n hx hb dX4_number_8 rfl (lv_at hl 0 rfl) ?_
    refine lv_iconst (v := 1) hx hb dX4_number_9 (by decide) ?_
    refine lv_aload_n hx hb dX4_number_10 rfl (lv_at hl 0 rfl) ?_
    refine va_get (D := G) (ci := 4) (v := .int o_start) (C := RX4) (T := TX4) (N := 7) hx hb hts iG_X4 hown hK hP 0 rfl rfl 5 (by decide) (hts _ w_172) (fun _ h9 => h9) rfl dX4_number_11 ?_
    refine k_v (wc := [(h0, oX4 b o_fault o_place o_kind o_start o_stop)]) (wr := [(b 2, oX8 bt t_length), (bt 0, .inl (cB, 900, .inl t_f0))]) hP hD hS hA [0] [1, 2] rfl rfl rfl (by decide) (va_runV (As := [.int 1, .int o_start]) (rest := []) ⟨hx, hb, hml, hown, hts⟩ (f_X4_mark l G cI cJ cZ cB cQ _ h0 1 o_start b o_fault o_place o_kind o_start o_stop) (cwV 2 hts (gV w_487 w_489 wp_8 w_2 w_490) rfl rfl rfl ⟨rfl, hd_X4_mark⟩ ⟨Nat.le_of_ble_eq_true rfl, Nat.le_of_ble_eq_true rfl⟩) (mV hK hZ hP hD [0] rfl rfl [.int 1, .int o_start] 0 4 rfl rfl) rfl rfl hl.1 rfl (lv_room (Nat.le_of_ble_eq_true rfl)) dX4_number_14 ⟨Nat.le_of_ble_eq_true rfl, Nat.le_of_ble_eq_true rfl⟩) (fun u39 H locs hw40 hP hD hS => ?_)
    obtain ⟨o_faulto41, o_placeo42⟩ := u39
    try dsimp only at hw40
    have hP : va_P G vwCl [(b 2, oX8 bt t_length), (bt 0, .inl (cB, 900, .inl t_f0)), (h0, oX4 b o_faulto41 o_placeo42 o_kind o_start o_stop)] H := hP
    have hD : va_D A [(b 2, oX8 bt t_length), (bt 0, .inl (cB, 900, .inl t_f0)), (h0, oX4 b o_faulto41 o_placeo42 o_kind o_start o_stop)] := hD
    refine lv_aload_n hx hb dX4_number_17 rfl (lv_at hl 0 rfl) ?_
    refine va_get (D := G) (ci := 4) (v := .int o_faulto41) (C := RX4) (T := TX4) (N := 7) hx hb hts iG_X4 hown hK hP 2 rfl rfl 0 (by decide) (hts _ w_163) (fun _ h9 => h9) rfl dX4_number_18 ?_
    refine lv_if_eq (tgt := 26) hx hb dX4_number_21 (by decide) (fun c43 => ?_) (fun c43 => ?_)
    · have c43 := i_eq rfl ki_0 c43
      refine lv_iconst (v := 0) hx hb dX4_number_26 (by decide) ?_
      refine lv_istore_n (lv' := [(3, .int 0), (0, .ref h0), (1, .int p0), (2, .int p1)]) hx hb dX4_number_27 rfl hl (by decide) rfl (fun ls hl => ?_)
      refine lv_aload_n hx hb dX4_number_28 rfl (lv_at hl 1 rfl) ?_
      refine va_get (D := G) (ci := 4) (v := .int o_start) (C := RX4) (T := TX4) (N := 7) hx hb hts iG_X4 hown hK hP 2 rfl rfl 5 (by decide) (hts _ w_172) (fun _ h9 => h9) rfl dX4_number_29 ?_
      refine lv_istore (lv' := [(4, .int o_start), (3, .int 0), (0, .ref h0), (1, .int p0), (2, .int p1)]) hx hb dX4_number_32 hl (by decide) rfl (fun ls hl => ?_)
      have lp44 : ∀ (n45 : Nat) (x46 : Int32) (x47 : Int32), 2147483647 - x47.toInt < (n45 : Int) → ∀ (H : Heap) (locs : List Loc), va_P G vwCl [(b 2, oX8 bt t_length), (bt 0, .inl (cB, 900, .inl t_f0)), (h0, oX4 b o_faulto41 o_placeo42 o_kind o_start o_stop)] H → va_D A [(b 2, oX8 bt t_length), (bt 0, .inl (cB, 900, .inl t_f0)), (h0, oX4 b o_faulto41 o_placeo42 o_kind o_start o_stop)] → va_S A s.heap H locs → ∀ (ls : Array Slot), lv_has ls 5 [(4, .int x47), (3, .int x46), (0, .ref h0), (1, .int p0), (2, .int p1)] → W p l e ({ frames := 2, cells := 0, slots := 0, locals := 42 } : Room) s m ([.ref h0, .int p0, .int p1] : List Value).toArray below meth c H locs 0 0 Q (F0 m 34 ls []) := by
        intro n45
        induction n45 with
        | zero =>
          intro x46 x47 mm49
          exact absurd mm49 (by have q9 := fb_rng x47; omega)
        | succ n45 ih48 =>
          intro x46 x47 mm49 H locs hP hD hS ls hl
          refine lv_iload hx hb dX4_number_34 (lv_at hl 0 rfl) ?_
          refine lv_aload_n hx hb dX4_number_36 rfl (lv_at hl 2 rfl) ?_
          refine va_get (D := G) (ci := 4) (v := .int o_stop) (C := RX4) (T := TX4) (N := 7) hx hb hts iG_X4 hown hK hP 2 rfl rfl 6 (by decide) (hts _ w_173) (fun _ h9 => h9) rfl dX4_number_37 ?_
          refine lv_icmp_ge (tgt := 72) hx hb dX4_number_40 (by decide) (fun c50 => ?_) (fun c50 => ?_)
          · have c50 := i_le rfl rfl c50
            refine lv_iload_n hx hb dX4_number_72 rfl (lv_at hl 1 rfl) ?_
            refine lv_iload_n hx hb dX4_number_73 rfl (lv_at hl 3 rfl) ?_
            refine lv_icmp_lt (tgt := 82) hx hb dX4_number_74 (by decide) (fun c51 => ?_) (fun c51 => ?_)
            · have c51 := i_lt rfl hp0 c51
              refine lv_aload_n hx hb dX4_number_82 rfl (lv_at hl 2 rfl) ?_
              refine lv_iconst (v := 2) hx hb dX4_number_83 (by decide) ?_
              refine lv_aload_n hx hb dX4_number_84 rfl (lv_at hl 2 rfl) ?_
              refine va_get (D := G) (ci := 4) (v := .int o_start) (C := RX4) (T := TX4) (N := 7) hx hb hts iG_X4 hown hK hP 2 rfl rfl 5 (by decide) (hts _ w_172) (fun _ h9 => h9) rfl dX4_number_85 ?_
              refine k_v (wc := [(h0, oX4 b o_faulto41 o_placeo42 o_kind o_start o_stop)]) (wr := [(b 2, oX8 bt t_length), (bt 0, .inl (cB, 900, .inl t_f0))]) hP hD hS hA [2] [0, 1] rfl rfl rfl (by decide) (va_runV (As := [.int 2, .int o_start]) (rest := []) ⟨hx, hb, hml, hown, hts⟩ (f_X4_mark l G cI cJ cZ cB cQ _ h0 2 o_start b o_faulto41 o_placeo42 o_kind o_start o_stop) (cwV 2 hts (gV w_487 w_489 wp_8 w_2 w_490) rfl rfl rfl ⟨rfl, hd_X4_mark⟩ ⟨Nat.le_of_ble_eq_true rfl, Nat.le_of_ble_eq_true rfl⟩) (mV hK hZ hP hD [2] rfl rfl [.int 2, .int o_start] 2 4 rfl rfl) rfl rfl hl.1 rfl (lv_room (Nat.le_of_ble_eq_true rfl)) dX4_number_88 ⟨Nat.le_of_ble_eq_true rfl, Nat.le_of_ble_eq_true rfl⟩) (fun u53 H locs hw54 hP hD hS => ?_)
              obtain ⟨o_faulto55, o_placeo56⟩ := u53
              try dsimp only at hw54
              have hP : va_P G vwCl [(b 2, oX8 bt t_length), (bt 0, .inl (cB, 900, .inl t_f0)), (h0, oX4 b o_faulto55 o_placeo56 o_kind o_start o_stop)] H := hP
              have hD : va_D A [(b 2, oX8 bt t_length), (bt 0, .inl (cB, 900, .inl t_f0)), (h0, oX4 b o_faulto55 o_placeo56 o_kind o_start o_stop)] := hD
              refine lv_iload_n hx hb dX4_number_91 rfl (lv_at hl 3 rfl) ?_
              exact hret _ _ _ _ p0 (o_faulto55, o_placeo56, o_kind, o_start, o_stop) (hP.sub (ws' := [(h0, oX4 b o_faulto55 o_placeo56 o_kind o_start o_stop), (b 2, oX8 bt t_length), (bt 0, .inl (cB, 900, .inl t_f0))]) [2, 0, 1] rfl) (hD.sub (ws' := [(h0, oX4 b o_faulto55 o_placeo56 o_kind o_start o_stop), (b 2, oX8 bt t_length), (bt 0, .inl (cB, 900, .inl t_f0))]) [2, 0, 1] rfl rfl) hS dX4_number_92 (show (a0 ≤ p0.toInt ∧ (p0.toInt ≤ a1 ∨ p0.toInt = a0)) from (by omega))
            · have c51 := i_nlt rfl hp0 c51
              refine lv_iload_n hx hb dX4_number_77 rfl (lv_at hl 1 rfl) ?_
              refine lv_iload_n hx hb dX4_number_78 rfl (lv_at hl 4 rfl) ?_
              refine lv_icmp_le (tgt := 93) hx hb dX4_number_79 (by decide) (fun c57 => ?_) (fun c57 => ?_)
              · have c57 := i_le rfl hp1 c57
                refine lv_aload_n hx hb dX4_number_93 rfl (lv_at hl 2 rfl) ?_
                refine k_v (wc := [(h0, oX4 b o_faulto41 o_placeo42 o_kind o_start o_stop), (b 2, oX8 bt t_length), (bt 0, .inl (cB, 900, .inl t_f0))]) (wr := []) hP hD hS hA [2, 0, 1] [] rfl rfl rfl (by decide) (va_runV (As := []) (rest := []) ⟨hx, hb, hml, hown, hts⟩ (f_X4_next l G cI cJ cZ cB cQ _ h0 b o_faulto41 o_placeo42 o_kind o_start o_stop bt t_length t_f0 hl_t_length hh_t_length) (cwV 0 hts (gV w_409 w_411 wp_3 w_2 w_412) rfl rfl rfl ⟨rfl, hd_X4_next⟩ ⟨Nat.le_of_ble_eq_true rfl, Nat.le_of_ble_eq_true rfl⟩) (mV hK hZ hP hD [2, 0, 1] rfl rfl [] 2 4 rfl rfl) rfl rfl hl.1 rfl (lv_room (Nat.le_of_ble_eq_true rfl)) dX4_number_94 ⟨Nat.le_of_ble_eq_true rfl, Nat.le_of_ble_eq_true rfl⟩) (fun u59 H locs hw60 hP hD hS => ?_)
                obtain ⟨o_kindo61, o_starto62, o_stopo63⟩ := u59
                try dsimp only at hw60
                have hP : va_P G vwCl [(h0, oX4 b o_faulto41 o_placeo42 o_kindo61 o_starto62 o_stopo63), (b 2, oX8 bt t_length), (bt 0, .inl (cB, 900, .inl t_f0))] H := hP
                have hD : va_D A [(h0, oX4 b o_faulto41 o_placeo42 o_kindo61 o_starto62 o_stopo63), (b 2, oX8 bt t_length), (bt 0, .inl (cB, 900, .inl t_f0))] := hD
                refine lv_iload_n hx hb dX4_number_97 rfl (lv_at hl 1 rfl) ?_
                exact hret _ _ _ _ x46 (o_faulto41, o_placeo42, o_kindo61, o_starto62, o_stopo63) hP hD hS dX4_number_98 (show (a0 ≤ x46.toInt ∧ (x46.toInt ≤ a1 ∨ x46.toInt = a0)) from (by omega))
              · have c57 := i_nle rfl hp1 c57
                refine lv_aload_n hx hb dX4_number_82 rfl (lv_at hl 2 rfl) ?_
                refine lv_iconst (v := 2) hx hb dX4_number_83 (by decide) ?_
                refine lv_aload_n hx hb dX4_number_84 rfl (lv_at hl 2 rfl) ?_
                refine va_get (D := G) (ci := 4) (v := .int o_start) (C := RX4) (T := TX4) (N := 7) hx hb hts iG_X4 hown hK hP 2 rfl rfl 5 (by decide) (hts _ w_172) (fun _ h9 => h9) rfl dX4_number_85 ?_
                refine k_v (wc := [(h0, oX4 b o_faulto41 o_placeo42 o_kind o_start o_stop)]) (wr := [(b 2, oX8 bt t_length), (bt 0, .inl (cB, 900, .inl t_f0))]) hP hD hS hA [2] [0, 1] rfl rfl rfl (by decide) (va_runV (As := [.int 2, .int o_start]) (rest := []) ⟨hx, hb, hml, hown, hts⟩ (f_X4_mark l G cI cJ cZ cB cQ _ h0 2 o_start b o_faulto41 o_placeo42 o_kind o_start o_stop) (cwV 2 hts (gV w_487 w_489 wp_8 w_2 w_490) rfl rfl rfl ⟨rfl, hd_X4_mark⟩ ⟨Nat.le_of_ble_eq_true rfl, Nat.le_of_ble_eq_true rfl⟩) (mV hK hZ hP hD [2] rfl rfl [.int 2, .int o_start] 2 4 rfl rfl) rfl rfl hl.1 rfl (lv_room (Nat.le_of_ble_eq_true rfl)) dX4_number_88 ⟨Nat.le_of_ble_eq_true rfl, Nat.le_of_ble_eq_true rfl⟩) (fun u65 H locs hw66 hP hD hS => ?_)
                obtain ⟨o_faulto67, o_placeo68⟩ := u65
                try dsimp only at hw66
                have hP : va_P G vwCl [(b 2, oX8 bt t_length), (bt 0, .inl (cB, 900, .inl t_f0)), (h0, oX4 b o_faulto67 o_placeo68 o_kind o_start o_stop)] H := hP
                have hD : va_D A [(b 2, oX8 bt t_length), (bt 0, .inl (cB, 900, .inl t_f0)), (h0, oX4 b o_faulto67 o_placeo68 o_kind o_start o_stop)] := hD
                refine lv_iload_n hx hb dX4_number_91 rfl (lv_at hl 3 rfl) ?_
                exact hret _ _ _ _ p0 (o_faulto67, o_placeo68, o_kind, o_start, o_stop) (hP.sub (ws' := [(h0, oX4 b o_faulto67 o_placeo68 o_kind o_start o_stop), (b 2, oX8 bt t_length), (bt 0, .inl (cB, 900, .inl t_f0))]) [2, 0, 1] rfl) (hD.sub (ws' := [(h0, oX4 b o_faulto67 o_placeo68 o_kind o_start o_stop), (b 2, oX8 bt t_length), (bt 0, .inl (cB, 900, .inl t_f0))]) [2, 0, 1] rfl rfl) hS dX4_number_92 (show (a0 ≤ p0.toInt ∧ (p0.toInt ≤ a1 ∨ p0.toInt = a0)) from (by omega))
          · have c50 := i_nle rfl rfl c50
            refine lv_bipush (v := 10) hx hb dX4_number_43 (by decide) ?_
            refine lv_iload_n hx hb dX4_number_45 rfl (lv_at hl 1 rfl) ?_
            refine lv_imul hx hb dX4_number_46 ?_
            refine lv_topi (fun v69 ev69 => ?_)
            refine lv_aload_n hx hb dX4_number_47 rfl (lv_at hl 2 rfl) ?_
            refine va_get (D := G) (ci := 4) (v := .ref (b 2)) (C := RX4) (T := TX4) (N := 7) hx hb hts iG_X4 hown hK hP 2 rfl rfl 2 (by decide) (hts _ w_167) (fun _ h9 => h9) rfl dX4_number_48 ?_
            refine lv_iload hx hb dX4_number_51 (lv_at hl 0 rfl) ?_
            refine k_i (wc := [(b 2, oX8 bt t_length), (bt 0, .inl (cB, 900, .inl t_f0))]) (wr := [(h0, oX4 b o_faulto41 o_placeo42 o_kind o_start o_stop)]) hP hD hS hA [0, 1] [2] rfl rfl rfl (by decide) (va_runVN (As := [.int x47]) (rest := [.int v69]) ⟨hx, hb, hml, hown, hts⟩ (f_X8_byteAt l G cI cJ cZ cB cQ _ (b 2) x47 bt t_length t_f0 hl_t_length hh_t_length) ⟨va_cnB (host := "WidowRoads") 1 hts (gW w_416) rfl rfl rfl (nz_nw hZ nw_413 rfl) (hts _ w_3) hd_X8_byteAt ⟨Nat.le_of_ble_eq_true rfl, Nat.le_of_ble_eq_true rfl⟩, (hts _ w_415), (hts _ wp_4)⟩ (mV hK hZ hP hD [0, 1] rfl rfl [.int x47] 0 8 rfl rfl) rfl rfl hl.1 rfl (lv_room (Nat.le_of_ble_eq_true rfl)) dX4_number_53 ⟨Nat.le_of_ble_eq_true rfl, Nat.le_of_ble_eq_true rfl⟩) (fun r70 u71 H locs hw72 hP hD hS => ?_)
            try dsimp only at hw72
            have hP : va_P G vwCl [(h0, oX4 b o_faulto41 o_placeo42 o_kind o_start o_stop), (b 2, oX8 bt t_length), (bt 0, .inl (cB, 900, .inl t_f0))] H := hP
            have hD : va_D A [(h0, oX4 b o_faulto41 o_placeo42 o_kind o_start o_stop), (b 2, oX8 bt t_length), (bt 0, .inl (cB, 900, .inl t_f0))] := hD
            obtain ⟨w73, w74⟩ : (-1) ≤ r70.toInt ∧ r70.toInt ≤ 255 := hw72
            refine lv_iadd hx hb dX4_number_56 ?_
            refine lv_topi (fun v75 ev75 => ?_)
            refine lv_bipush (v := 48) hx hb dX4_number_57 (by decide) ?_
            refine lv_isub hx hb dX4_number_59 ?_
            refine lv_topi (fun v76 ev76 => ?_)
            refine lv_ldc (v := 1000000) hx hb hown (hts _ w_500) dX4_number_60 ?_
            refine va_mmin hx hb (by rw [hml]; exact hl.1.symm) hown (hts _ w_501) (hts _ w_502) (hts _ w_16) (hts _ w_503) (Nat.le_of_ble_eq_true rfl) (Nat.le_of_ble_eq_true rfl) (Nat.le_of_ble_eq_true rfl) (Nat.le_of_ble_eq_true rfl) dX4_number_62 ?_
            refine lv_topi (fun v77 ev77 => ?_)
            refine lv_istore_n (lv' := [(3, .int v77), (4, .int x47), (0, .ref h0), (1, .int p0), (2, .int p1)]) hx hb dX4_number_65 rfl hl (by decide) rfl (fun ls hl => ?_)
            obtain ⟨v78, ev78⟩ : ∃ y : Int32, y = x47 + 1 := ⟨_, rfl⟩
            have tv78 : v78.toInt = x47.toInt + 1 := ti_add rfl ki_1 ev78 (by have q0 := fb_rng x47; have q1 := fb_rng o_kind; have q2 := fb_rng o_faulto41; have q3 := fb_rng o_stop; omega) (by have q0 := fb_rng x47; have q1 := fb_rng o_kind; have q2 := fb_rng o_faulto41; have q3 := fb_rng o_stop; omega)
            refine lv_iinc (v := v78) (lv' := [(4, .int v78), (3, .int v77), (0, .ref h0), (1, .int p0), (2, .int p1)]) hx hb dX4_number_66 hl (k := 1) rfl (by rw [ev78]; rfl) (by decide) rfl (fun ls hl => ?_)
            refine lv_goto (tgt := 34) hx hb dX4_number_69 (by decide) ?_
            exact ih48 v77 v78 (by omega) _ _ (hP.sub [1, 2, 0] rfl) (hD.sub [1, 2, 0] rfl rfl) hS ls (lv_sub hl [0, 1, 2, 3, 4] rfl)
      exact lp44 4294967296 0 o_start (by have q9 := fb_rng o_start; omega) _ _ hP hD hS ls (lv_sub hl [0, 1, 2, 3, 4] rfl)
    · have c43 := i_ne rfl ki_0 c43
      refine lv_iload_n hx hb dX4_number_24 rfl (lv_at hl 1 rfl) ?_
      exact hret _ _ _ _ p0 (o_faulto41, o_placeo42, o_kind, o_start, o_stop) (hP.sub (ws' := [(h0, oX4 b o_faulto41 o_placeo42 o_kind o_start o_stop), (b 2, oX8 bt t_length), (bt 0, .inl (cB, 900, .inl t_f0))]) [2, 0, 1] rfl) (hD.sub (ws' := [(h0, oX4 b o_faulto41 o_placeo42 o_kind o_start o_stop), (b 2, oX8 bt t_length), (bt 0, .inl (cB, 900, .inl t_f0))]) [2, 0, 1] rfl rfl) hS dX4_number_25 (show (a0 ≤ p0.toInt ∧ (p0.toInt ≤ a1 ∨ p0.toInt = a0)) from (by omega))
set_option maxHeartbeats 4000000 in
set_option maxRecDepth 100000 in
theorem f_X4_wordAndNumber (l : Launch) (G : va_G) (cI cJ cZ cB cQ : ClassId) (sz : Nat) (ad : AdS) (fm : Option Nat) (h0 : Nat) (i : Nat) (p0 : Int32) (p1 : Int32) (a0 : Int) (a1 : Int) (b : Nat → Nat) (o_fault : Int32) (o_place : Int32) (o_kind : Int32) (o_start : Int32) (o_stop : Int32) (bt : Nat → Nat) (t_length : Int32) (t_f0 : Nat → Int32) (hi_i : i < 34) (hp0 : p0.toInt = a0) (hp1 : p1.toInt = a1) (hl_t_length : 0 ≤ t_length.toInt) (hh_t_length : t_length.toInt ≤ 900) : CIs l yX4_wordAndNumber (wl_ yX4_wordAndNumber cX4_wordAndNumber 4 (some .int)) ({ frames := 6, cells := 0, slots := 0, locals := 128 } : Room) G (TY cI cJ cZ cB cQ) [.ref h0, .ref (ad.1 i), .int p0, .int p1] [(h0, oX4 b o_fault o_place o_kind o_start o_stop), (b 2, oX8 bt t_length), (bt 0, .inl (cB, 900, .inl t_f0))] sz ad fm (fun (r : Int32) (u : Int32 × Int32 × Int32 × Int32 × Int32) => (a0 ≤ r.toInt ∧ (r.toInt ≤ a1 ∨ r.toInt = a0))) (fun u : Int32 × Int32 × Int32 × Int32 × Int32 => [(h0, oX4 b u.1 u.2.1 u.2.2.1 u.2.2.2.1 u.2.2.2.2), (b 2, oX8 bt t_length), (bt 0, .inl (cB, 900, .inl t_f0))]) 0 0 := by
  refine CIs.go (cc := cX4_wordAndNumber) (maxL := 4) (ret := (some .int)) (by decide) rfl (Nat.le_of_ble_eq_true rfl) ?_
  intro p e s m below meth c A ls Q hBd hE hret
  obtain ⟨hx, hb, hr, hml, hts, hown, hlk, hnm, hP, hK, hD, hA, hZ, hl⟩ := hBd
  have hown : s.vm.findClass RX4 = some m.cls := hown
  have hl : lv_has ls 4 [(0, .ref h0), (1, .ref (ad.1 i)), (2, .int p0), (3, .int p1)] := hl
  have hS : va_S A s.heap s.heap [] := va_S.rf
  refine lv_aload_n hx hb dX4_wordAndNumber_0 rfl (lv_at hl 0 rfl) ?_
  refine lv_aload_n hx hb dX4_wordAndNumber_1 rfl (lv_at hl 1 rfl) ?_
  refine k_v (wc := [(h0, oX4 b o_fault o_place o_kind o_start o_stop), (b 2, oX8 bt t_length), (bt 0, .inl (cB, 900, .inl t_f0))]) (wr := []) hP hD hS hA [0, 1, 2] [] rfl rfl rfl (by decide) (va_runV (As := [.ref (ad.1 i)]) (rest := []) ⟨hx, hb, hml, hown, hts⟩ (f_X4_word l G cI cJ cZ cB cQ _ ad fm h0 i b o_fault o_place o_kind o_start o_stop bt t_length t_f0 hi_i hl_t_length hh_t_length) (cwV 1 hts (gV w_431 w_433 wp_6 w_2 w_434) rfl rfl rfl ⟨rfl, hd_X4_word⟩ ⟨Nat.le_of_ble_eq_true rfl, Nat.le_of_ble_eq_true rfl⟩) (mVs hK hZ hP hD hE hS hA [0, 1, 2] rfl rfl [.ref (ad.1 i)] 0 4 rfl rfl) rfl rfl hl.1 rfl (lv_room (Nat.le_of_ble_eq_true rfl)) dX4_wordAndNumber_2 ⟨Nat.le_of_ble_eq_true rfl, Nat.le_of_ble_eq_true rfl⟩) (fun u2 H locs hw3 hP hD hS => ?_)
  obtain ⟨o_faulto4, o_placeo5, o_kindo6, o_starto7, o_stopo8⟩ := u2
  try dsimp only at hw3
  have hP : va_P G vwCl [(h0, oX4 b o_faulto4 o_placeo5 o_kindo6 o_starto7 o_stopo8), (b 2, oX8 bt t_length), (bt 0, .inl (cB, 900, .inl t_f0))] H := hP
  have hD : va_D A [(h0, oX4 b o_faulto4 o_placeo5 o_kindo6 o_starto7 o_stopo8), (b 2, oX8 bt t_length), (bt 0, .inl (cB, 900, .inl t_f0))] := hD
  refine lv_aload_n hx hb dX4_wordAndNumber_5 rfl (lv_at hl 0 rfl) ?_
  refine lv_iload_n hx hb dX4_wordAndNumber_6 rfl (lv_at hl 2 rfl) ?_
  refine lv_iload_n hx hb dX4_wordAndNumber_7 rfl (lv_at hl 3 rfl) ?_
  refine k_i (wc := [(h0, oX4 b o_faulto4 o_placeo5 o_kindo6 o_starto7 o_stopo8), (b 2, oX8 bt t_length), (bt 0, .inl (cB, 900, .inl t_f0))]) (wr := []) hP hD hS hA [0, 1, 2] [] rfl rfl rfl (by decide) (va_runV (As := [.int p0, .int p1]) (rest := []) ⟨hx, hb, hml, hown, hts⟩ (f_X4_number l G cI cJ cZ cB cQ _ h0 p0 p1 a0 a1 b o_faulto4 o_placeo5 o_kindo6 o_starto7 o_stopo8 bt t_length t_f0 hp0 hp1 hl_t_length hh_t_length) (cwV 2 hts (gV w_496 w_498 wp_10 w_2 w_499) rfl rfl rfl ⟨rfl, hd_X4_number⟩ ⟨Nat.le_of_ble_eq_true rfl, Nat.le_of_ble_eq_true rfl⟩) (mV hK hZ hP hD [0, 1, 2] rfl rfl [.int p0, .int p1] 0 4 rfl rfl) rfl rfl hl.1 rfl (lv_room (Nat.le_of_ble_eq_true rfl)) dX4_wordAndNumber_8 ⟨Nat.le_of_ble_eq_true rfl, Nat.le_of_ble_eq_true rfl⟩) (fun r9 u10 H locs hw11 hP hD hS => ?_)
  obtain ⟨o_faulto12, o_placeo13, o_kindo14, o_starto15, o_stopo16⟩ := u10
  try dsimp only at hw11
  have hP : va_P G vwCl [(h0, oX4 b o_faulto12 o_placeo13 o_kindo14 o_starto15 o_stopo16), (b 2, oX8 bt t_length), (bt 0, .inl (cB, 900, .inl t_f0))] H := hP
  have hD : va_D A [(h0, oX4 b o_faulto12 o_placeo13 o_kindo14 o_starto15 o_stopo16), (b 2, oX8 bt t_length), (bt 0, .inl (cB, 900, .inl t_f0))] := hD
  have w17 : a0 ≤ r9.toInt ∧ (r9.toInt ≤ a1 ∨ r9.toInt = a0) := hw11
  exact hret _ _ _ _ r9 (o_faulto12, o_placeo13, o_kindo14, o_starto15, o_stopo16) hP hD hS dX4_wordAndNumber_11 (show (a0 ≤ r9.toInt ∧ (r9.toInt ≤ a1 ∨ r9.toInt = a0)) from (by omega))
set_option maxHeartbeats 4000000 in
set_option maxRecDepth 100000 in
theorem f_X4_cell (l : Launch) (G : va_G) (cI cJ cZ cB cQ : ClassId) (sz : Nat) (h0 : Nat) (p0 : Int64) (b : Nat → Nat) (o_fault : Int32) (o_place : Int32) (o_kind : Int32) (o_start : Int32) (o_stop : Int32) (bt : Nat → Nat) (t_length : Int32) (t_f0 : Nat → Int32) (bi : Nat → Nat) (i_lines : Int32) (i_span : Int32) (i_rule : Int32) (i_odds : Int32) (i_wide : Int32) (i_high : Int32) (i_creeks : Int32) (i_houses : Int32) (i_widows : Int32) (i_acts : Int32) (hl_t_length : 0 ≤ t_length.toInt) (hh_t_length : t_length.toInt ≤ 900) (hl_i_span : 0 ≤ i_span.toInt) (hh_i_span : i_span.toInt ≤ 12) (hl_i_rule : 0 ≤ i_rule.toInt) (hh_i_rule : i_rule.toInt ≤ 3) (hl_i_odds : 0 ≤ i_odds.toInt) (hh_i_odds : i_odds.toInt ≤ 10) (hl_i_wide : 0 ≤ i_wide.toInt) (hh_i_wide : i_wide.toInt ≤ 8) (hl_i_high : 0 ≤ i_high.toInt) (hh_i_high : i_high.toInt ≤ 8) (hl_i_creeks : 0 ≤ i_creeks.toInt) (hh_i_creeks : i_creeks.toInt ≤ 12) (hl_i_houses : 0 ≤ i_houses.toInt) (hh_i_houses : i_houses.toInt ≤ 6) (hl_i_widows : 0 ≤ i_widows.toInt) (hh_i_widows : i_widows.toInt ≤ 7) (hl_i_acts : 0 ≤ i_acts.toInt) (hh_i_acts : i_acts.toInt ≤ 30) : CI l yX4_cell (wl_ yX4_cell cX4_cell 7 (some .int)) ({ frames := 3, cells := 0, slots := 0, locals := 66 } : Room) G (TY cI cJ cZ cB cQ) [.ref h0, .long p0] [(h0, oX4 b o_fault o_place o_kind o_start o_stop), (b 2, oX8 bt t_length), (bt 0, .inl (cB, 900, .inl t_f0)), (b 3, oX0 bi i_lines i_span i_rule i_odds i_wide i_high i_creeks i_houses i_widows i_acts)] sz (fun (r : Int32) (u : Int32 × Int32 × Int32 × Int32 × Int32) => True) (fun u : Int32 × Int32 × Int32 × Int32 × Int32 => [(h0, oX4 b u.1 u.2.1 u.2.2.1 u.2.2.2.1 u.2.2.2.2), (b 2, oX8 bt t_length), (bt 0, .inl (cB, 900, .inl t_f0)), (b 3, oX0 bi i_lines i_span i_rule i_odds i_wide i_high i_creeks i_houses i_widows i_acts)]) 0 0 := by
  refine CI.go (cc := cX4_cell) (maxL := 7) (ret := (some .int)) (by decide) rfl (Nat.le_of_ble_eq_true rfl) ?_
  intro p e s m below meth c A ls Q hBd hret
  obtain ⟨hx, hb, hr, hml, hts, hown, hlk, hnm, hP, hK, hD, hA, hZ, hl⟩ := hBd
  have hown : s.vm.findClass RX4 = some m.cls := hown
  have hl : lv_has ls 7 [(0, .ref h0), (1, .long p0)] := hl
  have hS : va_S A s.heap s.heap [] := va_S.rf
  refine lv_aload_n hx hb dX4_cell_0 rfl (lv_at hl 0 rfl) ?_
  refine lv_iconst (v := 0) hx hb dX4_cell_1 (by decide) ?_
  refine lv_aload_n hx hb dX4_cell_2 rfl (lv_at hl 0 rfl) ?_
  refine va_get (D := G) (ci := 4) (v := .ref (b 3)) (C := RX4) (T := TX4) (N := 7) hx hb hts iG_X4 hown hK hP 0 rfl rfl 3 (by decide) (hts _ w_169) (fun _ h9 => h9) rfl dX4_cell_3 ?_
  refine va_getN (D := G) (ci := 0) (v := .int i_wide) (C := RX0) (T := TX0) (N := 19) hx hb hts iG_X0 hown hK hP 3 rfl rfl 4 (by decide) (nz_use hZ nw_72 rfl) (fun _ h9 => h9) rfl dX4_cell_6 ?_
  refine lv_iconst (v := 1) hx hb dX4_cell_9 (by decide) ?_
  refine lv_isub hx hb dX4_cell_10 ?_
  refine lv_topi (fun v1 ev1 => ?_)
  have tv1 : v1.toInt = i_wide.toInt - 1 := ti_sub rfl ki_1 ev1 (by omega) (by omega)
  refine k_i (wc := [(h0, oX4 b o_fault o_place o_kind o_start o_stop), (b 2, oX8 bt t_length), (bt 0, .inl (cB, 900, .inl t_f0))]) (wr := [(b 3, oX0 bi i_lines i_span i_rule i_odds i_wide i_high i_creeks i_houses i_widows i_acts)]) hP hD hS hA [0, 1, 2] [3] rfl rfl rfl (by decide) (va_runV (As := [.int 0, .int v1]) (rest := []) ⟨hx, hb, hml, hown, hts⟩ (f_X4_number l G cI cJ cZ cB cQ _ h0 0 v1 0 (i_wide.toInt - 1) b o_fault o_place o_kind o_start o_stop bt t_length t_f0 ki_0 tv1 hl_t_length hh_t_length) (cwV 2 hts (gV w_496 w_498 wp_10 w_2 w_499) rfl rfl rfl ⟨rfl, hd_X4_number⟩ ⟨Nat.le_of_ble_eq_true rfl, Nat.le_of_ble_eq_true rfl⟩) (mV hK hZ hP hD [0, 1, 2] rfl rfl [.int 0, .int v1] 0 4 rfl rfl) rfl rfl hl.1 rfl (lv_room (Nat.le_of_ble_eq_true rfl)) dX4_cell_11 ⟨Nat.le_of_ble_eq_true rfl, Nat.le_of_ble_eq_true rfl⟩) (fun r2 u3 H locs hw4 hP hD hS => ?_)
  obtain ⟨o_faulto5, o_placeo6, o_kindo7, o_starto8, o_stopo9⟩ := u3
  try dsimp only at hw4
  have hP : va_P G vwCl [(b 3, oX0 bi i_lines i_span i_rule i_odds i_wide i_high i_creeks i_houses i_widows i_acts), (h0, oX4 b o_faulto5 o_placeo6 o_kindo7 o_starto8 o_stopo9), (b 2, oX8 bt t_length), (bt 0, .inl (cB, 900, .inl t_f0))] H := hP
  have hD : va_D A [(b 3, oX0 bi i_lines i_span i_rule i_odds i_wide i_high i_creeks i_houses i_widows i_acts), (h0, oX4 b o_faulto5 o_placeo6 o_kindo7 o_starto8 o_stopo9), (b 2, oX8 bt t_length), (bt 0, .inl (cB, 900, .inl t_f0))] := hD
  have w10 : 0 ≤ r2.toInt ∧ (r2.toInt ≤ (i_wide.toInt - 1) ∨ r2.toInt = 0) := hw4
  refine lv_istore_n (lv' := [(3, .int r2), (0, .ref h0), (1, .long p0)]) hx hb dX4_cell_14 rfl hl (by decide) rfl (fun ls hl => ?_)
  refine lv_aload_n hx hb dX4_cell_15 rfl (lv_at hl 1 rfl) ?_
  refine va_get (D := G) (ci := 4) (v := .int o_starto8) (C := RX4) (T := TX4) (N := 7) hx hb hts iG_X4 hown hK hP 1 rfl rfl 5 (by decide) (hts _ w_172) (fun _ h9 => h9) rfl dX4_cell_16 ?_
  refine lv_istore (lv' := [(4, .int o_starto8), (3, .int r2), (0, .ref h0), (1, .long p0)]) hx hb dX4_cell_19 hl (by decide) rfl (fun ls hl => ?_)
  refine lv_aload_n hx hb dX4_cell_21 rfl (lv_at hl 2 rfl) ?_
  refine lv_iconst (v := 0) hx hb dX4_cell_22 (by decide) ?_
  refine lv_aload_n hx hb dX4_cell_23 rfl (lv_at hl 2 rfl) ?_
  refine va_get (D := G) (ci := 4) (v := .ref (b 3)) (C := RX4) (T := TX4) (N := 7) hx hb hts iG_X4 hown hK hP 1 rfl rfl 3 (by decide) (hts _ w_169) (fun _ h9 => h9) rfl dX4_cell_24 ?_
  refine va_getN (D := G) (ci := 0) (v := .int i_high) (C := RX0) (T := TX0) (N := 19) hx hb hts iG_X0 hown hK hP 0 rfl rfl 5 (by decide) (nz_use hZ nw_75 rfl) (fun _ h9 => h9) rfl dX4_cell_27 ?_
  refine lv_iconst (v := 1) hx hb dX4_cell_30 (by decide) ?_
  refine lv_isub hx hb dX4_cell_31 ?_
  refine lv_topi (fun v11 ev11 => ?_)
  have tv11 : v11.toInt = i_high.toInt - 1 := ti_sub rfl ki_1 ev11 (by omega) (by omega)
  refine k_i (wc := [(h0, oX4 b o_faulto5 o_placeo6 o_kindo7 o_starto8 o_stopo9), (b 2, oX8 bt t_length), (bt 0, .inl (cB, 900, .inl t_f0))]) (wr := [(b 3, oX0 bi i_lines i_span i_rule i_odds i_wide i_high i_creeks i_houses i_widows i_acts)]) hP hD hS hA [1, 2, 3] [0] rfl rfl rfl (by decide) (va_runV (As := [.int 0, .int v11]) (rest := []) ⟨hx, hb, hml, hown, hts⟩ (f_X4_number l G cI cJ cZ cB cQ _ h0 0 v11 0 (i_high.toInt - 1) b o_faulto5 o_placeo6 o_kindo7 o_starto8 o_stopo9 bt t_length t_f0 ki_0 tv11 hl_t_length hh_t_length) (cwV 2 hts (gV w_496 w_498 wp_10 w_2 w_499) rfl rfl rfl ⟨rfl, hd_X4_number⟩ ⟨Nat.le_of_ble_eq_true rfl, Nat.le_of_ble_eq_true rfl⟩) (mV hK hZ hP hD [1, 2, 3] rfl rfl [.int 0, .int v11] 1 4 rfl rfl) rfl rfl hl.1 rfl (lv_room (Nat.le_of_ble_eq_true rfl)) dX4_cell_32 ⟨Nat.le_of_ble_eq_true rfl, Nat.le_of_ble_eq_true rfl⟩) (fun r12 u13 H locs hw14 hP hD hS => ?_)
  obtain ⟨o_faulto15, o_placeo16, o_kindo17, o_starto18, o_stopo19⟩ := u13
  try dsimp only at hw14
  have hP : va_P G vwCl [(b 3, oX0 bi i_lines i_span i_rule i_odds i_wide i_high i_creeks i_houses i_widows i_acts), (h0, oX4 b o_faulto15 o_placeo16 o_kindo17 o_starto18 o_stopo19), (b 2, oX8 bt t_length), (bt 0, .inl (cB, 900, .inl t_f0))] H := hP
  have hD : va_D A [(b 3, oX0 bi i_lines i_span i_rule i_odds i_wide i_high i_creeks i_houses i_widows i_acts), (h0, oX4 b o_faulto15 o_placeo16 o_kindo17 o_starto18 o_stopo19), (b 2, oX8 bt t_length), (bt 0, .inl (cB, 900, .inl t_f0))] := hD
  have w20 : 0 ≤ r12.toInt ∧ (r12.toInt ≤ (i_high.toInt - 1) ∨ r12.toInt = 0) := hw14
  refine lv_istore (lv' := [(5, .int r12), (4, .int o_starto8), (3, .int r2), (0, .ref h0), (1, .long p0)]) hx hb dX4_cell_35 hl (by decide) rfl (fun ls hl => ?_)
  refine lv_bipush (v := 8) hx hb dX4_cell_37 (by decide) ?_
  refine lv_iload_n hx hb dX4_cell_39 rfl (lv_at hl 2 rfl) ?_
  refine lv_imul hx hb dX4_cell_40 ?_
  refine lv_topi (fun v21 ev21 => ?_)
  have tv21 : v21.toInt = 8 * r2.toInt := ti_mul ki_8 rfl ev21 (by omega) (by omega)
  refine lv_iload hx hb dX4_cell_41 (lv_at hl 0 rfl) ?_
  refine lv_iadd hx hb dX4_cell_43 ?_
  refine lv_topi (fun v22 ev22 => ?_)
  have tv22 : v22.toInt = 8 * r2.toInt + r12.toInt := ti_add tv21 rfl ev22 (by omega) (by omega)
  refine lv_istore (lv' := [(6, .int v22), (5, .int r12), (4, .int o_starto8), (3, .int r2), (0, .ref h0), (1, .long p0)]) hx hb dX4_cell_44 hl (by decide) rfl (fun ls hl => ?_)
  refine lv_lload_n hx hb dX4_cell_46 rfl (lv_at hl 5 rfl) ?_
  refine lv_iload hx hb dX4_cell_47 (lv_at hl 0 rfl) ?_
  refine k_i (wc := []) (wr := [(b 3, oX0 bi i_lines i_span i_rule i_odds i_wide i_high i_creeks i_houses i_widows i_acts), (h0, oX4 b o_faulto15 o_placeo16 o_kindo17 o_starto18 o_stopo19), (b 2, oX8 bt t_length), (bt 0, .inl (cB, 900, .inl t_f0))]) hP hD hS hA [] [0, 1, 2, 3] rfl rfl rfl (by decide) (va_runSN (As := [.long p0, .int v22]) (rest := []) ⟨hx, hb, hml, hown, hts⟩ (f_X9_has l G cI cJ cZ cB cQ _ p0 v22) ⟨va_cnB (host := "WidowRoads") 2 hts (gW w_527) rfl rfl rfl (nz_nw hZ nw_525 rfl) (hts _ w_1) hd_X9_has ⟨Nat.le_of_ble_eq_true rfl, Nat.le_of_ble_eq_true rfl⟩, (hts _ w_526), trivial⟩ (mS hK hZ hP hD [] rfl rfl [.long p0, .int v22]) rfl rfl hl.1 rfl (lv_room (Nat.le_of_ble_eq_true rfl)) dX4_cell_49 ⟨Nat.le_of_ble_eq_true rfl, Nat.le_of_ble_eq_true rfl⟩) (fun r23 u24 H locs hw25 hP hD hS => ?_)
  try dsimp only at hw25
  have hP : va_P G vwCl [(b 3, oX0 bi i_lines i_span i_rule i_odds i_wide i_high i_creeks i_houses i_widows i_acts), (h0, oX4 b o_faulto15 o_placeo16 o_kindo17 o_starto18 o_stopo19), (b 2, oX8 bt t_length), (bt 0, .inl (cB, 900, .inl t_f0))] H := hP
  have hD : va_D A [(b 3, oX0 bi i_lines i_span i_rule i_odds i_wide i_high i_creeks i_houses i_widows i_acts), (h0, oX4 b o_faulto15 o_placeo16 o_kindo17 o_starto18 o_stopo19), (b 2, oX8 bt t_length), (bt 0, .inl (cB, 900, .inl t_f0))] := hD
  obtain ⟨w26, w27⟩ : 0 ≤ r23.toInt ∧ r23.toInt ≤ 1 := hw25
  refine lv_if_eq (tgt := 62) hx hb dX4_cell_52 (by decide) (fun c28 => ?_) (fun c28 => ?_)
  · have c28 := i_eq rfl ki_0 c28
    refine lv_iload hx hb dX4_cell_62 (lv_at hl 0 rfl) ?_
    exact hret _ _ _ _ v22 (o_faulto15, o_placeo16, o_kindo17, o_starto18, o_stopo19) (hP.sub (ws' := [(h0, oX4 b o_faulto15 o_placeo16 o_kindo17 o_starto18 o_stopo19), (b 2, oX8 bt t_length), (bt 0, .inl (cB, 900, .inl t_f0)), (b 3, oX0 bi i_lines i_span i_rule i_odds i_wide i_high i_creeks i_houses i_widows i_acts)]) [1, 2, 3, 0] rfl) (hD.sub (ws' := [(h0, oX4 b o_faulto15 o_placeo16 o_kindo17 o_starto18 o_stopo19), (b 2, oX8 bt t_length), (bt 0, .inl (cB, 900, .inl t_f0)), (b 3, oX0 bi i_lines i_span i_rule i_odds i_wide i_high i_creeks i_houses i_widows i_acts)]) [1, 2, 3, 0] rfl rfl) hS dX4_cell_64 trivial
  · have c28 := i_ne rfl ki_0 c28
    refine lv_aload_n hx hb dX4_cell_55 rfl (lv_at hl 4 rfl) ?_
    refine lv_iconst (v := 2) hx hb dX4_cell_56 (by decide) ?_
    refine lv_iload hx hb dX4_cell_57 (lv_at hl 2 rfl) ?_
    refine k_v (wc := [(h0, oX4 b o_faulto15 o_placeo16 o_kindo17 o_starto18 o_stopo19)]) (wr := [(b 3, oX0 bi i_lines i_span i_rule i_odds i_wide i_high i_creeks i_houses i_widows i_acts), (b 2, oX8 bt t_length), (bt 0, .inl (cB, 900, .inl t_f0))]) hP hD hS hA [1] [0, 2, 3] rfl rfl rfl (by decide) (va_runV (As := [.int 2, .int o_starto8]) (rest := []) ⟨hx, hb, hml, hown, hts⟩ (f_X4_mark l G cI cJ cZ cB cQ _ h0 2 o_starto8 b o_faulto15 o_placeo16 o_kindo17 o_starto18 o_stopo19) (cwV 2 hts (gV w_487 w_489 wp_8 w_2 w_490) rfl rfl rfl ⟨rfl, hd_X4_mark⟩ ⟨Nat.le_of_ble_eq_true rfl, Nat.le_of_ble_eq_true rfl⟩) (mV hK hZ hP hD [1] rfl rfl [.int 2, .int o_starto8] 1 4 rfl rfl) rfl rfl hl.1 rfl (lv_room (Nat.le_of_ble_eq_true rfl)) dX4_cell_59 ⟨Nat.le_of_ble_eq_true rfl, Nat.le_of_ble_eq_true rfl⟩) (fun u30 H locs hw31 hP hD hS => ?_)
    obtain ⟨o_faulto32, o_placeo33⟩ := u30
    try dsimp only at hw31
    have hP : va_P G vwCl [(b 3, oX0 bi i_lines i_span i_rule i_odds i_wide i_high i_creeks i_houses i_widows i_acts), (b 2, oX8 bt t_length), (bt 0, .inl (cB, 900, .inl t_f0)), (h0, oX4 b o_faulto32 o_placeo33 o_kindo17 o_starto18 o_stopo19)] H := hP
    have hD : va_D A [(b 3, oX0 bi i_lines i_span i_rule i_odds i_wide i_high i_creeks i_houses i_widows i_acts), (b 2, oX8 bt t_length), (bt 0, .inl (cB, 900, .inl t_f0)), (h0, oX4 b o_faulto32 o_placeo33 o_kindo17 o_starto18 o_stopo19)] := hD
    refine lv_iload hx hb dX4_cell_62 (lv_at hl 0 rfl) ?_
    exact hret _ _ _ _ v22 (o_faulto32, o_placeo33, o_kindo17, o_starto18, o_stopo19) (hP.sub (ws' := [(h0, oX4 b o_faulto32 o_placeo33 o_kindo17 o_starto18 o_stopo19), (b 2, oX8 bt t_length), (bt 0, .inl (cB, 900, .inl t_f0)), (b 3, oX0 bi i_lines i_span i_rule i_odds i_wide i_high i_creeks i_houses i_widows i_acts)]) [3, 1, 2, 0] rfl) (hD.sub (ws' := [(h0, oX4 b o_faulto32 o_placeo33 o_kindo17 o_starto18 o_stopo19), (b 2, oX8 bt t_length), (bt 0, .inl (cB, 900, .inl t_f0)), (b 3, oX0 bi i_lines i_span i_rule i_odds i_wide i_high i_creeks i_houses i_widows i_acts)]) [3, 1, 2, 0] rfl rfl) hS dX4_cell_64 trivial
set_option maxHeartbeats 4000000 in
set_option maxRecDepth 100000 in
theorem f_X4_turn (l : Launch) (G : va_G) (cI cJ cZ cB cQ : ClassId) (sz : Nat) (ad : AdS) (fm : Option Nat) (h0 : Nat) (b : Nat → Nat) (o_fault : Int32) (o_place : Int32) (o_kind : Int32) (o_start : Int32) (o_stop : Int32) (bt : Nat → Nat) (t_length : Int32) (t_f0 : Nat → Int32) (hl_t_length : 0 ≤ t_length.toInt) (hh_t_length : t_length.toInt ≤ 900) : CIs l yX4_turn (wl_ yX4_turn cX4_turn 1 (some .int)) ({ frames := 5, cells := 0, slots := 0, locals := 107 } : Room) G (TY cI cJ cZ cB cQ) [.ref h0] [(h0, oX4 b o_fault o_place o_kind o_start o_stop), (b 2, oX8 bt t_length), (bt 0, .inl (cB, 900, .inl t_f0))] sz ad fm (fun (r : Int32) (u : Unit) => (-1) ≤ r.toInt ∧ r.toInt ≤ 3) (fun _ : Unit => [(h0, oX4 b o_fault o_place o_kind o_start o_stop), (b 2, oX8 bt t_length), (bt 0, .inl (cB, 900, .inl t_f0))]) 0 0 := by
  refine CIs.go (cc := cX4_turn) (maxL := 1) (ret := (some .int)) (by decide) rfl (Nat.le_of_ble_eq_true rfl) ?_
  intro p e s m below meth c A ls Q hBd hE hret
  obtain ⟨hx, hb, hr, hml, hts, hown, hlk, hnm, hP, hK, hD, hA, hZ, hl⟩ := hBd
  have hown : s.vm.findClass RX4 = some m.cls := hown
  have hl : lv_has ls 1 [(0, .ref h0)] := hl
  have hS : va_S A s.heap s.heap [] := va_S.rf
  refine lv_aload_n hx hb dX4_turn_0 rfl (lv_at hl 0 rfl) ?_
  refine va_ldcS hx hb hown (show vk_R "WidowRoads$Reader" 184 "on" (ad.1 13) s from hE.2.2.2 13 (by decide)) dX4_turn_1 ?_
  refine k_i (wc := [(h0, oX4 b o_fault o_place o_kind o_start o_stop), (b 2, oX8 bt t_length), (bt 0, .inl (cB, 900, .inl t_f0))]) (wr := []) hP hD hS hA [0, 1, 2] [] rfl rfl rfl (by decide) (va_runV (As := [.ref (ad.1 13)]) (rest := []) ⟨hx, hb, hml, hown, hts⟩ (f_X4_isWord l G cI cJ cZ cB cQ _ ad fm h0 13 b o_fault o_place o_kind o_start o_stop bt t_length t_f0 (by decide) hl_t_length hh_t_length) (cwV 1 hts (gV w_435 w_437 wp_7 w_2 w_438) rfl rfl rfl ⟨rfl, hd_X4_isWord⟩ ⟨Nat.le_of_ble_eq_true rfl, Nat.le_of_ble_eq_true rfl⟩) (mVs hK hZ hP hD hE hS hA [0, 1, 2] rfl rfl [.ref (ad.1 13)] 0 4 rfl rfl) rfl rfl hl.1 rfl (lv_room (Nat.le_of_ble_eq_true rfl)) dX4_turn_3 ⟨Nat.le_of_ble_eq_true rfl, Nat.le_of_ble_eq_true rfl⟩) (fun r1 u2 H locs hw3 hP hD hS => ?_)
  try dsimp only at hw3
  have hP : va_P G vwCl [(h0, oX4 b o_fault o_place o_kind o_start o_stop), (b 2, oX8 bt t_length), (bt 0, .inl (cB, 900, .inl t_f0))] H := hP
  have hD : va_D A [(h0, oX4 b o_fault o_place o_kind o_start o_stop), (b 2, oX8 bt t_length), (bt 0, .inl (cB, 900, .inl t_f0))] := hD
  obtain ⟨w4, w5⟩ : 0 ≤ r1.toInt ∧ r1.toInt ≤ 1 := hw3
  refine lv_if_eq (tgt := 11) hx hb dX4_turn_6 (by decide) (fun c6 => ?_) (fun c6 => ?_)
  · have c6 := i_eq rfl ki_0 c6
    refine lv_aload_n hx hb dX4_turn_11 rfl (lv_at hl 0 rfl) ?_
    refine va_ldcS hx hb hown (show vk_R "WidowRoads$Reader" 186 "right" (ad.1 14) s from hE.2.2.2 14 (by decide)) dX4_turn_12 ?_
    refine k_i (wc := [(h0, oX4 b o_fault o_place o_kind o_start o_stop), (b 2, oX8 bt t_length), (bt 0, .inl (cB, 900, .inl t_f0))]) (wr := []) hP hD hS hA [0, 1, 2] [] rfl rfl rfl (by decide) (va_runV (As := [.ref (ad.1 14)]) (rest := []) ⟨hx, hb, hml, hown, hts⟩ (f_X4_isWord l G cI cJ cZ cB cQ _ ad fm h0 14 b o_fault o_place o_kind o_start o_stop bt t_length t_f0 (by decide) hl_t_length hh_t_length) (cwV 1 hts (gV w_435 w_437 wp_7 w_2 w_438) rfl rfl rfl ⟨rfl, hd_X4_isWord⟩ ⟨Nat.le_of_ble_eq_true rfl, Nat.le_of_ble_eq_true rfl⟩) (mVs hK hZ hP hD hE hS hA [0, 1, 2] rfl rfl [.ref (ad.1 14)] 0 4 rfl rfl) rfl rfl hl.1 rfl (lv_room (Nat.le_of_ble_eq_true rfl)) dX4_turn_14 ⟨Nat.le_of_ble_eq_true rfl, Nat.le_of_ble_eq_true rfl⟩) (fun r7 u8 H locs hw9 hP hD hS => ?_)
    try dsimp only at hw9
    have hP : va_P G vwCl [(h0, oX4 b o_fault o_place o_kind o_start o_stop), (b 2, oX8 bt t_length), (bt 0, .inl (cB, 900, .inl t_f0))] H := hP
    have hD : va_D A [(h0, oX4 b o_fault o_place o_kind o_start o_stop), (b 2, oX8 bt t_length), (bt 0, .inl (cB, 900, .inl t_f0))] := hD
    obtain ⟨w10, w11⟩ : 0 ≤ r7.toInt ∧ r7.toInt ≤ 1 := hw9
    refine lv_if_eq (tgt := 22) hx hb dX4_turn_17 (by decide) (fun c12 => ?_) (fun c12 => ?_)
    · have c12 := i_eq rfl ki_0 c12
      refine lv_aload_n hx hb dX4_turn_22 rfl (lv_at hl 0 rfl) ?_
      refine va_ldcS hx hb hown (show vk_R "WidowRoads$Reader" 188 "back" (ad.1 15) s from hE.2.2.2 15 (by decide)) dX4_turn_23 ?_
      refine k_i (wc := [(h0, oX4 b o_fault o_place o_kind o_start o_stop), (b 2, oX8 bt t_length), (bt 0, .inl (cB, 900, .inl t_f0))]) (wr := []) hP hD hS hA [0, 1, 2] [] rfl rfl rfl (by decide) (va_runV (As := [.ref (ad.1 15)]) (rest := []) ⟨hx, hb, hml, hown, hts⟩ (f_X4_isWord l G cI cJ cZ cB cQ _ ad fm h0 15 b o_fault o_place o_kind o_start o_stop bt t_length t_f0 (by decide) hl_t_length hh_t_length) (cwV 1 hts (gV w_435 w_437 wp_7 w_2 w_438) rfl rfl rfl ⟨rfl, hd_X4_isWord⟩ ⟨Nat.le_of_ble_eq_true rfl, Nat.le_of_ble_eq_true rfl⟩) (mVs hK hZ hP hD hE hS hA [0, 1, 2] rfl rfl [.ref (ad.1 15)] 0 4 rfl rfl) rfl rfl hl.1 rfl (lv_room (Nat.le_of_ble_eq_true rfl)) dX4_turn_25 ⟨Nat.le_of_ble_eq_true rfl, Nat.le_of_ble_eq_true rfl⟩) (fun r13 u14 H locs hw15 hP hD hS => ?_)
      try dsimp only at hw15
      have hP : va_P G vwCl [(h0, oX4 b o_fault o_place o_kind o_start o_stop), (b 2, oX8 bt t_length), (bt 0, .inl (cB, 900, .inl t_f0))] H := hP
      have hD : va_D A [(h0, oX4 b o_fault o_place o_kind o_start o_stop), (b 2, oX8 bt t_length), (bt 0, .inl (cB, 900, .inl t_f0))] := hD
      obtain ⟨w16, w17⟩ : 0 ≤ r13.toInt ∧ r13.toInt ≤ 1 := hw15
      refine lv_if_eq (tgt := 33) hx hb dX4_turn_28 (by decide) (fun c18 => ?_) (fun c18 => ?_)
      · have c18 := i_eq rfl ki_0 c18
        refine lv_aload_n hx hb dX4_turn_33 rfl (lv_at hl 0 rfl) ?_
        refine va_ldcS hx hb hown (show vk_R "WidowRoads$Reader" 190 "left" (ad.1 16) s from hE.2.2.2 16 (by decide)) dX4_turn_34 ?_
        refine k_i (wc := [(h0, oX4 b o_fault o_place o_kind o_start o_stop), (b 2, oX8 bt t_length), (bt 0, .inl (cB, 900, .inl t_f0))]) (wr := []) hP hD hS hA [0, 1, 2] [] rfl rfl rfl (by decide) (va_runV (As := [.ref (ad.1 16)]) (rest := []) ⟨hx, hb, hml, hown, hts⟩ (f_X4_isWord l G cI cJ cZ cB cQ _ ad fm h0 16 b o_fault o_place o_kind o_start o_stop bt t_length t_f0 (by decide) hl_t_length hh_t_length) (cwV 1 hts (gV w_435 w_437 wp_7 w_2 w_438) rfl rfl rfl ⟨rfl, hd_X4_isWord⟩ ⟨Nat.le_of_ble_eq_true rfl, Nat.le_of_ble_eq_true rfl⟩) (mVs hK hZ hP hD hE hS hA [0, 1, 2] rfl rfl [.ref (ad.1 16)] 0 4 rfl rfl) rfl rfl hl.1 rfl (lv_room (Nat.le_of_ble_eq_true rfl)) dX4_turn_36 ⟨Nat.le_of_ble_eq_true rfl, Nat.le_of_ble_eq_true rfl⟩) (fun r19 u20 H locs hw21 hP hD hS => ?_)
        try dsimp only at hw21
        have hP : va_P G vwCl [(h0, oX4 b o_fault o_place o_kind o_start o_stop), (b 2, oX8 bt t_length), (bt 0, .inl (cB, 900, .inl t_f0))] H := hP
        have hD : va_D A [(h0, oX4 b o_fault o_place o_kind o_start o_stop), (b 2, oX8 bt t_length), (bt 0, .inl (cB, 900, .inl t_f0))] := hD
        obtain ⟨w22, w23⟩ : 0 ≤ r19.toInt ∧ r19.toInt ≤ 1 := hw21
        refine lv_if_eq (tgt := 46) hx hb dX4_turn_39 (by decide) (fun c24 => ?_) (fun c24 => ?_)
        · have c24 := i_eq rfl ki_0 c24
          refine lv_iconst (v := (-1)) hx hb dX4_turn_46 (by decide) ?_
          exact hret _ _ _ _ (-1) () hP hD hS dX4_turn_47 (show (-1) ≤ ((-1) : Int32).toInt ∧ ((-1) : Int32).toInt ≤ 3 from ⟨(by rw [ki_m1]; decide), (by rw [ki_m1]; decide)⟩)
        · have c24 := i_ne rfl ki_0 c24
          refine lv_iconst (v := 3) hx hb dX4_turn_42 (by decide) ?_
          refine lv_goto (tgt := 47) hx hb dX4_turn_43 (by decide) ?_
          exact hret _ _ _ _ 3 () hP hD hS dX4_turn_47 (show (-1) ≤ (3 : Int32).toInt ∧ (3 : Int32).toInt ≤ 3 from ⟨(by rw [ki_3]; decide), (by rw [ki_3]; decide)⟩)
      · have c18 := i_ne rfl ki_0 c18
        refine lv_iconst (v := 2) hx hb dX4_turn_31 (by decide) ?_
        exact hret _ _ _ _ 2 () hP hD hS dX4_turn_32 (show (-1) ≤ (2 : Int32).toInt ∧ (2 : Int32).toInt ≤ 3 from ⟨(by rw [ki_2]; decide), (by rw [ki_2]; decide)⟩)
    · have c12 := i_ne rfl ki_0 c12
      refine lv_iconst (v := 1) hx hb dX4_turn_20 (by decide) ?_
      exact hret _ _ _ _ 1 () hP hD hS dX4_turn_21 (show (-1) ≤ (1 : Int32).toInt ∧ (1 : Int32).toInt ≤ 3 from ⟨(by rw [ki_1]; decide), (by rw [ki_1]; decide)⟩)
  · have c6 := i_ne rfl ki_0 c6
    refine lv_iconst (v := 0) hx hb dX4_turn_9 (by decide) ?_
    exact hret _ _ _ _ 0 () hP hD hS dX4_turn_10 (show (-1) ≤ (0 : Int32).toInt ∧ (0 : Int32).toInt ≤ 3 from ⟨(by rw [ki_0]; decide), (by rw [ki_0]; decide)⟩)
