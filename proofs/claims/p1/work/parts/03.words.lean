abbrev oX0 (b : Nat → Nat) (v0 : Int32) (v1 : Int32) (v2 : Int32) (v3 : Int32) (v4 : Int32) (v5 : Int32) (v6 : Int32) (v7 : Int32) (v8 : Int32) (v9 : Int32) : va_E := .inr (0, [.int v0, .int v1, .int v2, .int v3, .int v4, .int v5, .int v6, .int v7, .int v8, .int v9, .ref (b 10), .ref (b 11), .ref (b 12), .ref (b 13), .ref (b 14), .ref (b 15), .ref (b 16), .ref (b 17), .ref (b 18)])
abbrev oX1 (b : Nat → Nat) (v2 : Int32) : va_E := .inr (1, [.ref (b 0), .ref (b 1), .int v2])
abbrev oX2 (b : Nat → Nat) (v0 : Int64) (v1 : Int64) : va_E := .inr (2, [.long v0, .long v1])
abbrev oX3 (b : Nat → Nat) (v0 : Int64) (v1 : Int64) (v2 : Int64) : va_E := .inr (3, [.long v0, .long v1, .long v2])
abbrev oX4 (b : Nat → Nat) (v0 : Int32) (v1 : Int32) (v4 : Int32) (v5 : Int32) (v6 : Int32) : va_E := .inr (4, [.int v0, .int v1, .ref (b 2), .ref (b 3), .int v4, .int v5, .int v6])
abbrev oX5 (b : Nat → Nat)  : va_E := .inr (5, [.ref (b 0), .ref (b 1), .ref (b 2), .ref (b 3)])
abbrev oX6 (b : Nat → Nat) (v10 : Int64) (v11 : Int32) : va_E := .inr (6, [.ref (b 0), .ref (b 1), .ref (b 2), .ref (b 3), .ref (b 4), .ref (b 5), .ref (b 6), .ref (b 7), .ref (b 8), .ref (b 9), .long v10, .int v11])
abbrev oX7 (b : Nat → Nat) (v0 : Int32) (v1 : Int32) (v2 : Int64) (v3 : Int32) (v4 : Int32) (v5 : Int32) : va_E := .inr (7, [.int v0, .int v1, .long v2, .int v3, .int v4, .int v5])
abbrev oX8 (b : Nat → Nat) (v1 : Int32) : va_E := .inr (8, [.ref (b 0), .int v1])
abbrev oX9 (b : Nat → Nat)  : va_E := .inr (9, [.ref (b 0), .ref (b 1), .ref (b 2), .ref (b 3), .ref (b 4), .ref (b 5), .ref (b 6), .ref (b 7), .ref (b 8), .ref (b 9), .ref (b 10)])
abbrev oX10 (b : Nat → Nat) (v0 : Int32) (v5 : Int32) (v7 : Int32) (v8 : Int32) (v9 : Int32) (v10 : Int32) (v11 : Int32) (v12 : Int32) (v13 : Int32) (v17 : Int32) (v18 : Int32) (v19 : Int32) (v20 : Int32) (v36 : Int32) (v38 : Int32) (v39 : Int64) (v40 : Int64) (v41 : Int64) : va_E := .inr (10, [.int v0, .ref (b 1), .ref (b 2), .ref (b 3), .ref (b 4), .int v5, .ref (b 6), .int v7, .int v8, .int v9, .int v10, .int v11, .int v12, .int v13, .ref (b 14), .ref (b 15), .ref (b 16), .int v17, .int v18, .int v19, .int v20, .ref (b 21), .ref (b 22), .ref (b 23), .ref (b 24), .ref (b 25), .ref (b 26), .ref (b 27), .ref (b 28), .ref (b 29), .ref (b 30), .ref (b 31), .ref (b 32), .ref (b 33), .ref (b 34), .ref (b 35), .int v36, .ref (b 37), .int v38, .long v39, .long v40, .long v41, .ref (b 42), .ref (b 43), .ref (b 44), .ref (b 45)])
theorem w_2 : Jvm.Cond.initialized "WidowRoads$Reader" ∈ GW := GW_t 2 (by decide +kernel) rfl
theorem w_3 : Jvm.Cond.initialized "WidowRoads$Tape" ∈ GW := GW_t 3 (by decide +kernel) rfl
theorem w_4 : Jvm.Cond.initialized "WidowRoads$Colony" ∈ GW := GW_t 4 (by decide +kernel) rfl
theorem w_5 : Jvm.Cond.initialized "WidowRoads$Supposal" ∈ GW := GW_t 5 (by decide +kernel) rfl
theorem w_6 : Jvm.Cond.initialized "WidowRoads$Story" ∈ GW := GW_t 6 (by decide +kernel) rfl
theorem w_7 : Jvm.Cond.initialized "WidowRoads$Evenings" ∈ GW := GW_t 7 (by decide +kernel) rfl
theorem w_8 : Jvm.Cond.initialized "WidowRoads$Net" ∈ GW := GW_t 8 (by decide +kernel) rfl
theorem w_9 : Jvm.Cond.initialized "WidowRoads$Rows" ∈ GW := GW_t 9 (by decide +kernel) rfl
theorem w_10 : Jvm.Cond.initialized "WidowRoads$Fraction" ∈ GW := GW_t 10 (by decide +kernel) rfl
theorem w_25 : Jvm.Cond.methodLink "WidowRoads" (3 : Nat) ({ cls := "java/lang/Object", name := "<init>", desc := "()V" } : Jvm.MethodName) ∈ GW := GW_t 25 (by decide +kernel) rfl
theorem w_26 : Jvm.Cond.instanceMethod ({ cls := "java/lang/Object", name := "<init>", desc := "()V" } : Jvm.MethodName) ∈ GW := GW_t 26 (by decide +kernel) rfl
theorem w_27 : Jvm.Cond.code ({ cls := "java/lang/Object", name := "<init>", desc := "()V" } : Jvm.MethodName) object_method_1_code (1 : Nat) (Option.none : Option Jvm.ClassFile.FieldType) ∈ GW := GW_t 27 (by decide +kernel) rfl
theorem w_28 : Jvm.Cond.classLink "WidowRoads" (9 : Nat) "WidowRoads$Reader" ∈ GW := GW_t 28 (by decide +kernel) rfl
theorem w_29 : Jvm.Cond.instantiable "WidowRoads$Reader" (7 : Nat) ∈ GW := GW_t 29 (by decide +kernel) rfl
theorem w_31 : Jvm.Cond.instanceMethod ({ cls := "WidowRoads$Reader", name := "<init>", desc := "()V" } : Jvm.MethodName) ∈ GW := GW_t 31 (by decide +kernel) rfl
theorem w_32 : Jvm.Cond.code ({ cls := "WidowRoads$Reader", name := "<init>", desc := "()V" } : Jvm.MethodName) prog_6_method_1_code (1 : Nat) (Option.none : Option Jvm.ClassFile.FieldType) ∈ GW := GW_t 32 (by decide +kernel) rfl
theorem w_33 : Jvm.Cond.methodLink "WidowRoads$Reader" (3 : Nat) ({ cls := "java/lang/Object", name := "<init>", desc := "()V" } : Jvm.MethodName) ∈ GW := GW_t 33 (by decide +kernel) rfl
theorem w_34 : Jvm.Cond.classLink "WidowRoads$Reader" (15 : Nat) "WidowRoads$Tape" ∈ GW := GW_t 34 (by decide +kernel) rfl
theorem w_35 : Jvm.Cond.instantiable "WidowRoads$Tape" (2 : Nat) ∈ GW := GW_t 35 (by decide +kernel) rfl
theorem w_37 : Jvm.Cond.instanceMethod ({ cls := "WidowRoads$Tape", name := "<init>", desc := "()V" } : Jvm.MethodName) ∈ GW := GW_t 37 (by decide +kernel) rfl
theorem w_38 : Jvm.Cond.code ({ cls := "WidowRoads$Tape", name := "<init>", desc := "()V" } : Jvm.MethodName) prog_10_method_1_code (1 : Nat) (Option.none : Option Jvm.ClassFile.FieldType) ∈ GW := GW_t 38 (by decide +kernel) rfl
theorem w_39 : Jvm.Cond.methodLink "WidowRoads$Tape" (3 : Nat) ({ cls := "java/lang/Object", name := "<init>", desc := "()V" } : Jvm.MethodName) ∈ GW := GW_t 39 (by decide +kernel) rfl
theorem w_40 : Jvm.Cond.fieldLink "WidowRoads$Tape" (9 : Nat) "WidowRoads$Tape" "bytes" "[B" ∈ GW := GW_t 40 (by decide +kernel) rfl
theorem w_48 : Jvm.Cond.arrayClass Jvm.ClassFile.FieldType.byte ∈ GW := GW_t 48 (by decide +kernel) rfl
theorem w_49 : Jvm.Cond.classLink "WidowRoads$Reader" (22 : Nat) "WidowRoads$Colony" ∈ GW := GW_t 49 (by decide +kernel) rfl
theorem w_50 : Jvm.Cond.instantiable "WidowRoads$Colony" (19 : Nat) ∈ GW := GW_t 50 (by decide +kernel) rfl
theorem w_52 : Jvm.Cond.instanceMethod ({ cls := "WidowRoads$Colony", name := "<init>", desc := "()V" } : Jvm.MethodName) ∈ GW := GW_t 52 (by decide +kernel) rfl
theorem w_53 : Jvm.Cond.code ({ cls := "WidowRoads$Colony", name := "<init>", desc := "()V" } : Jvm.MethodName) prog_2_method_1_code (1 : Nat) (Option.none : Option Jvm.ClassFile.FieldType) ∈ GW := GW_t 53 (by decide +kernel) rfl
theorem w_54 : Jvm.Cond.methodLink "WidowRoads$Colony" (3 : Nat) ({ cls := "java/lang/Object", name := "<init>", desc := "()V" } : Jvm.MethodName) ∈ GW := GW_t 54 (by decide +kernel) rfl
theorem w_91 : Jvm.Cond.fieldLink "WidowRoads$Colony" (9 : Nat) "WidowRoads$Colony" "creekSpots" "[I" ∈ GW := GW_t 91 (by decide +kernel) rfl
theorem w_94 : Jvm.Cond.fieldLink "WidowRoads$Colony" (15 : Nat) "WidowRoads$Colony" "houseSpots" "[I" ∈ GW := GW_t 94 (by decide +kernel) rfl
theorem w_97 : Jvm.Cond.fieldLink "WidowRoads$Colony" (18 : Nat) "WidowRoads$Colony" "starts" "[I" ∈ GW := GW_t 97 (by decide +kernel) rfl
theorem w_101 : Jvm.Cond.fieldLink "WidowRoads$Colony" (21 : Nat) "WidowRoads$Colony" "faces" "[I" ∈ GW := GW_t 101 (by decide +kernel) rfl
theorem w_105 : Jvm.Cond.fieldLink "WidowRoads$Colony" (24 : Nat) "WidowRoads$Colony" "paces" "[I" ∈ GW := GW_t 105 (by decide +kernel) rfl
theorem w_109 : Jvm.Cond.fieldLink "WidowRoads$Colony" (27 : Nat) "WidowRoads$Colony" "years" "[I" ∈ GW := GW_t 109 (by decide +kernel) rfl
theorem w_113 : Jvm.Cond.fieldLink "WidowRoads$Colony" (30 : Nat) "WidowRoads$Colony" "turns" "[I" ∈ GW := GW_t 113 (by decide +kernel) rfl
theorem w_117 : Jvm.Cond.fieldLink "WidowRoads$Colony" (33 : Nat) "WidowRoads$Colony" "griefs" "[I" ∈ GW := GW_t 117 (by decide +kernel) rfl
theorem w_121 : Jvm.Cond.fieldLink "WidowRoads$Colony" (36 : Nat) "WidowRoads$Colony" "actsDone" "[I" ∈ GW := GW_t 121 (by decide +kernel) rfl
theorem w_162 : Jvm.Cond.arrayClass Jvm.ClassFile.FieldType.int ∈ GW := GW_t 162 (by decide +kernel) rfl
theorem w_165 : Jvm.Cond.fieldLink "WidowRoads$Reader" (9 : Nat) "WidowRoads$Reader" "place" "I" ∈ GW := GW_t 165 (by decide +kernel) rfl
theorem w_167 : Jvm.Cond.fieldLink "WidowRoads$Reader" (18 : Nat) "WidowRoads$Reader" "tape" "LWidowRoads$Tape;" ∈ GW := GW_t 167 (by decide +kernel) rfl
theorem w_169 : Jvm.Cond.fieldLink "WidowRoads$Reader" (25 : Nat) "WidowRoads$Reader" "into" "LWidowRoads$Colony;" ∈ GW := GW_t 169 (by decide +kernel) rfl
theorem w_189 : Jvm.Cond.classLink "WidowRoads" (16 : Nat) "WidowRoads$Colony" ∈ GW := GW_t 189 (by decide +kernel) rfl
theorem w_192 : Jvm.Cond.classLink "WidowRoads" (27 : Nat) "WidowRoads$Supposal" ∈ GW := GW_t 192 (by decide +kernel) rfl
theorem w_193 : Jvm.Cond.instantiable "WidowRoads$Supposal" (6 : Nat) ∈ GW := GW_t 193 (by decide +kernel) rfl
theorem w_195 : Jvm.Cond.instanceMethod ({ cls := "WidowRoads$Supposal", name := "<init>", desc := "()V" } : Jvm.MethodName) ∈ GW := GW_t 195 (by decide +kernel) rfl
theorem w_196 : Jvm.Cond.code ({ cls := "WidowRoads$Supposal", name := "<init>", desc := "()V" } : Jvm.MethodName) prog_9_method_1_code (1 : Nat) (Option.none : Option Jvm.ClassFile.FieldType) ∈ GW := GW_t 196 (by decide +kernel) rfl
theorem w_197 : Jvm.Cond.methodLink "WidowRoads$Supposal" (3 : Nat) ({ cls := "java/lang/Object", name := "<init>", desc := "()V" } : Jvm.MethodName) ∈ GW := GW_t 197 (by decide +kernel) rfl
theorem w_227 : Jvm.Cond.classLink "WidowRoads" (34 : Nat) "WidowRoads$Story" ∈ GW := GW_t 227 (by decide +kernel) rfl
theorem w_228 : Jvm.Cond.instantiable "WidowRoads$Story" (12 : Nat) ∈ GW := GW_t 228 (by decide +kernel) rfl
theorem w_230 : Jvm.Cond.instanceMethod ({ cls := "WidowRoads$Story", name := "<init>", desc := "()V" } : Jvm.MethodName) ∈ GW := GW_t 230 (by decide +kernel) rfl
theorem w_231 : Jvm.Cond.code ({ cls := "WidowRoads$Story", name := "<init>", desc := "()V" } : Jvm.MethodName) prog_8_method_1_code (1 : Nat) (Option.none : Option Jvm.ClassFile.FieldType) ∈ GW := GW_t 231 (by decide +kernel) rfl
theorem w_232 : Jvm.Cond.methodLink "WidowRoads$Story" (3 : Nat) ({ cls := "java/lang/Object", name := "<init>", desc := "()V" } : Jvm.MethodName) ∈ GW := GW_t 232 (by decide +kernel) rfl
theorem w_233 : Jvm.Cond.fieldLink "WidowRoads$Story" (9 : Nat) "WidowRoads$Story" "paths" "[I" ∈ GW := GW_t 233 (by decide +kernel) rfl
theorem w_234 : Jvm.Cond.fieldLink "WidowRoads$Story" (15 : Nat) "WidowRoads$Story" "lasts" "[I" ∈ GW := GW_t 234 (by decide +kernel) rfl
theorem w_236 : Jvm.Cond.fieldLink "WidowRoads$Story" (18 : Nat) "WidowRoads$Story" "stood" "[I" ∈ GW := GW_t 236 (by decide +kernel) rfl
theorem w_238 : Jvm.Cond.fieldLink "WidowRoads$Story" (21 : Nat) "WidowRoads$Story" "been" "[J" ∈ GW := GW_t 238 (by decide +kernel) rfl
theorem w_240 : Jvm.Cond.fieldLink "WidowRoads$Story" (25 : Nat) "WidowRoads$Story" "shifted" "[I" ∈ GW := GW_t 240 (by decide +kernel) rfl
theorem w_242 : Jvm.Cond.fieldLink "WidowRoads$Story" (28 : Nat) "WidowRoads$Story" "shifts" "[I" ∈ GW := GW_t 242 (by decide +kernel) rfl
theorem w_244 : Jvm.Cond.fieldLink "WidowRoads$Story" (31 : Nat) "WidowRoads$Story" "homes" "[I" ∈ GW := GW_t 244 (by decide +kernel) rfl
theorem w_246 : Jvm.Cond.fieldLink "WidowRoads$Story" (34 : Nat) "WidowRoads$Story" "roads" "[J" ∈ GW := GW_t 246 (by decide +kernel) rfl
theorem w_250 : Jvm.Cond.fieldLink "WidowRoads$Story" (37 : Nat) "WidowRoads$Story" "across" "[J" ∈ GW := GW_t 250 (by decide +kernel) rfl
theorem w_252 : Jvm.Cond.fieldLink "WidowRoads$Story" (40 : Nat) "WidowRoads$Story" "down" "[J" ∈ GW := GW_t 252 (by decide +kernel) rfl
theorem w_281 : Jvm.Cond.arrayClass Jvm.ClassFile.FieldType.long ∈ GW := GW_t 281 (by decide +kernel) rfl
theorem w_282 : Jvm.Cond.classLink "WidowRoads" (44 : Nat) "WidowRoads$Evenings" ∈ GW := GW_t 282 (by decide +kernel) rfl
theorem w_283 : Jvm.Cond.instantiable "WidowRoads$Evenings" (3 : Nat) ∈ GW := GW_t 283 (by decide +kernel) rfl
theorem w_285 : Jvm.Cond.instanceMethod ({ cls := "WidowRoads$Evenings", name := "<init>", desc := "()V" } : Jvm.MethodName) ∈ GW := GW_t 285 (by decide +kernel) rfl
theorem w_286 : Jvm.Cond.code ({ cls := "WidowRoads$Evenings", name := "<init>", desc := "()V" } : Jvm.MethodName) prog_3_method_1_code (1 : Nat) (Option.none : Option Jvm.ClassFile.FieldType) ∈ GW := GW_t 286 (by decide +kernel) rfl
theorem w_287 : Jvm.Cond.methodLink "WidowRoads$Evenings" (3 : Nat) ({ cls := "java/lang/Object", name := "<init>", desc := "()V" } : Jvm.MethodName) ∈ GW := GW_t 287 (by decide +kernel) rfl
theorem w_288 : Jvm.Cond.fieldLink "WidowRoads$Evenings" (9 : Nat) "WidowRoads$Evenings" "roads" "[J" ∈ GW := GW_t 288 (by decide +kernel) rfl
theorem w_289 : Jvm.Cond.fieldLink "WidowRoads$Evenings" (15 : Nat) "WidowRoads$Evenings" "pegs" "[I" ∈ GW := GW_t 289 (by decide +kernel) rfl
theorem w_300 : Jvm.Cond.classLink "WidowRoads" (51 : Nat) "WidowRoads$Net" ∈ GW := GW_t 300 (by decide +kernel) rfl
theorem w_301 : Jvm.Cond.instantiable "WidowRoads$Net" (3 : Nat) ∈ GW := GW_t 301 (by decide +kernel) rfl
theorem w_303 : Jvm.Cond.instanceMethod ({ cls := "WidowRoads$Net", name := "<init>", desc := "()V" } : Jvm.MethodName) ∈ GW := GW_t 303 (by decide +kernel) rfl
theorem w_304 : Jvm.Cond.code ({ cls := "WidowRoads$Net", name := "<init>", desc := "()V" } : Jvm.MethodName) prog_5_method_1_code (1 : Nat) (Option.none : Option Jvm.ClassFile.FieldType) ∈ GW := GW_t 304 (by decide +kernel) rfl
theorem w_305 : Jvm.Cond.methodLink "WidowRoads$Net" (3 : Nat) ({ cls := "java/lang/Object", name := "<init>", desc := "()V" } : Jvm.MethodName) ∈ GW := GW_t 305 (by decide +kernel) rfl
theorem w_316 : Jvm.Cond.classLink "WidowRoads" (58 : Nat) "WidowRoads$Rows" ∈ GW := GW_t 316 (by decide +kernel) rfl
theorem w_317 : Jvm.Cond.instantiable "WidowRoads$Rows" (4 : Nat) ∈ GW := GW_t 317 (by decide +kernel) rfl
theorem w_319 : Jvm.Cond.instanceMethod ({ cls := "WidowRoads$Rows", name := "<init>", desc := "()V" } : Jvm.MethodName) ∈ GW := GW_t 319 (by decide +kernel) rfl
theorem w_320 : Jvm.Cond.code ({ cls := "WidowRoads$Rows", name := "<init>", desc := "()V" } : Jvm.MethodName) prog_7_method_1_code (1 : Nat) (Option.none : Option Jvm.ClassFile.FieldType) ∈ GW := GW_t 320 (by decide +kernel) rfl
theorem w_321 : Jvm.Cond.methodLink "WidowRoads$Rows" (3 : Nat) ({ cls := "java/lang/Object", name := "<init>", desc := "()V" } : Jvm.MethodName) ∈ GW := GW_t 321 (by decide +kernel) rfl
theorem w_322 : Jvm.Cond.fieldLink "WidowRoads$Rows" (9 : Nat) "WidowRoads$Rows" "numbers" "[J" ∈ GW := GW_t 322 (by decide +kernel) rfl
theorem w_323 : Jvm.Cond.fieldLink "WidowRoads$Rows" (15 : Nat) "WidowRoads$Rows" "had" "[Z" ∈ GW := GW_t 323 (by decide +kernel) rfl
theorem w_324 : Jvm.Cond.fieldLink "WidowRoads$Rows" (19 : Nat) "WidowRoads$Rows" "widths" "[I" ∈ GW := GW_t 324 (by decide +kernel) rfl
theorem w_326 : Jvm.Cond.fieldLink "WidowRoads$Rows" (23 : Nat) "WidowRoads$Rows" "sizes" "[I" ∈ GW := GW_t 326 (by decide +kernel) rfl
theorem w_337 : Jvm.Cond.arrayClass Jvm.ClassFile.FieldType.boolean ∈ GW := GW_t 337 (by decide +kernel) rfl
theorem w_338 : Jvm.Cond.classLink "WidowRoads" (65 : Nat) "WidowRoads$Fraction" ∈ GW := GW_t 338 (by decide +kernel) rfl
theorem w_339 : Jvm.Cond.instantiable "WidowRoads$Fraction" (2 : Nat) ∈ GW := GW_t 339 (by decide +kernel) rfl
theorem w_341 : Jvm.Cond.instanceMethod ({ cls := "WidowRoads$Fraction", name := "<init>", desc := "()V" } : Jvm.MethodName) ∈ GW := GW_t 341 (by decide +kernel) rfl
theorem w_342 : Jvm.Cond.code ({ cls := "WidowRoads$Fraction", name := "<init>", desc := "()V" } : Jvm.MethodName) prog_4_method_1_code (1 : Nat) (Option.none : Option Jvm.ClassFile.FieldType) ∈ GW := GW_t 342 (by decide +kernel) rfl
theorem w_343 : Jvm.Cond.methodLink "WidowRoads$Fraction" (1 : Nat) ({ cls := "java/lang/Object", name := "<init>", desc := "()V" } : Jvm.MethodName) ∈ GW := GW_t 343 (by decide +kernel) rfl
theorem w_345 : Jvm.Cond.fieldLink "WidowRoads$Fraction" (7 : Nat) "WidowRoads$Fraction" "below" "J" ∈ GW := GW_t 345 (by decide +kernel) rfl
theorem w_351 : Jvm.Cond.fieldLink "WidowRoads" (12 : Nat) "WidowRoads" "reader" "LWidowRoads$Reader;" ∈ GW := GW_t 351 (by decide +kernel) rfl
theorem w_352 : Jvm.Cond.fieldLink "WidowRoads" (19 : Nat) "WidowRoads" "told" "LWidowRoads$Colony;" ∈ GW := GW_t 352 (by decide +kernel) rfl
theorem w_353 : Jvm.Cond.fieldLink "WidowRoads" (23 : Nat) "WidowRoads" "images" "[LWidowRoads$Colony;" ∈ GW := GW_t 353 (by decide +kernel) rfl
theorem w_354 : Jvm.Cond.fieldLink "WidowRoads" (30 : Nat) "WidowRoads" "supposal" "LWidowRoads$Supposal;" ∈ GW := GW_t 354 (by decide +kernel) rfl
theorem w_355 : Jvm.Cond.fieldLink "WidowRoads" (37 : Nat) "WidowRoads" "now" "LWidowRoads$Story;" ∈ GW := GW_t 355 (by decide +kernel) rfl
theorem w_356 : Jvm.Cond.fieldLink "WidowRoads" (41 : Nat) "WidowRoads" "spare" "LWidowRoads$Story;" ∈ GW := GW_t 356 (by decide +kernel) rfl
theorem w_357 : Jvm.Cond.fieldLink "WidowRoads" (47 : Nat) "WidowRoads" "evenings" "LWidowRoads$Evenings;" ∈ GW := GW_t 357 (by decide +kernel) rfl
theorem w_358 : Jvm.Cond.fieldLink "WidowRoads" (54 : Nat) "WidowRoads" "net" "LWidowRoads$Net;" ∈ GW := GW_t 358 (by decide +kernel) rfl
theorem w_359 : Jvm.Cond.fieldLink "WidowRoads" (61 : Nat) "WidowRoads" "rows" "LWidowRoads$Rows;" ∈ GW := GW_t 359 (by decide +kernel) rfl
theorem w_360 : Jvm.Cond.fieldLink "WidowRoads" (68 : Nat) "WidowRoads" "fraction" "LWidowRoads$Fraction;" ∈ GW := GW_t 360 (by decide +kernel) rfl
theorem w_361 : Jvm.Cond.fieldLink "WidowRoads" (72 : Nat) "WidowRoads" "tracks" "[I" ∈ GW := GW_t 361 (by decide +kernel) rfl
theorem iG_X0 : ∀ w ∈ wsX00, w ∈ GW := GW_in [123, 125, 127, 129, 131, 133, 135, 137, 139, 141, 143, 145, 147, 149, 151, 153, 155, 157, 159] (by decide +kernel) (by decide +kernel)
theorem iG_X1 : ∀ w ∈ wsX10, w ∈ GW := GW_in [293, 295, 297] (by decide +kernel) (by decide +kernel)
theorem iG_X2 : ∀ w ∈ wsX20, w ∈ GW := GW_in [346, 348] (by decide +kernel) (by decide +kernel)
theorem iG_X3 : ∀ w ∈ wsX30, w ∈ GW := GW_in [309, 311, 313] (by decide +kernel) (by decide +kernel)
theorem iG_X4 : ∀ w ∈ wsX40, w ∈ GW := GW_in [174, 176, 178, 180, 182, 184, 186] (by decide +kernel) (by decide +kernel)
theorem iG_X5 : ∀ w ∈ wsX50, w ∈ GW := GW_in [328, 330, 332, 334] (by decide +kernel) (by decide +kernel)
theorem iG_X6 : ∀ w ∈ wsX60, w ∈ GW := GW_in [256, 258, 260, 262, 264, 266, 268, 270, 272, 274, 276, 278] (by decide +kernel) (by decide +kernel)
theorem iG_X7 : ∀ w ∈ wsX70, w ∈ GW := GW_in [214, 216, 218, 220, 222, 224] (by decide +kernel) (by decide +kernel)
theorem iG_X8 : ∀ w ∈ wsX80, w ∈ GW := GW_in [43, 45] (by decide +kernel) (by decide +kernel)
theorem iG_X9 : ∀ w ∈ wsX90, w ∈ GW := GW_in [362, 364, 366, 368, 370, 372, 374, 376, 378, 380, 382] (by decide +kernel) (by decide +kernel)
theorem nw_30 : Jvm.Cond.methodLinkNest "WidowRoads" (11 : Nat) ({ cls := "WidowRoads$Reader", name := "<init>", desc := "()V" } : Jvm.MethodName) "WidowRoads" ∈ tables_1 := List.mem_of_getElem? (i := 30) (by decide +kernel)
theorem nw_36 : Jvm.Cond.methodLinkNest "WidowRoads$Reader" (17 : Nat) ({ cls := "WidowRoads$Tape", name := "<init>", desc := "()V" } : Jvm.MethodName) "WidowRoads" ∈ tables_1 := List.mem_of_getElem? (i := 36) (by decide +kernel)
theorem nw_51 : Jvm.Cond.methodLinkNest "WidowRoads$Reader" (24 : Nat) ({ cls := "WidowRoads$Colony", name := "<init>", desc := "()V" } : Jvm.MethodName) "WidowRoads" ∈ tables_1 := List.mem_of_getElem? (i := 51) (by decide +kernel)
theorem nw_190 : Jvm.Cond.methodLinkNest "WidowRoads" (18 : Nat) ({ cls := "WidowRoads$Colony", name := "<init>", desc := "()V" } : Jvm.MethodName) "WidowRoads" ∈ tables_1 := List.mem_of_getElem? (i := 190) (by decide +kernel)
theorem nw_194 : Jvm.Cond.methodLinkNest "WidowRoads" (29 : Nat) ({ cls := "WidowRoads$Supposal", name := "<init>", desc := "()V" } : Jvm.MethodName) "WidowRoads" ∈ tables_1 := List.mem_of_getElem? (i := 194) (by decide +kernel)
theorem nw_229 : Jvm.Cond.methodLinkNest "WidowRoads" (36 : Nat) ({ cls := "WidowRoads$Story", name := "<init>", desc := "()V" } : Jvm.MethodName) "WidowRoads" ∈ tables_1 := List.mem_of_getElem? (i := 229) (by decide +kernel)
theorem nw_284 : Jvm.Cond.methodLinkNest "WidowRoads" (46 : Nat) ({ cls := "WidowRoads$Evenings", name := "<init>", desc := "()V" } : Jvm.MethodName) "WidowRoads" ∈ tables_1 := List.mem_of_getElem? (i := 284) (by decide +kernel)
theorem nw_302 : Jvm.Cond.methodLinkNest "WidowRoads" (53 : Nat) ({ cls := "WidowRoads$Net", name := "<init>", desc := "()V" } : Jvm.MethodName) "WidowRoads" ∈ tables_1 := List.mem_of_getElem? (i := 302) (by decide +kernel)
theorem nw_318 : Jvm.Cond.methodLinkNest "WidowRoads" (60 : Nat) ({ cls := "WidowRoads$Rows", name := "<init>", desc := "()V" } : Jvm.MethodName) "WidowRoads" ∈ tables_1 := List.mem_of_getElem? (i := 318) (by decide +kernel)
theorem nw_340 : Jvm.Cond.methodLinkNest "WidowRoads" (67 : Nat) ({ cls := "WidowRoads$Fraction", name := "<init>", desc := "()V" } : Jvm.MethodName) "WidowRoads" ∈ tables_1 := List.mem_of_getElem? (i := 340) (by decide +kernel)
theorem hd_X0_init : yX0_init.cls ≠ "java/lang/invoke/MethodHandle" ∧ yX0_init.cls ≠ "java/lang/invoke/VarHandle" ∧ (parseMethodDescriptor yX0_init.desc).map (fun d => d.parameters.length) = some 0 := by decide +kernel
theorem hd_X1_init : yX1_init.cls ≠ "java/lang/invoke/MethodHandle" ∧ yX1_init.cls ≠ "java/lang/invoke/VarHandle" ∧ (parseMethodDescriptor yX1_init.desc).map (fun d => d.parameters.length) = some 0 := by decide +kernel
theorem hd_X2_init : yX2_init.cls ≠ "java/lang/invoke/MethodHandle" ∧ yX2_init.cls ≠ "java/lang/invoke/VarHandle" ∧ (parseMethodDescriptor yX2_init.desc).map (fun d => d.parameters.length) = some 0 := by decide +kernel
theorem hd_X3_init : yX3_init.cls ≠ "java/lang/invoke/MethodHandle" ∧ yX3_init.cls ≠ "java/lang/invoke/VarHandle" ∧ (parseMethodDescriptor yX3_init.desc).map (fun d => d.parameters.length) = some 0 := by decide +kernel
theorem hd_X4_init : yX4_init.cls ≠ "java/lang/invoke/MethodHandle" ∧ yX4_init.cls ≠ "java/lang/invoke/VarHandle" ∧ (parseMethodDescriptor yX4_init.desc).map (fun d => d.parameters.length) = some 0 := by decide +kernel
theorem hd_X5_init : yX5_init.cls ≠ "java/lang/invoke/MethodHandle" ∧ yX5_init.cls ≠ "java/lang/invoke/VarHandle" ∧ (parseMethodDescriptor yX5_init.desc).map (fun d => d.parameters.length) = some 0 := by decide +kernel
theorem hd_X6_init : yX6_init.cls ≠ "java/lang/invoke/MethodHandle" ∧ yX6_init.cls ≠ "java/lang/invoke/VarHandle" ∧ (parseMethodDescriptor yX6_init.desc).map (fun d => d.parameters.length) = some 0 := by decide +kernel
theorem hd_X7_init : yX7_init.cls ≠ "java/lang/invoke/MethodHandle" ∧ yX7_init.cls ≠ "java/lang/invoke/VarHandle" ∧ (parseMethodDescriptor yX7_init.desc).map (fun d => d.parameters.length) = some 0 := by decide +kernel
theorem hd_X8_init : yX8_init.cls ≠ "java/lang/invoke/MethodHandle" ∧ yX8_init.cls ≠ "java/lang/invoke/VarHandle" ∧ (parseMethodDescriptor yX8_init.desc).map (fun d => d.parameters.length) = some 0 := by decide +kernel
theorem nf_X0 : ∀ j, j < 19 → defaultValue (tyX0 j) = vp_V [.int 0, .int 0, .int 0, .int 0, .int 0, .int 0, .int 0, .int 0, .int 0, .int 0, .null, .null, .null, .null, .null, .null, .null, .null, .null] j := by
  intro j hj
  rcases (show j = 0 ∨ j = 1 ∨ j = 2 ∨ j = 3 ∨ j = 4 ∨ j = 5 ∨ j = 6 ∨ j = 7 ∨ j = 8 ∨ j = 9 ∨ j = 10 ∨ j = 11 ∨ j = 12 ∨ j = 13 ∨ j = 14 ∨ j = 15 ∨ j = 16 ∨ j = 17 ∨ j = 18 by omega) with rfl | rfl | rfl | rfl | rfl | rfl | rfl | rfl | rfl | rfl | rfl | rfl | rfl | rfl | rfl | rfl | rfl | rfl | rfl <;> rfl
theorem nf_X1 : ∀ j, j < 3 → defaultValue (tyX1 j) = vp_V [.null, .null, .int 0] j := by
  intro j hj
  rcases (show j = 0 ∨ j = 1 ∨ j = 2 by omega) with rfl | rfl | rfl <;> rfl
theorem nf_X2 : ∀ j, j < 2 → defaultValue (tyX2 j) = vp_V [.long 0, .long 0] j := by
  intro j hj
  rcases (show j = 0 ∨ j = 1 by omega) with rfl | rfl <;> rfl
theorem nf_X3 : ∀ j, j < 3 → defaultValue (tyX3 j) = vp_V [.long 0, .long 0, .long 0] j := by
  intro j hj
  rcases (show j = 0 ∨ j = 1 ∨ j = 2 by omega) with rfl | rfl | rfl <;> rfl
theorem nf_X4 : ∀ j, j < 7 → defaultValue (tyX4 j) = vp_V [.int 0, .int 0, .null, .null, .int 0, .int 0, .int 0] j := by
  intro j hj
  rcases (show j = 0 ∨ j = 1 ∨ j = 2 ∨ j = 3 ∨ j = 4 ∨ j = 5 ∨ j = 6 by omega) with rfl | rfl | rfl | rfl | rfl | rfl | rfl <;> rfl
theorem nf_X5 : ∀ j, j < 4 → defaultValue (tyX5 j) = vp_V [.null, .null, .null, .null] j := by
  intro j hj
  rcases (show j = 0 ∨ j = 1 ∨ j = 2 ∨ j = 3 by omega) with rfl | rfl | rfl | rfl <;> rfl
theorem nf_X6 : ∀ j, j < 12 → defaultValue (tyX6 j) = vp_V [.null, .null, .null, .null, .null, .null, .null, .null, .null, .null, .long 0, .int 0] j := by
  intro j hj
  rcases (show j = 0 ∨ j = 1 ∨ j = 2 ∨ j = 3 ∨ j = 4 ∨ j = 5 ∨ j = 6 ∨ j = 7 ∨ j = 8 ∨ j = 9 ∨ j = 10 ∨ j = 11 by omega) with rfl | rfl | rfl | rfl | rfl | rfl | rfl | rfl | rfl | rfl | rfl | rfl <;> rfl
theorem nf_X7 : ∀ j, j < 6 → defaultValue (tyX7 j) = vp_V [.int 0, .int 0, .long 0, .int 0, .int 0, .int 0] j := by
  intro j hj
  rcases (show j = 0 ∨ j = 1 ∨ j = 2 ∨ j = 3 ∨ j = 4 ∨ j = 5 by omega) with rfl | rfl | rfl | rfl | rfl | rfl <;> rfl
theorem nf_X8 : ∀ j, j < 2 → defaultValue (tyX8 j) = vp_V [.null, .int 0] j := by
  intro j hj
  rcases (show j = 0 ∨ j = 1 by omega) with rfl | rfl <;> rfl
abbrev z0 : Nat → Nat := fun _ => 0
