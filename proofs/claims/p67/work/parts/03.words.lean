abbrev oX0 (b : Nat → Nat) (v0 : Int32) (v1 : Int32) (v2 : Int32) (v3 : Int32) (v4 : Int32) (v5 : Int32) (v6 : Int32) (v7 : Int32) (v8 : Int32) (v9 : Int32) : va_E := .inr (0, [.int v0, .int v1, .int v2, .int v3, .int v4, .int v5, .int v6, .int v7, .int v8, .int v9, .ref (b 10), .ref (b 11), .ref (b 12), .ref (b 13), .ref (b 14), .ref (b 15), .ref (b 16), .ref (b 17), .ref (b 18)])
abbrev oX1 (b : Nat → Nat) (v2 : Int32) : va_E := .inr (1, [.ref (b 0), .ref (b 1), .int v2])
abbrev oX2 (b : Nat → Nat) (v0 : Int64) (v1 : Int64) : va_E := .inr (2, [.long v0, .long v1])
abbrev oX3 (b : Nat → Nat) (v0 : Int64) (v1 : Int64) (v2 : Int64) : va_E := .inr (3, [.long v0, .long v1, .long v2])
abbrev oX4 (b : Nat → Nat) (v0 : Int32) (v1 : Int32) (v4 : Int32) (v5 : Int32) (v6 : Int32) : va_E := .inr (4, [.int v0, .int v1, .ref (b 2), .ref (b 3), .int v4, .int v5, .int v6])
abbrev oX5 (b : Nat → Nat)  : va_E := .inr (5, [.ref (b 0), .ref (b 1), .ref (b 2), .ref (b 3)])
abbrev oX6 (b : Nat → Nat) (v10 : Int64) (v11 : Int32) : va_E := .inr (6, [.ref (b 0), .ref (b 1), .ref (b 2), .ref (b 3), .ref (b 4), .ref (b 5), .ref (b 6), .ref (b 7), .ref (b 8), .ref (b 9), .long v10, .int v11])
abbrev oX7 (b : Nat → Nat) (v0 : Int32) (v1 : Int32) (v2 : Int64) (v3 : Int32) (v4 : Int32) (v5 : Int32) : va_E := .inr (7, [.int v0, .int v1, .long v2, .int v3, .int v4, .int v5])
abbrev oX8 (b : Nat → Nat) (v1 : Int32) : va_E := .inr (8, [.ref (b 0), .int v1])
abbrev oX9 (b : Nat → Nat)  : va_E := .inr (9, [.ref (b 0), .ref (b 1), .ref (b 2), .ref (b 3), .ref (b 4), .ref (b 5), .ref (b 6), .ref (b 7), .ref (b 8), .ref (b 9), .ref (b 10)])
abbrev oX10 (b : Nat → Nat) (v0 : Int32) (v5 : Int32) (v7 : Int32) (v8 : Int32) (v9 : Int32) (v10 : Int32) (v11 : Int32) (v12 : Int32) (v13 : Int32) (v17 : Int32) (v18 : Int32) (v19 : Int32) (v20 : Int32) (v36 : Int32) (v38 : Int32) (v39 : Int64) (v40 : Int64) (v41 : Int64) : va_E := .inr (10, [.int v0, .ref (b 1), .ref (b 2), .ref (b 3), .ref (b 4), .int v5, .ref (b 6), .int v7, .int v8, .int v9, .int v10, .int v11, .int v12, .int v13, .ref (b 14), .ref (b 15), .ref (b 16), .int v17, .int v18, .int v19, .int v20, .ref (b 21), .ref (b 22), .ref (b 23), .ref (b 24), .ref (b 25), .ref (b 26), .ref (b 27), .ref (b 28), .ref (b 29), .ref (b 30), .ref (b 31), .ref (b 32), .ref (b 33), .ref (b 34), .ref (b 35), .int v36, .ref (b 37), .int v38, .long v39, .long v40, .long v41, .ref (b 42), .ref (b 43), .ref (b 44), .ref (b 45)])
theorem wp_2 : Cond.selects "WidowRoads$Colony" yX0_clear yX0_clear ∈ GW := GW_p 2 (by decide +kernel) rfl
theorem wp_3 : Cond.selects "WidowRoads$Reader" yX4_next yX4_next ∈ GW := GW_p 3 (by decide +kernel) rfl
theorem wp_4 : Cond.selects "WidowRoads$Tape" yX8_byteAt yX8_byteAt ∈ GW := GW_p 4 (by decide +kernel) rfl
theorem wp_5 : Cond.selects "WidowRoads$Reader" yX4_readColony yX4_readColony ∈ GW := GW_p 5 (by decide +kernel) rfl
theorem wp_6 : Cond.selects "WidowRoads$Reader" yX4_word yX4_word ∈ GW := GW_p 6 (by decide +kernel) rfl
theorem wp_7 : Cond.selects "WidowRoads$Reader" yX4_isWord yX4_isWord ∈ GW := GW_p 7 (by decide +kernel) rfl
theorem wp_8 : Cond.selects "WidowRoads$Reader" yX4_mark yX4_mark ∈ GW := GW_p 8 (by decide +kernel) rfl
theorem wp_9 : Cond.selects "WidowRoads$Reader" yX4_wordAndNumber yX4_wordAndNumber ∈ GW := GW_p 9 (by decide +kernel) rfl
theorem wp_10 : Cond.selects "WidowRoads$Reader" yX4_number yX4_number ∈ GW := GW_p 10 (by decide +kernel) rfl
theorem wp_11 : Cond.selects "WidowRoads$Reader" yX4_readCreek yX4_readCreek ∈ GW := GW_p 11 (by decide +kernel) rfl
theorem wp_12 : Cond.selects "WidowRoads$Colony" yX0_creekBits yX0_creekBits ∈ GW := GW_p 12 (by decide +kernel) rfl
theorem wp_13 : Cond.selects "WidowRoads$Reader" yX4_cell yX4_cell ∈ GW := GW_p 13 (by decide +kernel) rfl
theorem wp_14 : Cond.selects "WidowRoads$Reader" yX4_readHouse yX4_readHouse ∈ GW := GW_p 14 (by decide +kernel) rfl
theorem wp_15 : Cond.selects "WidowRoads$Colony" yX0_houseBits yX0_houseBits ∈ GW := GW_p 15 (by decide +kernel) rfl
theorem wp_16 : Cond.selects "WidowRoads$Reader" yX4_readWidow yX4_readWidow ∈ GW := GW_p 16 (by decide +kernel) rfl
theorem wp_17 : Cond.selects "WidowRoads$Reader" yX4_readTurns yX4_readTurns ∈ GW := GW_p 17 (by decide +kernel) rfl
theorem wp_18 : Cond.selects "WidowRoads$Reader" yX4_turn yX4_turn ∈ GW := GW_p 18 (by decide +kernel) rfl
theorem wp_19 : Cond.selects "WidowRoads$Reader" yX4_closeLine yX4_closeLine ∈ GW := GW_p 19 (by decide +kernel) rfl
theorem wp_22 : Cond.selects "WidowRoads$Supposal" yX7_asNow yX7_asNow ∈ GW := GW_p 22 (by decide +kernel) rfl
theorem wp_23 : Cond.selects "WidowRoads$Colony" yX0_walkerBits yX0_walkerBits ∈ GW := GW_p 23 (by decide +kernel) rfl
theorem wp_24 : Cond.selects "WidowRoads$Story" yX6_tell yX6_tell ∈ GW := GW_p 24 (by decide +kernel) rfl
theorem wp_25 : Cond.selects "WidowRoads$Story" yX6_begin yX6_begin ∈ GW := GW_p 25 (by decide +kernel) rfl
theorem wp_26 : Cond.selects "WidowRoads$Colony" yX0_field yX0_field ∈ GW := GW_p 26 (by decide +kernel) rfl
theorem wp_27 : Cond.selects "WidowRoads$Story" yX6_copyYear yX6_copyYear ∈ GW := GW_p 27 (by decide +kernel) rfl
theorem wp_28 : Cond.selects "WidowRoads$Story" yX6_walk yX6_walk ∈ GW := GW_p 28 (by decide +kernel) rfl
theorem wp_29 : Cond.selects "WidowRoads$Supposal" yX7_facesAtFirst yX7_facesAtFirst ∈ GW := GW_p 29 (by decide +kernel) rfl
theorem wp_30 : Cond.selects "WidowRoads$Supposal" yX7_turnOf yX7_turnOf ∈ GW := GW_p 30 (by decide +kernel) rfl
theorem wp_31 : Cond.selects "WidowRoads$Story" yX6_peg yX6_peg ∈ GW := GW_p 31 (by decide +kernel) rfl
theorem wp_32 : Cond.selects "WidowRoads$Story" yX6_moveHouses yX6_moveHouses ∈ GW := GW_p 32 (by decide +kernel) rfl
theorem wp_33 : Cond.selects "WidowRoads$Story" yX6_homeBits yX6_homeBits ∈ GW := GW_p 33 (by decide +kernel) rfl
theorem wp_34 : Cond.selects "WidowRoads$Colony" yX0_spotOf yX0_spotOf ∈ GW := GW_p 34 (by decide +kernel) rfl
theorem wp_35 : Cond.selects "WidowRoads$Colony" yX0_hasWidow yX0_hasWidow ∈ GW := GW_p 35 (by decide +kernel) rfl
theorem wp_36 : Cond.selects "WidowRoads$Story" yX6_spotAt yX6_spotAt ∈ GW := GW_p 36 (by decide +kernel) rfl
theorem wp_43 : Cond.selects "WidowRoads$Net" yX3_spread yX3_spread ∈ GW := GW_p 43 (by decide +kernel) rfl
theorem wp_44 : Cond.selects "WidowRoads$Story" yX6_pegsIn yX6_pegsIn ∈ GW := GW_p 44 (by decide +kernel) rfl
theorem wp_46 : Cond.selects "WidowRoads$Net" yX3_sidesJoined yX3_sidesJoined ∈ GW := GW_p 46 (by decide +kernel) rfl
theorem wp_49 : Cond.selects "WidowRoads$Net" yX3_reach yX3_reach ∈ GW := GW_p 49 (by decide +kernel) rfl
theorem wp_68 : Cond.selects "WidowRoads$Fraction" yX2_reduce yX2_reduce ∈ GW := GW_p 68 (by decide +kernel) rfl
theorem w_1 : Jvm.Cond.initialized "WidowRoads" ∈ GW := GW_t 1 (by decide +kernel) rfl
theorem w_2 : Jvm.Cond.initialized "WidowRoads$Reader" ∈ GW := GW_t 2 (by decide +kernel) rfl
theorem w_3 : Jvm.Cond.initialized "WidowRoads$Tape" ∈ GW := GW_t 3 (by decide +kernel) rfl
theorem w_4 : Jvm.Cond.initialized "WidowRoads$Colony" ∈ GW := GW_t 4 (by decide +kernel) rfl
theorem w_5 : Jvm.Cond.initialized "WidowRoads$Supposal" ∈ GW := GW_t 5 (by decide +kernel) rfl
theorem w_6 : Jvm.Cond.initialized "WidowRoads$Story" ∈ GW := GW_t 6 (by decide +kernel) rfl
theorem w_7 : Jvm.Cond.initialized "WidowRoads$Evenings" ∈ GW := GW_t 7 (by decide +kernel) rfl
theorem w_8 : Jvm.Cond.initialized "WidowRoads$Net" ∈ GW := GW_t 8 (by decide +kernel) rfl
theorem w_9 : Jvm.Cond.initialized "WidowRoads$Rows" ∈ GW := GW_t 9 (by decide +kernel) rfl
theorem w_10 : Jvm.Cond.initialized "WidowRoads$Fraction" ∈ GW := GW_t 10 (by decide +kernel) rfl
theorem w_12 : Jvm.Cond.initialized "java/lang/String" ∈ GW := GW_t 12 (by decide +kernel) rfl
theorem w_13 : Jvm.Cond.initialized "java/lang/StringLatin1" ∈ GW := GW_t 13 (by decide +kernel) rfl
theorem w_14 : Jvm.Cond.initialized "jdk/internal/util/Preconditions" ∈ GW := GW_t 14 (by decide +kernel) rfl
theorem w_16 : Jvm.Cond.initialized "java/lang/Math" ∈ GW := GW_t 16 (by decide +kernel) rfl
theorem w_17 : Jvm.Cond.initialized "java/lang/System" ∈ GW := GW_t 17 (by decide +kernel) rfl
theorem w_18 : Jvm.Cond.initialized "java/lang/Long" ∈ GW := GW_t 18 (by decide +kernel) rfl
theorem w_19 : Jvm.Cond.initialized "java/lang/Integer" ∈ GW := GW_t 19 (by decide +kernel) rfl
theorem w_40 : Jvm.Cond.fieldLink "WidowRoads$Tape" (9 : Nat) "WidowRoads$Tape" "bytes" "[B" ∈ GW := GW_t 40 (by decide +kernel) rfl
theorem w_42 : Jvm.Cond.fieldLink "WidowRoads$Tape" (15 : Nat) "WidowRoads$Tape" "length" "I" ∈ GW := GW_t 42 (by decide +kernel) rfl
theorem w_55 : Jvm.Cond.fieldLink "WidowRoads$Colony" (39 : Nat) "WidowRoads$Colony" "lines" "I" ∈ GW := GW_t 55 (by decide +kernel) rfl
theorem w_58 : Jvm.Cond.fieldLink "WidowRoads$Colony" (43 : Nat) "WidowRoads$Colony" "span" "I" ∈ GW := GW_t 58 (by decide +kernel) rfl
theorem w_64 : Jvm.Cond.fieldLink "WidowRoads$Colony" (46 : Nat) "WidowRoads$Colony" "rule" "I" ∈ GW := GW_t 64 (by decide +kernel) rfl
theorem w_67 : Jvm.Cond.fieldLink "WidowRoads$Colony" (49 : Nat) "WidowRoads$Colony" "odds" "I" ∈ GW := GW_t 67 (by decide +kernel) rfl
theorem w_71 : Jvm.Cond.fieldLink "WidowRoads$Colony" (52 : Nat) "WidowRoads$Colony" "wide" "I" ∈ GW := GW_t 71 (by decide +kernel) rfl
theorem w_74 : Jvm.Cond.fieldLink "WidowRoads$Colony" (55 : Nat) "WidowRoads$Colony" "high" "I" ∈ GW := GW_t 74 (by decide +kernel) rfl
theorem w_77 : Jvm.Cond.fieldLink "WidowRoads$Colony" (58 : Nat) "WidowRoads$Colony" "creeks" "I" ∈ GW := GW_t 77 (by decide +kernel) rfl
theorem w_80 : Jvm.Cond.fieldLink "WidowRoads$Colony" (61 : Nat) "WidowRoads$Colony" "houses" "I" ∈ GW := GW_t 80 (by decide +kernel) rfl
theorem w_86 : Jvm.Cond.fieldLink "WidowRoads$Colony" (64 : Nat) "WidowRoads$Colony" "widows" "I" ∈ GW := GW_t 86 (by decide +kernel) rfl
theorem w_89 : Jvm.Cond.fieldLink "WidowRoads$Colony" (67 : Nat) "WidowRoads$Colony" "acts" "I" ∈ GW := GW_t 89 (by decide +kernel) rfl
theorem w_91 : Jvm.Cond.fieldLink "WidowRoads$Colony" (9 : Nat) "WidowRoads$Colony" "creekSpots" "[I" ∈ GW := GW_t 91 (by decide +kernel) rfl
theorem w_94 : Jvm.Cond.fieldLink "WidowRoads$Colony" (15 : Nat) "WidowRoads$Colony" "houseSpots" "[I" ∈ GW := GW_t 94 (by decide +kernel) rfl
theorem w_97 : Jvm.Cond.fieldLink "WidowRoads$Colony" (18 : Nat) "WidowRoads$Colony" "starts" "[I" ∈ GW := GW_t 97 (by decide +kernel) rfl
theorem w_101 : Jvm.Cond.fieldLink "WidowRoads$Colony" (21 : Nat) "WidowRoads$Colony" "faces" "[I" ∈ GW := GW_t 101 (by decide +kernel) rfl
theorem w_105 : Jvm.Cond.fieldLink "WidowRoads$Colony" (24 : Nat) "WidowRoads$Colony" "paces" "[I" ∈ GW := GW_t 105 (by decide +kernel) rfl
theorem w_109 : Jvm.Cond.fieldLink "WidowRoads$Colony" (27 : Nat) "WidowRoads$Colony" "years" "[I" ∈ GW := GW_t 109 (by decide +kernel) rfl
theorem w_113 : Jvm.Cond.fieldLink "WidowRoads$Colony" (30 : Nat) "WidowRoads$Colony" "turns" "[I" ∈ GW := GW_t 113 (by decide +kernel) rfl
theorem w_117 : Jvm.Cond.fieldLink "WidowRoads$Colony" (33 : Nat) "WidowRoads$Colony" "griefs" "[I" ∈ GW := GW_t 117 (by decide +kernel) rfl
theorem w_121 : Jvm.Cond.fieldLink "WidowRoads$Colony" (36 : Nat) "WidowRoads$Colony" "actsDone" "[I" ∈ GW := GW_t 121 (by decide +kernel) rfl
theorem w_163 : Jvm.Cond.fieldLink "WidowRoads$Reader" (32 : Nat) "WidowRoads$Reader" "fault" "I" ∈ GW := GW_t 163 (by decide +kernel) rfl
theorem w_165 : Jvm.Cond.fieldLink "WidowRoads$Reader" (9 : Nat) "WidowRoads$Reader" "place" "I" ∈ GW := GW_t 165 (by decide +kernel) rfl
theorem w_167 : Jvm.Cond.fieldLink "WidowRoads$Reader" (18 : Nat) "WidowRoads$Reader" "tape" "LWidowRoads$Tape;" ∈ GW := GW_t 167 (by decide +kernel) rfl
theorem w_169 : Jvm.Cond.fieldLink "WidowRoads$Reader" (25 : Nat) "WidowRoads$Reader" "into" "LWidowRoads$Colony;" ∈ GW := GW_t 169 (by decide +kernel) rfl
theorem w_171 : Jvm.Cond.fieldLink "WidowRoads$Reader" (41 : Nat) "WidowRoads$Reader" "kind" "I" ∈ GW := GW_t 171 (by decide +kernel) rfl
theorem w_172 : Jvm.Cond.fieldLink "WidowRoads$Reader" (69 : Nat) "WidowRoads$Reader" "start" "I" ∈ GW := GW_t 172 (by decide +kernel) rfl
theorem w_173 : Jvm.Cond.fieldLink "WidowRoads$Reader" (35 : Nat) "WidowRoads$Reader" "stop" "I" ∈ GW := GW_t 173 (by decide +kernel) rfl
theorem w_198 : Jvm.Cond.fieldLink "WidowRoads$Supposal" (15 : Nat) "WidowRoads$Supposal" "rule" "I" ∈ GW := GW_t 198 (by decide +kernel) rfl
theorem w_201 : Jvm.Cond.fieldLink "WidowRoads$Supposal" (22 : Nat) "WidowRoads$Supposal" "walkers" "I" ∈ GW := GW_t 201 (by decide +kernel) rfl
theorem w_205 : Jvm.Cond.fieldLink "WidowRoads$Supposal" (29 : Nat) "WidowRoads$Supposal" "creeks" "J" ∈ GW := GW_t 205 (by decide +kernel) rfl
theorem w_208 : Jvm.Cond.fieldLink "WidowRoads$Supposal" (33 : Nat) "WidowRoads$Supposal" "widow" "I" ∈ GW := GW_t 208 (by decide +kernel) rfl
theorem w_210 : Jvm.Cond.fieldLink "WidowRoads$Supposal" (36 : Nat) "WidowRoads$Supposal" "faces" "I" ∈ GW := GW_t 210 (by decide +kernel) rfl
theorem w_212 : Jvm.Cond.fieldLink "WidowRoads$Supposal" (39 : Nat) "WidowRoads$Supposal" "turn" "I" ∈ GW := GW_t 212 (by decide +kernel) rfl
theorem w_233 : Jvm.Cond.fieldLink "WidowRoads$Story" (9 : Nat) "WidowRoads$Story" "paths" "[I" ∈ GW := GW_t 233 (by decide +kernel) rfl
theorem w_234 : Jvm.Cond.fieldLink "WidowRoads$Story" (15 : Nat) "WidowRoads$Story" "lasts" "[I" ∈ GW := GW_t 234 (by decide +kernel) rfl
theorem w_236 : Jvm.Cond.fieldLink "WidowRoads$Story" (18 : Nat) "WidowRoads$Story" "stood" "[I" ∈ GW := GW_t 236 (by decide +kernel) rfl
theorem w_238 : Jvm.Cond.fieldLink "WidowRoads$Story" (21 : Nat) "WidowRoads$Story" "been" "[J" ∈ GW := GW_t 238 (by decide +kernel) rfl
theorem w_240 : Jvm.Cond.fieldLink "WidowRoads$Story" (25 : Nat) "WidowRoads$Story" "shifted" "[I" ∈ GW := GW_t 240 (by decide +kernel) rfl
theorem w_242 : Jvm.Cond.fieldLink "WidowRoads$Story" (28 : Nat) "WidowRoads$Story" "shifts" "[I" ∈ GW := GW_t 242 (by decide +kernel) rfl
theorem w_244 : Jvm.Cond.fieldLink "WidowRoads$Story" (31 : Nat) "WidowRoads$Story" "homes" "[I" ∈ GW := GW_t 244 (by decide +kernel) rfl
theorem w_246 : Jvm.Cond.fieldLink "WidowRoads$Story" (34 : Nat) "WidowRoads$Story" "roads" "[J" ∈ GW := GW_t 246 (by decide +kernel) rfl
theorem w_250 : Jvm.Cond.fieldLink "WidowRoads$Story" (37 : Nat) "WidowRoads$Story" "across" "[J" ∈ GW := GW_t 250 (by decide +kernel) rfl
theorem w_252 : Jvm.Cond.fieldLink "WidowRoads$Story" (40 : Nat) "WidowRoads$Story" "down" "[J" ∈ GW := GW_t 252 (by decide +kernel) rfl
theorem w_254 : Jvm.Cond.fieldLink "WidowRoads$Story" (80 : Nat) "WidowRoads$Story" "field" "J" ∈ GW := GW_t 254 (by decide +kernel) rfl
theorem w_255 : Jvm.Cond.fieldLink "WidowRoads$Story" (86 : Nat) "WidowRoads$Story" "houses" "I" ∈ GW := GW_t 255 (by decide +kernel) rfl
theorem w_288 : Jvm.Cond.fieldLink "WidowRoads$Evenings" (9 : Nat) "WidowRoads$Evenings" "roads" "[J" ∈ GW := GW_t 288 (by decide +kernel) rfl
theorem w_289 : Jvm.Cond.fieldLink "WidowRoads$Evenings" (15 : Nat) "WidowRoads$Evenings" "pegs" "[I" ∈ GW := GW_t 289 (by decide +kernel) rfl
theorem w_291 : Jvm.Cond.fieldLink "WidowRoads$Evenings" (19 : Nat) "WidowRoads$Evenings" "known" "Z" ∈ GW := GW_t 291 (by decide +kernel) rfl
theorem w_306 : Jvm.Cond.fieldLink "WidowRoads$Net" (15 : Nat) "WidowRoads$Net" "cells" "J" ∈ GW := GW_t 306 (by decide +kernel) rfl
theorem w_307 : Jvm.Cond.fieldLink "WidowRoads$Net" (24 : Nat) "WidowRoads$Net" "across" "J" ∈ GW := GW_t 307 (by decide +kernel) rfl
theorem w_308 : Jvm.Cond.fieldLink "WidowRoads$Net" (29 : Nat) "WidowRoads$Net" "down" "J" ∈ GW := GW_t 308 (by decide +kernel) rfl
theorem w_322 : Jvm.Cond.fieldLink "WidowRoads$Rows" (9 : Nat) "WidowRoads$Rows" "numbers" "[J" ∈ GW := GW_t 322 (by decide +kernel) rfl
theorem w_323 : Jvm.Cond.fieldLink "WidowRoads$Rows" (15 : Nat) "WidowRoads$Rows" "had" "[Z" ∈ GW := GW_t 323 (by decide +kernel) rfl
theorem w_324 : Jvm.Cond.fieldLink "WidowRoads$Rows" (19 : Nat) "WidowRoads$Rows" "widths" "[I" ∈ GW := GW_t 324 (by decide +kernel) rfl
theorem w_326 : Jvm.Cond.fieldLink "WidowRoads$Rows" (23 : Nat) "WidowRoads$Rows" "sizes" "[I" ∈ GW := GW_t 326 (by decide +kernel) rfl
theorem w_344 : Jvm.Cond.fieldLink "WidowRoads$Fraction" (19 : Nat) "WidowRoads$Fraction" "above" "J" ∈ GW := GW_t 344 (by decide +kernel) rfl
theorem w_345 : Jvm.Cond.fieldLink "WidowRoads$Fraction" (7 : Nat) "WidowRoads$Fraction" "below" "J" ∈ GW := GW_t 345 (by decide +kernel) rfl
theorem w_407 : Jvm.Cond.instanceMethod ({ cls := "WidowRoads$Colony", name := "clear", desc := "()V" } : Jvm.MethodName) ∈ GW := GW_t 407 (by decide +kernel) rfl
theorem w_408 : Jvm.Cond.code ({ cls := "WidowRoads$Colony", name := "clear", desc := "()V" } : Jvm.MethodName) prog_2_method_2_code (1 : Nat) (Option.none : Option Jvm.ClassFile.FieldType) ∈ GW := GW_t 408 (by decide +kernel) rfl
theorem w_409 : Jvm.Cond.methodLink "WidowRoads$Reader" (38 : Nat) ({ cls := "WidowRoads$Reader", name := "next", desc := "()V" } : Jvm.MethodName) ∈ GW := GW_t 409 (by decide +kernel) rfl
theorem w_411 : Jvm.Cond.instanceMethod ({ cls := "WidowRoads$Reader", name := "next", desc := "()V" } : Jvm.MethodName) ∈ GW := GW_t 411 (by decide +kernel) rfl
theorem w_412 : Jvm.Cond.code ({ cls := "WidowRoads$Reader", name := "next", desc := "()V" } : Jvm.MethodName) prog_6_method_5_code (2 : Nat) (Option.none : Option Jvm.ClassFile.FieldType) ∈ GW := GW_t 412 (by decide +kernel) rfl
theorem w_415 : Jvm.Cond.instanceMethod ({ cls := "WidowRoads$Tape", name := "byteAt", desc := "(I)I" } : Jvm.MethodName) ∈ GW := GW_t 415 (by decide +kernel) rfl
theorem w_416 : Jvm.Cond.code ({ cls := "WidowRoads$Tape", name := "byteAt", desc := "(I)I" } : Jvm.MethodName) prog_10_method_3_code (2 : Nat) (Option.some Jvm.ClassFile.FieldType.int) ∈ GW := GW_t 416 (by decide +kernel) rfl
theorem w_417 : Jvm.Cond.methodLink "WidowRoads$Reader" (83 : Nat) ({ cls := "WidowRoads$Reader", name := "isBlank", desc := "(I)Z" } : Jvm.MethodName) ∈ GW := GW_t 417 (by decide +kernel) rfl
theorem w_418 : Jvm.Cond.static ({ cls := "WidowRoads$Reader", name := "isBlank", desc := "(I)Z" } : Jvm.MethodName) ∈ GW := GW_t 418 (by decide +kernel) rfl
theorem w_419 : Jvm.Cond.code ({ cls := "WidowRoads$Reader", name := "isBlank", desc := "(I)Z" } : Jvm.MethodName) prog_6_method_17_code (1 : Nat) (Option.some Jvm.ClassFile.FieldType.boolean) ∈ GW := GW_t 419 (by decide +kernel) rfl
theorem w_420 : Jvm.Cond.methodLink "WidowRoads$Reader" (87 : Nat) ({ cls := "WidowRoads$Reader", name := "isLetter", desc := "(I)Z" } : Jvm.MethodName) ∈ GW := GW_t 420 (by decide +kernel) rfl
theorem w_421 : Jvm.Cond.static ({ cls := "WidowRoads$Reader", name := "isLetter", desc := "(I)Z" } : Jvm.MethodName) ∈ GW := GW_t 421 (by decide +kernel) rfl
theorem w_422 : Jvm.Cond.code ({ cls := "WidowRoads$Reader", name := "isLetter", desc := "(I)Z" } : Jvm.MethodName) prog_6_method_18_code (1 : Nat) (Option.some Jvm.ClassFile.FieldType.boolean) ∈ GW := GW_t 422 (by decide +kernel) rfl
theorem w_423 : Jvm.Cond.methodLink "WidowRoads$Reader" (90 : Nat) ({ cls := "WidowRoads$Reader", name := "isDigit", desc := "(I)Z" } : Jvm.MethodName) ∈ GW := GW_t 423 (by decide +kernel) rfl
theorem w_424 : Jvm.Cond.static ({ cls := "WidowRoads$Reader", name := "isDigit", desc := "(I)Z" } : Jvm.MethodName) ∈ GW := GW_t 424 (by decide +kernel) rfl
theorem w_425 : Jvm.Cond.code ({ cls := "WidowRoads$Reader", name := "isDigit", desc := "(I)Z" } : Jvm.MethodName) prog_6_method_19_code (1 : Nat) (Option.some Jvm.ClassFile.FieldType.boolean) ∈ GW := GW_t 425 (by decide +kernel) rfl
theorem w_426 : Jvm.Cond.methodLink "WidowRoads$Reader" (47 : Nat) ({ cls := "WidowRoads$Reader", name := "readColony", desc := "()V" } : Jvm.MethodName) ∈ GW := GW_t 426 (by decide +kernel) rfl
theorem w_428 : Jvm.Cond.instanceMethod ({ cls := "WidowRoads$Reader", name := "readColony", desc := "()V" } : Jvm.MethodName) ∈ GW := GW_t 428 (by decide +kernel) rfl
theorem w_429 : Jvm.Cond.code ({ cls := "WidowRoads$Reader", name := "readColony", desc := "()V" } : Jvm.MethodName) prog_6_method_6_code (1 : Nat) (Option.none : Option Jvm.ClassFile.FieldType) ∈ GW := GW_t 429 (by decide +kernel) rfl
theorem w_431 : Jvm.Cond.methodLink "WidowRoads$Reader" (95 : Nat) ({ cls := "WidowRoads$Reader", name := "word", desc := "(Ljava/lang/String;)V" } : Jvm.MethodName) ∈ GW := GW_t 431 (by decide +kernel) rfl
theorem w_433 : Jvm.Cond.instanceMethod ({ cls := "WidowRoads$Reader", name := "word", desc := "(Ljava/lang/String;)V" } : Jvm.MethodName) ∈ GW := GW_t 433 (by decide +kernel) rfl
theorem w_434 : Jvm.Cond.code ({ cls := "WidowRoads$Reader", name := "word", desc := "(Ljava/lang/String;)V" } : Jvm.MethodName) prog_6_method_14_code (2 : Nat) (Option.none : Option Jvm.ClassFile.FieldType) ∈ GW := GW_t 434 (by decide +kernel) rfl
theorem w_435 : Jvm.Cond.methodLink "WidowRoads$Reader" (52 : Nat) ({ cls := "WidowRoads$Reader", name := "isWord", desc := "(Ljava/lang/String;)Z" } : Jvm.MethodName) ∈ GW := GW_t 435 (by decide +kernel) rfl
theorem w_437 : Jvm.Cond.instanceMethod ({ cls := "WidowRoads$Reader", name := "isWord", desc := "(Ljava/lang/String;)Z" } : Jvm.MethodName) ∈ GW := GW_t 437 (by decide +kernel) rfl
theorem w_438 : Jvm.Cond.code ({ cls := "WidowRoads$Reader", name := "isWord", desc := "(Ljava/lang/String;)Z" } : Jvm.MethodName) prog_6_method_16_code (3 : Nat) (Option.some Jvm.ClassFile.FieldType.boolean) ∈ GW := GW_t 438 (by decide +kernel) rfl
theorem w_439 : Jvm.Cond.methodLink "WidowRoads$Reader" (206 : Nat) ({ cls := "java/lang/String", name := "length", desc := "()I" } : Jvm.MethodName) ∈ GW := GW_t 439 (by decide +kernel) rfl
theorem w_440 : Jvm.Cond.instanceMethod ({ cls := "java/lang/String", name := "length", desc := "()I" } : Jvm.MethodName) ∈ GW := GW_t 440 (by decide +kernel) rfl
theorem w_441 : Jvm.Cond.selects "java/lang/String" ({ cls := "java/lang/String", name := "length", desc := "()I" } : Jvm.MethodName) ({ cls := "java/lang/String", name := "length", desc := "()I" } : Jvm.MethodName) ∈ GW := GW_t 441 (by decide +kernel) rfl
theorem w_442 : Jvm.Cond.code ({ cls := "java/lang/String", name := "length", desc := "()I" } : Jvm.MethodName) prog_16_method_54_code (1 : Nat) (Option.some Jvm.ClassFile.FieldType.int) ∈ GW := GW_t 442 (by decide +kernel) rfl
theorem w_443 : Jvm.Cond.methodLink "java/lang/String" (335 : Nat) ({ cls := "java/lang/String", name := "coder", desc := "()B" } : Jvm.MethodName) ∈ GW := GW_t 443 (by decide +kernel) rfl
theorem w_444 : Jvm.Cond.instanceMethod ({ cls := "java/lang/String", name := "coder", desc := "()B" } : Jvm.MethodName) ∈ GW := GW_t 444 (by decide +kernel) rfl
theorem w_445 : Jvm.Cond.selects "java/lang/String" ({ cls := "java/lang/String", name := "coder", desc := "()B" } : Jvm.MethodName) ({ cls := "java/lang/String", name := "coder", desc := "()B" } : Jvm.MethodName) ∈ GW := GW_t 445 (by decide +kernel) rfl
theorem w_446 : Jvm.Cond.code ({ cls := "java/lang/String", name := "coder", desc := "()B" } : Jvm.MethodName) prog_16_method_152_code (1 : Nat) (Option.some Jvm.ClassFile.FieldType.byte) ∈ GW := GW_t 446 (by decide +kernel) rfl
theorem w_447 : Jvm.Cond.fieldLink "java/lang/String" (38 : Nat) "java/lang/String" "COMPACT_STRINGS" "Z" ∈ GW := GW_t 447 (by decide +kernel) rfl
theorem w_449 : Jvm.Cond.methodLink "WidowRoads$Reader" (211 : Nat) ({ cls := "java/lang/String", name := "charAt", desc := "(I)C" } : Jvm.MethodName) ∈ GW := GW_t 449 (by decide +kernel) rfl
theorem w_450 : Jvm.Cond.instanceMethod ({ cls := "java/lang/String", name := "charAt", desc := "(I)C" } : Jvm.MethodName) ∈ GW := GW_t 450 (by decide +kernel) rfl
theorem w_451 : Jvm.Cond.selects "java/lang/String" ({ cls := "java/lang/String", name := "charAt", desc := "(I)C" } : Jvm.MethodName) ({ cls := "java/lang/String", name := "charAt", desc := "(I)C" } : Jvm.MethodName) ∈ GW := GW_t 451 (by decide +kernel) rfl
theorem w_452 : Jvm.Cond.code ({ cls := "java/lang/String", name := "charAt", desc := "(I)C" } : Jvm.MethodName) prog_16_method_56_code (2 : Nat) (Option.some Jvm.ClassFile.FieldType.char) ∈ GW := GW_t 452 (by decide +kernel) rfl
theorem w_453 : Jvm.Cond.methodLink "java/lang/String" (492 : Nat) ({ cls := "java/lang/String", name := "isLatin1", desc := "()Z" } : Jvm.MethodName) ∈ GW := GW_t 453 (by decide +kernel) rfl
theorem w_454 : Jvm.Cond.instanceMethod ({ cls := "java/lang/String", name := "isLatin1", desc := "()Z" } : Jvm.MethodName) ∈ GW := GW_t 454 (by decide +kernel) rfl
theorem w_455 : Jvm.Cond.selects "java/lang/String" ({ cls := "java/lang/String", name := "isLatin1", desc := "()Z" } : Jvm.MethodName) ({ cls := "java/lang/String", name := "isLatin1", desc := "()Z" } : Jvm.MethodName) ∈ GW := GW_t 455 (by decide +kernel) rfl
theorem w_456 : Jvm.Cond.code ({ cls := "java/lang/String", name := "isLatin1", desc := "()Z" } : Jvm.MethodName) prog_16_method_154_code (1 : Nat) (Option.some Jvm.ClassFile.FieldType.boolean) ∈ GW := GW_t 456 (by decide +kernel) rfl
theorem w_457 : Jvm.Cond.methodLink "java/lang/String" (495 : Nat) ({ cls := "java/lang/StringLatin1", name := "charAt", desc := "([BI)C" } : Jvm.MethodName) ∈ GW := GW_t 457 (by decide +kernel) rfl
theorem w_458 : Jvm.Cond.static ({ cls := "java/lang/StringLatin1", name := "charAt", desc := "([BI)C" } : Jvm.MethodName) ∈ GW := GW_t 458 (by decide +kernel) rfl
theorem w_459 : Jvm.Cond.code ({ cls := "java/lang/StringLatin1", name := "charAt", desc := "([BI)C" } : Jvm.MethodName) prog_17_method_2_code (2 : Nat) (Option.some Jvm.ClassFile.FieldType.char) ∈ GW := GW_t 459 (by decide +kernel) rfl
theorem w_460 : Jvm.Cond.methodLink "java/lang/StringLatin1" (9 : Nat) ({ cls := "java/lang/String", name := "checkIndex", desc := "(II)V" } : Jvm.MethodName) ∈ GW := GW_t 460 (by decide +kernel) rfl
theorem w_461 : Jvm.Cond.static ({ cls := "java/lang/String", name := "checkIndex", desc := "(II)V" } : Jvm.MethodName) ∈ GW := GW_t 461 (by decide +kernel) rfl
theorem w_462 : Jvm.Cond.code ({ cls := "java/lang/String", name := "checkIndex", desc := "(II)V" } : Jvm.MethodName) prog_16_method_155_code (2 : Nat) (Option.none : Option Jvm.ClassFile.FieldType) ∈ GW := GW_t 462 (by decide +kernel) rfl
theorem w_463 : Jvm.Cond.fieldLink "java/lang/String" (1053 : Nat) "jdk/internal/util/Preconditions" "SIOOBE_FORMATTER" "Ljava/util/function/BiFunction;" ∈ GW := GW_t 463 (by decide +kernel) rfl
theorem w_465 : Jvm.Cond.methodLink "java/lang/String" (1059 : Nat) ({ cls := "jdk/internal/util/Preconditions", name := "checkIndex", desc := "(IILjava/util/function/BiFunction;)I" } : Jvm.MethodName) ∈ GW := GW_t 465 (by decide +kernel) rfl
theorem w_466 : Jvm.Cond.static ({ cls := "jdk/internal/util/Preconditions", name := "checkIndex", desc := "(IILjava/util/function/BiFunction;)I" } : Jvm.MethodName) ∈ GW := GW_t 466 (by decide +kernel) rfl
theorem w_467 : Jvm.Cond.code ({ cls := "jdk/internal/util/Preconditions", name := "checkIndex", desc := "(IILjava/util/function/BiFunction;)I" } : Jvm.MethodName) prog_20_method_11_code (3 : Nat) (Option.some Jvm.ClassFile.FieldType.int) ∈ GW := GW_t 467 (by decide +kernel) rfl
theorem w_487 : Jvm.Cond.methodLink "WidowRoads$Reader" (72 : Nat) ({ cls := "WidowRoads$Reader", name := "mark", desc := "(II)V" } : Jvm.MethodName) ∈ GW := GW_t 487 (by decide +kernel) rfl
theorem w_489 : Jvm.Cond.instanceMethod ({ cls := "WidowRoads$Reader", name := "mark", desc := "(II)V" } : Jvm.MethodName) ∈ GW := GW_t 489 (by decide +kernel) rfl
theorem w_490 : Jvm.Cond.code ({ cls := "WidowRoads$Reader", name := "mark", desc := "(II)V" } : Jvm.MethodName) prog_6_method_4_code (3 : Nat) (Option.none : Option Jvm.ClassFile.FieldType) ∈ GW := GW_t 490 (by decide +kernel) rfl
theorem w_492 : Jvm.Cond.methodLink "WidowRoads$Reader" (101 : Nat) ({ cls := "WidowRoads$Reader", name := "wordAndNumber", desc := "(Ljava/lang/String;II)I" } : Jvm.MethodName) ∈ GW := GW_t 492 (by decide +kernel) rfl
theorem w_494 : Jvm.Cond.instanceMethod ({ cls := "WidowRoads$Reader", name := "wordAndNumber", desc := "(Ljava/lang/String;II)I" } : Jvm.MethodName) ∈ GW := GW_t 494 (by decide +kernel) rfl
theorem w_495 : Jvm.Cond.code ({ cls := "WidowRoads$Reader", name := "wordAndNumber", desc := "(Ljava/lang/String;II)I" } : Jvm.MethodName) prog_6_method_13_code (4 : Nat) (Option.some Jvm.ClassFile.FieldType.int) ∈ GW := GW_t 495 (by decide +kernel) rfl
theorem w_496 : Jvm.Cond.methodLink "WidowRoads$Reader" (192 : Nat) ({ cls := "WidowRoads$Reader", name := "number", desc := "(II)I" } : Jvm.MethodName) ∈ GW := GW_t 496 (by decide +kernel) rfl
theorem w_498 : Jvm.Cond.instanceMethod ({ cls := "WidowRoads$Reader", name := "number", desc := "(II)I" } : Jvm.MethodName) ∈ GW := GW_t 498 (by decide +kernel) rfl
theorem w_499 : Jvm.Cond.code ({ cls := "WidowRoads$Reader", name := "number", desc := "(II)I" } : Jvm.MethodName) prog_6_method_15_code (5 : Nat) (Option.some Jvm.ClassFile.FieldType.int) ∈ GW := GW_t 499 (by decide +kernel) rfl
theorem w_500 : Jvm.Cond.constant "WidowRoads$Reader" (200 : Nat) (1000000 : Int32) ∈ GW := GW_t 500 (by decide +kernel) rfl
theorem w_501 : Jvm.Cond.methodLink "WidowRoads$Reader" (201 : Nat) ({ cls := "java/lang/Math", name := "min", desc := "(II)I" } : Jvm.MethodName) ∈ GW := GW_t 501 (by decide +kernel) rfl
theorem w_502 : Jvm.Cond.static ({ cls := "java/lang/Math", name := "min", desc := "(II)I" } : Jvm.MethodName) ∈ GW := GW_t 502 (by decide +kernel) rfl
theorem w_503 : Jvm.Cond.code ({ cls := "java/lang/Math", name := "min", desc := "(II)I" } : Jvm.MethodName) prog_15_method_69_code (2 : Nat) (Option.some Jvm.ClassFile.FieldType.int) ∈ GW := GW_t 503 (by decide +kernel) rfl
theorem w_509 : Jvm.Cond.methodLink "WidowRoads$Reader" (56 : Nat) ({ cls := "WidowRoads$Reader", name := "readCreek", desc := "()V" } : Jvm.MethodName) ∈ GW := GW_t 509 (by decide +kernel) rfl
theorem w_511 : Jvm.Cond.instanceMethod ({ cls := "WidowRoads$Reader", name := "readCreek", desc := "()V" } : Jvm.MethodName) ∈ GW := GW_t 511 (by decide +kernel) rfl
theorem w_512 : Jvm.Cond.code ({ cls := "WidowRoads$Reader", name := "readCreek", desc := "()V" } : Jvm.MethodName) prog_6_method_7_code (1 : Nat) (Option.none : Option Jvm.ClassFile.FieldType) ∈ GW := GW_t 512 (by decide +kernel) rfl
theorem w_515 : Jvm.Cond.instanceMethod ({ cls := "WidowRoads$Colony", name := "creekBits", desc := "()J" } : Jvm.MethodName) ∈ GW := GW_t 515 (by decide +kernel) rfl
theorem w_516 : Jvm.Cond.code ({ cls := "WidowRoads$Colony", name := "creekBits", desc := "()J" } : Jvm.MethodName) prog_2_method_9_code (4 : Nat) (Option.some Jvm.ClassFile.FieldType.long) ∈ GW := GW_t 516 (by decide +kernel) rfl
theorem w_518 : Jvm.Cond.static ({ cls := "WidowRoads", name := "bit", desc := "(I)J" } : Jvm.MethodName) ∈ GW := GW_t 518 (by decide +kernel) rfl
theorem w_519 : Jvm.Cond.code ({ cls := "WidowRoads", name := "bit", desc := "(I)J" } : Jvm.MethodName) prog_1_method_91_code (1 : Nat) (Option.some Jvm.ClassFile.FieldType.long) ∈ GW := GW_t 519 (by decide +kernel) rfl
theorem w_520 : Jvm.Cond.constantLong "WidowRoads$Colony" (84 : Nat) (-1 : Int64) ∈ GW := GW_t 520 (by decide +kernel) rfl
theorem w_521 : Jvm.Cond.methodLink "WidowRoads$Reader" (136 : Nat) ({ cls := "WidowRoads$Reader", name := "cell", desc := "(J)I" } : Jvm.MethodName) ∈ GW := GW_t 521 (by decide +kernel) rfl
theorem w_523 : Jvm.Cond.instanceMethod ({ cls := "WidowRoads$Reader", name := "cell", desc := "(J)I" } : Jvm.MethodName) ∈ GW := GW_t 523 (by decide +kernel) rfl
theorem w_524 : Jvm.Cond.code ({ cls := "WidowRoads$Reader", name := "cell", desc := "(J)I" } : Jvm.MethodName) prog_6_method_12_code (7 : Nat) (Option.some Jvm.ClassFile.FieldType.int) ∈ GW := GW_t 524 (by decide +kernel) rfl
theorem w_526 : Jvm.Cond.static ({ cls := "WidowRoads", name := "has", desc := "(JI)Z" } : Jvm.MethodName) ∈ GW := GW_t 526 (by decide +kernel) rfl
theorem w_527 : Jvm.Cond.code ({ cls := "WidowRoads", name := "has", desc := "(JI)Z" } : Jvm.MethodName) prog_1_method_92_code (3 : Nat) (Option.some Jvm.ClassFile.FieldType.boolean) ∈ GW := GW_t 527 (by decide +kernel) rfl
theorem w_529 : Jvm.Cond.methodLink "WidowRoads$Reader" (61 : Nat) ({ cls := "WidowRoads$Reader", name := "readHouse", desc := "()V" } : Jvm.MethodName) ∈ GW := GW_t 529 (by decide +kernel) rfl
theorem w_531 : Jvm.Cond.instanceMethod ({ cls := "WidowRoads$Reader", name := "readHouse", desc := "()V" } : Jvm.MethodName) ∈ GW := GW_t 531 (by decide +kernel) rfl
theorem w_532 : Jvm.Cond.code ({ cls := "WidowRoads$Reader", name := "readHouse", desc := "()V" } : Jvm.MethodName) prog_6_method_8_code (1 : Nat) (Option.none : Option Jvm.ClassFile.FieldType) ∈ GW := GW_t 532 (by decide +kernel) rfl
theorem w_535 : Jvm.Cond.instanceMethod ({ cls := "WidowRoads$Colony", name := "houseBits", desc := "()J" } : Jvm.MethodName) ∈ GW := GW_t 535 (by decide +kernel) rfl
theorem w_536 : Jvm.Cond.code ({ cls := "WidowRoads$Colony", name := "houseBits", desc := "()J" } : Jvm.MethodName) prog_2_method_10_code (4 : Nat) (Option.some Jvm.ClassFile.FieldType.long) ∈ GW := GW_t 536 (by decide +kernel) rfl
theorem w_538 : Jvm.Cond.methodLink "WidowRoads$Reader" (66 : Nat) ({ cls := "WidowRoads$Reader", name := "readWidow", desc := "()V" } : Jvm.MethodName) ∈ GW := GW_t 538 (by decide +kernel) rfl
theorem w_540 : Jvm.Cond.instanceMethod ({ cls := "WidowRoads$Reader", name := "readWidow", desc := "()V" } : Jvm.MethodName) ∈ GW := GW_t 540 (by decide +kernel) rfl
theorem w_541 : Jvm.Cond.code ({ cls := "WidowRoads$Reader", name := "readWidow", desc := "()V" } : Jvm.MethodName) prog_6_method_9_code (2 : Nat) (Option.none : Option Jvm.ClassFile.FieldType) ∈ GW := GW_t 541 (by decide +kernel) rfl
theorem w_546 : Jvm.Cond.methodLink "WidowRoads$Reader" (170 : Nat) ({ cls := "WidowRoads$Reader", name := "readTurns", desc := "(I)V" } : Jvm.MethodName) ∈ GW := GW_t 546 (by decide +kernel) rfl
theorem w_548 : Jvm.Cond.instanceMethod ({ cls := "WidowRoads$Reader", name := "readTurns", desc := "(I)V" } : Jvm.MethodName) ∈ GW := GW_t 548 (by decide +kernel) rfl
theorem w_549 : Jvm.Cond.code ({ cls := "WidowRoads$Reader", name := "readTurns", desc := "(I)V" } : Jvm.MethodName) prog_6_method_10_code (4 : Nat) (Option.none : Option Jvm.ClassFile.FieldType) ∈ GW := GW_t 549 (by decide +kernel) rfl
theorem w_550 : Jvm.Cond.methodLink "WidowRoads$Reader" (177 : Nat) ({ cls := "WidowRoads$Reader", name := "turn", desc := "()I" } : Jvm.MethodName) ∈ GW := GW_t 550 (by decide +kernel) rfl
theorem w_552 : Jvm.Cond.instanceMethod ({ cls := "WidowRoads$Reader", name := "turn", desc := "()I" } : Jvm.MethodName) ∈ GW := GW_t 552 (by decide +kernel) rfl
theorem w_553 : Jvm.Cond.code ({ cls := "WidowRoads$Reader", name := "turn", desc := "()I" } : Jvm.MethodName) prog_6_method_11_code (1 : Nat) (Option.some Jvm.ClassFile.FieldType.int) ∈ GW := GW_t 553 (by decide +kernel) rfl
theorem w_558 : Jvm.Cond.methodLink "WidowRoads$Reader" (76 : Nat) ({ cls := "WidowRoads$Reader", name := "closeLine", desc := "()V" } : Jvm.MethodName) ∈ GW := GW_t 558 (by decide +kernel) rfl
theorem w_560 : Jvm.Cond.instanceMethod ({ cls := "WidowRoads$Reader", name := "closeLine", desc := "()V" } : Jvm.MethodName) ∈ GW := GW_t 560 (by decide +kernel) rfl
theorem w_561 : Jvm.Cond.code ({ cls := "WidowRoads$Reader", name := "closeLine", desc := "()V" } : Jvm.MethodName) prog_6_method_3_code (1 : Nat) (Option.none : Option Jvm.ClassFile.FieldType) ∈ GW := GW_t 561 (by decide +kernel) rfl
theorem w_566 : Jvm.Cond.methodLink "WidowRoads$Colony" (70 : Nat) ({ cls := "java/lang/System", name := "arraycopy", desc := "(Ljava/lang/Object;ILjava/lang/Object;II)V" } : Jvm.MethodName) ∈ GW := GW_t 566 (by decide +kernel) rfl
theorem w_567 : Jvm.Cond.static ({ cls := "java/lang/System", name := "arraycopy", desc := "(Ljava/lang/Object;ILjava/lang/Object;II)V" } : Jvm.MethodName) ∈ GW := GW_t 567 (by decide +kernel) rfl
theorem w_568 : Jvm.Cond.native ({ cls := "java/lang/System", name := "arraycopy", desc := "(Ljava/lang/Object;ILjava/lang/Object;II)V" } : Jvm.MethodName) ∈ GW := GW_t 568 (by decide +kernel) rfl
theorem w_575 : Jvm.Cond.instanceMethod ({ cls := "WidowRoads$Supposal", name := "asNow", desc := "(LWidowRoads$Colony;)V" } : Jvm.MethodName) ∈ GW := GW_t 575 (by decide +kernel) rfl
theorem w_576 : Jvm.Cond.code ({ cls := "WidowRoads$Supposal", name := "asNow", desc := "(LWidowRoads$Colony;)V" } : Jvm.MethodName) prog_9_method_2_code (2 : Nat) (Option.none : Option Jvm.ClassFile.FieldType) ∈ GW := GW_t 576 (by decide +kernel) rfl
theorem w_579 : Jvm.Cond.instanceMethod ({ cls := "WidowRoads$Colony", name := "walkerBits", desc := "()I" } : Jvm.MethodName) ∈ GW := GW_t 579 (by decide +kernel) rfl
theorem w_580 : Jvm.Cond.code ({ cls := "WidowRoads$Colony", name := "walkerBits", desc := "()I" } : Jvm.MethodName) prog_2_method_11_code (3 : Nat) (Option.some Jvm.ClassFile.FieldType.int) ∈ GW := GW_t 580 (by decide +kernel) rfl
theorem w_584 : Jvm.Cond.instanceMethod ({ cls := "WidowRoads$Story", name := "tell", desc := "(LWidowRoads$Colony;LWidowRoads$Supposal;)V" } : Jvm.MethodName) ∈ GW := GW_t 584 (by decide +kernel) rfl
theorem w_585 : Jvm.Cond.code ({ cls := "WidowRoads$Story", name := "tell", desc := "(LWidowRoads$Colony;LWidowRoads$Supposal;)V" } : Jvm.MethodName) prog_8_method_2_code (5 : Nat) (Option.none : Option Jvm.ClassFile.FieldType) ∈ GW := GW_t 585 (by decide +kernel) rfl
theorem w_586 : Jvm.Cond.methodLink "WidowRoads$Story" (43 : Nat) ({ cls := "WidowRoads$Story", name := "begin", desc := "(LWidowRoads$Colony;)V" } : Jvm.MethodName) ∈ GW := GW_t 586 (by decide +kernel) rfl
theorem w_588 : Jvm.Cond.instanceMethod ({ cls := "WidowRoads$Story", name := "begin", desc := "(LWidowRoads$Colony;)V" } : Jvm.MethodName) ∈ GW := GW_t 588 (by decide +kernel) rfl
theorem w_589 : Jvm.Cond.code ({ cls := "WidowRoads$Story", name := "begin", desc := "(LWidowRoads$Colony;)V" } : Jvm.MethodName) prog_8_method_3_code (3 : Nat) (Option.none : Option Jvm.ClassFile.FieldType) ∈ GW := GW_t 589 (by decide +kernel) rfl
theorem w_592 : Jvm.Cond.instanceMethod ({ cls := "WidowRoads$Colony", name := "field", desc := "()J" } : Jvm.MethodName) ∈ GW := GW_t 592 (by decide +kernel) rfl
theorem w_593 : Jvm.Cond.code ({ cls := "WidowRoads$Colony", name := "field", desc := "()J" } : Jvm.MethodName) prog_2_method_8_code (4 : Nat) (Option.some Jvm.ClassFile.FieldType.long) ∈ GW := GW_t 593 (by decide +kernel) rfl
theorem w_594 : Jvm.Cond.methodLink "WidowRoads$Story" (53 : Nat) ({ cls := "WidowRoads$Story", name := "copyYear", desc := "(I)V" } : Jvm.MethodName) ∈ GW := GW_t 594 (by decide +kernel) rfl
theorem w_596 : Jvm.Cond.instanceMethod ({ cls := "WidowRoads$Story", name := "copyYear", desc := "(I)V" } : Jvm.MethodName) ∈ GW := GW_t 596 (by decide +kernel) rfl
theorem w_597 : Jvm.Cond.code ({ cls := "WidowRoads$Story", name := "copyYear", desc := "(I)V" } : Jvm.MethodName) prog_8_method_4_code (2 : Nat) (Option.none : Option Jvm.ClassFile.FieldType) ∈ GW := GW_t 597 (by decide +kernel) rfl
theorem w_598 : Jvm.Cond.methodLink "WidowRoads$Story" (90 : Nat) ({ cls := "java/lang/System", name := "arraycopy", desc := "(Ljava/lang/Object;ILjava/lang/Object;II)V" } : Jvm.MethodName) ∈ GW := GW_t 598 (by decide +kernel) rfl
theorem w_599 : Jvm.Cond.methodLink "WidowRoads$Story" (68 : Nat) ({ cls := "WidowRoads$Story", name := "walk", desc := "(LWidowRoads$Colony;LWidowRoads$Supposal;II)V" } : Jvm.MethodName) ∈ GW := GW_t 599 (by decide +kernel) rfl
theorem w_601 : Jvm.Cond.instanceMethod ({ cls := "WidowRoads$Story", name := "walk", desc := "(LWidowRoads$Colony;LWidowRoads$Supposal;II)V" } : Jvm.MethodName) ∈ GW := GW_t 601 (by decide +kernel) rfl
theorem w_602 : Jvm.Cond.code ({ cls := "WidowRoads$Story", name := "walk", desc := "(LWidowRoads$Colony;LWidowRoads$Supposal;II)V" } : Jvm.MethodName) prog_8_method_5_code (14 : Nat) (Option.none : Option Jvm.ClassFile.FieldType) ∈ GW := GW_t 602 (by decide +kernel) rfl
theorem w_603 : Jvm.Cond.constantLong "WidowRoads$Story" (99 : Nat) (-1 : Int64) ∈ GW := GW_t 603 (by decide +kernel) rfl
theorem w_606 : Jvm.Cond.instanceMethod ({ cls := "WidowRoads$Supposal", name := "facesAtFirst", desc := "(LWidowRoads$Colony;I)I" } : Jvm.MethodName) ∈ GW := GW_t 606 (by decide +kernel) rfl
theorem w_607 : Jvm.Cond.code ({ cls := "WidowRoads$Supposal", name := "facesAtFirst", desc := "(LWidowRoads$Colony;I)I" } : Jvm.MethodName) prog_9_method_3_code (3 : Nat) (Option.some Jvm.ClassFile.FieldType.int) ∈ GW := GW_t 607 (by decide +kernel) rfl
theorem w_611 : Jvm.Cond.instanceMethod ({ cls := "WidowRoads$Supposal", name := "turnOf", desc := "(LWidowRoads$Colony;II)I" } : Jvm.MethodName) ∈ GW := GW_t 611 (by decide +kernel) rfl
theorem w_612 : Jvm.Cond.code ({ cls := "WidowRoads$Supposal", name := "turnOf", desc := "(LWidowRoads$Colony;II)I" } : Jvm.MethodName) prog_9_method_4_code (5 : Nat) (Option.some Jvm.ClassFile.FieldType.int) ∈ GW := GW_t 612 (by decide +kernel) rfl
theorem w_613 : Jvm.Cond.methodLink "WidowRoads$Story" (122 : Nat) ({ cls := "WidowRoads$Story", name := "wished", desc := "(IJJJ)J" } : Jvm.MethodName) ∈ GW := GW_t 613 (by decide +kernel) rfl
theorem w_614 : Jvm.Cond.static ({ cls := "WidowRoads$Story", name := "wished", desc := "(IJJJ)J" } : Jvm.MethodName) ∈ GW := GW_t 614 (by decide +kernel) rfl
theorem w_615 : Jvm.Cond.code ({ cls := "WidowRoads$Story", name := "wished", desc := "(IJJJ)J" } : Jvm.MethodName) prog_8_method_6_code (7 : Nat) (Option.some Jvm.ClassFile.FieldType.long) ∈ GW := GW_t 615 (by decide +kernel) rfl
theorem w_616 : Jvm.Cond.methodLink "WidowRoads$Story" (126 : Nat) ({ cls := "WidowRoads$Story", name := "firstWay", desc := "(IIJ)I" } : Jvm.MethodName) ∈ GW := GW_t 616 (by decide +kernel) rfl
theorem w_617 : Jvm.Cond.static ({ cls := "WidowRoads$Story", name := "firstWay", desc := "(IIJ)I" } : Jvm.MethodName) ∈ GW := GW_t 617 (by decide +kernel) rfl
theorem w_618 : Jvm.Cond.code ({ cls := "WidowRoads$Story", name := "firstWay", desc := "(IIJ)I" } : Jvm.MethodName) prog_8_method_7_code (7 : Nat) (Option.some Jvm.ClassFile.FieldType.int) ∈ GW := GW_t 618 (by decide +kernel) rfl
theorem w_620 : Jvm.Cond.static ({ cls := "WidowRoads", name := "beside", desc := "(II)I" } : Jvm.MethodName) ∈ GW := GW_t 620 (by decide +kernel) rfl
theorem w_621 : Jvm.Cond.code ({ cls := "WidowRoads", name := "beside", desc := "(II)I" } : Jvm.MethodName) prog_1_method_94_code (2 : Nat) (Option.some Jvm.ClassFile.FieldType.int) ∈ GW := GW_t 621 (by decide +kernel) rfl
theorem w_623 : Jvm.Cond.methodLink "WidowRoads$Story" (130 : Nat) ({ cls := "WidowRoads$Story", name := "peg", desc := "(III)V" } : Jvm.MethodName) ∈ GW := GW_t 623 (by decide +kernel) rfl
theorem w_625 : Jvm.Cond.instanceMethod ({ cls := "WidowRoads$Story", name := "peg", desc := "(III)V" } : Jvm.MethodName) ∈ GW := GW_t 625 (by decide +kernel) rfl
theorem w_626 : Jvm.Cond.code ({ cls := "WidowRoads$Story", name := "peg", desc := "(III)V" } : Jvm.MethodName) prog_8_method_8_code (6 : Nat) (Option.none : Option Jvm.ClassFile.FieldType) ∈ GW := GW_t 626 (by decide +kernel) rfl
theorem w_627 : Jvm.Cond.methodLink "WidowRoads$Story" (142 : Nat) ({ cls := "java/lang/Math", name := "min", desc := "(II)I" } : Jvm.MethodName) ∈ GW := GW_t 627 (by decide +kernel) rfl
theorem w_628 : Jvm.Cond.methodLink "WidowRoads$Story" (72 : Nat) ({ cls := "WidowRoads$Story", name := "moveHouses", desc := "(LWidowRoads$Supposal;II)V" } : Jvm.MethodName) ∈ GW := GW_t 628 (by decide +kernel) rfl
theorem w_630 : Jvm.Cond.instanceMethod ({ cls := "WidowRoads$Story", name := "moveHouses", desc := "(LWidowRoads$Supposal;II)V" } : Jvm.MethodName) ∈ GW := GW_t 630 (by decide +kernel) rfl
theorem w_631 : Jvm.Cond.code ({ cls := "WidowRoads$Story", name := "moveHouses", desc := "(LWidowRoads$Supposal;II)V" } : Jvm.MethodName) prog_8_method_9_code (8 : Nat) (Option.none : Option Jvm.ClassFile.FieldType) ∈ GW := GW_t 631 (by decide +kernel) rfl
theorem w_632 : Jvm.Cond.methodLink "WidowRoads$Story" (147 : Nat) ({ cls := "WidowRoads$Story", name := "homeBits", desc := "(I)J" } : Jvm.MethodName) ∈ GW := GW_t 632 (by decide +kernel) rfl
theorem w_634 : Jvm.Cond.instanceMethod ({ cls := "WidowRoads$Story", name := "homeBits", desc := "(I)J" } : Jvm.MethodName) ∈ GW := GW_t 634 (by decide +kernel) rfl
theorem w_635 : Jvm.Cond.code ({ cls := "WidowRoads$Story", name := "homeBits", desc := "(I)J" } : Jvm.MethodName) prog_8_method_10_code (6 : Nat) (Option.some Jvm.ClassFile.FieldType.long) ∈ GW := GW_t 635 (by decide +kernel) rfl
theorem w_637 : Jvm.Cond.static ({ cls := "WidowRoads", name := "leastOf", desc := "(J)I" } : Jvm.MethodName) ∈ GW := GW_t 637 (by decide +kernel) rfl
theorem w_638 : Jvm.Cond.code ({ cls := "WidowRoads", name := "leastOf", desc := "(J)I" } : Jvm.MethodName) prog_1_method_93_code (2 : Nat) (Option.some Jvm.ClassFile.FieldType.int) ∈ GW := GW_t 638 (by decide +kernel) rfl
theorem w_639 : Jvm.Cond.methodLink "WidowRoads" (175 : Nat) ({ cls := "java/lang/Long", name := "bitCount", desc := "(J)I" } : Jvm.MethodName) ∈ GW := GW_t 639 (by decide +kernel) rfl
theorem w_640 : Jvm.Cond.static ({ cls := "java/lang/Long", name := "bitCount", desc := "(J)I" } : Jvm.MethodName) ∈ GW := GW_t 640 (by decide +kernel) rfl
theorem w_641 : Jvm.Cond.code ({ cls := "java/lang/Long", name := "bitCount", desc := "(J)I" } : Jvm.MethodName) prog_14_method_50_code (2 : Nat) (Option.some Jvm.ClassFile.FieldType.int) ∈ GW := GW_t 641 (by decide +kernel) rfl
theorem w_642 : Jvm.Cond.constantLong "java/lang/Long" (314 : Nat) (6148914691236517205 : Int64) ∈ GW := GW_t 642 (by decide +kernel) rfl
theorem w_643 : Jvm.Cond.constantLong "java/lang/Long" (316 : Nat) (3689348814741910323 : Int64) ∈ GW := GW_t 643 (by decide +kernel) rfl
theorem w_644 : Jvm.Cond.constantLong "java/lang/Long" (318 : Nat) (1085102592571150095 : Int64) ∈ GW := GW_t 644 (by decide +kernel) rfl
theorem w_655 : Jvm.Cond.instanceMethod ({ cls := "WidowRoads$Colony", name := "spotOf", desc := "(J)I" } : Jvm.MethodName) ∈ GW := GW_t 655 (by decide +kernel) rfl
theorem w_656 : Jvm.Cond.code ({ cls := "WidowRoads$Colony", name := "spotOf", desc := "(J)I" } : Jvm.MethodName) prog_2_method_7_code (3 : Nat) (Option.some Jvm.ClassFile.FieldType.int) ∈ GW := GW_t 656 (by decide +kernel) rfl
theorem w_657 : Jvm.Cond.constantLong "WidowRoads$Colony" (76 : Nat) (10 : Int64) ∈ GW := GW_t 657 (by decide +kernel) rfl
theorem w_658 : Jvm.Cond.constantLong "WidowRoads$Colony" (78 : Nat) (8 : Int64) ∈ GW := GW_t 658 (by decide +kernel) rfl
theorem w_662 : Jvm.Cond.static ({ cls := "WidowRoads", name := "oneIf", desc := "(Z)I" } : Jvm.MethodName) ∈ GW := GW_t 662 (by decide +kernel) rfl
theorem w_663 : Jvm.Cond.code ({ cls := "WidowRoads", name := "oneIf", desc := "(Z)I" } : Jvm.MethodName) prog_1_method_89_code (1 : Nat) (Option.some Jvm.ClassFile.FieldType.int) ∈ GW := GW_t 663 (by decide +kernel) rfl
theorem w_670 : Jvm.Cond.instanceMethod ({ cls := "WidowRoads$Colony", name := "hasWidow", desc := "(J)Z" } : Jvm.MethodName) ∈ GW := GW_t 670 (by decide +kernel) rfl
theorem w_671 : Jvm.Cond.code ({ cls := "WidowRoads$Colony", name := "hasWidow", desc := "(J)Z" } : Jvm.MethodName) prog_2_method_4_code (3 : Nat) (Option.some Jvm.ClassFile.FieldType.boolean) ∈ GW := GW_t 671 (by decide +kernel) rfl
theorem w_684 : Jvm.Cond.static ({ cls := "WidowRoads", name := "isStep", desc := "(J)Z" } : Jvm.MethodName) ∈ GW := GW_t 684 (by decide +kernel) rfl
theorem w_685 : Jvm.Cond.code ({ cls := "WidowRoads", name := "isStep", desc := "(J)Z" } : Jvm.MethodName) prog_1_method_85_code (2 : Nat) (Option.some Jvm.ClassFile.FieldType.boolean) ∈ GW := GW_t 685 (by decide +kernel) rfl
theorem w_686 : Jvm.Cond.constantLong "WidowRoads" (448 : Nat) (40 : Int64) ∈ GW := GW_t 686 (by decide +kernel) rfl
theorem w_689 : Jvm.Cond.instanceMethod ({ cls := "WidowRoads$Story", name := "spotAt", desc := "(II)I" } : Jvm.MethodName) ∈ GW := GW_t 689 (by decide +kernel) rfl
theorem w_690 : Jvm.Cond.code ({ cls := "WidowRoads$Story", name := "spotAt", desc := "(II)I" } : Jvm.MethodName) prog_8_method_12_code (3 : Nat) (Option.some Jvm.ClassFile.FieldType.int) ∈ GW := GW_t 690 (by decide +kernel) rfl
theorem w_746 : Jvm.Cond.constantLong "WidowRoads$Net" (31 : Nat) (9187201950435737471 : Int64) ∈ GW := GW_t 746 (by decide +kernel) rfl
theorem w_753 : Jvm.Cond.methodLink "WidowRoads$Net" (37 : Nat) ({ cls := "WidowRoads$Net", name := "spread", desc := "(J)J" } : Jvm.MethodName) ∈ GW := GW_t 753 (by decide +kernel) rfl
theorem w_755 : Jvm.Cond.instanceMethod ({ cls := "WidowRoads$Net", name := "spread", desc := "(J)J" } : Jvm.MethodName) ∈ GW := GW_t 755 (by decide +kernel) rfl
theorem w_756 : Jvm.Cond.code ({ cls := "WidowRoads$Net", name := "spread", desc := "(J)J" } : Jvm.MethodName) prog_5_method_4_code (11 : Nat) (Option.some Jvm.ClassFile.FieldType.long) ∈ GW := GW_t 756 (by decide +kernel) rfl
theorem w_771 : Jvm.Cond.instanceMethod ({ cls := "WidowRoads$Story", name := "pegsIn", desc := "(I)I" } : Jvm.MethodName) ∈ GW := GW_t 771 (by decide +kernel) rfl
theorem w_772 : Jvm.Cond.code ({ cls := "WidowRoads$Story", name := "pegsIn", desc := "(I)I" } : Jvm.MethodName) prog_8_method_14_code (2 : Nat) (Option.some Jvm.ClassFile.FieldType.int) ∈ GW := GW_t 772 (by decide +kernel) rfl
theorem w_773 : Jvm.Cond.methodLink "WidowRoads$Story" (158 : Nat) ({ cls := "java/lang/Long", name := "bitCount", desc := "(J)I" } : Jvm.MethodName) ∈ GW := GW_t 773 (by decide +kernel) rfl
theorem w_784 : Jvm.Cond.instanceMethod ({ cls := "WidowRoads$Net", name := "sidesJoined", desc := "(I)I" } : Jvm.MethodName) ∈ GW := GW_t 784 (by decide +kernel) rfl
theorem w_785 : Jvm.Cond.code ({ cls := "WidowRoads$Net", name := "sidesJoined", desc := "(I)I" } : Jvm.MethodName) prog_5_method_9_code (5 : Nat) (Option.some Jvm.ClassFile.FieldType.int) ∈ GW := GW_t 785 (by decide +kernel) rfl
theorem w_796 : Jvm.Cond.methodLink "WidowRoads$Net" (62 : Nat) ({ cls := "WidowRoads$Net", name := "sidesJoined", desc := "(I)I" } : Jvm.MethodName) ∈ GW := GW_t 796 (by decide +kernel) rfl
theorem w_797 : Jvm.Cond.methodLink "WidowRoads$Net" (66 : Nat) ({ cls := "java/lang/Integer", name := "bitCount", desc := "(I)I" } : Jvm.MethodName) ∈ GW := GW_t 797 (by decide +kernel) rfl
theorem w_798 : Jvm.Cond.static ({ cls := "java/lang/Integer", name := "bitCount", desc := "(I)I" } : Jvm.MethodName) ∈ GW := GW_t 798 (by decide +kernel) rfl
theorem w_799 : Jvm.Cond.code ({ cls := "java/lang/Integer", name := "bitCount", desc := "(I)I" } : Jvm.MethodName) prog_13_method_49_code (1 : Nat) (Option.some Jvm.ClassFile.FieldType.int) ∈ GW := GW_t 799 (by decide +kernel) rfl
theorem w_800 : Jvm.Cond.constant "java/lang/Integer" (265 : Nat) (1431655765 : Int32) ∈ GW := GW_t 800 (by decide +kernel) rfl
theorem w_801 : Jvm.Cond.constant "java/lang/Integer" (266 : Nat) (858993459 : Int32) ∈ GW := GW_t 801 (by decide +kernel) rfl
theorem w_802 : Jvm.Cond.constant "java/lang/Integer" (267 : Nat) (252645135 : Int32) ∈ GW := GW_t 802 (by decide +kernel) rfl
theorem w_812 : Jvm.Cond.methodLink "WidowRoads$Net" (45 : Nat) ({ cls := "WidowRoads$Net", name := "reach", desc := "(I)J" } : Jvm.MethodName) ∈ GW := GW_t 812 (by decide +kernel) rfl
theorem w_814 : Jvm.Cond.instanceMethod ({ cls := "WidowRoads$Net", name := "reach", desc := "(I)J" } : Jvm.MethodName) ∈ GW := GW_t 814 (by decide +kernel) rfl
theorem w_815 : Jvm.Cond.code ({ cls := "WidowRoads$Net", name := "reach", desc := "(I)J" } : Jvm.MethodName) prog_5_method_5_code (7 : Nat) (Option.some Jvm.ClassFile.FieldType.long) ∈ GW := GW_t 815 (by decide +kernel) rfl
theorem w_816 : Jvm.Cond.constantLong "WidowRoads$Net" (48 : Nat) (-1 : Int64) ∈ GW := GW_t 816 (by decide +kernel) rfl
theorem w_909 : Jvm.Cond.methodLink "WidowRoads" (451 : Nat) ({ cls := "WidowRoads", name := "beside", desc := "(II)I" } : Jvm.MethodName) ∈ GW := GW_t 909 (by decide +kernel) rfl
theorem w_910 : Jvm.Cond.methodLink "WidowRoads" (290 : Nat) ({ cls := "WidowRoads", name := "bit", desc := "(I)J" } : Jvm.MethodName) ∈ GW := GW_t 910 (by decide +kernel) rfl
theorem w_1030 : Jvm.Cond.methodLink "WidowRoads$Evenings" (52 : Nat) ({ cls := "java/lang/Integer", name := "bitCount", desc := "(I)I" } : Jvm.MethodName) ∈ GW := GW_t 1030 (by decide +kernel) rfl
theorem w_1031 : Jvm.Cond.methodLink "WidowRoads$Evenings" (57 : Nat) ({ cls := "WidowRoads$Evenings", name := "orders", desc := "(I)J" } : Jvm.MethodName) ∈ GW := GW_t 1031 (by decide +kernel) rfl
theorem w_1032 : Jvm.Cond.static ({ cls := "WidowRoads$Evenings", name := "orders", desc := "(I)J" } : Jvm.MethodName) ∈ GW := GW_t 1032 (by decide +kernel) rfl
theorem w_1033 : Jvm.Cond.code ({ cls := "WidowRoads$Evenings", name := "orders", desc := "(I)J" } : Jvm.MethodName) prog_3_method_4_code (4 : Nat) (Option.some Jvm.ClassFile.FieldType.long) ∈ GW := GW_t 1033 (by decide +kernel) rfl
theorem w_1036 : Jvm.Cond.instanceMethod ({ cls := "WidowRoads$Fraction", name := "reduce", desc := "(JJ)V" } : Jvm.MethodName) ∈ GW := GW_t 1036 (by decide +kernel) rfl
theorem w_1037 : Jvm.Cond.code ({ cls := "WidowRoads$Fraction", name := "reduce", desc := "(JJ)V" } : Jvm.MethodName) prog_4_method_2_code (12 : Nat) (Option.none : Option Jvm.ClassFile.FieldType) ∈ GW := GW_t 1037 (by decide +kernel) rfl
theorem w_1038 : Jvm.Cond.methodLink "WidowRoads$Fraction" (13 : Nat) ({ cls := "java/lang/Math", name := "abs", desc := "(J)J" } : Jvm.MethodName) ∈ GW := GW_t 1038 (by decide +kernel) rfl
theorem w_1039 : Jvm.Cond.static ({ cls := "java/lang/Math", name := "abs", desc := "(J)J" } : Jvm.MethodName) ∈ GW := GW_t 1039 (by decide +kernel) rfl
theorem w_1040 : Jvm.Cond.code ({ cls := "java/lang/Math", name := "abs", desc := "(J)J" } : Jvm.MethodName) prog_15_method_61_code (2 : Nat) (Option.some Jvm.ClassFile.FieldType.long) ∈ GW := GW_t 1040 (by decide +kernel) rfl
theorem w_1079 : Jvm.Cond.methodLink "WidowRoads$Evenings" (71 : Nat) ({ cls := "WidowRoads$Evenings", name := "weight", desc := "(LWidowRoads$Colony;I)J" } : Jvm.MethodName) ∈ GW := GW_t 1079 (by decide +kernel) rfl
theorem w_1080 : Jvm.Cond.static ({ cls := "WidowRoads$Evenings", name := "weight", desc := "(LWidowRoads$Colony;I)J" } : Jvm.MethodName) ∈ GW := GW_t 1080 (by decide +kernel) rfl
theorem w_1081 : Jvm.Cond.code ({ cls := "WidowRoads$Evenings", name := "weight", desc := "(LWidowRoads$Colony;I)J" } : Jvm.MethodName) prog_3_method_7_code (3 : Nat) (Option.some Jvm.ClassFile.FieldType.long) ∈ GW := GW_t 1081 (by decide +kernel) rfl
theorem w_1082 : Jvm.Cond.methodLink "WidowRoads$Evenings" (75 : Nat) ({ cls := "WidowRoads$Evenings", name := "power", desc := "(II)J" } : Jvm.MethodName) ∈ GW := GW_t 1082 (by decide +kernel) rfl
theorem w_1083 : Jvm.Cond.static ({ cls := "WidowRoads$Evenings", name := "power", desc := "(II)J" } : Jvm.MethodName) ∈ GW := GW_t 1083 (by decide +kernel) rfl
theorem w_1084 : Jvm.Cond.code ({ cls := "WidowRoads$Evenings", name := "power", desc := "(II)J" } : Jvm.MethodName) prog_3_method_8_code (5 : Nat) (Option.some Jvm.ClassFile.FieldType.long) ∈ GW := GW_t 1084 (by decide +kernel) rfl
theorem w_1120 : Jvm.Cond.constant "WidowRoads" (450 : Nat) (2000000000 : Int32) ∈ GW := GW_t 1120 (by decide +kernel) rfl
theorem w_1171 : Jvm.Cond.methodLink "WidowRoads$Rows" (30 : Nat) ({ cls := "WidowRoads$Rows", name := "cut", desc := "(JI)J" } : Jvm.MethodName) ∈ GW := GW_t 1171 (by decide +kernel) rfl
theorem w_1172 : Jvm.Cond.static ({ cls := "WidowRoads$Rows", name := "cut", desc := "(JI)J" } : Jvm.MethodName) ∈ GW := GW_t 1172 (by decide +kernel) rfl
theorem w_1173 : Jvm.Cond.code ({ cls := "WidowRoads$Rows", name := "cut", desc := "(JI)J" } : Jvm.MethodName) prog_7_method_6_code (3 : Nat) (Option.some Jvm.ClassFile.FieldType.long) ∈ GW := GW_t 1173 (by decide +kernel) rfl
theorem w_1186 : Jvm.Cond.methodLink "WidowRoads$Rows" (34 : Nat) ({ cls := "java/lang/System", name := "arraycopy", desc := "(Ljava/lang/Object;ILjava/lang/Object;II)V" } : Jvm.MethodName) ∈ GW := GW_t 1186 (by decide +kernel) rfl
theorem w_1990 : Jvm.Cond.fieldLink "java/lang/String" (9 : Nat) "java/lang/String" "value" "[B" ∈ GW := GW_t 1990 (by decide +kernel) rfl
theorem w_1991 : Jvm.Cond.fieldLink "java/lang/String" (15 : Nat) "java/lang/String" "coder" "B" ∈ GW := GW_t 1991 (by decide +kernel) rfl
theorem iG_X0 : ∀ w ∈ wsX00, w ∈ GW := GW_in [123, 125, 127, 129, 131, 133, 135, 137, 139, 141, 143, 145, 147, 149, 151, 153, 155, 157, 159] (by decide +kernel) (by decide +kernel)
theorem iG_X1 : ∀ w ∈ wsX10, w ∈ GW := GW_in [293, 295, 297] (by decide +kernel) (by decide +kernel)
theorem iG_X2 : ∀ w ∈ wsX20, w ∈ GW := GW_in [346, 348] (by decide +kernel) (by decide +kernel)
theorem iG_X3 : ∀ w ∈ wsX30, w ∈ GW := GW_in [309, 311, 313] (by decide +kernel) (by decide +kernel)
theorem iG_X4 : ∀ w ∈ wsX40, w ∈ GW := GW_in [174, 176, 178, 180, 182, 184, 186] (by decide +kernel) (by decide +kernel)
theorem iG_X5 : ∀ w ∈ wsX50, w ∈ GW := GW_in [328, 330, 332, 334] (by decide +kernel) (by decide +kernel)
theorem iG_X6 : ∀ w ∈ wsX60, w ∈ GW := GW_in [256, 258, 260, 262, 264, 266, 268, 270, 272, 274, 276, 278] (by decide +kernel) (by decide +kernel)
theorem iG_X7 : ∀ w ∈ wsX70, w ∈ GW := GW_in [214, 216, 218, 220, 222, 224] (by decide +kernel) (by decide +kernel)
theorem iG_X8 : ∀ w ∈ wsX80, w ∈ GW := GW_in [43, 45] (by decide +kernel) (by decide +kernel)
theorem nw_56 : Jvm.Cond.fieldLinkNest "WidowRoads$Reader" (44 : Nat) "WidowRoads$Colony" "lines" "I" "WidowRoads" ∈ tables_1 := List.mem_of_getElem? (i := 56) (by decide +kernel)
theorem nw_59 : Jvm.Cond.fieldLinkNest "WidowRoads$Story" (47 : Nat) "WidowRoads$Colony" "span" "I" "WidowRoads" ∈ tables_1 := List.mem_of_getElem? (i := 59) (by decide +kernel)
theorem nw_60 : Jvm.Cond.fieldLinkNest "WidowRoads$Evenings" (45 : Nat) "WidowRoads$Colony" "span" "I" "WidowRoads" ∈ tables_1 := List.mem_of_getElem? (i := 60) (by decide +kernel)
theorem nw_61 : Jvm.Cond.fieldLinkNest "WidowRoads$Reader" (105 : Nat) "WidowRoads$Colony" "span" "I" "WidowRoads" ∈ tables_1 := List.mem_of_getElem? (i := 61) (by decide +kernel)
theorem nw_63 : Jvm.Cond.fieldLinkNest "WidowRoads$Supposal" (9 : Nat) "WidowRoads$Colony" "rule" "I" "WidowRoads" ∈ tables_1 := List.mem_of_getElem? (i := 63) (by decide +kernel)
theorem nw_65 : Jvm.Cond.fieldLinkNest "WidowRoads$Reader" (110 : Nat) "WidowRoads$Colony" "rule" "I" "WidowRoads" ∈ tables_1 := List.mem_of_getElem? (i := 65) (by decide +kernel)
theorem nw_68 : Jvm.Cond.fieldLinkNest "WidowRoads$Reader" (115 : Nat) "WidowRoads$Colony" "odds" "I" "WidowRoads" ∈ tables_1 := List.mem_of_getElem? (i := 68) (by decide +kernel)
theorem nw_69 : Jvm.Cond.fieldLinkNest "WidowRoads$Evenings" (79 : Nat) "WidowRoads$Colony" "odds" "I" "WidowRoads" ∈ tables_1 := List.mem_of_getElem? (i := 69) (by decide +kernel)
theorem nw_72 : Jvm.Cond.fieldLinkNest "WidowRoads$Reader" (119 : Nat) "WidowRoads$Colony" "wide" "I" "WidowRoads" ∈ tables_1 := List.mem_of_getElem? (i := 72) (by decide +kernel)
theorem nw_75 : Jvm.Cond.fieldLinkNest "WidowRoads$Reader" (123 : Nat) "WidowRoads$Colony" "high" "I" "WidowRoads" ∈ tables_1 := List.mem_of_getElem? (i := 75) (by decide +kernel)
theorem nw_78 : Jvm.Cond.fieldLinkNest "WidowRoads$Reader" (125 : Nat) "WidowRoads$Colony" "creeks" "I" "WidowRoads" ∈ tables_1 := List.mem_of_getElem? (i := 78) (by decide +kernel)
theorem nw_81 : Jvm.Cond.fieldLinkNest "WidowRoads$Story" (83 : Nat) "WidowRoads$Colony" "houses" "I" "WidowRoads" ∈ tables_1 := List.mem_of_getElem? (i := 81) (by decide +kernel)
theorem nw_82 : Jvm.Cond.fieldLinkNest "WidowRoads$Reader" (140 : Nat) "WidowRoads$Colony" "houses" "I" "WidowRoads" ∈ tables_1 := List.mem_of_getElem? (i := 82) (by decide +kernel)
theorem nw_84 : Jvm.Cond.fieldLinkNest "WidowRoads$Evenings" (23 : Nat) "WidowRoads$Colony" "widows" "I" "WidowRoads" ∈ tables_1 := List.mem_of_getElem? (i := 84) (by decide +kernel)
theorem nw_85 : Jvm.Cond.fieldLinkNest "WidowRoads$Story" (57 : Nat) "WidowRoads$Colony" "widows" "I" "WidowRoads" ∈ tables_1 := List.mem_of_getElem? (i := 85) (by decide +kernel)
theorem nw_87 : Jvm.Cond.fieldLinkNest "WidowRoads$Reader" (149 : Nat) "WidowRoads$Colony" "widows" "I" "WidowRoads" ∈ tables_1 := List.mem_of_getElem? (i := 87) (by decide +kernel)
theorem nw_92 : Jvm.Cond.fieldLinkNest "WidowRoads$Reader" (128 : Nat) "WidowRoads$Colony" "creekSpots" "[I" "WidowRoads" ∈ tables_1 := List.mem_of_getElem? (i := 92) (by decide +kernel)
theorem nw_95 : Jvm.Cond.fieldLinkNest "WidowRoads$Story" (87 : Nat) "WidowRoads$Colony" "houseSpots" "[I" "WidowRoads" ∈ tables_1 := List.mem_of_getElem? (i := 95) (by decide +kernel)
theorem nw_96 : Jvm.Cond.fieldLinkNest "WidowRoads$Reader" (143 : Nat) "WidowRoads$Colony" "houseSpots" "[I" "WidowRoads" ∈ tables_1 := List.mem_of_getElem? (i := 96) (by decide +kernel)
theorem nw_98 : Jvm.Cond.fieldLinkNest "WidowRoads$Story" (101 : Nat) "WidowRoads$Colony" "starts" "[I" "WidowRoads" ∈ tables_1 := List.mem_of_getElem? (i := 98) (by decide +kernel)
theorem nw_100 : Jvm.Cond.fieldLinkNest "WidowRoads$Reader" (152 : Nat) "WidowRoads$Colony" "starts" "[I" "WidowRoads" ∈ tables_1 := List.mem_of_getElem? (i := 100) (by decide +kernel)
theorem nw_102 : Jvm.Cond.fieldLinkNest "WidowRoads$Supposal" (42 : Nat) "WidowRoads$Colony" "faces" "[I" "WidowRoads" ∈ tables_1 := List.mem_of_getElem? (i := 102) (by decide +kernel)
theorem nw_104 : Jvm.Cond.fieldLinkNest "WidowRoads$Reader" (155 : Nat) "WidowRoads$Colony" "faces" "[I" "WidowRoads" ∈ tables_1 := List.mem_of_getElem? (i := 104) (by decide +kernel)
theorem nw_106 : Jvm.Cond.fieldLinkNest "WidowRoads$Story" (112 : Nat) "WidowRoads$Colony" "paces" "[I" "WidowRoads" ∈ tables_1 := List.mem_of_getElem? (i := 106) (by decide +kernel)
theorem nw_108 : Jvm.Cond.fieldLinkNest "WidowRoads$Reader" (159 : Nat) "WidowRoads$Colony" "paces" "[I" "WidowRoads" ∈ tables_1 := List.mem_of_getElem? (i := 108) (by decide +kernel)
theorem nw_110 : Jvm.Cond.fieldLinkNest "WidowRoads$Story" (60 : Nat) "WidowRoads$Colony" "years" "[I" "WidowRoads" ∈ tables_1 := List.mem_of_getElem? (i := 110) (by decide +kernel)
theorem nw_112 : Jvm.Cond.fieldLinkNest "WidowRoads$Reader" (164 : Nat) "WidowRoads$Colony" "years" "[I" "WidowRoads" ∈ tables_1 := List.mem_of_getElem? (i := 112) (by decide +kernel)
theorem nw_114 : Jvm.Cond.fieldLinkNest "WidowRoads$Supposal" (45 : Nat) "WidowRoads$Colony" "turns" "[I" "WidowRoads" ∈ tables_1 := List.mem_of_getElem? (i := 114) (by decide +kernel)
theorem nw_116 : Jvm.Cond.fieldLinkNest "WidowRoads$Reader" (174 : Nat) "WidowRoads$Colony" "turns" "[I" "WidowRoads" ∈ tables_1 := List.mem_of_getElem? (i := 116) (by decide +kernel)
theorem nw_118 : Jvm.Cond.fieldLinkNest "WidowRoads$Supposal" (48 : Nat) "WidowRoads$Colony" "griefs" "[I" "WidowRoads" ∈ tables_1 := List.mem_of_getElem? (i := 118) (by decide +kernel)
theorem nw_120 : Jvm.Cond.fieldLinkNest "WidowRoads$Reader" (181 : Nat) "WidowRoads$Colony" "griefs" "[I" "WidowRoads" ∈ tables_1 := List.mem_of_getElem? (i := 120) (by decide +kernel)
theorem nw_199 : Jvm.Cond.fieldLinkNest "WidowRoads$Story" (119 : Nat) "WidowRoads$Supposal" "rule" "I" "WidowRoads" ∈ tables_1 := List.mem_of_getElem? (i := 199) (by decide +kernel)
theorem nw_202 : Jvm.Cond.fieldLinkNest "WidowRoads$Evenings" (35 : Nat) "WidowRoads$Supposal" "walkers" "I" "WidowRoads" ∈ tables_1 := List.mem_of_getElem? (i := 202) (by decide +kernel)
theorem nw_203 : Jvm.Cond.fieldLinkNest "WidowRoads$Story" (63 : Nat) "WidowRoads$Supposal" "walkers" "I" "WidowRoads" ∈ tables_1 := List.mem_of_getElem? (i := 203) (by decide +kernel)
theorem nw_206 : Jvm.Cond.fieldLinkNest "WidowRoads$Story" (96 : Nat) "WidowRoads$Supposal" "creeks" "J" "WidowRoads" ∈ tables_1 := List.mem_of_getElem? (i := 206) (by decide +kernel)
theorem nw_247 : Jvm.Cond.fieldLinkNest "WidowRoads$Net" (9 : Nat) "WidowRoads$Story" "roads" "[J" "WidowRoads" ∈ tables_1 := List.mem_of_getElem? (i := 247) (by decide +kernel)
theorem nw_248 : Jvm.Cond.fieldLinkNest "WidowRoads$Evenings" (44 : Nat) "WidowRoads$Story" "roads" "[J" "WidowRoads" ∈ tables_1 := List.mem_of_getElem? (i := 248) (by decide +kernel)
theorem nw_251 : Jvm.Cond.fieldLinkNest "WidowRoads$Net" (21 : Nat) "WidowRoads$Story" "across" "[J" "WidowRoads" ∈ tables_1 := List.mem_of_getElem? (i := 251) (by decide +kernel)
theorem nw_253 : Jvm.Cond.fieldLinkNest "WidowRoads$Net" (26 : Nat) "WidowRoads$Story" "down" "[J" "WidowRoads" ∈ tables_1 := List.mem_of_getElem? (i := 253) (by decide +kernel)
theorem nw_405 : Jvm.Cond.methodLinkNest "WidowRoads$Reader" (29 : Nat) ({ cls := "WidowRoads$Colony", name := "clear", desc := "()V" } : Jvm.MethodName) "WidowRoads" ∈ tables_1 := List.mem_of_getElem? (i := 405) (by decide +kernel)
theorem nw_413 : Jvm.Cond.methodLinkNest "WidowRoads$Reader" (79 : Nat) ({ cls := "WidowRoads$Tape", name := "byteAt", desc := "(I)I" } : Jvm.MethodName) "WidowRoads" ∈ tables_1 := List.mem_of_getElem? (i := 413) (by decide +kernel)
theorem nw_513 : Jvm.Cond.methodLinkNest "WidowRoads$Reader" (132 : Nat) ({ cls := "WidowRoads$Colony", name := "creekBits", desc := "()J" } : Jvm.MethodName) "WidowRoads" ∈ tables_1 := List.mem_of_getElem? (i := 513) (by decide +kernel)
theorem nw_517 : Jvm.Cond.methodLinkNest "WidowRoads$Colony" (80 : Nat) ({ cls := "WidowRoads", name := "bit", desc := "(I)J" } : Jvm.MethodName) "WidowRoads" ∈ tables_1 := List.mem_of_getElem? (i := 517) (by decide +kernel)
theorem nw_525 : Jvm.Cond.methodLinkNest "WidowRoads$Reader" (196 : Nat) ({ cls := "WidowRoads", name := "has", desc := "(JI)Z" } : Jvm.MethodName) "WidowRoads" ∈ tables_1 := List.mem_of_getElem? (i := 525) (by decide +kernel)
theorem nw_533 : Jvm.Cond.methodLinkNest "WidowRoads$Reader" (146 : Nat) ({ cls := "WidowRoads$Colony", name := "houseBits", desc := "()J" } : Jvm.MethodName) "WidowRoads" ∈ tables_1 := List.mem_of_getElem? (i := 533) (by decide +kernel)
theorem nw_577 : Jvm.Cond.methodLinkNest "WidowRoads$Supposal" (18 : Nat) ({ cls := "WidowRoads$Colony", name := "walkerBits", desc := "()I" } : Jvm.MethodName) "WidowRoads" ∈ tables_1 := List.mem_of_getElem? (i := 577) (by decide +kernel)
theorem nw_581 : Jvm.Cond.methodLinkNest "WidowRoads$Supposal" (25 : Nat) ({ cls := "WidowRoads$Colony", name := "creekBits", desc := "()J" } : Jvm.MethodName) "WidowRoads" ∈ tables_1 := List.mem_of_getElem? (i := 581) (by decide +kernel)
theorem nw_590 : Jvm.Cond.methodLinkNest "WidowRoads$Story" (76 : Nat) ({ cls := "WidowRoads$Colony", name := "field", desc := "()J" } : Jvm.MethodName) "WidowRoads" ∈ tables_1 := List.mem_of_getElem? (i := 590) (by decide +kernel)
theorem nw_604 : Jvm.Cond.methodLinkNest "WidowRoads$Story" (104 : Nat) ({ cls := "WidowRoads$Supposal", name := "facesAtFirst", desc := "(LWidowRoads$Colony;I)I" } : Jvm.MethodName) "WidowRoads" ∈ tables_1 := List.mem_of_getElem? (i := 604) (by decide +kernel)
theorem nw_608 : Jvm.Cond.methodLinkNest "WidowRoads$Story" (108 : Nat) ({ cls := "WidowRoads", name := "bit", desc := "(I)J" } : Jvm.MethodName) "WidowRoads" ∈ tables_1 := List.mem_of_getElem? (i := 608) (by decide +kernel)
theorem nw_609 : Jvm.Cond.methodLinkNest "WidowRoads$Story" (115 : Nat) ({ cls := "WidowRoads$Supposal", name := "turnOf", desc := "(LWidowRoads$Colony;II)I" } : Jvm.MethodName) "WidowRoads" ∈ tables_1 := List.mem_of_getElem? (i := 609) (by decide +kernel)
theorem nw_619 : Jvm.Cond.methodLinkNest "WidowRoads$Story" (134 : Nat) ({ cls := "WidowRoads", name := "beside", desc := "(II)I" } : Jvm.MethodName) "WidowRoads" ∈ tables_1 := List.mem_of_getElem? (i := 619) (by decide +kernel)
theorem nw_622 : Jvm.Cond.methodLinkNest "WidowRoads$Story" (138 : Nat) ({ cls := "WidowRoads", name := "has", desc := "(JI)Z" } : Jvm.MethodName) "WidowRoads" ∈ tables_1 := List.mem_of_getElem? (i := 622) (by decide +kernel)
theorem nw_636 : Jvm.Cond.methodLinkNest "WidowRoads$Story" (150 : Nat) ({ cls := "WidowRoads", name := "leastOf", desc := "(J)I" } : Jvm.MethodName) "WidowRoads" ∈ tables_1 := List.mem_of_getElem? (i := 636) (by decide +kernel)
theorem nw_719 : Jvm.Cond.methodLinkNest "WidowRoads$Story" (154 : Nat) ({ cls := "WidowRoads", name := "oneIf", desc := "(Z)I" } : Jvm.MethodName) "WidowRoads" ∈ tables_1 := List.mem_of_getElem? (i := 719) (by decide +kernel)
theorem nw_751 : Jvm.Cond.methodLinkNest "WidowRoads$Net" (33 : Nat) ({ cls := "WidowRoads", name := "bit", desc := "(I)J" } : Jvm.MethodName) "WidowRoads" ∈ tables_1 := List.mem_of_getElem? (i := 751) (by decide +kernel)
theorem nw_752 : Jvm.Cond.methodLinkNest "WidowRoads$Net" (50 : Nat) ({ cls := "WidowRoads", name := "has", desc := "(JI)Z" } : Jvm.MethodName) "WidowRoads" ∈ tables_1 := List.mem_of_getElem? (i := 752) (by decide +kernel)
theorem nw_786 : Jvm.Cond.methodLinkNest "WidowRoads$Net" (54 : Nat) ({ cls := "WidowRoads", name := "oneIf", desc := "(Z)I" } : Jvm.MethodName) "WidowRoads" ∈ tables_1 := List.mem_of_getElem? (i := 786) (by decide +kernel)
theorem nw_787 : Jvm.Cond.methodLinkNest "WidowRoads$Net" (58 : Nat) ({ cls := "WidowRoads", name := "beside", desc := "(II)I" } : Jvm.MethodName) "WidowRoads" ∈ tables_1 := List.mem_of_getElem? (i := 787) (by decide +kernel)
theorem nw_811 : Jvm.Cond.methodLinkNest "WidowRoads$Net" (41 : Nat) ({ cls := "WidowRoads", name := "leastOf", desc := "(J)I" } : Jvm.MethodName) "WidowRoads" ∈ tables_1 := List.mem_of_getElem? (i := 811) (by decide +kernel)
theorem nw_962 : Jvm.Cond.methodLinkNest "WidowRoads$Rows" (40 : Nat) ({ cls := "WidowRoads$Colony", name := "hasWidow", desc := "(J)Z" } : Jvm.MethodName) "WidowRoads" ∈ tables_1 := List.mem_of_getElem? (i := 962) (by decide +kernel)
theorem nw_963 : Jvm.Cond.methodLinkNest "WidowRoads$Rows" (46 : Nat) ({ cls := "WidowRoads", name := "isStep", desc := "(J)Z" } : Jvm.MethodName) "WidowRoads" ∈ tables_1 := List.mem_of_getElem? (i := 963) (by decide +kernel)
theorem nw_964 : Jvm.Cond.methodLinkNest "WidowRoads$Rows" (49 : Nat) ({ cls := "WidowRoads$Colony", name := "spotOf", desc := "(J)I" } : Jvm.MethodName) "WidowRoads" ∈ tables_1 := List.mem_of_getElem? (i := 964) (by decide +kernel)
theorem nw_973 : Jvm.Cond.methodLinkNest "WidowRoads$Rows" (53 : Nat) ({ cls := "WidowRoads$Story", name := "spotAt", desc := "(II)I" } : Jvm.MethodName) "WidowRoads" ∈ tables_1 := List.mem_of_getElem? (i := 973) (by decide +kernel)
theorem nw_1015 : Jvm.Cond.methodLinkNest "WidowRoads$Evenings" (29 : Nat) ({ cls := "WidowRoads$Supposal", name := "asNow", desc := "(LWidowRoads$Colony;)V" } : Jvm.MethodName) "WidowRoads" ∈ tables_1 := List.mem_of_getElem? (i := 1015) (by decide +kernel)
theorem nw_1016 : Jvm.Cond.methodLinkNest "WidowRoads$Evenings" (38 : Nat) ({ cls := "WidowRoads$Story", name := "tell", desc := "(LWidowRoads$Colony;LWidowRoads$Supposal;)V" } : Jvm.MethodName) "WidowRoads" ∈ tables_1 := List.mem_of_getElem? (i := 1016) (by decide +kernel)
theorem nw_1017 : Jvm.Cond.methodLinkNest "WidowRoads$Evenings" (48 : Nat) ({ cls := "WidowRoads$Story", name := "pegsIn", desc := "(I)I" } : Jvm.MethodName) "WidowRoads" ∈ tables_1 := List.mem_of_getElem? (i := 1017) (by decide +kernel)
theorem nw_1034 : Jvm.Cond.methodLinkNest "WidowRoads$Evenings" (61 : Nat) ({ cls := "WidowRoads$Fraction", name := "reduce", desc := "(JJ)V" } : Jvm.MethodName) "WidowRoads" ∈ tables_1 := List.mem_of_getElem? (i := 1034) (by decide +kernel)
theorem nw_1078 : Jvm.Cond.methodLinkNest "WidowRoads$Evenings" (67 : Nat) ({ cls := "WidowRoads", name := "has", desc := "(JI)Z" } : Jvm.MethodName) "WidowRoads" ∈ tables_1 := List.mem_of_getElem? (i := 1078) (by decide +kernel)
theorem nw_1146 : Jvm.Cond.methodLinkNest "WidowRoads$Rows" (26 : Nat) ({ cls := "WidowRoads", name := "oneIf", desc := "(Z)I" } : Jvm.MethodName) "WidowRoads" ∈ tables_1 := List.mem_of_getElem? (i := 1146) (by decide +kernel)
theorem hd_J0_charAt_5068e : yJ0_charAt_5068e.cls ≠ "java/lang/invoke/MethodHandle" ∧ yJ0_charAt_5068e.cls ≠ "java/lang/invoke/VarHandle" ∧ (parseMethodDescriptor yJ0_charAt_5068e.desc).map (fun d => d.parameters.length) = some 1 := by decide +kernel
theorem hd_J0_checkIndex_df160 : yJ0_checkIndex_df160.cls ≠ "java/lang/invoke/MethodHandle" ∧ yJ0_checkIndex_df160.cls ≠ "java/lang/invoke/VarHandle" ∧ (parseMethodDescriptor yJ0_checkIndex_df160.desc).map (fun d => d.parameters.length) = some 2 := by decide +kernel
theorem hd_J0_coder_7d493 : yJ0_coder_7d493.cls ≠ "java/lang/invoke/MethodHandle" ∧ yJ0_coder_7d493.cls ≠ "java/lang/invoke/VarHandle" ∧ (parseMethodDescriptor yJ0_coder_7d493.desc).map (fun d => d.parameters.length) = some 0 := by decide +kernel
theorem hd_J0_isLatin1_aae02 : yJ0_isLatin1_aae02.cls ≠ "java/lang/invoke/MethodHandle" ∧ yJ0_isLatin1_aae02.cls ≠ "java/lang/invoke/VarHandle" ∧ (parseMethodDescriptor yJ0_isLatin1_aae02.desc).map (fun d => d.parameters.length) = some 0 := by decide +kernel
theorem hd_J0_length_8abf5 : yJ0_length_8abf5.cls ≠ "java/lang/invoke/MethodHandle" ∧ yJ0_length_8abf5.cls ≠ "java/lang/invoke/VarHandle" ∧ (parseMethodDescriptor yJ0_length_8abf5.desc).map (fun d => d.parameters.length) = some 0 := by decide +kernel
theorem hd_J13_bitCount_95d88 : yJ13_bitCount_95d88.cls ≠ "java/lang/invoke/MethodHandle" ∧ yJ13_bitCount_95d88.cls ≠ "java/lang/invoke/VarHandle" ∧ (parseMethodDescriptor yJ13_bitCount_95d88.desc).map (fun d => d.parameters.length) = some 1 := by decide +kernel
theorem hd_J1_charAt_3b067 : yJ1_charAt_3b067.cls ≠ "java/lang/invoke/MethodHandle" ∧ yJ1_charAt_3b067.cls ≠ "java/lang/invoke/VarHandle" ∧ (parseMethodDescriptor yJ1_charAt_3b067.desc).map (fun d => d.parameters.length) = some 2 := by decide +kernel
theorem hd_J3_checkIndex_8e157 : yJ3_checkIndex_8e157.cls ≠ "java/lang/invoke/MethodHandle" ∧ yJ3_checkIndex_8e157.cls ≠ "java/lang/invoke/VarHandle" ∧ (parseMethodDescriptor yJ3_checkIndex_8e157.desc).map (fun d => d.parameters.length) = some 3 := by decide +kernel
theorem hd_J6_bitCount_0f7a4 : yJ6_bitCount_0f7a4.cls ≠ "java/lang/invoke/MethodHandle" ∧ yJ6_bitCount_0f7a4.cls ≠ "java/lang/invoke/VarHandle" ∧ (parseMethodDescriptor yJ6_bitCount_0f7a4.desc).map (fun d => d.parameters.length) = some 1 := by decide +kernel
theorem hd_X0_clear : yX0_clear.cls ≠ "java/lang/invoke/MethodHandle" ∧ yX0_clear.cls ≠ "java/lang/invoke/VarHandle" ∧ (parseMethodDescriptor yX0_clear.desc).map (fun d => d.parameters.length) = some 0 := by decide +kernel
theorem hd_X0_creekBits : yX0_creekBits.cls ≠ "java/lang/invoke/MethodHandle" ∧ yX0_creekBits.cls ≠ "java/lang/invoke/VarHandle" ∧ (parseMethodDescriptor yX0_creekBits.desc).map (fun d => d.parameters.length) = some 0 := by decide +kernel
theorem hd_X0_field : yX0_field.cls ≠ "java/lang/invoke/MethodHandle" ∧ yX0_field.cls ≠ "java/lang/invoke/VarHandle" ∧ (parseMethodDescriptor yX0_field.desc).map (fun d => d.parameters.length) = some 0 := by decide +kernel
theorem hd_X0_hasWidow : yX0_hasWidow.cls ≠ "java/lang/invoke/MethodHandle" ∧ yX0_hasWidow.cls ≠ "java/lang/invoke/VarHandle" ∧ (parseMethodDescriptor yX0_hasWidow.desc).map (fun d => d.parameters.length) = some 1 := by decide +kernel
theorem hd_X0_houseBits : yX0_houseBits.cls ≠ "java/lang/invoke/MethodHandle" ∧ yX0_houseBits.cls ≠ "java/lang/invoke/VarHandle" ∧ (parseMethodDescriptor yX0_houseBits.desc).map (fun d => d.parameters.length) = some 0 := by decide +kernel
theorem hd_X0_spotOf : yX0_spotOf.cls ≠ "java/lang/invoke/MethodHandle" ∧ yX0_spotOf.cls ≠ "java/lang/invoke/VarHandle" ∧ (parseMethodDescriptor yX0_spotOf.desc).map (fun d => d.parameters.length) = some 1 := by decide +kernel
theorem hd_X0_walkerBits : yX0_walkerBits.cls ≠ "java/lang/invoke/MethodHandle" ∧ yX0_walkerBits.cls ≠ "java/lang/invoke/VarHandle" ∧ (parseMethodDescriptor yX0_walkerBits.desc).map (fun d => d.parameters.length) = some 0 := by decide +kernel
theorem hd_X1_orders : yX1_orders.cls ≠ "java/lang/invoke/MethodHandle" ∧ yX1_orders.cls ≠ "java/lang/invoke/VarHandle" ∧ (parseMethodDescriptor yX1_orders.desc).map (fun d => d.parameters.length) = some 1 := by decide +kernel
theorem hd_X1_power : yX1_power.cls ≠ "java/lang/invoke/MethodHandle" ∧ yX1_power.cls ≠ "java/lang/invoke/VarHandle" ∧ (parseMethodDescriptor yX1_power.desc).map (fun d => d.parameters.length) = some 2 := by decide +kernel
theorem hd_X1_weight : yX1_weight.cls ≠ "java/lang/invoke/MethodHandle" ∧ yX1_weight.cls ≠ "java/lang/invoke/VarHandle" ∧ (parseMethodDescriptor yX1_weight.desc).map (fun d => d.parameters.length) = some 2 := by decide +kernel
theorem hd_X2_reduce : yX2_reduce.cls ≠ "java/lang/invoke/MethodHandle" ∧ yX2_reduce.cls ≠ "java/lang/invoke/VarHandle" ∧ (parseMethodDescriptor yX2_reduce.desc).map (fun d => d.parameters.length) = some 2 := by decide +kernel
theorem hd_X3_reach : yX3_reach.cls ≠ "java/lang/invoke/MethodHandle" ∧ yX3_reach.cls ≠ "java/lang/invoke/VarHandle" ∧ (parseMethodDescriptor yX3_reach.desc).map (fun d => d.parameters.length) = some 1 := by decide +kernel
theorem hd_X3_sidesJoined : yX3_sidesJoined.cls ≠ "java/lang/invoke/MethodHandle" ∧ yX3_sidesJoined.cls ≠ "java/lang/invoke/VarHandle" ∧ (parseMethodDescriptor yX3_sidesJoined.desc).map (fun d => d.parameters.length) = some 1 := by decide +kernel
theorem hd_X3_spread : yX3_spread.cls ≠ "java/lang/invoke/MethodHandle" ∧ yX3_spread.cls ≠ "java/lang/invoke/VarHandle" ∧ (parseMethodDescriptor yX3_spread.desc).map (fun d => d.parameters.length) = some 1 := by decide +kernel
theorem hd_X4_cell : yX4_cell.cls ≠ "java/lang/invoke/MethodHandle" ∧ yX4_cell.cls ≠ "java/lang/invoke/VarHandle" ∧ (parseMethodDescriptor yX4_cell.desc).map (fun d => d.parameters.length) = some 1 := by decide +kernel
theorem hd_X4_closeLine : yX4_closeLine.cls ≠ "java/lang/invoke/MethodHandle" ∧ yX4_closeLine.cls ≠ "java/lang/invoke/VarHandle" ∧ (parseMethodDescriptor yX4_closeLine.desc).map (fun d => d.parameters.length) = some 0 := by decide +kernel
theorem hd_X4_isBlank : yX4_isBlank.cls ≠ "java/lang/invoke/MethodHandle" ∧ yX4_isBlank.cls ≠ "java/lang/invoke/VarHandle" ∧ (parseMethodDescriptor yX4_isBlank.desc).map (fun d => d.parameters.length) = some 1 := by decide +kernel
theorem hd_X4_isDigit : yX4_isDigit.cls ≠ "java/lang/invoke/MethodHandle" ∧ yX4_isDigit.cls ≠ "java/lang/invoke/VarHandle" ∧ (parseMethodDescriptor yX4_isDigit.desc).map (fun d => d.parameters.length) = some 1 := by decide +kernel
theorem hd_X4_isLetter : yX4_isLetter.cls ≠ "java/lang/invoke/MethodHandle" ∧ yX4_isLetter.cls ≠ "java/lang/invoke/VarHandle" ∧ (parseMethodDescriptor yX4_isLetter.desc).map (fun d => d.parameters.length) = some 1 := by decide +kernel
theorem hd_X4_isWord : yX4_isWord.cls ≠ "java/lang/invoke/MethodHandle" ∧ yX4_isWord.cls ≠ "java/lang/invoke/VarHandle" ∧ (parseMethodDescriptor yX4_isWord.desc).map (fun d => d.parameters.length) = some 1 := by decide +kernel
theorem hd_X4_mark : yX4_mark.cls ≠ "java/lang/invoke/MethodHandle" ∧ yX4_mark.cls ≠ "java/lang/invoke/VarHandle" ∧ (parseMethodDescriptor yX4_mark.desc).map (fun d => d.parameters.length) = some 2 := by decide +kernel
theorem hd_X4_next : yX4_next.cls ≠ "java/lang/invoke/MethodHandle" ∧ yX4_next.cls ≠ "java/lang/invoke/VarHandle" ∧ (parseMethodDescriptor yX4_next.desc).map (fun d => d.parameters.length) = some 0 := by decide +kernel
theorem hd_X4_number : yX4_number.cls ≠ "java/lang/invoke/MethodHandle" ∧ yX4_number.cls ≠ "java/lang/invoke/VarHandle" ∧ (parseMethodDescriptor yX4_number.desc).map (fun d => d.parameters.length) = some 2 := by decide +kernel
theorem hd_X4_readColony : yX4_readColony.cls ≠ "java/lang/invoke/MethodHandle" ∧ yX4_readColony.cls ≠ "java/lang/invoke/VarHandle" ∧ (parseMethodDescriptor yX4_readColony.desc).map (fun d => d.parameters.length) = some 0 := by decide +kernel
theorem hd_X4_readCreek : yX4_readCreek.cls ≠ "java/lang/invoke/MethodHandle" ∧ yX4_readCreek.cls ≠ "java/lang/invoke/VarHandle" ∧ (parseMethodDescriptor yX4_readCreek.desc).map (fun d => d.parameters.length) = some 0 := by decide +kernel
theorem hd_X4_readHouse : yX4_readHouse.cls ≠ "java/lang/invoke/MethodHandle" ∧ yX4_readHouse.cls ≠ "java/lang/invoke/VarHandle" ∧ (parseMethodDescriptor yX4_readHouse.desc).map (fun d => d.parameters.length) = some 0 := by decide +kernel
theorem hd_X4_readTurns : yX4_readTurns.cls ≠ "java/lang/invoke/MethodHandle" ∧ yX4_readTurns.cls ≠ "java/lang/invoke/VarHandle" ∧ (parseMethodDescriptor yX4_readTurns.desc).map (fun d => d.parameters.length) = some 1 := by decide +kernel
theorem hd_X4_readWidow : yX4_readWidow.cls ≠ "java/lang/invoke/MethodHandle" ∧ yX4_readWidow.cls ≠ "java/lang/invoke/VarHandle" ∧ (parseMethodDescriptor yX4_readWidow.desc).map (fun d => d.parameters.length) = some 0 := by decide +kernel
theorem hd_X4_turn : yX4_turn.cls ≠ "java/lang/invoke/MethodHandle" ∧ yX4_turn.cls ≠ "java/lang/invoke/VarHandle" ∧ (parseMethodDescriptor yX4_turn.desc).map (fun d => d.parameters.length) = some 0 := by decide +kernel
theorem hd_X4_word : yX4_word.cls ≠ "java/lang/invoke/MethodHandle" ∧ yX4_word.cls ≠ "java/lang/invoke/VarHandle" ∧ (parseMethodDescriptor yX4_word.desc).map (fun d => d.parameters.length) = some 1 := by decide +kernel
theorem hd_X4_wordAndNumber : yX4_wordAndNumber.cls ≠ "java/lang/invoke/MethodHandle" ∧ yX4_wordAndNumber.cls ≠ "java/lang/invoke/VarHandle" ∧ (parseMethodDescriptor yX4_wordAndNumber.desc).map (fun d => d.parameters.length) = some 3 := by decide +kernel
theorem hd_X5_cut : yX5_cut.cls ≠ "java/lang/invoke/MethodHandle" ∧ yX5_cut.cls ≠ "java/lang/invoke/VarHandle" ∧ (parseMethodDescriptor yX5_cut.desc).map (fun d => d.parameters.length) = some 2 := by decide +kernel
theorem hd_X6_begin : yX6_begin.cls ≠ "java/lang/invoke/MethodHandle" ∧ yX6_begin.cls ≠ "java/lang/invoke/VarHandle" ∧ (parseMethodDescriptor yX6_begin.desc).map (fun d => d.parameters.length) = some 1 := by decide +kernel
theorem hd_X6_copyYear : yX6_copyYear.cls ≠ "java/lang/invoke/MethodHandle" ∧ yX6_copyYear.cls ≠ "java/lang/invoke/VarHandle" ∧ (parseMethodDescriptor yX6_copyYear.desc).map (fun d => d.parameters.length) = some 1 := by decide +kernel
theorem hd_X6_firstWay : yX6_firstWay.cls ≠ "java/lang/invoke/MethodHandle" ∧ yX6_firstWay.cls ≠ "java/lang/invoke/VarHandle" ∧ (parseMethodDescriptor yX6_firstWay.desc).map (fun d => d.parameters.length) = some 3 := by decide +kernel
theorem hd_X6_homeBits : yX6_homeBits.cls ≠ "java/lang/invoke/MethodHandle" ∧ yX6_homeBits.cls ≠ "java/lang/invoke/VarHandle" ∧ (parseMethodDescriptor yX6_homeBits.desc).map (fun d => d.parameters.length) = some 1 := by decide +kernel
theorem hd_X6_moveHouses : yX6_moveHouses.cls ≠ "java/lang/invoke/MethodHandle" ∧ yX6_moveHouses.cls ≠ "java/lang/invoke/VarHandle" ∧ (parseMethodDescriptor yX6_moveHouses.desc).map (fun d => d.parameters.length) = some 3 := by decide +kernel
theorem hd_X6_peg : yX6_peg.cls ≠ "java/lang/invoke/MethodHandle" ∧ yX6_peg.cls ≠ "java/lang/invoke/VarHandle" ∧ (parseMethodDescriptor yX6_peg.desc).map (fun d => d.parameters.length) = some 3 := by decide +kernel
theorem hd_X6_pegsIn : yX6_pegsIn.cls ≠ "java/lang/invoke/MethodHandle" ∧ yX6_pegsIn.cls ≠ "java/lang/invoke/VarHandle" ∧ (parseMethodDescriptor yX6_pegsIn.desc).map (fun d => d.parameters.length) = some 1 := by decide +kernel
theorem hd_X6_spotAt : yX6_spotAt.cls ≠ "java/lang/invoke/MethodHandle" ∧ yX6_spotAt.cls ≠ "java/lang/invoke/VarHandle" ∧ (parseMethodDescriptor yX6_spotAt.desc).map (fun d => d.parameters.length) = some 2 := by decide +kernel
theorem hd_X6_tell : yX6_tell.cls ≠ "java/lang/invoke/MethodHandle" ∧ yX6_tell.cls ≠ "java/lang/invoke/VarHandle" ∧ (parseMethodDescriptor yX6_tell.desc).map (fun d => d.parameters.length) = some 2 := by decide +kernel
theorem hd_X6_walk : yX6_walk.cls ≠ "java/lang/invoke/MethodHandle" ∧ yX6_walk.cls ≠ "java/lang/invoke/VarHandle" ∧ (parseMethodDescriptor yX6_walk.desc).map (fun d => d.parameters.length) = some 4 := by decide +kernel
theorem hd_X6_wished : yX6_wished.cls ≠ "java/lang/invoke/MethodHandle" ∧ yX6_wished.cls ≠ "java/lang/invoke/VarHandle" ∧ (parseMethodDescriptor yX6_wished.desc).map (fun d => d.parameters.length) = some 4 := by decide +kernel
theorem hd_X7_asNow : yX7_asNow.cls ≠ "java/lang/invoke/MethodHandle" ∧ yX7_asNow.cls ≠ "java/lang/invoke/VarHandle" ∧ (parseMethodDescriptor yX7_asNow.desc).map (fun d => d.parameters.length) = some 1 := by decide +kernel
theorem hd_X7_facesAtFirst : yX7_facesAtFirst.cls ≠ "java/lang/invoke/MethodHandle" ∧ yX7_facesAtFirst.cls ≠ "java/lang/invoke/VarHandle" ∧ (parseMethodDescriptor yX7_facesAtFirst.desc).map (fun d => d.parameters.length) = some 2 := by decide +kernel
theorem hd_X7_turnOf : yX7_turnOf.cls ≠ "java/lang/invoke/MethodHandle" ∧ yX7_turnOf.cls ≠ "java/lang/invoke/VarHandle" ∧ (parseMethodDescriptor yX7_turnOf.desc).map (fun d => d.parameters.length) = some 3 := by decide +kernel
theorem hd_X8_byteAt : yX8_byteAt.cls ≠ "java/lang/invoke/MethodHandle" ∧ yX8_byteAt.cls ≠ "java/lang/invoke/VarHandle" ∧ (parseMethodDescriptor yX8_byteAt.desc).map (fun d => d.parameters.length) = some 1 := by decide +kernel
theorem hd_X9_beside : yX9_beside.cls ≠ "java/lang/invoke/MethodHandle" ∧ yX9_beside.cls ≠ "java/lang/invoke/VarHandle" ∧ (parseMethodDescriptor yX9_beside.desc).map (fun d => d.parameters.length) = some 2 := by decide +kernel
theorem hd_X9_bit : yX9_bit.cls ≠ "java/lang/invoke/MethodHandle" ∧ yX9_bit.cls ≠ "java/lang/invoke/VarHandle" ∧ (parseMethodDescriptor yX9_bit.desc).map (fun d => d.parameters.length) = some 1 := by decide +kernel
theorem hd_X9_has : yX9_has.cls ≠ "java/lang/invoke/MethodHandle" ∧ yX9_has.cls ≠ "java/lang/invoke/VarHandle" ∧ (parseMethodDescriptor yX9_has.desc).map (fun d => d.parameters.length) = some 2 := by decide +kernel
theorem hd_X9_isStep : yX9_isStep.cls ≠ "java/lang/invoke/MethodHandle" ∧ yX9_isStep.cls ≠ "java/lang/invoke/VarHandle" ∧ (parseMethodDescriptor yX9_isStep.desc).map (fun d => d.parameters.length) = some 1 := by decide +kernel
theorem hd_X9_leastOf : yX9_leastOf.cls ≠ "java/lang/invoke/MethodHandle" ∧ yX9_leastOf.cls ≠ "java/lang/invoke/VarHandle" ∧ (parseMethodDescriptor yX9_leastOf.desc).map (fun d => d.parameters.length) = some 1 := by decide +kernel
theorem hd_X9_oneIf : yX9_oneIf.cls ≠ "java/lang/invoke/MethodHandle" ∧ yX9_oneIf.cls ≠ "java/lang/invoke/VarHandle" ∧ (parseMethodDescriptor yX9_oneIf.desc).map (fun d => d.parameters.length) = some 1 := by decide +kernel
theorem ki_m8 : ((-8) : Int32).toInt = (-8) := by decide
theorem ki_m1 : ((-1) : Int32).toInt = (-1) := by decide
theorem ki_0 : (0 : Int32).toInt = 0 := by decide
theorem ki_1 : (1 : Int32).toInt = 1 := by decide
theorem ki_2 : (2 : Int32).toInt = 2 := by decide
theorem ki_3 : (3 : Int32).toInt = 3 := by decide
theorem ki_4 : (4 : Int32).toInt = 4 := by decide
theorem ki_6 : (6 : Int32).toInt = 6 := by decide
theorem ki_7 : (7 : Int32).toInt = 7 := by decide
theorem ki_8 : (8 : Int32).toInt = 8 := by decide
theorem ki_10 : (10 : Int32).toInt = 10 := by decide
theorem ki_11 : (11 : Int32).toInt = 11 := by decide
theorem ki_12 : (12 : Int32).toInt = 12 := by decide
theorem ki_24 : (24 : Int32).toInt = 24 := by decide
theorem ki_30 : (30 : Int32).toInt = 30 := by decide
theorem ki_32 : (32 : Int32).toInt = 32 := by decide
theorem ki_40 : (40 : Int32).toInt = 40 := by decide
theorem ki_41 : (41 : Int32).toInt = 41 := by decide
theorem ki_48 : (48 : Int32).toInt = 48 := by decide
theorem ki_56 : (56 : Int32).toInt = 56 := by decide
theorem ki_57 : (57 : Int32).toInt = 57 := by decide
theorem ki_59 : (59 : Int32).toInt = 59 := by decide
theorem ki_60 : (60 : Int32).toInt = 60 := by decide
theorem ki_64 : (64 : Int32).toInt = 64 := by decide
theorem ki_97 : (97 : Int32).toInt = 97 := by decide
theorem ki_100 : (100 : Int32).toInt = 100 := by decide
theorem ki_122 : (122 : Int32).toInt = 122 := by decide
theorem ki_900 : (900 : Int32).toInt = 900 := by decide
theorem ki_2000000000 : (2000000000 : Int32).toInt = 2000000000 := by decide
theorem kl_0 : (0 : Int64).toInt = 0 := by decide
theorem kl_1 : (1 : Int64).toInt = 1 := by decide
theorem kl_10 : (10 : Int64).toInt = 10 := by decide
theorem kl_40 : (40 : Int64).toInt = 40 := by decide
abbrev z0 : Nat → Nat := fun _ => 0
