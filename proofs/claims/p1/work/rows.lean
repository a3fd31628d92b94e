section
-- ===== PART A: goes FIRST, ahead of the names: the tables' words, and 'selects' of the private methods out of them =====
/-- a private method of a class that the tables say can be made, by its rows of tables_1 -/
def lw_okq (q : MethodName × Nat) : Prop := (q.1.cls ≠ "java/lang/invoke/MethodHandle" ∧ q.1.cls ≠ "java/lang/invoke/VarHandle") ∧ Cond.instantiable q.1.cls q.2 ∈ tables_1 ∧ Cond.privateMethod q.1 ∈ tables_1 ∧ Cond.instanceMethod q.1 ∈ tables_1
theorem lw_p0 : lw_okq (⟨"WidowRoads$Tape", "put", "(I)V"⟩, 2) := ⟨⟨by decide +kernel, by decide +kernel⟩, List.mem_of_getElem? (i := 35) (by decide +kernel), List.mem_of_getElem? (i := 390) (by decide +kernel), List.mem_of_getElem? (i := 391) (by decide +kernel)⟩
theorem lw_p1 : lw_okq (⟨"WidowRoads$Reader", "read", "()V"⟩, 7) := ⟨⟨by decide +kernel, by decide +kernel⟩, List.mem_of_getElem? (i := 29) (by decide +kernel), List.mem_of_getElem? (i := 402) (by decide +kernel), List.mem_of_getElem? (i := 403) (by decide +kernel)⟩
theorem lw_p2 : lw_okq (⟨"WidowRoads$Colony", "clear", "()V"⟩, 19) := ⟨⟨by decide +kernel, by decide +kernel⟩, List.mem_of_getElem? (i := 50) (by decide +kernel), List.mem_of_getElem? (i := 406) (by decide +kernel), List.mem_of_getElem? (i := 407) (by decide +kernel)⟩
theorem lw_p3 : lw_okq (⟨"WidowRoads$Reader", "next", "()V"⟩, 7) := ⟨⟨by decide +kernel, by decide +kernel⟩, List.mem_of_getElem? (i := 29) (by decide +kernel), List.mem_of_getElem? (i := 410) (by decide +kernel), List.mem_of_getElem? (i := 411) (by decide +kernel)⟩
theorem lw_p4 : lw_okq (⟨"WidowRoads$Tape", "byteAt", "(I)I"⟩, 2) := ⟨⟨by decide +kernel, by decide +kernel⟩, List.mem_of_getElem? (i := 35) (by decide +kernel), List.mem_of_getElem? (i := 414) (by decide +kernel), List.mem_of_getElem? (i := 415) (by decide +kernel)⟩
theorem lw_p5 : lw_okq (⟨"WidowRoads$Reader", "readColony", "()V"⟩, 7) := ⟨⟨by decide +kernel, by decide +kernel⟩, List.mem_of_getElem? (i := 29) (by decide +kernel), List.mem_of_getElem? (i := 427) (by decide +kernel), List.mem_of_getElem? (i := 428) (by decide +kernel)⟩
theorem lw_p6 : lw_okq (⟨"WidowRoads$Reader", "word", "(Ljava/lang/String;)V"⟩, 7) := ⟨⟨by decide +kernel, by decide +kernel⟩, List.mem_of_getElem? (i := 29) (by decide +kernel), List.mem_of_getElem? (i := 432) (by decide +kernel), List.mem_of_getElem? (i := 433) (by decide +kernel)⟩
theorem lw_p7 : lw_okq (⟨"WidowRoads$Reader", "isWord", "(Ljava/lang/String;)Z"⟩, 7) := ⟨⟨by decide +kernel, by decide +kernel⟩, List.mem_of_getElem? (i := 29) (by decide +kernel), List.mem_of_getElem? (i := 436) (by decide +kernel), List.mem_of_getElem? (i := 437) (by decide +kernel)⟩
theorem lw_p8 : lw_okq (⟨"WidowRoads$Reader", "mark", "(II)V"⟩, 7) := ⟨⟨by decide +kernel, by decide +kernel⟩, List.mem_of_getElem? (i := 29) (by decide +kernel), List.mem_of_getElem? (i := 488) (by decide +kernel), List.mem_of_getElem? (i := 489) (by decide +kernel)⟩
theorem lw_p9 : lw_okq (⟨"WidowRoads$Reader", "wordAndNumber", "(Ljava/lang/String;II)I"⟩, 7) := ⟨⟨by decide +kernel, by decide +kernel⟩, List.mem_of_getElem? (i := 29) (by decide +kernel), List.mem_of_getElem? (i := 493) (by decide +kernel), List.mem_of_getElem? (i := 494) (by decide +kernel)⟩
theorem lw_p10 : lw_okq (⟨"WidowRoads$Reader", "number", "(II)I"⟩, 7) := ⟨⟨by decide +kernel, by decide +kernel⟩, List.mem_of_getElem? (i := 29) (by decide +kernel), List.mem_of_getElem? (i := 497) (by decide +kernel), List.mem_of_getElem? (i := 498) (by decide +kernel)⟩
theorem lw_p11 : lw_okq (⟨"WidowRoads$Reader", "readCreek", "()V"⟩, 7) := ⟨⟨by decide +kernel, by decide +kernel⟩, List.mem_of_getElem? (i := 29) (by decide +kernel), List.mem_of_getElem? (i := 510) (by decide +kernel), List.mem_of_getElem? (i := 511) (by decide +kernel)⟩
theorem lw_p12 : lw_okq (⟨"WidowRoads$Colony", "creekBits", "()J"⟩, 19) := ⟨⟨by decide +kernel, by decide +kernel⟩, List.mem_of_getElem? (i := 50) (by decide +kernel), List.mem_of_getElem? (i := 514) (by decide +kernel), List.mem_of_getElem? (i := 515) (by decide +kernel)⟩
theorem lw_p13 : lw_okq (⟨"WidowRoads$Reader", "cell", "(J)I"⟩, 7) := ⟨⟨by decide +kernel, by decide +kernel⟩, List.mem_of_getElem? (i := 29) (by decide +kernel), List.mem_of_getElem? (i := 522) (by decide +kernel), List.mem_of_getElem? (i := 523) (by decide +kernel)⟩
theorem lw_p14 : lw_okq (⟨"WidowRoads$Reader", "readHouse", "()V"⟩, 7) := ⟨⟨by decide +kernel, by decide +kernel⟩, List.mem_of_getElem? (i := 29) (by decide +kernel), List.mem_of_getElem? (i := 530) (by decide +kernel), List.mem_of_getElem? (i := 531) (by decide +kernel)⟩
theorem lw_p15 : lw_okq (⟨"WidowRoads$Colony", "houseBits", "()J"⟩, 19) := ⟨⟨by decide +kernel, by decide +kernel⟩, List.mem_of_getElem? (i := 50) (by decide +kernel), List.mem_of_getElem? (i := 534) (by decide +kernel), List.mem_of_getElem? (i := 535) (by decide +kernel)⟩
def lw_privs_1 : List (MethodName × Nat) := [(⟨"WidowRoads$Tape", "put", "(I)V"⟩, 2), (⟨"WidowRoads$Reader", "read", "()V"⟩, 7), (⟨"WidowRoads$Colony", "clear", "()V"⟩, 19), (⟨"WidowRoads$Reader", "next", "()V"⟩, 7), (⟨"WidowRoads$Tape", "byteAt", "(I)I"⟩, 2), (⟨"WidowRoads$Reader", "readColony", "()V"⟩, 7), (⟨"WidowRoads$Reader", "word", "(Ljava/lang/String;)V"⟩, 7), (⟨"WidowRoads$Reader", "isWord", "(Ljava/lang/String;)Z"⟩, 7), (⟨"WidowRoads$Reader", "mark", "(II)V"⟩, 7), (⟨"WidowRoads$Reader", "wordAndNumber", "(Ljava/lang/String;II)I"⟩, 7), (⟨"WidowRoads$Reader", "number", "(II)I"⟩, 7), (⟨"WidowRoads$Reader", "readCreek", "()V"⟩, 7), (⟨"WidowRoads$Colony", "creekBits", "()J"⟩, 19), (⟨"WidowRoads$Reader", "cell", "(J)I"⟩, 7), (⟨"WidowRoads$Reader", "readHouse", "()V"⟩, 7), (⟨"WidowRoads$Colony", "houseBits", "()J"⟩, 19)]
theorem lw_r1 : ∀ q ∈ lw_privs_1, lw_okq q := List.forall_mem_cons.mpr ⟨lw_p0, List.forall_mem_cons.mpr ⟨lw_p1, List.forall_mem_cons.mpr ⟨lw_p2, List.forall_mem_cons.mpr ⟨lw_p3, List.forall_mem_cons.mpr ⟨lw_p4, List.forall_mem_cons.mpr ⟨lw_p5, List.forall_mem_cons.mpr ⟨lw_p6, List.forall_mem_cons.mpr ⟨lw_p7, List.forall_mem_cons.mpr ⟨lw_p8, List.forall_mem_cons.mpr ⟨lw_p9, List.forall_mem_cons.mpr ⟨lw_p10, List.forall_mem_cons.mpr ⟨lw_p11, List.forall_mem_cons.mpr ⟨lw_p12, List.forall_mem_cons.mpr ⟨lw_p13, List.forall_mem_cons.mpr ⟨lw_p14, List.forall_mem_cons.mpr ⟨lw_p15, fun _ h => absurd h List.not_mem_nil⟩⟩⟩⟩⟩⟩⟩⟩⟩⟩⟩⟩⟩⟩⟩⟩
theorem lw_p16 : lw_okq (⟨"WidowRoads$Reader", "readWidow", "()V"⟩, 7) := ⟨⟨by decide +kernel, by decide +kernel⟩, List.mem_of_getElem? (i := 29) (by decide +kernel), List.mem_of_getElem? (i := 539) (by decide +kernel), List.mem_of_getElem? (i := 540) (by decide +kernel)⟩
theorem lw_p17 : lw_okq (⟨"WidowRoads$Reader", "readTurns", "(I)V"⟩, 7) := ⟨⟨by decide +kernel, by decide +kernel⟩, List.mem_of_getElem? (i := 29) (by decide +kernel), List.mem_of_getElem? (i := 547) (by decide +kernel), List.mem_of_getElem? (i := 548) (by decide +kernel)⟩
theorem lw_p18 : lw_okq (⟨"WidowRoads$Reader", "turn", "()I"⟩, 7) := ⟨⟨by decide +kernel, by decide +kernel⟩, List.mem_of_getElem? (i := 29) (by decide +kernel), List.mem_of_getElem? (i := 551) (by decide +kernel), List.mem_of_getElem? (i := 552) (by decide +kernel)⟩
theorem lw_p19 : lw_okq (⟨"WidowRoads$Reader", "closeLine", "()V"⟩, 7) := ⟨⟨by decide +kernel, by decide +kernel⟩, List.mem_of_getElem? (i := 29) (by decide +kernel), List.mem_of_getElem? (i := 559) (by decide +kernel), List.mem_of_getElem? (i := 560) (by decide +kernel)⟩
theorem lw_p20 : lw_okq (⟨"WidowRoads$Colony", "become", "(LWidowRoads$Colony;)V"⟩, 19) := ⟨⟨by decide +kernel, by decide +kernel⟩, List.mem_of_getElem? (i := 50) (by decide +kernel), List.mem_of_getElem? (i := 563) (by decide +kernel), List.mem_of_getElem? (i := 564) (by decide +kernel)⟩
theorem lw_p21 : lw_okq (⟨"WidowRoads", "walkAnew", "()V"⟩, 11) := ⟨⟨by decide +kernel, by decide +kernel⟩, List.mem_of_getElem? (i := 21) (by decide +kernel), List.mem_of_getElem? (i := 570) (by decide +kernel), List.mem_of_getElem? (i := 571) (by decide +kernel)⟩
theorem lw_p22 : lw_okq (⟨"WidowRoads$Supposal", "asNow", "(LWidowRoads$Colony;)V"⟩, 6) := ⟨⟨by decide +kernel, by decide +kernel⟩, List.mem_of_getElem? (i := 193) (by decide +kernel), List.mem_of_getElem? (i := 574) (by decide +kernel), List.mem_of_getElem? (i := 575) (by decide +kernel)⟩
theorem lw_p23 : lw_okq (⟨"WidowRoads$Colony", "walkerBits", "()I"⟩, 19) := ⟨⟨by decide +kernel, by decide +kernel⟩, List.mem_of_getElem? (i := 50) (by decide +kernel), List.mem_of_getElem? (i := 578) (by decide +kernel), List.mem_of_getElem? (i := 579) (by decide +kernel)⟩
theorem lw_p24 : lw_okq (⟨"WidowRoads$Story", "tell", "(LWidowRoads$Colony;LWidowRoads$Supposal;)V"⟩, 12) := ⟨⟨by decide +kernel, by decide +kernel⟩, List.mem_of_getElem? (i := 228) (by decide +kernel), List.mem_of_getElem? (i := 583) (by decide +kernel), List.mem_of_getElem? (i := 584) (by decide +kernel)⟩
theorem lw_p25 : lw_okq (⟨"WidowRoads$Story", "begin", "(LWidowRoads$Colony;)V"⟩, 12) := ⟨⟨by decide +kernel, by decide +kernel⟩, List.mem_of_getElem? (i := 228) (by decide +kernel), List.mem_of_getElem? (i := 587) (by decide +kernel), List.mem_of_getElem? (i := 588) (by decide +kernel)⟩
theorem lw_p26 : lw_okq (⟨"WidowRoads$Colony", "field", "()J"⟩, 19) := ⟨⟨by decide +kernel, by decide +kernel⟩, List.mem_of_getElem? (i := 50) (by decide +kernel), List.mem_of_getElem? (i := 591) (by decide +kernel), List.mem_of_getElem? (i := 592) (by decide +kernel)⟩
theorem lw_p27 : lw_okq (⟨"WidowRoads$Story", "copyYear", "(I)V"⟩, 12) := ⟨⟨by decide +kernel, by decide +kernel⟩, List.mem_of_getElem? (i := 228) (by decide +kernel), List.mem_of_getElem? (i := 595) (by decide +kernel), List.mem_of_getElem? (i := 596) (by decide +kernel)⟩
theorem lw_p28 : lw_okq (⟨"WidowRoads$Story", "walk", "(LWidowRoads$Colony;LWidowRoads$Supposal;II)V"⟩, 12) := ⟨⟨by decide +kernel, by decide +kernel⟩, List.mem_of_getElem? (i := 228) (by decide +kernel), List.mem_of_getElem? (i := 600) (by decide +kernel), List.mem_of_getElem? (i := 601) (by decide +kernel)⟩
theorem lw_p29 : lw_okq (⟨"WidowRoads$Supposal", "facesAtFirst", "(LWidowRoads$Colony;I)I"⟩, 6) := ⟨⟨by decide +kernel, by decide +kernel⟩, List.mem_of_getElem? (i := 193) (by decide +kernel), List.mem_of_getElem? (i := 605) (by decide +kernel), List.mem_of_getElem? (i := 606) (by decide +kernel)⟩
theorem lw_p30 : lw_okq (⟨"WidowRoads$Supposal", "turnOf", "(LWidowRoads$Colony;II)I"⟩, 6) := ⟨⟨by decide +kernel, by decide +kernel⟩, List.mem_of_getElem? (i := 193) (by decide +kernel), List.mem_of_getElem? (i := 610) (by decide +kernel), List.mem_of_getElem? (i := 611) (by decide +kernel)⟩
theorem lw_p31 : lw_okq (⟨"WidowRoads$Story", "peg", "(III)V"⟩, 12) := ⟨⟨by decide +kernel, by decide +kernel⟩, List.mem_of_getElem? (i := 228) (by decide +kernel), List.mem_of_getElem? (i := 624) (by decide +kernel), List.mem_of_getElem? (i := 625) (by decide +kernel)⟩
def lw_privs_2 : List (MethodName × Nat) := [(⟨"WidowRoads$Reader", "readWidow", "()V"⟩, 7), (⟨"WidowRoads$Reader", "readTurns", "(I)V"⟩, 7), (⟨"WidowRoads$Reader", "turn", "()I"⟩, 7), (⟨"WidowRoads$Reader", "closeLine", "()V"⟩, 7), (⟨"WidowRoads$Colony", "become", "(LWidowRoads$Colony;)V"⟩, 19), (⟨"WidowRoads", "walkAnew", "()V"⟩, 11), (⟨"WidowRoads$Supposal", "asNow", "(LWidowRoads$Colony;)V"⟩, 6), (⟨"WidowRoads$Colony", "walkerBits", "()I"⟩, 19), (⟨"WidowRoads$Story", "tell", "(LWidowRoads$Colony;LWidowRoads$Supposal;)V"⟩, 12), (⟨"WidowRoads$Story", "begin", "(LWidowRoads$Colony;)V"⟩, 12), (⟨"WidowRoads$Colony", "field", "()J"⟩, 19), (⟨"WidowRoads$Story", "copyYear", "(I)V"⟩, 12), (⟨"WidowRoads$Story", "walk", "(LWidowRoads$Colony;LWidowRoads$Supposal;II)V"⟩, 12), (⟨"WidowRoads$Supposal", "facesAtFirst", "(LWidowRoads$Colony;I)I"⟩, 6), (⟨"WidowRoads$Supposal", "turnOf", "(LWidowRoads$Colony;II)I"⟩, 6), (⟨"WidowRoads$Story", "peg", "(III)V"⟩, 12)]
theorem lw_r2 : ∀ q ∈ lw_privs_2, lw_okq q := List.forall_mem_cons.mpr ⟨lw_p16, List.forall_mem_cons.mpr ⟨lw_p17, List.forall_mem_cons.mpr ⟨lw_p18, List.forall_mem_cons.mpr ⟨lw_p19, List.forall_mem_cons.mpr ⟨lw_p20, List.forall_mem_cons.mpr ⟨lw_p21, List.forall_mem_cons.mpr ⟨lw_p22, List.forall_mem_cons.mpr ⟨lw_p23, List.forall_mem_cons.mpr ⟨lw_p24, List.forall_mem_cons.mpr ⟨lw_p25, List.forall_mem_cons.mpr ⟨lw_p26, List.forall_mem_cons.mpr ⟨lw_p27, List.forall_mem_cons.mpr ⟨lw_p28, List.forall_mem_cons.mpr ⟨lw_p29, List.forall_mem_cons.mpr ⟨lw_p30, List.forall_mem_cons.mpr ⟨lw_p31, fun _ h => absurd h List.not_mem_nil⟩⟩⟩⟩⟩⟩⟩⟩⟩⟩⟩⟩⟩⟩⟩⟩
theorem lw_p32 : lw_okq (⟨"WidowRoads$Story", "moveHouses", "(LWidowRoads$Supposal;II)V"⟩, 12) := ⟨⟨by decide +kernel, by decide +kernel⟩, List.mem_of_getElem? (i := 228) (by decide +kernel), List.mem_of_getElem? (i := 629) (by decide +kernel), List.mem_of_getElem? (i := 630) (by decide +kernel)⟩
theorem lw_p33 : lw_okq (⟨"WidowRoads$Story", "homeBits", "(I)J"⟩, 12) := ⟨⟨by decide +kernel, by decide +kernel⟩, List.mem_of_getElem? (i := 228) (by decide +kernel), List.mem_of_getElem? (i := 633) (by decide +kernel), List.mem_of_getElem? (i := 634) (by decide +kernel)⟩
theorem lw_p34 : lw_okq (⟨"WidowRoads$Colony", "spotOf", "(J)I"⟩, 19) := ⟨⟨by decide +kernel, by decide +kernel⟩, List.mem_of_getElem? (i := 50) (by decide +kernel), List.mem_of_getElem? (i := 654) (by decide +kernel), List.mem_of_getElem? (i := 655) (by decide +kernel)⟩
theorem lw_p35 : lw_okq (⟨"WidowRoads$Colony", "hasWidow", "(J)Z"⟩, 19) := ⟨⟨by decide +kernel, by decide +kernel⟩, List.mem_of_getElem? (i := 50) (by decide +kernel), List.mem_of_getElem? (i := 669) (by decide +kernel), List.mem_of_getElem? (i := 670) (by decide +kernel)⟩
theorem lw_p36 : lw_okq (⟨"WidowRoads$Story", "spotAt", "(II)I"⟩, 12) := ⟨⟨by decide +kernel, by decide +kernel⟩, List.mem_of_getElem? (i := 228) (by decide +kernel), List.mem_of_getElem? (i := 688) (by decide +kernel), List.mem_of_getElem? (i := 689) (by decide +kernel)⟩
theorem lw_p37 : lw_okq (⟨"WidowRoads$Story", "walks", "(I)Z"⟩, 12) := ⟨⟨by decide +kernel, by decide +kernel⟩, List.mem_of_getElem? (i := 228) (by decide +kernel), List.mem_of_getElem? (i := 700) (by decide +kernel), List.mem_of_getElem? (i := 701) (by decide +kernel)⟩
theorem lw_p38 : lw_okq (⟨"WidowRoads$Story", "timesAt", "(II)I"⟩, 12) := ⟨⟨by decide +kernel, by decide +kernel⟩, List.mem_of_getElem? (i := 228) (by decide +kernel), List.mem_of_getElem? (i := 716) (by decide +kernel), List.mem_of_getElem? (i := 717) (by decide +kernel)⟩
theorem lw_p39 : lw_okq (⟨"WidowRoads$Colony", "hasYear", "(I)Z"⟩, 19) := ⟨⟨by decide +kernel, by decide +kernel⟩, List.mem_of_getElem? (i := 50) (by decide +kernel), List.mem_of_getElem? (i := 725) (by decide +kernel), List.mem_of_getElem? (i := 726) (by decide +kernel)⟩
theorem lw_p40 : lw_okq (⟨"WidowRoads", "straightWay", "(II)I"⟩, 11) := ⟨⟨by decide +kernel, by decide +kernel⟩, List.mem_of_getElem? (i := 21) (by decide +kernel), List.mem_of_getElem? (i := 737) (by decide +kernel), List.mem_of_getElem? (i := 738) (by decide +kernel)⟩
theorem lw_p41 : lw_okq (⟨"WidowRoads$Net", "layAll", "(J)V"⟩, 3) := ⟨⟨by decide +kernel, by decide +kernel⟩, List.mem_of_getElem? (i := 301) (by decide +kernel), List.mem_of_getElem? (i := 743) (by decide +kernel), List.mem_of_getElem? (i := 744) (by decide +kernel)⟩
theorem lw_p42 : lw_okq (⟨"WidowRoads$Net", "distance", "(II)I"⟩, 3) := ⟨⟨by decide +kernel, by decide +kernel⟩, List.mem_of_getElem? (i := 301) (by decide +kernel), List.mem_of_getElem? (i := 748) (by decide +kernel), List.mem_of_getElem? (i := 749) (by decide +kernel)⟩
theorem lw_p43 : lw_okq (⟨"WidowRoads$Net", "spread", "(J)J"⟩, 3) := ⟨⟨by decide +kernel, by decide +kernel⟩, List.mem_of_getElem? (i := 301) (by decide +kernel), List.mem_of_getElem? (i := 754) (by decide +kernel), List.mem_of_getElem? (i := 755) (by decide +kernel)⟩
theorem lw_p44 : lw_okq (⟨"WidowRoads$Story", "pegsIn", "(I)I"⟩, 12) := ⟨⟨by decide +kernel, by decide +kernel⟩, List.mem_of_getElem? (i := 228) (by decide +kernel), List.mem_of_getElem? (i := 770) (by decide +kernel), List.mem_of_getElem? (i := 771) (by decide +kernel)⟩
theorem lw_p45 : lw_okq (⟨"WidowRoads$Net", "lay", "(LWidowRoads$Story;I)V"⟩, 3) := ⟨⟨by decide +kernel, by decide +kernel⟩, List.mem_of_getElem? (i := 301) (by decide +kernel), List.mem_of_getElem? (i := 779) (by decide +kernel), List.mem_of_getElem? (i := 780) (by decide +kernel)⟩
theorem lw_p46 : lw_okq (⟨"WidowRoads$Net", "sidesJoined", "(I)I"⟩, 3) := ⟨⟨by decide +kernel, by decide +kernel⟩, List.mem_of_getElem? (i := 301) (by decide +kernel), List.mem_of_getElem? (i := 783) (by decide +kernel), List.mem_of_getElem? (i := 784) (by decide +kernel)⟩
theorem lw_p47 : lw_okq (⟨"WidowRoads$Net", "cellsJoinedBy", "(I)I"⟩, 3) := ⟨⟨by decide +kernel, by decide +kernel⟩, List.mem_of_getElem? (i := 301) (by decide +kernel), List.mem_of_getElem? (i := 793) (by decide +kernel), List.mem_of_getElem? (i := 794) (by decide +kernel)⟩
def lw_privs_3 : List (MethodName × Nat) := [(⟨"WidowRoads$Story", "moveHouses", "(LWidowRoads$Supposal;II)V"⟩, 12), (⟨"WidowRoads$Story", "homeBits", "(I)J"⟩, 12), (⟨"WidowRoads$Colony", "spotOf", "(J)I"⟩, 19), (⟨"WidowRoads$Colony", "hasWidow", "(J)Z"⟩, 19), (⟨"WidowRoads$Story", "spotAt", "(II)I"⟩, 12), (⟨"WidowRoads$Story", "walks", "(I)Z"⟩, 12), (⟨"WidowRoads$Story", "timesAt", "(II)I"⟩, 12), (⟨"WidowRoads$Colony", "hasYear", "(I)Z"⟩, 19), (⟨"WidowRoads", "straightWay", "(II)I"⟩, 11), (⟨"WidowRoads$Net", "layAll", "(J)V"⟩, 3), (⟨"WidowRoads$Net", "distance", "(II)I"⟩, 3), (⟨"WidowRoads$Net", "spread", "(J)J"⟩, 3), (⟨"WidowRoads$Story", "pegsIn", "(I)I"⟩, 12), (⟨"WidowRoads$Net", "lay", "(LWidowRoads$Story;I)V"⟩, 3), (⟨"WidowRoads$Net", "sidesJoined", "(I)I"⟩, 3), (⟨"WidowRoads$Net", "cellsJoinedBy", "(I)I"⟩, 3)]
theorem lw_r3 : ∀ q ∈ lw_privs_3, lw_okq q := List.forall_mem_cons.mpr ⟨lw_p32, List.forall_mem_cons.mpr ⟨lw_p33, List.forall_mem_cons.mpr ⟨lw_p34, List.forall_mem_cons.mpr ⟨lw_p35, List.forall_mem_cons.mpr ⟨lw_p36, List.forall_mem_cons.mpr ⟨lw_p37, List.forall_mem_cons.mpr ⟨lw_p38, List.forall_mem_cons.mpr ⟨lw_p39, List.forall_mem_cons.mpr ⟨lw_p40, List.forall_mem_cons.mpr ⟨lw_p41, List.forall_mem_cons.mpr ⟨lw_p42, List.forall_mem_cons.mpr ⟨lw_p43, List.forall_mem_cons.mpr ⟨lw_p44, List.forall_mem_cons.mpr ⟨lw_p45, List.forall_mem_cons.mpr ⟨lw_p46, List.forall_mem_cons.mpr ⟨lw_p47, fun _ h => absurd h List.not_mem_nil⟩⟩⟩⟩⟩⟩⟩⟩⟩⟩⟩⟩⟩⟩⟩⟩
theorem lw_p48 : lw_okq (⟨"WidowRoads$Net", "parts", "()I"⟩, 3) := ⟨⟨by decide +kernel, by decide +kernel⟩, List.mem_of_getElem? (i := 301) (by decide +kernel), List.mem_of_getElem? (i := 808) (by decide +kernel), List.mem_of_getElem? (i := 809) (by decide +kernel)⟩
theorem lw_p49 : lw_okq (⟨"WidowRoads$Net", "reach", "(I)J"⟩, 3) := ⟨⟨by decide +kernel, by decide +kernel⟩, List.mem_of_getElem? (i := 301) (by decide +kernel), List.mem_of_getElem? (i := 813) (by decide +kernel), List.mem_of_getElem? (i := 814) (by decide +kernel)⟩
theorem lw_p50 : lw_okq (⟨"WidowRoads$Net", "cuts", "()I"⟩, 3) := ⟨⟨by decide +kernel, by decide +kernel⟩, List.mem_of_getElem? (i := 301) (by decide +kernel), List.mem_of_getElem? (i := 833) (by decide +kernel), List.mem_of_getElem? (i := 834) (by decide +kernel)⟩
theorem lw_p51 : lw_okq (⟨"WidowRoads$Net", "outermost", "(I)I"⟩, 3) := ⟨⟨by decide +kernel, by decide +kernel⟩, List.mem_of_getElem? (i := 301) (by decide +kernel), List.mem_of_getElem? (i := 854) (by decide +kernel), List.mem_of_getElem? (i := 855) (by decide +kernel)⟩
theorem lw_p52 : lw_okq (⟨"WidowRoads", "widowsIn", "(I)I"⟩, 11) := ⟨⟨by decide +kernel, by decide +kernel⟩, List.mem_of_getElem? (i := 21) (by decide +kernel), List.mem_of_getElem? (i := 862) (by decide +kernel), List.mem_of_getElem? (i := 863) (by decide +kernel)⟩
theorem lw_p53 : lw_okq (⟨"WidowRoads$Net", "longestRow", "()I"⟩, 3) := ⟨⟨by decide +kernel, by decide +kernel⟩, List.mem_of_getElem? (i := 301) (by decide +kernel), List.mem_of_getElem? (i := 883) (by decide +kernel), List.mem_of_getElem? (i := 884) (by decide +kernel)⟩
theorem lw_p54 : lw_okq (⟨"WidowRoads$Colony", "hasHouse", "(I)Z"⟩, 19) := ⟨⟨by decide +kernel, by decide +kernel⟩, List.mem_of_getElem? (i := 50) (by decide +kernel), List.mem_of_getElem? (i := 891) (by decide +kernel), List.mem_of_getElem? (i := 892) (by decide +kernel)⟩
theorem lw_p55 : lw_okq (⟨"WidowRoads", "fewestCovering", "()I"⟩, 11) := ⟨⟨by decide +kernel, by decide +kernel⟩, List.mem_of_getElem? (i := 21) (by decide +kernel), List.mem_of_getElem? (i := 916) (by decide +kernel), List.mem_of_getElem? (i := 917) (by decide +kernel)⟩
theorem lw_p56 : lw_okq (⟨"WidowRoads", "cellsOf", "(I)J"⟩, 11) := ⟨⟨by decide +kernel, by decide +kernel⟩, List.mem_of_getElem? (i := 21) (by decide +kernel), List.mem_of_getElem? (i := 920) (by decide +kernel), List.mem_of_getElem? (i := 921) (by decide +kernel)⟩
theorem lw_p57 : lw_okq (⟨"WidowRoads$Story", "allShifts", "()I"⟩, 12) := ⟨⟨by decide +kernel, by decide +kernel⟩, List.mem_of_getElem? (i := 228) (by decide +kernel), List.mem_of_getElem? (i := 932) (by decide +kernel), List.mem_of_getElem? (i := 933) (by decide +kernel)⟩
theorem lw_p58 : lw_okq (⟨"WidowRoads", "refusalOfSeen", "(II)I"⟩, 11) := ⟨⟨by decide +kernel, by decide +kernel⟩, List.mem_of_getElem? (i := 21) (by decide +kernel), List.mem_of_getElem? (i := 944) (by decide +kernel), List.mem_of_getElem? (i := 945) (by decide +kernel)⟩
theorem lw_p59 : lw_okq (⟨"WidowRoads", "refusalOfRow", "(I)I"⟩, 11) := ⟨⟨by decide +kernel, by decide +kernel⟩, List.mem_of_getElem? (i := 21) (by decide +kernel), List.mem_of_getElem? (i := 948) (by decide +kernel), List.mem_of_getElem? (i := 949) (by decide +kernel)⟩
theorem lw_p60 : lw_okq (⟨"WidowRoads$Rows", "empty", "(I)Z"⟩, 4) := ⟨⟨by decide +kernel, by decide +kernel⟩, List.mem_of_getElem? (i := 317) (by decide +kernel), List.mem_of_getElem? (i := 955) (by decide +kernel), List.mem_of_getElem? (i := 956) (by decide +kernel)⟩
theorem lw_p61 : lw_okq (⟨"WidowRoads$Rows", "tellsOf", "(ILWidowRoads$Colony;)Z"⟩, 4) := ⟨⟨by decide +kernel, by decide +kernel⟩, List.mem_of_getElem? (i := 317) (by decide +kernel), List.mem_of_getElem? (i := 959) (by decide +kernel), List.mem_of_getElem? (i := 960) (by decide +kernel)⟩
theorem lw_p62 : lw_okq (⟨"WidowRoads", "facesFitting", "(II)I"⟩, 11) := ⟨⟨by decide +kernel, by decide +kernel⟩, List.mem_of_getElem? (i := 21) (by decide +kernel), List.mem_of_getElem? (i := 966) (by decide +kernel), List.mem_of_getElem? (i := 967) (by decide +kernel)⟩
theorem lw_p63 : lw_okq (⟨"WidowRoads$Rows", "fits", "(ILWidowRoads$Colony;LWidowRoads$Story;)Z"⟩, 4) := ⟨⟨by decide +kernel, by decide +kernel⟩, List.mem_of_getElem? (i := 317) (by decide +kernel), List.mem_of_getElem? (i := 970) (by decide +kernel), List.mem_of_getElem? (i := 971) (by decide +kernel)⟩
def lw_privs_4 : List (MethodName × Nat) := [(⟨"WidowRoads$Net", "parts", "()I"⟩, 3), (⟨"WidowRoads$Net", "reach", "(I)J"⟩, 3), (⟨"WidowRoads$Net", "cuts", "()I"⟩, 3), (⟨"WidowRoads$Net", "outermost", "(I)I"⟩, 3), (⟨"WidowRoads", "widowsIn", "(I)I"⟩, 11), (⟨"WidowRoads$Net", "longestRow", "()I"⟩, 3), (⟨"WidowRoads$Colony", "hasHouse", "(I)Z"⟩, 19), (⟨"WidowRoads", "fewestCovering", "()I"⟩, 11), (⟨"WidowRoads", "cellsOf", "(I)J"⟩, 11), (⟨"WidowRoads$Story", "allShifts", "()I"⟩, 12), (⟨"WidowRoads", "refusalOfSeen", "(II)I"⟩, 11), (⟨"WidowRoads", "refusalOfRow", "(I)I"⟩, 11), (⟨"WidowRoads$Rows", "empty", "(I)Z"⟩, 4), (⟨"WidowRoads$Rows", "tellsOf", "(ILWidowRoads$Colony;)Z"⟩, 4), (⟨"WidowRoads", "facesFitting", "(II)I"⟩, 11), (⟨"WidowRoads$Rows", "fits", "(ILWidowRoads$Colony;LWidowRoads$Story;)Z"⟩, 4)]
theorem lw_r4 : ∀ q ∈ lw_privs_4, lw_okq q := List.forall_mem_cons.mpr ⟨lw_p48, List.forall_mem_cons.mpr ⟨lw_p49, List.forall_mem_cons.mpr ⟨lw_p50, List.forall_mem_cons.mpr ⟨lw_p51, List.forall_mem_cons.mpr ⟨lw_p52, List.forall_mem_cons.mpr ⟨lw_p53, List.forall_mem_cons.mpr ⟨lw_p54, List.forall_mem_cons.mpr ⟨lw_p55, List.forall_mem_cons.mpr ⟨lw_p56, List.forall_mem_cons.mpr ⟨lw_p57, List.forall_mem_cons.mpr ⟨lw_p58, List.forall_mem_cons.mpr ⟨lw_p59, List.forall_mem_cons.mpr ⟨lw_p60, List.forall_mem_cons.mpr ⟨lw_p61, List.forall_mem_cons.mpr ⟨lw_p62, List.forall_mem_cons.mpr ⟨lw_p63, fun _ h => absurd h List.not_mem_nil⟩⟩⟩⟩⟩⟩⟩⟩⟩⟩⟩⟩⟩⟩⟩⟩
theorem lw_p64 : lw_okq (⟨"WidowRoads", "leftAtWorst", "(II)I"⟩, 11) := ⟨⟨by decide +kernel, by decide +kernel⟩, List.mem_of_getElem? (i := 21) (by decide +kernel), List.mem_of_getElem? (i := 983) (by decide +kernel), List.mem_of_getElem? (i := 984) (by decide +kernel)⟩
theorem lw_p65 : lw_okq (⟨"WidowRoads", "tellByLaw", "(I)V"⟩, 11) := ⟨⟨by decide +kernel, by decide +kernel⟩, List.mem_of_getElem? (i := 21) (by decide +kernel), List.mem_of_getElem? (i := 996) (by decide +kernel), List.mem_of_getElem? (i := 997) (by decide +kernel)⟩
theorem lw_p66 : lw_okq (⟨"WidowRoads$Evenings", "know", "(LWidowRoads$Colony;LWidowRoads$Supposal;LWidowRoads$Story;)V"⟩, 3) := ⟨⟨by decide +kernel, by decide +kernel⟩, List.mem_of_getElem? (i := 283) (by decide +kernel), List.mem_of_getElem? (i := 1012) (by decide +kernel), List.mem_of_getElem? (i := 1013) (by decide +kernel)⟩
theorem lw_p67 : lw_okq (⟨"WidowRoads$Evenings", "shareOf", "(LWidowRoads$Colony;ILWidowRoads$Fraction;)V"⟩, 3) := ⟨⟨by decide +kernel, by decide +kernel⟩, List.mem_of_getElem? (i := 283) (by decide +kernel), List.mem_of_getElem? (i := 1027) (by decide +kernel), List.mem_of_getElem? (i := 1028) (by decide +kernel)⟩
theorem lw_p68 : lw_okq (⟨"WidowRoads$Fraction", "reduce", "(JJ)V"⟩, 2) := ⟨⟨by decide +kernel, by decide +kernel⟩, List.mem_of_getElem? (i := 339) (by decide +kernel), List.mem_of_getElem? (i := 1035) (by decide +kernel), List.mem_of_getElem? (i := 1036) (by decide +kernel)⟩
theorem lw_p69 : lw_okq (⟨"WidowRoads$Fraction", "part", "(I)J"⟩, 2) := ⟨⟨by decide +kernel, by decide +kernel⟩, List.mem_of_getElem? (i := 339) (by decide +kernel), List.mem_of_getElem? (i := 1042) (by decide +kernel), List.mem_of_getElem? (i := 1043) (by decide +kernel)⟩
theorem lw_p70 : lw_okq (⟨"WidowRoads", "areTwo", "(II)Z"⟩, 11) := ⟨⟨by decide +kernel, by decide +kernel⟩, List.mem_of_getElem? (i := 21) (by decide +kernel), List.mem_of_getElem? (i := 1050) (by decide +kernel), List.mem_of_getElem? (i := 1051) (by decide +kernel)⟩
theorem lw_p71 : lw_okq (⟨"WidowRoads", "gain", "(IIII)I"⟩, 11) := ⟨⟨by decide +kernel, by decide +kernel⟩, List.mem_of_getElem? (i := 21) (by decide +kernel), List.mem_of_getElem? (i := 1054) (by decide +kernel), List.mem_of_getElem? (i := 1055) (by decide +kernel)⟩
theorem lw_p72 : lw_okq (⟨"WidowRoads", "tellInFog", "(I)V"⟩, 11) := ⟨⟨by decide +kernel, by decide +kernel⟩, List.mem_of_getElem? (i := 21) (by decide +kernel), List.mem_of_getElem? (i := 1058) (by decide +kernel), List.mem_of_getElem? (i := 1059) (by decide +kernel)⟩
theorem lw_p73 : lw_okq (⟨"WidowRoads$Story", "gainOf", "(I)I"⟩, 12) := ⟨⟨by decide +kernel, by decide +kernel⟩, List.mem_of_getElem? (i := 228) (by decide +kernel), List.mem_of_getElem? (i := 1062) (by decide +kernel), List.mem_of_getElem? (i := 1063) (by decide +kernel)⟩
theorem lw_p74 : lw_okq (⟨"WidowRoads$Evenings", "chanceOfRoad", "(LWidowRoads$Colony;ILWidowRoads$Fraction;)V"⟩, 3) := ⟨⟨by decide +kernel, by decide +kernel⟩, List.mem_of_getElem? (i := 283) (by decide +kernel), List.mem_of_getElem? (i := 1075) (by decide +kernel), List.mem_of_getElem? (i := 1076) (by decide +kernel)⟩
theorem lw_p75 : lw_okq (⟨"WidowRoads$Evenings", "meanOfPegs", "(LWidowRoads$Colony;LWidowRoads$Fraction;)V"⟩, 3) := ⟨⟨by decide +kernel, by decide +kernel⟩, List.mem_of_getElem? (i := 283) (by decide +kernel), List.mem_of_getElem? (i := 1090) (by decide +kernel), List.mem_of_getElem? (i := 1091) (by decide +kernel)⟩
theorem lw_p76 : lw_okq (⟨"WidowRoads", "act", "(I)I"⟩, 11) := ⟨⟨by decide +kernel, by decide +kernel⟩, List.mem_of_getElem? (i := 21) (by decide +kernel), List.mem_of_getElem? (i := 1098) (by decide +kernel), List.mem_of_getElem? (i := 1099) (by decide +kernel)⟩
theorem lw_p77 : lw_okq (⟨"WidowRoads", "fogDrawn", "(I)I"⟩, 11) := ⟨⟨by decide +kernel, by decide +kernel⟩, List.mem_of_getElem? (i := 21) (by decide +kernel), List.mem_of_getElem? (i := 1122) (by decide +kernel), List.mem_of_getElem? (i := 1123) (by decide +kernel)⟩
theorem lw_p78 : lw_okq (⟨"WidowRoads$Rows", "many", "()I"⟩, 4) := ⟨⟨by decide +kernel, by decide +kernel⟩, List.mem_of_getElem? (i := 317) (by decide +kernel), List.mem_of_getElem? (i := 1143) (by decide +kernel), List.mem_of_getElem? (i := 1144) (by decide +kernel)⟩
theorem lw_p79 : lw_okq (⟨"WidowRoads$Rows", "clear", "(III)V"⟩, 4) := ⟨⟨by decide +kernel, by decide +kernel⟩, List.mem_of_getElem? (i := 317) (by decide +kernel), List.mem_of_getElem? (i := 1160) (by decide +kernel), List.mem_of_getElem? (i := 1161) (by decide +kernel)⟩
def lw_privs_5 : List (MethodName × Nat) := [(⟨"WidowRoads", "leftAtWorst", "(II)I"⟩, 11), (⟨"WidowRoads", "tellByLaw", "(I)V"⟩, 11), (⟨"WidowRoads$Evenings", "know", "(LWidowRoads$Colony;LWidowRoads$Supposal;LWidowRoads$Story;)V"⟩, 3), (⟨"WidowRoads$Evenings", "shareOf", "(LWidowRoads$Colony;ILWidowRoads$Fraction;)V"⟩, 3), (⟨"WidowRoads$Fraction", "reduce", "(JJ)V"⟩, 2), (⟨"WidowRoads$Fraction", "part", "(I)J"⟩, 2), (⟨"WidowRoads", "areTwo", "(II)Z"⟩, 11), (⟨"WidowRoads", "gain", "(IIII)I"⟩, 11), (⟨"WidowRoads", "tellInFog", "(I)V"⟩, 11), (⟨"WidowRoads$Story", "gainOf", "(I)I"⟩, 12), (⟨"WidowRoads$Evenings", "chanceOfRoad", "(LWidowRoads$Colony;ILWidowRoads$Fraction;)V"⟩, 3), (⟨"WidowRoads$Evenings", "meanOfPegs", "(LWidowRoads$Colony;LWidowRoads$Fraction;)V"⟩, 3), (⟨"WidowRoads", "act", "(I)I"⟩, 11), (⟨"WidowRoads", "fogDrawn", "(I)I"⟩, 11), (⟨"WidowRoads$Rows", "many", "()I"⟩, 4), (⟨"WidowRoads$Rows", "clear", "(III)V"⟩, 4)]
theorem lw_r5 : ∀ q ∈ lw_privs_5, lw_okq q := List.forall_mem_cons.mpr ⟨lw_p64, List.forall_mem_cons.mpr ⟨lw_p65, List.forall_mem_cons.mpr ⟨lw_p66, List.forall_mem_cons.mpr ⟨lw_p67, List.forall_mem_cons.mpr ⟨lw_p68, List.forall_mem_cons.mpr ⟨lw_p69, List.forall_mem_cons.mpr ⟨lw_p70, List.forall_mem_cons.mpr ⟨lw_p71, List.forall_mem_cons.mpr ⟨lw_p72, List.forall_mem_cons.mpr ⟨lw_p73, List.forall_mem_cons.mpr ⟨lw_p74, List.forall_mem_cons.mpr ⟨lw_p75, List.forall_mem_cons.mpr ⟨lw_p76, List.forall_mem_cons.mpr ⟨lw_p77, List.forall_mem_cons.mpr ⟨lw_p78, List.forall_mem_cons.mpr ⟨lw_p79, fun _ h => absurd h List.not_mem_nil⟩⟩⟩⟩⟩⟩⟩⟩⟩⟩⟩⟩⟩⟩⟩⟩
theorem lw_p80 : lw_okq (⟨"WidowRoads$Rows", "put", "(IIJ)V"⟩, 4) := ⟨⟨by decide +kernel, by decide +kernel⟩, List.mem_of_getElem? (i := 317) (by decide +kernel), List.mem_of_getElem? (i := 1168) (by decide +kernel), List.mem_of_getElem? (i := 1169) (by decide +kernel)⟩
theorem lw_p81 : lw_okq (⟨"WidowRoads$Rows", "holds", "(III)Z"⟩, 4) := ⟨⟨by decide +kernel, by decide +kernel⟩, List.mem_of_getElem? (i := 317) (by decide +kernel), List.mem_of_getElem? (i := 1179) (by decide +kernel), List.mem_of_getElem? (i := 1180) (by decide +kernel)⟩
theorem lw_p82 : lw_okq (⟨"WidowRoads$Rows", "move", "(IIIII)V"⟩, 4) := ⟨⟨by decide +kernel, by decide +kernel⟩, List.mem_of_getElem? (i := 317) (by decide +kernel), List.mem_of_getElem? (i := 1183) (by decide +kernel), List.mem_of_getElem? (i := 1184) (by decide +kernel)⟩
theorem lw_p83 : lw_okq (⟨"WidowRoadsModel", "advance", "()V"⟩, 46) := ⟨⟨by decide +kernel, by decide +kernel⟩, List.mem_of_getElem? (i := 1188) (by decide +kernel), List.mem_of_getElem? (i := 1360) (by decide +kernel), List.mem_of_getElem? (i := 1361) (by decide +kernel)⟩
theorem lw_p84 : lw_okq (⟨"WidowRoadsModel", "see", "(I)I"⟩, 46) := ⟨⟨by decide +kernel, by decide +kernel⟩, List.mem_of_getElem? (i := 1188) (by decide +kernel), List.mem_of_getElem? (i := 1364) (by decide +kernel), List.mem_of_getElem? (i := 1365) (by decide +kernel)⟩
theorem lw_p85 : lw_okq (⟨"WidowRoadsModel", "good", "()Z"⟩, 46) := ⟨⟨by decide +kernel, by decide +kernel⟩, List.mem_of_getElem? (i := 1188) (by decide +kernel), List.mem_of_getElem? (i := 1374) (by decide +kernel), List.mem_of_getElem? (i := 1375) (by decide +kernel)⟩
theorem lw_p86 : lw_okq (⟨"WidowRoadsModel", "readLine", "()V"⟩, 46) := ⟨⟨by decide +kernel, by decide +kernel⟩, List.mem_of_getElem? (i := 1188) (by decide +kernel), List.mem_of_getElem? (i := 1378) (by decide +kernel), List.mem_of_getElem? (i := 1379) (by decide +kernel)⟩
theorem lw_p87 : lw_okq (⟨"WidowRoadsModel", "readFirst", "()V"⟩, 46) := ⟨⟨by decide +kernel, by decide +kernel⟩, List.mem_of_getElem? (i := 1188) (by decide +kernel), List.mem_of_getElem? (i := 1382) (by decide +kernel), List.mem_of_getElem? (i := 1383) (by decide +kernel)⟩
theorem lw_p88 : lw_okq (⟨"WidowRoadsModel", "expects", "(Ljava/lang/String;)V"⟩, 46) := ⟨⟨by decide +kernel, by decide +kernel⟩, List.mem_of_getElem? (i := 1188) (by decide +kernel), List.mem_of_getElem? (i := 1387) (by decide +kernel), List.mem_of_getElem? (i := 1388) (by decide +kernel)⟩
theorem lw_p89 : lw_okq (⟨"WidowRoadsModel", "takes", "(Ljava/lang/String;)Z"⟩, 46) := ⟨⟨by decide +kernel, by decide +kernel⟩, List.mem_of_getElem? (i := 1188) (by decide +kernel), List.mem_of_getElem? (i := 1391) (by decide +kernel), List.mem_of_getElem? (i := 1392) (by decide +kernel)⟩
theorem lw_p90 : lw_okq (⟨"WidowRoadsModel", "is", "(Ljava/lang/String;)Z"⟩, 46) := ⟨⟨by decide +kernel, by decide +kernel⟩, List.mem_of_getElem? (i := 1188) (by decide +kernel), List.mem_of_getElem? (i := 1395) (by decide +kernel), List.mem_of_getElem? (i := 1396) (by decide +kernel)⟩
theorem lw_p91 : lw_okq (⟨"WidowRoadsModel", "errs", "(I)V"⟩, 46) := ⟨⟨by decide +kernel, by decide +kernel⟩, List.mem_of_getElem? (i := 1188) (by decide +kernel), List.mem_of_getElem? (i := 1401) (by decide +kernel), List.mem_of_getElem? (i := 1402) (by decide +kernel)⟩
theorem lw_p92 : lw_okq (⟨"WidowRoadsModel", "toldBy", "(Ljava/lang/String;II)I"⟩, 46) := ⟨⟨by decide +kernel, by decide +kernel⟩, List.mem_of_getElem? (i := 1188) (by decide +kernel), List.mem_of_getElem? (i := 1406) (by decide +kernel), List.mem_of_getElem? (i := 1407) (by decide +kernel)⟩
theorem lw_p93 : lw_okq (⟨"WidowRoadsModel", "number", "(II)I"⟩, 46) := ⟨⟨by decide +kernel, by decide +kernel⟩, List.mem_of_getElem? (i := 1188) (by decide +kernel), List.mem_of_getElem? (i := 1410) (by decide +kernel), List.mem_of_getElem? (i := 1411) (by decide +kernel)⟩
theorem lw_p94 : lw_okq (⟨"WidowRoadsModel", "readNext", "()V"⟩, 46) := ⟨⟨by decide +kernel, by decide +kernel⟩, List.mem_of_getElem? (i := 1188) (by decide +kernel), List.mem_of_getElem? (i := 1418) (by decide +kernel), List.mem_of_getElem? (i := 1419) (by decide +kernel)⟩
theorem lw_p95 : lw_okq (⟨"WidowRoadsModel", "isFull", "()Z"⟩, 46) := ⟨⟨by decide +kernel, by decide +kernel⟩, List.mem_of_getElem? (i := 1188) (by decide +kernel), List.mem_of_getElem? (i := 1425) (by decide +kernel), List.mem_of_getElem? (i := 1426) (by decide +kernel)⟩
def lw_privs_6 : List (MethodName × Nat) := [(⟨"WidowRoads$Rows", "put", "(IIJ)V"⟩, 4), (⟨"WidowRoads$Rows", "holds", "(III)Z"⟩, 4), (⟨"WidowRoads$Rows", "move", "(IIIII)V"⟩, 4), (⟨"WidowRoadsModel", "advance", "()V"⟩, 46), (⟨"WidowRoadsModel", "see", "(I)I"⟩, 46), (⟨"WidowRoadsModel", "good", "()Z"⟩, 46), (⟨"WidowRoadsModel", "readLine", "()V"⟩, 46), (⟨"WidowRoadsModel", "readFirst", "()V"⟩, 46), (⟨"WidowRoadsModel", "expects", "(Ljava/lang/String;)V"⟩, 46), (⟨"WidowRoadsModel", "takes", "(Ljava/lang/String;)Z"⟩, 46), (⟨"WidowRoadsModel", "is", "(Ljava/lang/String;)Z"⟩, 46), (⟨"WidowRoadsModel", "errs", "(I)V"⟩, 46), (⟨"WidowRoadsModel", "toldBy", "(Ljava/lang/String;II)I"⟩, 46), (⟨"WidowRoadsModel", "number", "(II)I"⟩, 46), (⟨"WidowRoadsModel", "readNext", "()V"⟩, 46), (⟨"WidowRoadsModel", "isFull", "()Z"⟩, 46)]
theorem lw_r6 : ∀ q ∈ lw_privs_6, lw_okq q := List.forall_mem_cons.mpr ⟨lw_p80, List.forall_mem_cons.mpr ⟨lw_p81, List.forall_mem_cons.mpr ⟨lw_p82, List.forall_mem_cons.mpr ⟨lw_p83, List.forall_mem_cons.mpr ⟨lw_p84, List.forall_mem_cons.mpr ⟨lw_p85, List.forall_mem_cons.mpr ⟨lw_p86, List.forall_mem_cons.mpr ⟨lw_p87, List.forall_mem_cons.mpr ⟨lw_p88, List.forall_mem_cons.mpr ⟨lw_p89, List.forall_mem_cons.mpr ⟨lw_p90, List.forall_mem_cons.mpr ⟨lw_p91, List.forall_mem_cons.mpr ⟨lw_p92, List.forall_mem_cons.mpr ⟨lw_p93, List.forall_mem_cons.mpr ⟨lw_p94, List.forall_mem_cons.mpr ⟨lw_p95, fun _ h => absurd h List.not_mem_nil⟩⟩⟩⟩⟩⟩⟩⟩⟩⟩⟩⟩⟩⟩⟩⟩
theorem lw_p96 : lw_okq (⟨"WidowRoadsModel", "readCell", "(Z)I"⟩, 46) := ⟨⟨by decide +kernel, by decide +kernel⟩, List.mem_of_getElem? (i := 1188) (by decide +kernel), List.mem_of_getElem? (i := 1429) (by decide +kernel), List.mem_of_getElem? (i := 1430) (by decide +kernel)⟩
theorem lw_p97 : lw_okq (⟨"WidowRoadsModel", "isTaken", "(III)Z"⟩, 46) := ⟨⟨by decide +kernel, by decide +kernel⟩, List.mem_of_getElem? (i := 1188) (by decide +kernel), List.mem_of_getElem? (i := 1433) (by decide +kernel), List.mem_of_getElem? (i := 1434) (by decide +kernel)⟩
theorem lw_p98 : lw_okq (⟨"WidowRoadsModel", "readWidow", "()V"⟩, 46) := ⟨⟨by decide +kernel, by decide +kernel⟩, List.mem_of_getElem? (i := 1188) (by decide +kernel), List.mem_of_getElem? (i := 1437) (by decide +kernel), List.mem_of_getElem? (i := 1438) (by decide +kernel)⟩
theorem lw_p99 : lw_okq (⟨"WidowRoadsModel", "readTurn", "(I)V"⟩, 46) := ⟨⟨by decide +kernel, by decide +kernel⟩, List.mem_of_getElem? (i := 1188) (by decide +kernel), List.mem_of_getElem? (i := 1445) (by decide +kernel), List.mem_of_getElem? (i := 1446) (by decide +kernel)⟩
theorem lw_p100 : lw_okq (⟨"WidowRoadsModel", "turnWord", "()I"⟩, 46) := ⟨⟨by decide +kernel, by decide +kernel⟩, List.mem_of_getElem? (i := 1188) (by decide +kernel), List.mem_of_getElem? (i := 1449) (by decide +kernel), List.mem_of_getElem? (i := 1450) (by decide +kernel)⟩
theorem lw_p101 : lw_okq (⟨"WidowRoadsModel", "isWidow", "(J)Z"⟩, 46) := ⟨⟨by decide +kernel, by decide +kernel⟩, List.mem_of_getElem? (i := 1188) (by decide +kernel), List.mem_of_getElem? (i := 1461) (by decide +kernel), List.mem_of_getElem? (i := 1462) (by decide +kernel)⟩
theorem lw_p102 : lw_okq (⟨"WidowRoadsModel", "widows", "()I"⟩, 46) := ⟨⟨by decide +kernel, by decide +kernel⟩, List.mem_of_getElem? (i := 1188) (by decide +kernel), List.mem_of_getElem? (i := 1465) (by decide +kernel), List.mem_of_getElem? (i := 1466) (by decide +kernel)⟩
theorem lw_p103 : lw_okq (⟨"WidowRoadsModel", "widowOf", "(II)I"⟩, 46) := ⟨⟨by decide +kernel, by decide +kernel⟩, List.mem_of_getElem? (i := 1188) (by decide +kernel), List.mem_of_getElem? (i := 1470) (by decide +kernel), List.mem_of_getElem? (i := 1471) (by decide +kernel)⟩
theorem lw_p104 : lw_okq (⟨"WidowRoadsModel", "asksCell", "(I)Z"⟩, 46) := ⟨⟨by decide +kernel, by decide +kernel⟩, List.mem_of_getElem? (i := 1188) (by decide +kernel), List.mem_of_getElem? (i := 1482) (by decide +kernel), List.mem_of_getElem? (i := 1483) (by decide +kernel)⟩
theorem lw_p105 : lw_okq (⟨"WidowRoadsModel", "asksColony", "()Z"⟩, 46) := ⟨⟨by decide +kernel, by decide +kernel⟩, List.mem_of_getElem? (i := 1188) (by decide +kernel), List.mem_of_getElem? (i := 1486) (by decide +kernel), List.mem_of_getElem? (i := 1487) (by decide +kernel)⟩
theorem lw_p106 : lw_okq (⟨"WidowRoadsModel", "asItIs", "()V"⟩, 46) := ⟨⟨by decide +kernel, by decide +kernel⟩, List.mem_of_getElem? (i := 1188) (by decide +kernel), List.mem_of_getElem? (i := 1490) (by decide +kernel), List.mem_of_getElem? (i := 1491) (by decide +kernel)⟩
theorem lw_p107 : lw_okq (⟨"WidowRoadsModel", "allWidows", "()I"⟩, 46) := ⟨⟨by decide +kernel, by decide +kernel⟩, List.mem_of_getElem? (i := 1188) (by decide +kernel), List.mem_of_getElem? (i := 1494) (by decide +kernel), List.mem_of_getElem? (i := 1495) (by decide +kernel)⟩
theorem lw_p108 : lw_okq (⟨"WidowRoadsModel", "goAll", "()V"⟩, 46) := ⟨⟨by decide +kernel, by decide +kernel⟩, List.mem_of_getElem? (i := 1188) (by decide +kernel), List.mem_of_getElem? (i := 1498) (by decide +kernel), List.mem_of_getElem? (i := 1499) (by decide +kernel)⟩
theorem lw_p109 : lw_okq (⟨"WidowRoadsModel", "years", "()I"⟩, 46) := ⟨⟨by decide +kernel, by decide +kernel⟩, List.mem_of_getElem? (i := 1188) (by decide +kernel), List.mem_of_getElem? (i := 1502) (by decide +kernel), List.mem_of_getElem? (i := 1503) (by decide +kernel)⟩
theorem lw_p110 : lw_okq (⟨"WidowRoadsModel", "keepYear", "(I)V"⟩, 46) := ⟨⟨by decide +kernel, by decide +kernel⟩, List.mem_of_getElem? (i := 1188) (by decide +kernel), List.mem_of_getElem? (i := 1506) (by decide +kernel), List.mem_of_getElem? (i := 1507) (by decide +kernel)⟩
theorem lw_p111 : lw_okq (⟨"WidowRoadsModel", "walk", "(I)V"⟩, 46) := ⟨⟨by decide +kernel, by decide +kernel⟩, List.mem_of_getElem? (i := 1188) (by decide +kernel), List.mem_of_getElem? (i := 1513) (by decide +kernel), List.mem_of_getElem? (i := 1514) (by decide +kernel)⟩
def lw_privs_7 : List (MethodName × Nat) := [(⟨"WidowRoadsModel", "readCell", "(Z)I"⟩, 46), (⟨"WidowRoadsModel", "isTaken", "(III)Z"⟩, 46), (⟨"WidowRoadsModel", "readWidow", "()V"⟩, 46), (⟨"WidowRoadsModel", "readTurn", "(I)V"⟩, 46), (⟨"WidowRoadsModel", "turnWord", "()I"⟩, 46), (⟨"WidowRoadsModel", "isWidow", "(J)Z"⟩, 46), (⟨"WidowRoadsModel", "widows", "()I"⟩, 46), (⟨"WidowRoadsModel", "widowOf", "(II)I"⟩, 46), (⟨"WidowRoadsModel", "asksCell", "(I)Z"⟩, 46), (⟨"WidowRoadsModel", "asksColony", "()Z"⟩, 46), (⟨"WidowRoadsModel", "asItIs", "()V"⟩, 46), (⟨"WidowRoadsModel", "allWidows", "()I"⟩, 46), (⟨"WidowRoadsModel", "goAll", "()V"⟩, 46), (⟨"WidowRoadsModel", "years", "()I"⟩, 46), (⟨"WidowRoadsModel", "keepYear", "(I)V"⟩, 46), (⟨"WidowRoadsModel", "walk", "(I)V"⟩, 46)]
theorem lw_r7 : ∀ q ∈ lw_privs_7, lw_okq q := List.forall_mem_cons.mpr ⟨lw_p96, List.forall_mem_cons.mpr ⟨lw_p97, List.forall_mem_cons.mpr ⟨lw_p98, List.forall_mem_cons.mpr ⟨lw_p99, List.forall_mem_cons.mpr ⟨lw_p100, List.forall_mem_cons.mpr ⟨lw_p101, List.forall_mem_cons.mpr ⟨lw_p102, List.forall_mem_cons.mpr ⟨lw_p103, List.forall_mem_cons.mpr ⟨lw_p104, List.forall_mem_cons.mpr ⟨lw_p105, List.forall_mem_cons.mpr ⟨lw_p106, List.forall_mem_cons.mpr ⟨lw_p107, List.forall_mem_cons.mpr ⟨lw_p108, List.forall_mem_cons.mpr ⟨lw_p109, List.forall_mem_cons.mpr ⟨lw_p110, List.forall_mem_cons.mpr ⟨lw_p111, fun _ h => absurd h List.not_mem_nil⟩⟩⟩⟩⟩⟩⟩⟩⟩⟩⟩⟩⟩⟩⟩⟩
theorem lw_p112 : lw_okq (⟨"WidowRoadsModel", "turnAt", "(II)I"⟩, 46) := ⟨⟨by decide +kernel, by decide +kernel⟩, List.mem_of_getElem? (i := 1188) (by decide +kernel), List.mem_of_getElem? (i := 1517) (by decide +kernel), List.mem_of_getElem? (i := 1518) (by decide +kernel)⟩
theorem lw_p113 : lw_okq (⟨"WidowRoadsModel", "isAnyFree", "(II)Z"⟩, 46) := ⟨⟨by decide +kernel, by decide +kernel⟩, List.mem_of_getElem? (i := 1188) (by decide +kernel), List.mem_of_getElem? (i := 1521) (by decide +kernel), List.mem_of_getElem? (i := 1522) (by decide +kernel)⟩
theorem lw_p114 : lw_okq (⟨"WidowRoadsModel", "beside", "(II)I"⟩, 46) := ⟨⟨by decide +kernel, by decide +kernel⟩, List.mem_of_getElem? (i := 1188) (by decide +kernel), List.mem_of_getElem? (i := 1525) (by decide +kernel), List.mem_of_getElem? (i := 1526) (by decide +kernel)⟩
theorem lw_p115 : lw_okq (⟨"WidowRoadsModel", "isFree", "(II)Z"⟩, 46) := ⟨⟨by decide +kernel, by decide +kernel⟩, List.mem_of_getElem? (i := 1188) (by decide +kernel), List.mem_of_getElem? (i := 1535) (by decide +kernel), List.mem_of_getElem? (i := 1536) (by decide +kernel)⟩
theorem lw_p116 : lw_okq (⟨"WidowRoadsModel", "moveHouses", "(I)V"⟩, 46) := ⟨⟨by decide +kernel, by decide +kernel⟩, List.mem_of_getElem? (i := 1188) (by decide +kernel), List.mem_of_getElem? (i := 1539) (by decide +kernel), List.mem_of_getElem? (i := 1540) (by decide +kernel)⟩
theorem lw_p117 : lw_okq (⟨"WidowRoadsModel", "houses", "()I"⟩, 46) := ⟨⟨by decide +kernel, by decide +kernel⟩, List.mem_of_getElem? (i := 1188) (by decide +kernel), List.mem_of_getElem? (i := 1543) (by decide +kernel), List.mem_of_getElem? (i := 1544) (by decide +kernel)⟩
theorem lw_p118 : lw_okq (⟨"WidowRoadsModel", "emptyCell", "()I"⟩, 46) := ⟨⟨by decide +kernel, by decide +kernel⟩, List.mem_of_getElem? (i := 1188) (by decide +kernel), List.mem_of_getElem? (i := 1547) (by decide +kernel), List.mem_of_getElem? (i := 1548) (by decide +kernel)⟩
theorem lw_p119 : lw_okq (⟨"WidowRoadsModel", "isCell", "(J)Z"⟩, 46) := ⟨⟨by decide +kernel, by decide +kernel⟩, List.mem_of_getElem? (i := 1188) (by decide +kernel), List.mem_of_getElem? (i := 1551) (by decide +kernel), List.mem_of_getElem? (i := 1552) (by decide +kernel)⟩
theorem lw_p120 : lw_okq (⟨"WidowRoadsModel", "isColony", "()Z"⟩, 46) := ⟨⟨by decide +kernel, by decide +kernel⟩, List.mem_of_getElem? (i := 1188) (by decide +kernel), List.mem_of_getElem? (i := 1555) (by decide +kernel), List.mem_of_getElem? (i := 1556) (by decide +kernel)⟩
theorem lw_p121 : lw_okq (⟨"WidowRoadsModel", "isHouse", "(I)Z"⟩, 46) := ⟨⟨by decide +kernel, by decide +kernel⟩, List.mem_of_getElem? (i := 1188) (by decide +kernel), List.mem_of_getElem? (i := 1560) (by decide +kernel), List.mem_of_getElem? (i := 1561) (by decide +kernel)⟩
theorem lw_p122 : lw_okq (⟨"WidowRoadsModel", "asksWidow", "(I)Z"⟩, 46) := ⟨⟨by decide +kernel, by decide +kernel⟩, List.mem_of_getElem? (i := 1188) (by decide +kernel), List.mem_of_getElem? (i := 1568) (by decide +kernel), List.mem_of_getElem? (i := 1569) (by decide +kernel)⟩
theorem lw_p123 : lw_okq (⟨"WidowRoadsModel", "pathOf", "(II)I"⟩, 46) := ⟨⟨by decide +kernel, by decide +kernel⟩, List.mem_of_getElem? (i := 1188) (by decide +kernel), List.mem_of_getElem? (i := 1573) (by decide +kernel), List.mem_of_getElem? (i := 1574) (by decide +kernel)⟩
theorem lw_p124 : lw_okq (⟨"WidowRoadsModel", "walks", "(I)Z"⟩, 46) := ⟨⟨by decide +kernel, by decide +kernel⟩, List.mem_of_getElem? (i := 1188) (by decide +kernel), List.mem_of_getElem? (i := 1585) (by decide +kernel), List.mem_of_getElem? (i := 1586) (by decide +kernel)⟩
theorem lw_p125 : lw_okq (⟨"WidowRoadsModel", "groundOf", "(I)I"⟩, 46) := ⟨⟨by decide +kernel, by decide +kernel⟩, List.mem_of_getElem? (i := 1188) (by decide +kernel), List.mem_of_getElem? (i := 1593) (by decide +kernel), List.mem_of_getElem? (i := 1594) (by decide +kernel)⟩
theorem lw_p126 : lw_okq (⟨"WidowRoadsModel", "isIn", "(II)Z"⟩, 46) := ⟨⟨by decide +kernel, by decide +kernel⟩, List.mem_of_getElem? (i := 1188) (by decide +kernel), List.mem_of_getElem? (i := 1597) (by decide +kernel), List.mem_of_getElem? (i := 1598) (by decide +kernel)⟩
theorem lw_p127 : lw_okq (⟨"WidowRoadsModel", "visitsOf", "(II)I"⟩, 46) := ⟨⟨by decide +kernel, by decide +kernel⟩, List.mem_of_getElem? (i := 1188) (by decide +kernel), List.mem_of_getElem? (i := 1609) (by decide +kernel), List.mem_of_getElem? (i := 1610) (by decide +kernel)⟩
def lw_privs_8 : List (MethodName × Nat) := [(⟨"WidowRoadsModel", "turnAt", "(II)I"⟩, 46), (⟨"WidowRoadsModel", "isAnyFree", "(II)Z"⟩, 46), (⟨"WidowRoadsModel", "beside", "(II)I"⟩, 46), (⟨"WidowRoadsModel", "isFree", "(II)Z"⟩, 46), (⟨"WidowRoadsModel", "moveHouses", "(I)V"⟩, 46), (⟨"WidowRoadsModel", "houses", "()I"⟩, 46), (⟨"WidowRoadsModel", "emptyCell", "()I"⟩, 46), (⟨"WidowRoadsModel", "isCell", "(J)Z"⟩, 46), (⟨"WidowRoadsModel", "isColony", "()Z"⟩, 46), (⟨"WidowRoadsModel", "isHouse", "(I)Z"⟩, 46), (⟨"WidowRoadsModel", "asksWidow", "(I)Z"⟩, 46), (⟨"WidowRoadsModel", "pathOf", "(II)I"⟩, 46), (⟨"WidowRoadsModel", "walks", "(I)Z"⟩, 46), (⟨"WidowRoadsModel", "groundOf", "(I)I"⟩, 46), (⟨"WidowRoadsModel", "isIn", "(II)Z"⟩, 46), (⟨"WidowRoadsModel", "visitsOf", "(II)I"⟩, 46)]
theorem lw_r8 : ∀ q ∈ lw_privs_8, lw_okq q := List.forall_mem_cons.mpr ⟨lw_p112, List.forall_mem_cons.mpr ⟨lw_p113, List.forall_mem_cons.mpr ⟨lw_p114, List.forall_mem_cons.mpr ⟨lw_p115, List.forall_mem_cons.mpr ⟨lw_p116, List.forall_mem_cons.mpr ⟨lw_p117, List.forall_mem_cons.mpr ⟨lw_p118, List.forall_mem_cons.mpr ⟨lw_p119, List.forall_mem_cons.mpr ⟨lw_p120, List.forall_mem_cons.mpr ⟨lw_p121, List.forall_mem_cons.mpr ⟨lw_p122, List.forall_mem_cons.mpr ⟨lw_p123, List.forall_mem_cons.mpr ⟨lw_p124, List.forall_mem_cons.mpr ⟨lw_p125, List.forall_mem_cons.mpr ⟨lw_p126, List.forall_mem_cons.mpr ⟨lw_p127, fun _ h => absurd h List.not_mem_nil⟩⟩⟩⟩⟩⟩⟩⟩⟩⟩⟩⟩⟩⟩⟩⟩
theorem lw_p128 : lw_okq (⟨"WidowRoadsModel", "asksYear", "(I)Z"⟩, 46) := ⟨⟨by decide +kernel, by decide +kernel⟩, List.mem_of_getElem? (i := 1188) (by decide +kernel), List.mem_of_getElem? (i := 1621) (by decide +kernel), List.mem_of_getElem? (i := 1622) (by decide +kernel)⟩
theorem lw_p129 : lw_okq (⟨"WidowRoadsModel", "isYear", "(J)Z"⟩, 46) := ⟨⟨by decide +kernel, by decide +kernel⟩, List.mem_of_getElem? (i := 1188) (by decide +kernel), List.mem_of_getElem? (i := 1625) (by decide +kernel), List.mem_of_getElem? (i := 1626) (by decide +kernel)⟩
theorem lw_p130 : lw_okq (⟨"WidowRoadsModel", "straightBy", "(II)I"⟩, 46) := ⟨⟨by decide +kernel, by decide +kernel⟩, List.mem_of_getElem? (i := 1188) (by decide +kernel), List.mem_of_getElem? (i := 1633) (by decide +kernel), List.mem_of_getElem? (i := 1634) (by decide +kernel)⟩
theorem lw_p131 : lw_okq (⟨"WidowRoadsModel", "layFar", "(II)V"⟩, 46) := ⟨⟨by decide +kernel, by decide +kernel⟩, List.mem_of_getElem? (i := 1188) (by decide +kernel), List.mem_of_getElem? (i := 1637) (by decide +kernel), List.mem_of_getElem? (i := 1638) (by decide +kernel)⟩
theorem lw_p132 : lw_okq (⟨"WidowRoadsModel", "leads", "(III)Z"⟩, 46) := ⟨⟨by decide +kernel, by decide +kernel⟩, List.mem_of_getElem? (i := 1188) (by decide +kernel), List.mem_of_getElem? (i := 1641) (by decide +kernel), List.mem_of_getElem? (i := 1642) (by decide +kernel)⟩
theorem lw_p133 : lw_okq (⟨"WidowRoadsModel", "pegsOf", "(II)I"⟩, 46) := ⟨⟨by decide +kernel, by decide +kernel⟩, List.mem_of_getElem? (i := 1188) (by decide +kernel), List.mem_of_getElem? (i := 1645) (by decide +kernel), List.mem_of_getElem? (i := 1646) (by decide +kernel)⟩
theorem lw_p134 : lw_okq (⟨"WidowRoadsModel", "roadOf", "(II)Z"⟩, 46) := ⟨⟨by decide +kernel, by decide +kernel⟩, List.mem_of_getElem? (i := 1188) (by decide +kernel), List.mem_of_getElem? (i := 1657) (by decide +kernel), List.mem_of_getElem? (i := 1658) (by decide +kernel)⟩
theorem lw_p135 : lw_okq (⟨"WidowRoadsModel", "netOf", "(II)I"⟩, 46) := ⟨⟨by decide +kernel, by decide +kernel⟩, List.mem_of_getElem? (i := 1188) (by decide +kernel), List.mem_of_getElem? (i := 1665) (by decide +kernel), List.mem_of_getElem? (i := 1666) (by decide +kernel)⟩
theorem lw_p136 : lw_okq (⟨"WidowRoadsModel", "roadMany", "(I)I"⟩, 46) := ⟨⟨by decide +kernel, by decide +kernel⟩, List.mem_of_getElem? (i := 1188) (by decide +kernel), List.mem_of_getElem? (i := 1681) (by decide +kernel), List.mem_of_getElem? (i := 1682) (by decide +kernel)⟩
theorem lw_p137 : lw_okq (⟨"WidowRoadsModel", "pegMany", "(I)I"⟩, 46) := ⟨⟨by decide +kernel, by decide +kernel⟩, List.mem_of_getElem? (i := 1188) (by decide +kernel), List.mem_of_getElem? (i := 1689) (by decide +kernel), List.mem_of_getElem? (i := 1690) (by decide +kernel)⟩
theorem lw_p138 : lw_okq (⟨"WidowRoadsModel", "netMany", "(I)I"⟩, 46) := ⟨⟨by decide +kernel, by decide +kernel⟩, List.mem_of_getElem? (i := 1188) (by decide +kernel), List.mem_of_getElem? (i := 1708) (by decide +kernel), List.mem_of_getElem? (i := 1709) (by decide +kernel)⟩
theorem lw_p139 : lw_okq (⟨"WidowRoadsModel", "isOneSideBySide", "(I)Z"⟩, 46) := ⟨⟨by decide +kernel, by decide +kernel⟩, List.mem_of_getElem? (i := 1188) (by decide +kernel), List.mem_of_getElem? (i := 1716) (by decide +kernel), List.mem_of_getElem? (i := 1717) (by decide +kernel)⟩
theorem lw_p140 : lw_okq (⟨"WidowRoadsModel", "walkedOf", "(I)I"⟩, 46) := ⟨⟨by decide +kernel, by decide +kernel⟩, List.mem_of_getElem? (i := 1188) (by decide +kernel), List.mem_of_getElem? (i := 1741) (by decide +kernel), List.mem_of_getElem? (i := 1742) (by decide +kernel)⟩
theorem lw_p141 : lw_okq (⟨"WidowRoadsModel", "coversOf", "()I"⟩, 46) := ⟨⟨by decide +kernel, by decide +kernel⟩, List.mem_of_getElem? (i := 1188) (by decide +kernel), List.mem_of_getElem? (i := 1757) (by decide +kernel), List.mem_of_getElem? (i := 1758) (by decide +kernel)⟩
theorem lw_p142 : lw_okq (⟨"WidowRoadsModel", "isHouseTold", "(I)Z"⟩, 46) := ⟨⟨by decide +kernel, by decide +kernel⟩, List.mem_of_getElem? (i := 1188) (by decide +kernel), List.mem_of_getElem? (i := 1769) (by decide +kernel), List.mem_of_getElem? (i := 1770) (by decide +kernel)⟩
theorem lw_p143 : lw_okq (⟨"WidowRoadsModel", "isServed", "(II)Z"⟩, 46) := ⟨⟨by decide +kernel, by decide +kernel⟩, List.mem_of_getElem? (i := 1188) (by decide +kernel), List.mem_of_getElem? (i := 1785) (by decide +kernel), List.mem_of_getElem? (i := 1786) (by decide +kernel)⟩
def lw_privs_9 : List (MethodName × Nat) := [(⟨"WidowRoadsModel", "asksYear", "(I)Z"⟩, 46), (⟨"WidowRoadsModel", "isYear", "(J)Z"⟩, 46), (⟨"WidowRoadsModel", "straightBy", "(II)I"⟩, 46), (⟨"WidowRoadsModel", "layFar", "(II)V"⟩, 46), (⟨"WidowRoadsModel", "leads", "(III)Z"⟩, 46), (⟨"WidowRoadsModel", "pegsOf", "(II)I"⟩, 46), (⟨"WidowRoadsModel", "roadOf", "(II)Z"⟩, 46), (⟨"WidowRoadsModel", "netOf", "(II)I"⟩, 46), (⟨"WidowRoadsModel", "roadMany", "(I)I"⟩, 46), (⟨"WidowRoadsModel", "pegMany", "(I)I"⟩, 46), (⟨"WidowRoadsModel", "netMany", "(I)I"⟩, 46), (⟨"WidowRoadsModel", "isOneSideBySide", "(I)Z"⟩, 46), (⟨"WidowRoadsModel", "walkedOf", "(I)I"⟩, 46), (⟨"WidowRoadsModel", "coversOf", "()I"⟩, 46), (⟨"WidowRoadsModel", "isHouseTold", "(I)Z"⟩, 46), (⟨"WidowRoadsModel", "isServed", "(II)Z"⟩, 46)]
theorem lw_r9 : ∀ q ∈ lw_privs_9, lw_okq q := List.forall_mem_cons.mpr ⟨lw_p128, List.forall_mem_cons.mpr ⟨lw_p129, List.forall_mem_cons.mpr ⟨lw_p130, List.forall_mem_cons.mpr ⟨lw_p131, List.forall_mem_cons.mpr ⟨lw_p132, List.forall_mem_cons.mpr ⟨lw_p133, List.forall_mem_cons.mpr ⟨lw_p134, List.forall_mem_cons.mpr ⟨lw_p135, List.forall_mem_cons.mpr ⟨lw_p136, List.forall_mem_cons.mpr ⟨lw_p137, List.forall_mem_cons.mpr ⟨lw_p138, List.forall_mem_cons.mpr ⟨lw_p139, List.forall_mem_cons.mpr ⟨lw_p140, List.forall_mem_cons.mpr ⟨lw_p141, List.forall_mem_cons.mpr ⟨lw_p142, List.forall_mem_cons.mpr ⟨lw_p143, fun _ h => absurd h List.not_mem_nil⟩⟩⟩⟩⟩⟩⟩⟩⟩⟩⟩⟩⟩⟩⟩⟩
theorem lw_p144 : lw_okq (⟨"WidowRoadsModel", "movedAll", "()I"⟩, 46) := ⟨⟨by decide +kernel, by decide +kernel⟩, List.mem_of_getElem? (i := 1188) (by decide +kernel), List.mem_of_getElem? (i := 1793) (by decide +kernel), List.mem_of_getElem? (i := 1794) (by decide +kernel)⟩
theorem lw_p145 : lw_okq (⟨"WidowRoadsModel", "pegsLast", "()I"⟩, 46) := ⟨⟨by decide +kernel, by decide +kernel⟩, List.mem_of_getElem? (i := 1188) (by decide +kernel), List.mem_of_getElem? (i := 1801) (by decide +kernel), List.mem_of_getElem? (i := 1802) (by decide +kernel)⟩
theorem lw_p146 : lw_okq (⟨"WidowRoadsModel", "askSeen", "(II)I"⟩, 46) := ⟨⟨by decide +kernel, by decide +kernel⟩, List.mem_of_getElem? (i := 1188) (by decide +kernel), List.mem_of_getElem? (i := 1809) (by decide +kernel), List.mem_of_getElem? (i := 1810) (by decide +kernel)⟩
theorem lw_p147 : lw_okq (⟨"WidowRoadsModel", "askSeen", "(I)I"⟩, 46) := ⟨⟨by decide +kernel, by decide +kernel⟩, List.mem_of_getElem? (i := 1188) (by decide +kernel), List.mem_of_getElem? (i := 1813) (by decide +kernel), List.mem_of_getElem? (i := 1814) (by decide +kernel)⟩
theorem lw_p148 : lw_okq (⟨"WidowRoadsModel", "numberAt", "(II)J"⟩, 46) := ⟨⟨by decide +kernel, by decide +kernel⟩, List.mem_of_getElem? (i := 1188) (by decide +kernel), List.mem_of_getElem? (i := 1821) (by decide +kernel), List.mem_of_getElem? (i := 1822) (by decide +kernel)⟩
theorem lw_p149 : lw_okq (⟨"WidowRoadsModel", "facedOf", "(II)I"⟩, 46) := ⟨⟨by decide +kernel, by decide +kernel⟩, List.mem_of_getElem? (i := 1188) (by decide +kernel), List.mem_of_getElem? (i := 1825) (by decide +kernel), List.mem_of_getElem? (i := 1826) (by decide +kernel)⟩
theorem lw_p150 : lw_okq (⟨"WidowRoadsModel", "isSeen", "(I)Z"⟩, 46) := ⟨⟨by decide +kernel, by decide +kernel⟩, List.mem_of_getElem? (i := 1188) (by decide +kernel), List.mem_of_getElem? (i := 1829) (by decide +kernel), List.mem_of_getElem? (i := 1830) (by decide +kernel)⟩
theorem lw_p151 : lw_okq (⟨"WidowRoadsModel", "askOf", "(I)I"⟩, 46) := ⟨⟨by decide +kernel, by decide +kernel⟩, List.mem_of_getElem? (i := 1188) (by decide +kernel), List.mem_of_getElem? (i := 1841) (by decide +kernel), List.mem_of_getElem? (i := 1842) (by decide +kernel)⟩
theorem lw_p152 : lw_okq (⟨"WidowRoadsModel", "worstOf", "(II)I"⟩, 46) := ⟨⟨by decide +kernel, by decide +kernel⟩, List.mem_of_getElem? (i := 1188) (by decide +kernel), List.mem_of_getElem? (i := 1845) (by decide +kernel), List.mem_of_getElem? (i := 1846) (by decide +kernel)⟩
theorem lw_p153 : lw_okq (⟨"WidowRoadsModel", "pegsBy", "(I)I"⟩, 46) := ⟨⟨by decide +kernel, by decide +kernel⟩, List.mem_of_getElem? (i := 1188) (by decide +kernel), List.mem_of_getElem? (i := 1861) (by decide +kernel), List.mem_of_getElem? (i := 1862) (by decide +kernel)⟩
theorem lw_p154 : lw_okq (⟨"WidowRoadsModel", "beginSets", "()V"⟩, 46) := ⟨⟨by decide +kernel, by decide +kernel⟩, List.mem_of_getElem? (i := 1188) (by decide +kernel), List.mem_of_getElem? (i := 1873) (by decide +kernel), List.mem_of_getElem? (i := 1874) (by decide +kernel)⟩
theorem lw_p155 : lw_okq (⟨"WidowRoadsModel", "worthOf", "(I)I"⟩, 46) := ⟨⟨by decide +kernel, by decide +kernel⟩, List.mem_of_getElem? (i := 1188) (by decide +kernel), List.mem_of_getElem? (i := 1877) (by decide +kernel), List.mem_of_getElem? (i := 1878) (by decide +kernel)⟩
theorem lw_p156 : lw_okq (⟨"WidowRoadsModel", "areTwo", "(II)Z"⟩, 46) := ⟨⟨by decide +kernel, by decide +kernel⟩, List.mem_of_getElem? (i := 1188) (by decide +kernel), List.mem_of_getElem? (i := 1900) (by decide +kernel), List.mem_of_getElem? (i := 1901) (by decide +kernel)⟩
theorem lw_p157 : lw_okq (⟨"WidowRoadsModel", "getsBy", "(IIIII)I"⟩, 46) := ⟨⟨by decide +kernel, by decide +kernel⟩, List.mem_of_getElem? (i := 1188) (by decide +kernel), List.mem_of_getElem? (i := 1904) (by decide +kernel), List.mem_of_getElem? (i := 1905) (by decide +kernel)⟩
theorem lw_p158 : lw_okq (⟨"WidowRoadsModel", "layFog", "(I)V"⟩, 46) := ⟨⟨by decide +kernel, by decide +kernel⟩, List.mem_of_getElem? (i := 1188) (by decide +kernel), List.mem_of_getElem? (i := 1917) (by decide +kernel), List.mem_of_getElem? (i := 1918) (by decide +kernel)⟩
theorem lw_p159 : lw_okq (⟨"WidowRoadsModel", "keepAct", "(I)I"⟩, 46) := ⟨⟨by decide +kernel, by decide +kernel⟩, List.mem_of_getElem? (i := 1188) (by decide +kernel), List.mem_of_getElem? (i := 1929) (by decide +kernel), List.mem_of_getElem? (i := 1930) (by decide +kernel)⟩
def lw_privs_10 : List (MethodName × Nat) := [(⟨"WidowRoadsModel", "movedAll", "()I"⟩, 46), (⟨"WidowRoadsModel", "pegsLast", "()I"⟩, 46), (⟨"WidowRoadsModel", "askSeen", "(II)I"⟩, 46), (⟨"WidowRoadsModel", "askSeen", "(I)I"⟩, 46), (⟨"WidowRoadsModel", "numberAt", "(II)J"⟩, 46), (⟨"WidowRoadsModel", "facedOf", "(II)I"⟩, 46), (⟨"WidowRoadsModel", "isSeen", "(I)Z"⟩, 46), (⟨"WidowRoadsModel", "askOf", "(I)I"⟩, 46), (⟨"WidowRoadsModel", "worstOf", "(II)I"⟩, 46), (⟨"WidowRoadsModel", "pegsBy", "(I)I"⟩, 46), (⟨"WidowRoadsModel", "beginSets", "()V"⟩, 46), (⟨"WidowRoadsModel", "worthOf", "(I)I"⟩, 46), (⟨"WidowRoadsModel", "areTwo", "(II)Z"⟩, 46), (⟨"WidowRoadsModel", "getsBy", "(IIIII)I"⟩, 46), (⟨"WidowRoadsModel", "layFog", "(I)V"⟩, 46), (⟨"WidowRoadsModel", "keepAct", "(I)I"⟩, 46)]
theorem lw_r10 : ∀ q ∈ lw_privs_10, lw_okq q := List.forall_mem_cons.mpr ⟨lw_p144, List.forall_mem_cons.mpr ⟨lw_p145, List.forall_mem_cons.mpr ⟨lw_p146, List.forall_mem_cons.mpr ⟨lw_p147, List.forall_mem_cons.mpr ⟨lw_p148, List.forall_mem_cons.mpr ⟨lw_p149, List.forall_mem_cons.mpr ⟨lw_p150, List.forall_mem_cons.mpr ⟨lw_p151, List.forall_mem_cons.mpr ⟨lw_p152, List.forall_mem_cons.mpr ⟨lw_p153, List.forall_mem_cons.mpr ⟨lw_p154, List.forall_mem_cons.mpr ⟨lw_p155, List.forall_mem_cons.mpr ⟨lw_p156, List.forall_mem_cons.mpr ⟨lw_p157, List.forall_mem_cons.mpr ⟨lw_p158, List.forall_mem_cons.mpr ⟨lw_p159, fun _ h => absurd h List.not_mem_nil⟩⟩⟩⟩⟩⟩⟩⟩⟩⟩⟩⟩⟩⟩⟩⟩
theorem lw_p160 : lw_okq (⟨"WidowRoadsModel", "goDrawn", "(J)I"⟩, 46) := ⟨⟨by decide +kernel, by decide +kernel⟩, List.mem_of_getElem? (i := 1188) (by decide +kernel), List.mem_of_getElem? (i := 1953) (by decide +kernel), List.mem_of_getElem? (i := 1954) (by decide +kernel)⟩
def lw_privs_11 : List (MethodName × Nat) := [(⟨"WidowRoadsModel", "goDrawn", "(J)I"⟩, 46)]
theorem lw_r11 : ∀ q ∈ lw_privs_11, lw_okq q := List.forall_mem_cons.mpr ⟨lw_p160, fun _ h => absurd h List.not_mem_nil⟩
def lw_privs : List (MethodName × Nat) := lw_privs_1 ++ (lw_privs_2 ++ (lw_privs_3 ++ (lw_privs_4 ++ (lw_privs_5 ++ (lw_privs_6 ++ (lw_privs_7 ++ (lw_privs_8 ++ (lw_privs_9 ++ (lw_privs_10 ++ (lw_privs_11))))))))))
def lw_tbl : List Cond := k2_sels lw_privs ++ tables_1
theorem lw_privs_ok : ∀ q ∈ lw_privs, lw_okq q := by
  show ∀ q ∈ lw_privs_1 ++ (lw_privs_2 ++ (lw_privs_3 ++ (lw_privs_4 ++ (lw_privs_5 ++ (lw_privs_6 ++ (lw_privs_7 ++ (lw_privs_8 ++ (lw_privs_9 ++ (lw_privs_10 ++ (lw_privs_11)))))))))), lw_okq q
  exact List.forall_mem_append.mpr ⟨lw_r1, List.forall_mem_append.mpr ⟨lw_r2, List.forall_mem_append.mpr ⟨lw_r3, List.forall_mem_append.mpr ⟨lw_r4, List.forall_mem_append.mpr ⟨lw_r5, List.forall_mem_append.mpr ⟨lw_r6, List.forall_mem_append.mpr ⟨lw_r7, List.forall_mem_append.mpr ⟨lw_r8, List.forall_mem_append.mpr ⟨lw_r9, List.forall_mem_append.mpr ⟨lw_r10, lw_r11⟩⟩⟩⟩⟩⟩⟩⟩⟩⟩
end
section
def RX0 : String := "WidowRoads$Colony"
def TX0 : u_T := fun k => match k with
  | 0 => ("WidowRoads$Colony", "lines", "I", false)
  | 1 => ("WidowRoads$Colony", "span", "I", false)
  | 2 => ("WidowRoads$Colony", "rule", "I", false)
  | 3 => ("WidowRoads$Colony", "odds", "I", false)
  | 4 => ("WidowRoads$Colony", "wide", "I", false)
  | 5 => ("WidowRoads$Colony", "high", "I", false)
  | 6 => ("WidowRoads$Colony", "creeks", "I", false)
  | 7 => ("WidowRoads$Colony", "houses", "I", false)
  | 8 => ("WidowRoads$Colony", "widows", "I", false)
  | 9 => ("WidowRoads$Colony", "acts", "I", false)
  | 10 => ("WidowRoads$Colony", "creekSpots", "[I", true)
  | 11 => ("WidowRoads$Colony", "houseSpots", "[I", true)
  | 12 => ("WidowRoads$Colony", "starts", "[I", true)
  | 13 => ("WidowRoads$Colony", "faces", "[I", true)
  | 14 => ("WidowRoads$Colony", "paces", "[I", true)
  | 15 => ("WidowRoads$Colony", "years", "[I", true)
  | 16 => ("WidowRoads$Colony", "turns", "[I", true)
  | 17 => ("WidowRoads$Colony", "griefs", "[I", true)
  | _ => ("WidowRoads$Colony", "actsDone", "[I", true)
def tyX0 : Nat → FieldType := fun k => match k with
  | 0 => .int
  | 1 => .int
  | 2 => .int
  | 3 => .int
  | 4 => .int
  | 5 => .int
  | 6 => .int
  | 7 => .int
  | 8 => .int
  | 9 => .int
  | 10 => .array .int
  | 11 => .array .int
  | 12 => .array .int
  | 13 => .array .int
  | 14 => .array .int
  | 15 => .array .int
  | 16 => .array .int
  | 17 => .array .int
  | _ => .array .int
abbrev wsX00 : List Cond := u_ws RX0 TX0 19
theorem nmX0 : ∀ a, a < 19 → ∀ b, b < 19 → a ≠ b → (TX0 a).2.1 ≠ (TX0 b).2.1 := by decide +kernel
theorem tyX0_ok : ∀ k, k < 19 → parseFieldDescriptor (TX0 k).2.2.1 = some (tyX0 k) := by decide +kernel
abbrev cX0_init : ByteArray := prog_2_method_1_code
def yX0_init : MethodName := ⟨RX0, "<init>", "()V"⟩
abbrev cX0_clear : ByteArray := prog_2_method_2_code
def yX0_clear : MethodName := ⟨RX0, "clear", "()V"⟩
abbrev cX0_become : ByteArray := prog_2_method_3_code
def yX0_become : MethodName := ⟨RX0, "become", "(LWidowRoads$Colony;)V"⟩
abbrev cX0_hasWidow : ByteArray := prog_2_method_4_code
def yX0_hasWidow : MethodName := ⟨RX0, "hasWidow", "(J)Z"⟩
abbrev cX0_hasHouse : ByteArray := prog_2_method_5_code
def yX0_hasHouse : MethodName := ⟨RX0, "hasHouse", "(I)Z"⟩
abbrev cX0_hasYear : ByteArray := prog_2_method_6_code
def yX0_hasYear : MethodName := ⟨RX0, "hasYear", "(I)Z"⟩
abbrev cX0_spotOf : ByteArray := prog_2_method_7_code
def yX0_spotOf : MethodName := ⟨RX0, "spotOf", "(J)I"⟩
abbrev cX0_field : ByteArray := prog_2_method_8_code
def yX0_field : MethodName := ⟨RX0, "field", "()J"⟩
abbrev cX0_creekBits : ByteArray := prog_2_method_9_code
def yX0_creekBits : MethodName := ⟨RX0, "creekBits", "()J"⟩
abbrev cX0_houseBits : ByteArray := prog_2_method_10_code
def yX0_houseBits : MethodName := ⟨RX0, "houseBits", "()J"⟩
abbrev cX0_walkerBits : ByteArray := prog_2_method_11_code
def yX0_walkerBits : MethodName := ⟨RX0, "walkerBits", "()I"⟩
def RX1 : String := "WidowRoads$Evenings"
def TX1 : u_T := fun k => match k with
  | 0 => ("WidowRoads$Evenings", "roads", "[J", true)
  | 1 => ("WidowRoads$Evenings", "pegs", "[I", true)
  | _ => ("WidowRoads$Evenings", "known", "Z", false)
def tyX1 : Nat → FieldType := fun k => match k with
  | 0 => .array .long
  | 1 => .array .int
  | _ => .boolean
abbrev wsX10 : List Cond := u_ws RX1 TX1 3
theorem nmX1 : ∀ a, a < 3 → ∀ b, b < 3 → a ≠ b → (TX1 a).2.1 ≠ (TX1 b).2.1 := by decide +kernel
theorem tyX1_ok : ∀ k, k < 3 → parseFieldDescriptor (TX1 k).2.2.1 = some (tyX1 k) := by decide +kernel
abbrev cX1_init : ByteArray := prog_3_method_1_code
def yX1_init : MethodName := ⟨RX1, "<init>", "()V"⟩
abbrev cX1_know : ByteArray := prog_3_method_2_code
def yX1_know : MethodName := ⟨RX1, "know", "(LWidowRoads$Colony;LWidowRoads$Supposal;LWidowRoads$Story;)V"⟩
abbrev cX1_shareOf : ByteArray := prog_3_method_3_code
def yX1_shareOf : MethodName := ⟨RX1, "shareOf", "(LWidowRoads$Colony;ILWidowRoads$Fraction;)V"⟩
abbrev cX1_orders : ByteArray := prog_3_method_4_code
def yX1_orders : MethodName := ⟨RX1, "orders", "(I)J"⟩
abbrev cX1_chanceOfRoad : ByteArray := prog_3_method_5_code
def yX1_chanceOfRoad : MethodName := ⟨RX1, "chanceOfRoad", "(LWidowRoads$Colony;ILWidowRoads$Fraction;)V"⟩
abbrev cX1_meanOfPegs : ByteArray := prog_3_method_6_code
def yX1_meanOfPegs : MethodName := ⟨RX1, "meanOfPegs", "(LWidowRoads$Colony;LWidowRoads$Fraction;)V"⟩
abbrev cX1_weight : ByteArray := prog_3_method_7_code
def yX1_weight : MethodName := ⟨RX1, "weight", "(LWidowRoads$Colony;I)J"⟩
abbrev cX1_power : ByteArray := prog_3_method_8_code
def yX1_power : MethodName := ⟨RX1, "power", "(II)J"⟩
def RX2 : String := "WidowRoads$Fraction"
def TX2 : u_T := fun k => match k with
  | 0 => ("WidowRoads$Fraction", "above", "J", false)
  | _ => ("WidowRoads$Fraction", "below", "J", false)
def tyX2 : Nat → FieldType := fun k => match k with
  | 0 => .long
  | _ => .long
abbrev wsX20 : List Cond := u_ws RX2 TX2 2
theorem nmX2 : ∀ a, a < 2 → ∀ b, b < 2 → a ≠ b → (TX2 a).2.1 ≠ (TX2 b).2.1 := by decide +kernel
theorem tyX2_ok : ∀ k, k < 2 → parseFieldDescriptor (TX2 k).2.2.1 = some (tyX2 k) := by decide +kernel
abbrev cX2_init : ByteArray := prog_4_method_1_code
def yX2_init : MethodName := ⟨RX2, "<init>", "()V"⟩
abbrev cX2_reduce : ByteArray := prog_4_method_2_code
def yX2_reduce : MethodName := ⟨RX2, "reduce", "(JJ)V"⟩
abbrev cX2_part : ByteArray := prog_4_method_3_code
def yX2_part : MethodName := ⟨RX2, "part", "(I)J"⟩
def RX3 : String := "WidowRoads$Net"
def TX3 : u_T := fun k => match k with
  | 0 => ("WidowRoads$Net", "cells", "J", false)
  | 1 => ("WidowRoads$Net", "across", "J", false)
  | _ => ("WidowRoads$Net", "down", "J", false)
def tyX3 : Nat → FieldType := fun k => match k with
  | 0 => .long
  | 1 => .long
  | _ => .long
abbrev wsX30 : List Cond := u_ws RX3 TX3 3
theorem nmX3 : ∀ a, a < 3 → ∀ b, b < 3 → a ≠ b → (TX3 a).2.1 ≠ (TX3 b).2.1 := by decide +kernel
theorem tyX3_ok : ∀ k, k < 3 → parseFieldDescriptor (TX3 k).2.2.1 = some (tyX3 k) := by decide +kernel
abbrev cX3_init : ByteArray := prog_5_method_1_code
def yX3_init : MethodName := ⟨RX3, "<init>", "()V"⟩
abbrev cX3_lay : ByteArray := prog_5_method_2_code
def yX3_lay : MethodName := ⟨RX3, "lay", "(LWidowRoads$Story;I)V"⟩
abbrev cX3_layAll : ByteArray := prog_5_method_3_code
def yX3_layAll : MethodName := ⟨RX3, "layAll", "(J)V"⟩
abbrev cX3_spread : ByteArray := prog_5_method_4_code
def yX3_spread : MethodName := ⟨RX3, "spread", "(J)J"⟩
abbrev cX3_reach : ByteArray := prog_5_method_5_code
def yX3_reach : MethodName := ⟨RX3, "reach", "(I)J"⟩
abbrev cX3_parts : ByteArray := prog_5_method_6_code
def yX3_parts : MethodName := ⟨RX3, "parts", "()I"⟩
abbrev cX3_distance : ByteArray := prog_5_method_7_code
def yX3_distance : MethodName := ⟨RX3, "distance", "(II)I"⟩
abbrev cX3_outermost : ByteArray := prog_5_method_8_code
def yX3_outermost : MethodName := ⟨RX3, "outermost", "(I)I"⟩
abbrev cX3_sidesJoined : ByteArray := prog_5_method_9_code
def yX3_sidesJoined : MethodName := ⟨RX3, "sidesJoined", "(I)I"⟩
abbrev cX3_cellsJoinedBy : ByteArray := prog_5_method_10_code
def yX3_cellsJoinedBy : MethodName := ⟨RX3, "cellsJoinedBy", "(I)I"⟩
abbrev cX3_cuts : ByteArray := prog_5_method_11_code
def yX3_cuts : MethodName := ⟨RX3, "cuts", "()I"⟩
abbrev cX3_longestRow : ByteArray := prog_5_method_12_code
def yX3_longestRow : MethodName := ⟨RX3, "longestRow", "()I"⟩
def RX4 : String := "WidowRoads$Reader"
def TX4 : u_T := fun k => match k with
  | 0 => ("WidowRoads$Reader", "fault", "I", false)
  | 1 => ("WidowRoads$Reader", "place", "I", false)
  | 2 => ("WidowRoads$Reader", "tape", "LWidowRoads$Tape;", true)
  | 3 => ("WidowRoads$Reader", "into", "LWidowRoads$Colony;", true)
  | 4 => ("WidowRoads$Reader", "kind", "I", false)
  | 5 => ("WidowRoads$Reader", "start", "I", false)
  | _ => ("WidowRoads$Reader", "stop", "I", false)
def tyX4 : Nat → FieldType := fun k => match k with
  | 0 => .int
  | 1 => .int
  | 2 => .object "WidowRoads$Tape"
  | 3 => .object "WidowRoads$Colony"
  | 4 => .int
  | 5 => .int
  | _ => .int
abbrev wsX40 : List Cond := u_ws RX4 TX4 7
theorem nmX4 : ∀ a, a < 7 → ∀ b, b < 7 → a ≠ b → (TX4 a).2.1 ≠ (TX4 b).2.1 := by decide +kernel
theorem tyX4_ok : ∀ k, k < 7 → parseFieldDescriptor (TX4 k).2.2.1 = some (tyX4 k) := by decide +kernel
abbrev cX4_init : ByteArray := prog_6_method_1_code
def yX4_init : MethodName := ⟨RX4, "<init>", "()V"⟩
abbrev cX4_read : ByteArray := prog_6_method_2_code
def yX4_read : MethodName := ⟨RX4, "read", "()V"⟩
abbrev cX4_closeLine : ByteArray := prog_6_method_3_code
def yX4_closeLine : MethodName := ⟨RX4, "closeLine", "()V"⟩
abbrev cX4_mark : ByteArray := prog_6_method_4_code
def yX4_mark : MethodName := ⟨RX4, "mark", "(II)V"⟩
abbrev cX4_next : ByteArray := prog_6_method_5_code
def yX4_next : MethodName := ⟨RX4, "next", "()V"⟩
abbrev cX4_readColony : ByteArray := prog_6_method_6_code
def yX4_readColony : MethodName := ⟨RX4, "readColony", "()V"⟩
abbrev cX4_readCreek : ByteArray := prog_6_method_7_code
def yX4_readCreek : MethodName := ⟨RX4, "readCreek", "()V"⟩
abbrev cX4_readHouse : ByteArray := prog_6_method_8_code
def yX4_readHouse : MethodName := ⟨RX4, "readHouse", "()V"⟩
abbrev cX4_readWidow : ByteArray := prog_6_method_9_code
def yX4_readWidow : MethodName := ⟨RX4, "readWidow", "()V"⟩
abbrev cX4_readTurns : ByteArray := prog_6_method_10_code
def yX4_readTurns : MethodName := ⟨RX4, "readTurns", "(I)V"⟩
abbrev cX4_turn : ByteArray := prog_6_method_11_code
def yX4_turn : MethodName := ⟨RX4, "turn", "()I"⟩
abbrev cX4_cell : ByteArray := prog_6_method_12_code
def yX4_cell : MethodName := ⟨RX4, "cell", "(J)I"⟩
abbrev cX4_wordAndNumber : ByteArray := prog_6_method_13_code
def yX4_wordAndNumber : MethodName := ⟨RX4, "wordAndNumber", "(Ljava/lang/String;II)I"⟩
abbrev cX4_word : ByteArray := prog_6_method_14_code
def yX4_word : MethodName := ⟨RX4, "word", "(Ljava/lang/String;)V"⟩
abbrev cX4_number : ByteArray := prog_6_method_15_code
def yX4_number : MethodName := ⟨RX4, "number", "(II)I"⟩
abbrev cX4_isWord : ByteArray := prog_6_method_16_code
def yX4_isWord : MethodName := ⟨RX4, "isWord", "(Ljava/lang/String;)Z"⟩
abbrev cX4_isBlank : ByteArray := prog_6_method_17_code
def yX4_isBlank : MethodName := ⟨RX4, "isBlank", "(I)Z"⟩
abbrev cX4_isLetter : ByteArray := prog_6_method_18_code
def yX4_isLetter : MethodName := ⟨RX4, "isLetter", "(I)Z"⟩
abbrev cX4_isDigit : ByteArray := prog_6_method_19_code
def yX4_isDigit : MethodName := ⟨RX4, "isDigit", "(I)Z"⟩
def RX5 : String := "WidowRoads$Rows"
def TX5 : u_T := fun k => match k with
  | 0 => ("WidowRoads$Rows", "numbers", "[J", true)
  | 1 => ("WidowRoads$Rows", "had", "[Z", true)
  | 2 => ("WidowRoads$Rows", "widths", "[I", true)
  | _ => ("WidowRoads$Rows", "sizes", "[I", true)
def tyX5 : Nat → FieldType := fun k => match k with
  | 0 => .array .long
  | 1 => .array .boolean
  | 2 => .array .int
  | _ => .array .int
abbrev wsX50 : List Cond := u_ws RX5 TX5 4
theorem nmX5 : ∀ a, a < 4 → ∀ b, b < 4 → a ≠ b → (TX5 a).2.1 ≠ (TX5 b).2.1 := by decide +kernel
theorem tyX5_ok : ∀ k, k < 4 → parseFieldDescriptor (TX5 k).2.2.1 = some (tyX5 k) := by decide +kernel
abbrev cX5_init : ByteArray := prog_7_method_1_code
def yX5_init : MethodName := ⟨RX5, "<init>", "()V"⟩
abbrev cX5_empty : ByteArray := prog_7_method_2_code
def yX5_empty : MethodName := ⟨RX5, "empty", "(I)Z"⟩
abbrev cX5_many : ByteArray := prog_7_method_3_code
def yX5_many : MethodName := ⟨RX5, "many", "()I"⟩
abbrev cX5_clear : ByteArray := prog_7_method_4_code
def yX5_clear : MethodName := ⟨RX5, "clear", "(III)V"⟩
abbrev cX5_put : ByteArray := prog_7_method_5_code
def yX5_put : MethodName := ⟨RX5, "put", "(IIJ)V"⟩
abbrev cX5_cut : ByteArray := prog_7_method_6_code
def yX5_cut : MethodName := ⟨RX5, "cut", "(JI)J"⟩
abbrev cX5_holds : ByteArray := prog_7_method_7_code
def yX5_holds : MethodName := ⟨RX5, "holds", "(III)Z"⟩
abbrev cX5_move : ByteArray := prog_7_method_8_code
def yX5_move : MethodName := ⟨RX5, "move", "(IIIII)V"⟩
abbrev cX5_tellsOf : ByteArray := prog_7_method_9_code
def yX5_tellsOf : MethodName := ⟨RX5, "tellsOf", "(ILWidowRoads$Colony;)Z"⟩
abbrev cX5_fits : ByteArray := prog_7_method_10_code
def yX5_fits : MethodName := ⟨RX5, "fits", "(ILWidowRoads$Colony;LWidowRoads$Story;)Z"⟩
def RX6 : String := "WidowRoads$Story"
def TX6 : u_T := fun k => match k with
  | 0 => ("WidowRoads$Story", "paths", "[I", true)
  | 1 => ("WidowRoads$Story", "lasts", "[I", true)
  | 2 => ("WidowRoads$Story", "stood", "[I", true)
  | 3 => ("WidowRoads$Story", "been", "[J", true)
  | 4 => ("WidowRoads$Story", "shifted", "[I", true)
  | 5 => ("WidowRoads$Story", "shifts", "[I", true)
  | 6 => ("WidowRoads$Story", "homes", "[I", true)
  | 7 => ("WidowRoads$Story", "roads", "[J", true)
  | 8 => ("WidowRoads$Story", "across", "[J", true)
  | 9 => ("WidowRoads$Story", "down", "[J", true)
  | 10 => ("WidowRoads$Story", "field", "J", false)
  | _ => ("WidowRoads$Story", "houses", "I", false)
def tyX6 : Nat → FieldType := fun k => match k with
  | 0 => .array .int
  | 1 => .array .int
  | 2 => .array .int
  | 3 => .array .long
  | 4 => .array .int
  | 5 => .array .int
  | 6 => .array .int
  | 7 => .array .long
  | 8 => .array .long
  | 9 => .array .long
  | 10 => .long
  | _ => .int
abbrev wsX60 : List Cond := u_ws RX6 TX6 12
theorem nmX6 : ∀ a, a < 12 → ∀ b, b < 12 → a ≠ b → (TX6 a).2.1 ≠ (TX6 b).2.1 := by decide +kernel
theorem tyX6_ok : ∀ k, k < 12 → parseFieldDescriptor (TX6 k).2.2.1 = some (tyX6 k) := by decide +kernel
abbrev cX6_init : ByteArray := prog_8_method_1_code
def yX6_init : MethodName := ⟨RX6, "<init>", "()V"⟩
abbrev cX6_tell : ByteArray := prog_8_method_2_code
def yX6_tell : MethodName := ⟨RX6, "tell", "(LWidowRoads$Colony;LWidowRoads$Supposal;)V"⟩
abbrev cX6_begin : ByteArray := prog_8_method_3_code
def yX6_begin : MethodName := ⟨RX6, "begin", "(LWidowRoads$Colony;)V"⟩
abbrev cX6_copyYear : ByteArray := prog_8_method_4_code
def yX6_copyYear : MethodName := ⟨RX6, "copyYear", "(I)V"⟩
abbrev cX6_walk : ByteArray := prog_8_method_5_code
def yX6_walk : MethodName := ⟨RX6, "walk", "(LWidowRoads$Colony;LWidowRoads$Supposal;II)V"⟩
abbrev cX6_wished : ByteArray := prog_8_method_6_code
def yX6_wished : MethodName := ⟨RX6, "wished", "(IJJJ)J"⟩
abbrev cX6_firstWay : ByteArray := prog_8_method_7_code
def yX6_firstWay : MethodName := ⟨RX6, "firstWay", "(IIJ)I"⟩
abbrev cX6_peg : ByteArray := prog_8_method_8_code
def yX6_peg : MethodName := ⟨RX6, "peg", "(III)V"⟩
abbrev cX6_moveHouses : ByteArray := prog_8_method_9_code
def yX6_moveHouses : MethodName := ⟨RX6, "moveHouses", "(LWidowRoads$Supposal;II)V"⟩
abbrev cX6_homeBits : ByteArray := prog_8_method_10_code
def yX6_homeBits : MethodName := ⟨RX6, "homeBits", "(I)J"⟩
abbrev cX6_walks : ByteArray := prog_8_method_11_code
def yX6_walks : MethodName := ⟨RX6, "walks", "(I)Z"⟩
abbrev cX6_spotAt : ByteArray := prog_8_method_12_code
def yX6_spotAt : MethodName := ⟨RX6, "spotAt", "(II)I"⟩
abbrev cX6_timesAt : ByteArray := prog_8_method_13_code
def yX6_timesAt : MethodName := ⟨RX6, "timesAt", "(II)I"⟩
abbrev cX6_pegsIn : ByteArray := prog_8_method_14_code
def yX6_pegsIn : MethodName := ⟨RX6, "pegsIn", "(I)I"⟩
abbrev cX6_allShifts : ByteArray := prog_8_method_15_code
def yX6_allShifts : MethodName := ⟨RX6, "allShifts", "()I"⟩
abbrev cX6_gainOf : ByteArray := prog_8_method_16_code
def yX6_gainOf : MethodName := ⟨RX6, "gainOf", "(I)I"⟩
def RX7 : String := "WidowRoads$Supposal"
def TX7 : u_T := fun k => match k with
  | 0 => ("WidowRoads$Supposal", "rule", "I", false)
  | 1 => ("WidowRoads$Supposal", "walkers", "I", false)
  | 2 => ("WidowRoads$Supposal", "creeks", "J", false)
  | 3 => ("WidowRoads$Supposal", "widow", "I", false)
  | 4 => ("WidowRoads$Supposal", "faces", "I", false)
  | _ => ("WidowRoads$Supposal", "turn", "I", false)
def tyX7 : Nat → FieldType := fun k => match k with
  | 0 => .int
  | 1 => .int
  | 2 => .long
  | 3 => .int
  | 4 => .int
  | _ => .int
abbrev wsX70 : List Cond := u_ws RX7 TX7 6
theorem nmX7 : ∀ a, a < 6 → ∀ b, b < 6 → a ≠ b → (TX7 a).2.1 ≠ (TX7 b).2.1 := by decide +kernel
theorem tyX7_ok : ∀ k, k < 6 → parseFieldDescriptor (TX7 k).2.2.1 = some (tyX7 k) := by decide +kernel
abbrev cX7_init : ByteArray := prog_9_method_1_code
def yX7_init : MethodName := ⟨RX7, "<init>", "()V"⟩
abbrev cX7_asNow : ByteArray := prog_9_method_2_code
def yX7_asNow : MethodName := ⟨RX7, "asNow", "(LWidowRoads$Colony;)V"⟩
abbrev cX7_facesAtFirst : ByteArray := prog_9_method_3_code
def yX7_facesAtFirst : MethodName := ⟨RX7, "facesAtFirst", "(LWidowRoads$Colony;I)I"⟩
abbrev cX7_turnOf : ByteArray := prog_9_method_4_code
def yX7_turnOf : MethodName := ⟨RX7, "turnOf", "(LWidowRoads$Colony;II)I"⟩
def RX8 : String := "WidowRoads$Tape"
def TX8 : u_T := fun k => match k with
  | 0 => ("WidowRoads$Tape", "bytes", "[B", true)
  | _ => ("WidowRoads$Tape", "length", "I", false)
def tyX8 : Nat → FieldType := fun k => match k with
  | 0 => .array .byte
  | _ => .int
abbrev wsX80 : List Cond := u_ws RX8 TX8 2
theorem nmX8 : ∀ a, a < 2 → ∀ b, b < 2 → a ≠ b → (TX8 a).2.1 ≠ (TX8 b).2.1 := by decide +kernel
theorem tyX8_ok : ∀ k, k < 2 → parseFieldDescriptor (TX8 k).2.2.1 = some (tyX8 k) := by decide +kernel
abbrev cX8_init : ByteArray := prog_10_method_1_code
def yX8_init : MethodName := ⟨RX8, "<init>", "()V"⟩
abbrev cX8_put : ByteArray := prog_10_method_2_code
def yX8_put : MethodName := ⟨RX8, "put", "(I)V"⟩
abbrev cX8_byteAt : ByteArray := prog_10_method_3_code
def yX8_byteAt : MethodName := ⟨RX8, "byteAt", "(I)I"⟩
def RX9 : String := "WidowRoads"
def TX9 : u_T := fun k => match k with
  | 0 => ("WidowRoads", "reader", "LWidowRoads$Reader;", true)
  | 1 => ("WidowRoads", "told", "LWidowRoads$Colony;", true)
  | 2 => ("WidowRoads", "images", "[LWidowRoads$Colony;", true)
  | 3 => ("WidowRoads", "supposal", "LWidowRoads$Supposal;", true)
  | 4 => ("WidowRoads", "now", "LWidowRoads$Story;", true)
  | 5 => ("WidowRoads", "spare", "LWidowRoads$Story;", true)
  | 6 => ("WidowRoads", "evenings", "LWidowRoads$Evenings;", true)
  | 7 => ("WidowRoads", "net", "LWidowRoads$Net;", true)
  | 8 => ("WidowRoads", "rows", "LWidowRoads$Rows;", true)
  | 9 => ("WidowRoads", "fraction", "LWidowRoads$Fraction;", true)
  | _ => ("WidowRoads", "tracks", "[I", true)
def tyX9 : Nat → FieldType := fun k => match k with
  | 0 => .object "WidowRoads$Reader"
  | 1 => .object "WidowRoads$Colony"
  | 2 => .array (.object "WidowRoads$Colony")
  | 3 => .object "WidowRoads$Supposal"
  | 4 => .object "WidowRoads$Story"
  | 5 => .object "WidowRoads$Story"
  | 6 => .object "WidowRoads$Evenings"
  | 7 => .object "WidowRoads$Net"
  | 8 => .object "WidowRoads$Rows"
  | 9 => .object "WidowRoads$Fraction"
  | _ => .array .int
abbrev wsX90 : List Cond := u_ws RX9 TX9 11
theorem nmX9 : ∀ a, a < 11 → ∀ b, b < 11 → a ≠ b → (TX9 a).2.1 ≠ (TX9 b).2.1 := by decide +kernel
theorem tyX9_ok : ∀ k, k < 11 → parseFieldDescriptor (TX9 k).2.2.1 = some (tyX9 k) := by decide +kernel
abbrev cX9_init : ByteArray := prog_1_method_1_code
def yX9_init : MethodName := ⟨RX9, "<init>", "()V"⟩
abbrev cX9_feed : ByteArray := prog_1_method_2_code
def yX9_feed : MethodName := ⟨RX9, "feed", "(IIIII)I"⟩
abbrev cX9_end : ByteArray := prog_1_method_3_code
def yX9_end : MethodName := ⟨RX9, "end", "(I)I"⟩
abbrev cX9_colony : ByteArray := prog_1_method_4_code
def yX9_colony : MethodName := ⟨RX9, "colony", "()I"⟩
abbrev cX9_fault : ByteArray := prog_1_method_5_code
def yX9_fault : MethodName := ⟨RX9, "fault", "(I)I"⟩
abbrev cX9_creek : ByteArray := prog_1_method_6_code
def yX9_creek : MethodName := ⟨RX9, "creek", "(I)I"⟩
abbrev cX9_widow : ByteArray := prog_1_method_7_code
def yX9_widow : MethodName := ⟨RX9, "widow", "(II)I"⟩
abbrev cX9_grief : ByteArray := prog_1_method_8_code
def yX9_grief : MethodName := ⟨RX9, "grief", "(II)I"⟩
abbrev cX9_at : ByteArray := prog_1_method_9_code
def yX9_at : MethodName := ⟨RX9, "at", "(II)I"⟩
abbrev cX9_steps : ByteArray := prog_1_method_10_code
def yX9_steps : MethodName := ⟨RX9, "steps", "(I)I"⟩
abbrev cX9_stands : ByteArray := prog_1_method_11_code
def yX9_stands : MethodName := ⟨RX9, "stands", "(I)I"⟩
abbrev cX9_ground : ByteArray := prog_1_method_12_code
def yX9_ground : MethodName := ⟨RX9, "ground", "(I)I"⟩
abbrev cX9_loop : ByteArray := prog_1_method_13_code
def yX9_loop : MethodName := ⟨RX9, "loop", "(I)I"⟩
abbrev cX9_haunt : ByteArray := prog_1_method_14_code
def yX9_haunt : MethodName := ⟨RX9, "haunt", "(I)I"⟩
abbrev cX9_evening : ByteArray := prog_1_method_15_code
def yX9_evening : MethodName := ⟨RX9, "evening", "(I)I"⟩
abbrev cX9_visits : ByteArray := prog_1_method_16_code
def yX9_visits : MethodName := ⟨RX9, "visits", "(II)I"⟩
abbrev cX9_straight : ByteArray := prog_1_method_17_code
def yX9_straight : MethodName := ⟨RX9, "straight", "(I)I"⟩
abbrev cX9_road : ByteArray := prog_1_method_18_code
def yX9_road : MethodName := ⟨RX9, "road", "(II)I"⟩
abbrev cX9_roads : ByteArray := prog_1_method_19_code
def yX9_roads : MethodName := ⟨RX9, "roads", "(I)I"⟩
abbrev cX9_pegs : ByteArray := prog_1_method_20_code
def yX9_pegs : MethodName := ⟨RX9, "pegs", "(I)I"⟩
abbrev cX9_joins : ByteArray := prog_1_method_21_code
def yX9_joins : MethodName := ⟨RX9, "joins", "(II)I"⟩
abbrev cX9_corners : ByteArray := prog_1_method_22_code
def yX9_corners : MethodName := ⟨RX9, "corners", "(II)I"⟩
abbrev cX9_nets : ByteArray := prog_1_method_23_code
def yX9_nets : MethodName := ⟨RX9, "nets", "(I)I"⟩
abbrev cX9_missing : ByteArray := prog_1_method_24_code
def yX9_missing : MethodName := ⟨RX9, "missing", "(I)I"⟩
abbrev cX9_rings : ByteArray := prog_1_method_25_code
def yX9_rings : MethodName := ⟨RX9, "rings", "(I)I"⟩
abbrev cX9_bridges : ByteArray := prog_1_method_26_code
def yX9_bridges : MethodName := ⟨RX9, "bridges", "(I)I"⟩
abbrev cX9_net : ByteArray := prog_1_method_27_code
def yX9_net : MethodName := ⟨RX9, "net", "(II)I"⟩
abbrev cX9_way : ByteArray := prog_1_method_28_code
def yX9_way : MethodName := ⟨RX9, "way", "(III)I"⟩
abbrev cX9_beeline : ByteArray := prog_1_method_29_code
def yX9_beeline : MethodName := ⟨RX9, "beeline", "(II)I"⟩
abbrev cX9_farthest : ByteArray := prog_1_method_30_code
def yX9_farthest : MethodName := ⟨RX9, "farthest", "(II)I"⟩
abbrev cX9_crossing : ByteArray := prog_1_method_31_code
def yX9_crossing : MethodName := ⟨RX9, "crossing", "()I"⟩
abbrev cX9_shared : ByteArray := prog_1_method_32_code
def yX9_shared : MethodName := ⟨RX9, "shared", "(II)I"⟩
abbrev cX9_walked : ByteArray := prog_1_method_33_code
def yX9_walked : MethodName := ⟨RX9, "walked", "(I)I"⟩
abbrev cX9_first : ByteArray := prog_1_method_34_code
def yX9_first : MethodName := ⟨RX9, "first", "(I)I"⟩
abbrev cX9_line : ByteArray := prog_1_method_35_code
def yX9_line : MethodName := ⟨RX9, "line", "(I)I"⟩
abbrev cX9_house : ByteArray := prog_1_method_36_code
def yX9_house : MethodName := ⟨RX9, "house", "(II)I"⟩
abbrev cX9_moved : ByteArray := prog_1_method_37_code
def yX9_moved : MethodName := ⟨RX9, "moved", "(I)I"⟩
abbrev cX9_moves : ByteArray := prog_1_method_38_code
def yX9_moves : MethodName := ⟨RX9, "moves", "(I)I"⟩
abbrev cX9_served : ByteArray := prog_1_method_39_code
def yX9_served : MethodName := ⟨RX9, "served", "(I)I"⟩
abbrev cX9_cover : ByteArray := prog_1_method_40_code
def yX9_cover : MethodName := ⟨RX9, "cover", "()I"⟩
abbrev cX9_covers : ByteArray := prog_1_method_41_code
def yX9_covers : MethodName := ⟨RX9, "covers", "()I"⟩
abbrev cX9_blame : ByteArray := prog_1_method_42_code
def yX9_blame : MethodName := ⟨RX9, "blame", "()I"⟩
abbrev cX9_ford : ByteArray := prog_1_method_43_code
def yX9_ford : MethodName := ⟨RX9, "ford", "()I"⟩
abbrev cX9_faced : ByteArray := prog_1_method_44_code
def yX9_faced : MethodName := ⟨RX9, "faced", "(II)I"⟩
abbrev cX9_griefs : ByteArray := prog_1_method_45_code
def yX9_griefs : MethodName := ⟨RX9, "griefs", "(II)I"⟩
abbrev cX9_ask : ByteArray := prog_1_method_46_code
def yX9_ask : MethodName := ⟨RX9, "ask", "(II)I"⟩
abbrev cX9_leaves : ByteArray := prog_1_method_47_code
def yX9_leaves : MethodName := ⟨RX9, "leaves", "(II)I"⟩
abbrev cX9_laws : ByteArray := prog_1_method_48_code
def yX9_laws : MethodName := ⟨RX9, "laws", "(I)I"⟩
abbrev cX9_by : ByteArray := prog_1_method_49_code
def yX9_by : MethodName := ⟨RX9, "by", "(I)I"⟩
abbrev cX9_law : ByteArray := prog_1_method_50_code
def yX9_law : MethodName := ⟨RX9, "law", "()I"⟩
abbrev cX9_worth : ByteArray := prog_1_method_51_code
def yX9_worth : MethodName := ⟨RX9, "worth", "(I)I"⟩
abbrev cX9_share : ByteArray := prog_1_method_52_code
def yX9_share : MethodName := ⟨RX9, "share", "(II)I"⟩
abbrev cX9_rests : ByteArray := prog_1_method_53_code
def yX9_rests : MethodName := ⟨RX9, "rests", "(II)I"⟩
abbrev cX9_gets : ByteArray := prog_1_method_54_code
def yX9_gets : MethodName := ⟨RX9, "gets", "(IIII)I"⟩
abbrev cX9_chance : ByteArray := prog_1_method_55_code
def yX9_chance : MethodName := ⟨RX9, "chance", "(II)J"⟩
abbrev cX9_mean : ByteArray := prog_1_method_56_code
def yX9_mean : MethodName := ⟨RX9, "mean", "(I)J"⟩
abbrev cX9_bridge : ByteArray := prog_1_method_57_code
def yX9_bridge : MethodName := ⟨RX9, "bridge", "(I)I"⟩
abbrev cX9_keeps : ByteArray := prog_1_method_58_code
def yX9_keeps : MethodName := ⟨RX9, "keeps", "(I)I"⟩
abbrev cX9_undo : ByteArray := prog_1_method_59_code
def yX9_undo : MethodName := ⟨RX9, "undo", "()I"⟩
abbrev cX9_anew : ByteArray := prog_1_method_60_code
def yX9_anew : MethodName := ⟨RX9, "anew", "()I"⟩
abbrev cX9_drawn : ByteArray := prog_1_method_61_code
def yX9_drawn : MethodName := ⟨RX9, "drawn", "(II)I"⟩
abbrev cX9_luck : ByteArray := prog_1_method_62_code
def yX9_luck : MethodName := ⟨RX9, "luck", "(III)I"⟩
abbrev cX9_rate : ByteArray := prog_1_method_63_code
def yX9_rate : MethodName := ⟨RX9, "rate", "(II)I"⟩
abbrev cX9_count : ByteArray := prog_1_method_64_code
def yX9_count : MethodName := ⟨RX9, "count", "(I)I"⟩
abbrev cX9_image : ByteArray := prog_1_method_65_code
def yX9_image : MethodName := ⟨RX9, "image", "(I)I"⟩
abbrev cX9_back : ByteArray := prog_1_method_66_code
def yX9_back : MethodName := ⟨RX9, "back", "(I)I"⟩
abbrev cX9_row : ByteArray := prog_1_method_67_code
def yX9_row : MethodName := ⟨RX9, "row", "(III)I"⟩
abbrev cX9_write : ByteArray := prog_1_method_68_code
def yX9_write : MethodName := ⟨RX9, "write", "(IIJ)I"⟩
abbrev cX9_paste : ByteArray := prog_1_method_69_code
def yX9_paste : MethodName := ⟨RX9, "paste", "(IIIII)I"⟩
abbrev cX9_walkAnew : ByteArray := prog_1_method_70_code
def yX9_walkAnew : MethodName := ⟨RX9, "walkAnew", "()V"⟩
abbrev cX9_act : ByteArray := prog_1_method_71_code
def yX9_act : MethodName := ⟨RX9, "act", "(I)I"⟩
abbrev cX9_straightWay : ByteArray := prog_1_method_72_code
def yX9_straightWay : MethodName := ⟨RX9, "straightWay", "(II)I"⟩
abbrev cX9_widowsIn : ByteArray := prog_1_method_73_code
def yX9_widowsIn : MethodName := ⟨RX9, "widowsIn", "(I)I"⟩
abbrev cX9_fewestCovering : ByteArray := prog_1_method_74_code
def yX9_fewestCovering : MethodName := ⟨RX9, "fewestCovering", "()I"⟩
abbrev cX9_cellsOf : ByteArray := prog_1_method_75_code
def yX9_cellsOf : MethodName := ⟨RX9, "cellsOf", "(I)J"⟩
abbrev cX9_refusalOfSeen : ByteArray := prog_1_method_76_code
def yX9_refusalOfSeen : MethodName := ⟨RX9, "refusalOfSeen", "(II)I"⟩
abbrev cX9_refusalOfRow : ByteArray := prog_1_method_77_code
def yX9_refusalOfRow : MethodName := ⟨RX9, "refusalOfRow", "(I)I"⟩
abbrev cX9_facesFitting : ByteArray := prog_1_method_78_code
def yX9_facesFitting : MethodName := ⟨RX9, "facesFitting", "(II)I"⟩
abbrev cX9_leftAtWorst : ByteArray := prog_1_method_79_code
def yX9_leftAtWorst : MethodName := ⟨RX9, "leftAtWorst", "(II)I"⟩
abbrev cX9_tellByLaw : ByteArray := prog_1_method_80_code
def yX9_tellByLaw : MethodName := ⟨RX9, "tellByLaw", "(I)V"⟩
abbrev cX9_tellInFog : ByteArray := prog_1_method_81_code
def yX9_tellInFog : MethodName := ⟨RX9, "tellInFog", "(I)V"⟩
abbrev cX9_fogDrawn : ByteArray := prog_1_method_82_code
def yX9_fogDrawn : MethodName := ⟨RX9, "fogDrawn", "(I)I"⟩
abbrev cX9_gain : ByteArray := prog_1_method_83_code
def yX9_gain : MethodName := ⟨RX9, "gain", "(IIII)I"⟩
abbrev cX9_areTwo : ByteArray := prog_1_method_84_code
def yX9_areTwo : MethodName := ⟨RX9, "areTwo", "(II)Z"⟩
abbrev cX9_isStep : ByteArray := prog_1_method_85_code
def yX9_isStep : MethodName := ⟨RX9, "isStep", "(J)Z"⟩
abbrev cX9_isSlot : ByteArray := prog_1_method_86_code
def yX9_isSlot : MethodName := ⟨RX9, "isSlot", "(I)Z"⟩
abbrev cX9_isSeed : ByteArray := prog_1_method_87_code
def yX9_isSeed : MethodName := ⟨RX9, "isSeed", "(I)Z"⟩
abbrev cX9_isPart : ByteArray := prog_1_method_88_code
def yX9_isPart : MethodName := ⟨RX9, "isPart", "(I)Z"⟩
abbrev cX9_oneIf : ByteArray := prog_1_method_89_code
def yX9_oneIf : MethodName := ⟨RX9, "oneIf", "(Z)I"⟩
abbrev cX9_cellOf : ByteArray := prog_1_method_90_code
def yX9_cellOf : MethodName := ⟨RX9, "cellOf", "(I)I"⟩
abbrev cX9_bit : ByteArray := prog_1_method_91_code
def yX9_bit : MethodName := ⟨RX9, "bit", "(I)J"⟩
abbrev cX9_has : ByteArray := prog_1_method_92_code
def yX9_has : MethodName := ⟨RX9, "has", "(JI)Z"⟩
abbrev cX9_leastOf : ByteArray := prog_1_method_93_code
def yX9_leastOf : MethodName := ⟨RX9, "leastOf", "(J)I"⟩
abbrev cX9_beside : ByteArray := prog_1_method_94_code
def yX9_beside : MethodName := ⟨RX9, "beside", "(II)I"⟩
abbrev cX9_around : ByteArray := prog_1_method_95_code
def yX9_around : MethodName := ⟨RX9, "around", "(I)J"⟩
def RX10 : String := "WidowRoadsModel"
def TX10 : u_T := fun k => match k with
  | 0 => ("WidowRoadsModel", "thrown", "I", false)
  | 1 => ("WidowRoadsModel", "world", "[I", true)
  | 2 => ("WidowRoadsModel", "images", "[I", true)
  | 3 => ("WidowRoadsModel", "hasImage", "[Z", true)
  | 4 => ("WidowRoadsModel", "tape", "[B", true)
  | 5 => ("WidowRoadsModel", "taped", "I", false)
  | 6 => ("WidowRoadsModel", "five", "[I", true)
  | 7 => ("WidowRoadsModel", "size", "I", false)
  | 8 => ("WidowRoadsModel", "at", "I", false)
  | 9 => ("WidowRoadsModel", "from", "I", false)
  | 10 => ("WidowRoadsModel", "token", "I", false)
  | 11 => ("WidowRoadsModel", "value", "I", false)
  | 12 => ("WidowRoadsModel", "faultKind", "I", false)
  | 13 => ("WidowRoadsModel", "faultPlace", "I", false)
  | 14 => ("WidowRoadsModel", "fresh", "[I", true)
  | 15 => ("WidowRoadsModel", "isCreek", "[Z", true)
  | 16 => ("WidowRoadsModel", "facesNow", "[I", true)
  | 17 => ("WidowRoadsModel", "lawNow", "I", false)
  | 18 => ("WidowRoadsModel", "walkSet", "I", false)
  | 19 => ("WidowRoadsModel", "oneWidow", "I", false)
  | 20 => ("WidowRoadsModel", "oneTurn", "I", false)
  | 21 => ("WidowRoadsModel", "isRoad", "[Z", true)
  | 22 => ("WidowRoadsModel", "wasRoad", "[Z", true)
  | 23 => ("WidowRoadsModel", "wasIn", "[Z", true)
  | 24 => ("WidowRoadsModel", "pegNow", "[I", true)
  | 25 => ("WidowRoadsModel", "houseNow", "[I", true)
  | 26 => ("WidowRoadsModel", "pathBy", "[I", true)
  | 27 => ("WidowRoadsModel", "stepsBy", "[I", true)
  | 28 => ("WidowRoadsModel", "movesBy", "[I", true)
  | 29 => ("WidowRoadsModel", "movedBy", "[I", true)
  | 30 => ("WidowRoadsModel", "roadAt", "[Z", true)
  | 31 => ("WidowRoadsModel", "pegAt", "[I", true)
  | 32 => ("WidowRoadsModel", "houseAt", "[I", true)
  | 33 => ("WidowRoadsModel", "farNow", "[I", true)
  | 34 => ("WidowRoadsModel", "seen", "[Z", true)
  | 35 => ("WidowRoadsModel", "cellBy", "[I", true)
  | 36 => ("WidowRoadsModel", "askWorst", "I", false)
  | 37 => ("WidowRoadsModel", "worthBy", "[I", true)
  | 38 => ("WidowRoadsModel", "mayWalk", "I", false)
  | 39 => ("WidowRoadsModel", "oftenAll", "J", false)
  | 40 => ("WidowRoadsModel", "oftenRoad", "J", false)
  | 41 => ("WidowRoadsModel", "oftenPegs", "J", false)
  | 42 => ("WidowRoadsModel", "many", "[I", true)
  | 43 => ("WidowRoadsModel", "width", "[I", true)
  | 44 => ("WidowRoadsModel", "numbers", "[J", true)
  | _ => ("WidowRoadsModel", "moving", "[J", true)
def tyX10 : Nat → FieldType := fun k => match k with
  | 0 => .int
  | 1 => .array .int
  | 2 => .array .int
  | 3 => .array .boolean
  | 4 => .array .byte
  | 5 => .int
  | 6 => .array .int
  | 7 => .int
  | 8 => .int
  | 9 => .int
  | 10 => .int
  | 11 => .int
  | 12 => .int
  | 13 => .int
  | 14 => .array .int
  | 15 => .array .boolean
  | 16 => .array .int
  | 17 => .int
  | 18 => .int
  | 19 => .int
  | 20 => .int
  | 21 => .array .boolean
  | 22 => .array .boolean
  | 23 => .array .boolean
  | 24 => .array .int
  | 25 => .array .int
  | 26 => .array .int
  | 27 => .array .int
  | 28 => .array .int
  | 29 => .array .int
  | 30 => .array .boolean
  | 31 => .array .int
  | 32 => .array .int
  | 33 => .array .int
  | 34 => .array .boolean
  | 35 => .array .int
  | 36 => .int
  | 37 => .array .int
  | 38 => .int
  | 39 => .long
  | 40 => .long
  | 41 => .long
  | 42 => .array .int
  | 43 => .array .int
  | 44 => .array .long
  | _ => .array .long
abbrev wsX100 : List Cond := u_ws RX10 TX10 46
theorem nmX10 : ∀ a, a < 46 → ∀ b, b < 46 → a ≠ b → (TX10 a).2.1 ≠ (TX10 b).2.1 := by decide +kernel
theorem tyX10_ok : ∀ k, k < 46 → parseFieldDescriptor (TX10 k).2.2.1 = some (tyX10 k) := by decide +kernel
abbrev cX10_init : ByteArray := prog_12_method_1_code
def yX10_init : MethodName := ⟨RX10, "<init>", "()V"⟩
abbrev cX10_in : ByteArray := prog_12_method_3_code
def yX10_in : MethodName := ⟨RX10, "in", "(JJJ)Z"⟩
abbrev cX10_bits : ByteArray := prog_12_method_4_code
def yX10_bits : MethodName := ⟨RX10, "bits", "(I)I"⟩
abbrev cX10_bit : ByteArray := prog_12_method_5_code
def yX10_bit : MethodName := ⟨RX10, "bit", "(II)I"⟩
abbrev cX10_image : ByteArray := prog_12_method_6_code
def yX10_image : MethodName := ⟨RX10, "image", "(I)I"⟩
abbrev cX10_back : ByteArray := prog_12_method_7_code
def yX10_back : MethodName := ⟨RX10, "back", "(I)I"⟩
abbrev cX10_isColony : ByteArray := prog_12_method_8_code
def yX10_isColony : MethodName := ⟨RX10, "isColony", "()Z"⟩
abbrev cX10_years : ByteArray := prog_12_method_9_code
def yX10_years : MethodName := ⟨RX10, "years", "()I"⟩
abbrev cX10_widows : ByteArray := prog_12_method_10_code
def yX10_widows : MethodName := ⟨RX10, "widows", "()I"⟩
abbrev cX10_houses : ByteArray := prog_12_method_11_code
def yX10_houses : MethodName := ⟨RX10, "houses", "()I"⟩
abbrev cX10_allWidows : ByteArray := prog_12_method_12_code
def yX10_allWidows : MethodName := ⟨RX10, "allWidows", "()I"⟩
abbrev cX10_isYear : ByteArray := prog_12_method_13_code
def yX10_isYear : MethodName := ⟨RX10, "isYear", "(J)Z"⟩
abbrev cX10_isCell : ByteArray := prog_12_method_14_code
def yX10_isCell : MethodName := ⟨RX10, "isCell", "(J)Z"⟩
abbrev cX10_isWidow : ByteArray := prog_12_method_15_code
def yX10_isWidow : MethodName := ⟨RX10, "isWidow", "(J)Z"⟩
abbrev cX10_widowOf : ByteArray := prog_12_method_16_code
def yX10_widowOf : MethodName := ⟨RX10, "widowOf", "(II)I"⟩
abbrev cX10_feed : ByteArray := prog_12_method_17_code
def yX10_feed : MethodName := ⟨RX10, "feed", "(IIIII)I"⟩
abbrev cX10_end : ByteArray := prog_12_method_18_code
def yX10_end : MethodName := ⟨RX10, "end", "(I)I"⟩
abbrev cX10_see : ByteArray := prog_12_method_19_code
def yX10_see : MethodName := ⟨RX10, "see", "(I)I"⟩
abbrev cX10_advance : ByteArray := prog_12_method_20_code
def yX10_advance : MethodName := ⟨RX10, "advance", "()V"⟩
abbrev cX10_good : ByteArray := prog_12_method_21_code
def yX10_good : MethodName := ⟨RX10, "good", "()Z"⟩
abbrev cX10_errs : ByteArray := prog_12_method_22_code
def yX10_errs : MethodName := ⟨RX10, "errs", "(I)V"⟩
abbrev cX10_is : ByteArray := prog_12_method_23_code
def yX10_is : MethodName := ⟨RX10, "is", "(Ljava/lang/String;)Z"⟩
abbrev cX10_takes : ByteArray := prog_12_method_24_code
def yX10_takes : MethodName := ⟨RX10, "takes", "(Ljava/lang/String;)Z"⟩
abbrev cX10_expects : ByteArray := prog_12_method_25_code
def yX10_expects : MethodName := ⟨RX10, "expects", "(Ljava/lang/String;)V"⟩
abbrev cX10_number : ByteArray := prog_12_method_26_code
def yX10_number : MethodName := ⟨RX10, "number", "(II)I"⟩
abbrev cX10_toldBy : ByteArray := prog_12_method_27_code
def yX10_toldBy : MethodName := ⟨RX10, "toldBy", "(Ljava/lang/String;II)I"⟩
abbrev cX10_fault : ByteArray := prog_12_method_28_code
def yX10_fault : MethodName := ⟨RX10, "fault", "(I)I"⟩
abbrev cX10_readFirst : ByteArray := prog_12_method_29_code
def yX10_readFirst : MethodName := ⟨RX10, "readFirst", "()V"⟩
abbrev cX10_isTaken : ByteArray := prog_12_method_30_code
def yX10_isTaken : MethodName := ⟨RX10, "isTaken", "(III)Z"⟩
abbrev cX10_readCell : ByteArray := prog_12_method_31_code
def yX10_readCell : MethodName := ⟨RX10, "readCell", "(Z)I"⟩
abbrev cX10_turnWord : ByteArray := prog_12_method_32_code
def yX10_turnWord : MethodName := ⟨RX10, "turnWord", "()I"⟩
abbrev cX10_readTurn : ByteArray := prog_12_method_33_code
def yX10_readTurn : MethodName := ⟨RX10, "readTurn", "(I)V"⟩
abbrev cX10_readWidow : ByteArray := prog_12_method_34_code
def yX10_readWidow : MethodName := ⟨RX10, "readWidow", "()V"⟩
abbrev cX10_isFull : ByteArray := prog_12_method_35_code
def yX10_isFull : MethodName := ⟨RX10, "isFull", "()Z"⟩
abbrev cX10_readNext : ByteArray := prog_12_method_36_code
def yX10_readNext : MethodName := ⟨RX10, "readNext", "()V"⟩
abbrev cX10_readLine : ByteArray := prog_12_method_37_code
def yX10_readLine : MethodName := ⟨RX10, "readLine", "()V"⟩
abbrev cX10_colony : ByteArray := prog_12_method_38_code
def yX10_colony : MethodName := ⟨RX10, "colony", "()I"⟩
abbrev cX10_widow : ByteArray := prog_12_method_39_code
def yX10_widow : MethodName := ⟨RX10, "widow", "(II)I"⟩
abbrev cX10_grief : ByteArray := prog_12_method_40_code
def yX10_grief : MethodName := ⟨RX10, "grief", "(II)I"⟩
abbrev cX10_asItIs : ByteArray := prog_12_method_41_code
def yX10_asItIs : MethodName := ⟨RX10, "asItIs", "()V"⟩
abbrev cX10_acrossOf : ByteArray := prog_12_method_42_code
def yX10_acrossOf : MethodName := ⟨RX10, "acrossOf", "(I)I"⟩
abbrev cX10_downOf : ByteArray := prog_12_method_43_code
def yX10_downOf : MethodName := ⟨RX10, "downOf", "(I)I"⟩
abbrev cX10_beside : ByteArray := prog_12_method_44_code
def yX10_beside : MethodName := ⟨RX10, "beside", "(II)I"⟩
abbrev cX10_isFree : ByteArray := prog_12_method_45_code
def yX10_isFree : MethodName := ⟨RX10, "isFree", "(II)Z"⟩
abbrev cX10_isAnyFree : ByteArray := prog_12_method_46_code
def yX10_isAnyFree : MethodName := ⟨RX10, "isAnyFree", "(II)Z"⟩
abbrev cX10_turnAt : ByteArray := prog_12_method_47_code
def yX10_turnAt : MethodName := ⟨RX10, "turnAt", "(II)I"⟩
abbrev cX10_walk : ByteArray := prog_12_method_48_code
def yX10_walk : MethodName := ⟨RX10, "walk", "(I)V"⟩
abbrev cX10_isHouse : ByteArray := prog_12_method_49_code
def yX10_isHouse : MethodName := ⟨RX10, "isHouse", "(I)Z"⟩
abbrev cX10_emptyCell : ByteArray := prog_12_method_50_code
def yX10_emptyCell : MethodName := ⟨RX10, "emptyCell", "()I"⟩
abbrev cX10_moveHouses : ByteArray := prog_12_method_51_code
def yX10_moveHouses : MethodName := ⟨RX10, "moveHouses", "(I)V"⟩
abbrev cX10_keepYear : ByteArray := prog_12_method_52_code
def yX10_keepYear : MethodName := ⟨RX10, "keepYear", "(I)V"⟩
abbrev cX10_goAll : ByteArray := prog_12_method_53_code
def yX10_goAll : MethodName := ⟨RX10, "goAll", "()V"⟩
abbrev cX10_asksColony : ByteArray := prog_12_method_54_code
def yX10_asksColony : MethodName := ⟨RX10, "asksColony", "()Z"⟩
abbrev cX10_asksYear : ByteArray := prog_12_method_55_code
def yX10_asksYear : MethodName := ⟨RX10, "asksYear", "(I)Z"⟩
abbrev cX10_asksWidow : ByteArray := prog_12_method_56_code
def yX10_asksWidow : MethodName := ⟨RX10, "asksWidow", "(I)Z"⟩
abbrev cX10_asksCell : ByteArray := prog_12_method_57_code
def yX10_asksCell : MethodName := ⟨RX10, "asksCell", "(I)Z"⟩
abbrev cX10_walks : ByteArray := prog_12_method_58_code
def yX10_walks : MethodName := ⟨RX10, "walks", "(I)Z"⟩
abbrev cX10_pathOf : ByteArray := prog_12_method_59_code
def yX10_pathOf : MethodName := ⟨RX10, "pathOf", "(II)I"⟩
abbrev cX10_isIn : ByteArray := prog_12_method_60_code
def yX10_isIn : MethodName := ⟨RX10, "isIn", "(II)Z"⟩
abbrev cX10_pegsOf : ByteArray := prog_12_method_61_code
def yX10_pegsOf : MethodName := ⟨RX10, "pegsOf", "(II)I"⟩
abbrev cX10_roadOf : ByteArray := prog_12_method_62_code
def yX10_roadOf : MethodName := ⟨RX10, "roadOf", "(II)Z"⟩
abbrev cX10_pegMany : ByteArray := prog_12_method_63_code
def yX10_pegMany : MethodName := ⟨RX10, "pegMany", "(I)I"⟩
abbrev cX10_pegsLast : ByteArray := prog_12_method_64_code
def yX10_pegsLast : MethodName := ⟨RX10, "pegsLast", "()I"⟩
abbrev cX10_creek : ByteArray := prog_12_method_65_code
def yX10_creek : MethodName := ⟨RX10, "creek", "(I)I"⟩
abbrev cX10_at : ByteArray := prog_12_method_66_code
def yX10_at : MethodName := ⟨RX10, "at", "(II)I"⟩
abbrev cX10_steps : ByteArray := prog_12_method_67_code
def yX10_steps : MethodName := ⟨RX10, "steps", "(I)I"⟩
abbrev cX10_stands : ByteArray := prog_12_method_68_code
def yX10_stands : MethodName := ⟨RX10, "stands", "(I)I"⟩
abbrev cX10_groundOf : ByteArray := prog_12_method_69_code
def yX10_groundOf : MethodName := ⟨RX10, "groundOf", "(I)I"⟩
abbrev cX10_ground : ByteArray := prog_12_method_70_code
def yX10_ground : MethodName := ⟨RX10, "ground", "(I)I"⟩
abbrev cX10_loop : ByteArray := prog_12_method_71_code
def yX10_loop : MethodName := ⟨RX10, "loop", "(I)I"⟩
abbrev cX10_visitsOf : ByteArray := prog_12_method_72_code
def yX10_visitsOf : MethodName := ⟨RX10, "visitsOf", "(II)I"⟩
abbrev cX10_haunt : ByteArray := prog_12_method_73_code
def yX10_haunt : MethodName := ⟨RX10, "haunt", "(I)I"⟩
abbrev cX10_visits : ByteArray := prog_12_method_74_code
def yX10_visits : MethodName := ⟨RX10, "visits", "(II)I"⟩
abbrev cX10_evening : ByteArray := prog_12_method_75_code
def yX10_evening : MethodName := ⟨RX10, "evening", "(I)I"⟩
abbrev cX10_leads : ByteArray := prog_12_method_76_code
def yX10_leads : MethodName := ⟨RX10, "leads", "(III)Z"⟩
abbrev cX10_layFar : ByteArray := prog_12_method_77_code
def yX10_layFar : MethodName := ⟨RX10, "layFar", "(II)V"⟩
abbrev cX10_straightBy : ByteArray := prog_12_method_78_code
def yX10_straightBy : MethodName := ⟨RX10, "straightBy", "(II)I"⟩
abbrev cX10_straight : ByteArray := prog_12_method_79_code
def yX10_straight : MethodName := ⟨RX10, "straight", "(I)I"⟩
abbrev cX10_beeline : ByteArray := prog_12_method_80_code
def yX10_beeline : MethodName := ⟨RX10, "beeline", "(II)I"⟩
abbrev cX10_way : ByteArray := prog_12_method_81_code
def yX10_way : MethodName := ⟨RX10, "way", "(III)I"⟩
abbrev cX10_netOf : ByteArray := prog_12_method_82_code
def yX10_netOf : MethodName := ⟨RX10, "netOf", "(II)I"⟩
abbrev cX10_net : ByteArray := prog_12_method_83_code
def yX10_net : MethodName := ⟨RX10, "net", "(II)I"⟩
abbrev cX10_farthest : ByteArray := prog_12_method_84_code
def yX10_farthest : MethodName := ⟨RX10, "farthest", "(II)I"⟩
abbrev cX10_road : ByteArray := prog_12_method_85_code
def yX10_road : MethodName := ⟨RX10, "road", "(II)I"⟩
abbrev cX10_roadMany : ByteArray := prog_12_method_86_code
def yX10_roadMany : MethodName := ⟨RX10, "roadMany", "(I)I"⟩
abbrev cX10_roads : ByteArray := prog_12_method_87_code
def yX10_roads : MethodName := ⟨RX10, "roads", "(I)I"⟩
abbrev cX10_pegs : ByteArray := prog_12_method_88_code
def yX10_pegs : MethodName := ⟨RX10, "pegs", "(I)I"⟩
abbrev cX10_joins : ByteArray := prog_12_method_89_code
def yX10_joins : MethodName := ⟨RX10, "joins", "(II)I"⟩
abbrev cX10_corners : ByteArray := prog_12_method_90_code
def yX10_corners : MethodName := ⟨RX10, "corners", "(II)I"⟩
abbrev cX10_netMany : ByteArray := prog_12_method_91_code
def yX10_netMany : MethodName := ⟨RX10, "netMany", "(I)I"⟩
abbrev cX10_nets : ByteArray := prog_12_method_92_code
def yX10_nets : MethodName := ⟨RX10, "nets", "(I)I"⟩
abbrev cX10_isOneSideBySide : ByteArray := prog_12_method_93_code
def yX10_isOneSideBySide : MethodName := ⟨RX10, "isOneSideBySide", "(I)Z"⟩
abbrev cX10_missing : ByteArray := prog_12_method_94_code
def yX10_missing : MethodName := ⟨RX10, "missing", "(I)I"⟩
abbrev cX10_rings : ByteArray := prog_12_method_95_code
def yX10_rings : MethodName := ⟨RX10, "rings", "(I)I"⟩
abbrev cX10_bridges : ByteArray := prog_12_method_96_code
def yX10_bridges : MethodName := ⟨RX10, "bridges", "(I)I"⟩
abbrev cX10_line : ByteArray := prog_12_method_97_code
def yX10_line : MethodName := ⟨RX10, "line", "(I)I"⟩
abbrev cX10_first : ByteArray := prog_12_method_98_code
def yX10_first : MethodName := ⟨RX10, "first", "(I)I"⟩
abbrev cX10_walkedOf : ByteArray := prog_12_method_99_code
def yX10_walkedOf : MethodName := ⟨RX10, "walkedOf", "(I)I"⟩
abbrev cX10_walked : ByteArray := prog_12_method_100_code
def yX10_walked : MethodName := ⟨RX10, "walked", "(I)I"⟩
abbrev cX10_crossing : ByteArray := prog_12_method_101_code
def yX10_crossing : MethodName := ⟨RX10, "crossing", "()I"⟩
abbrev cX10_shared : ByteArray := prog_12_method_102_code
def yX10_shared : MethodName := ⟨RX10, "shared", "(II)I"⟩
abbrev cX10_coversOf : ByteArray := prog_12_method_103_code
def yX10_coversOf : MethodName := ⟨RX10, "coversOf", "()I"⟩
abbrev cX10_cover : ByteArray := prog_12_method_104_code
def yX10_cover : MethodName := ⟨RX10, "cover", "()I"⟩
abbrev cX10_covers : ByteArray := prog_12_method_105_code
def yX10_covers : MethodName := ⟨RX10, "covers", "()I"⟩
abbrev cX10_isHouseTold : ByteArray := prog_12_method_106_code
def yX10_isHouseTold : MethodName := ⟨RX10, "isHouseTold", "(I)Z"⟩
abbrev cX10_house : ByteArray := prog_12_method_107_code
def yX10_house : MethodName := ⟨RX10, "house", "(II)I"⟩
abbrev cX10_moved : ByteArray := prog_12_method_108_code
def yX10_moved : MethodName := ⟨RX10, "moved", "(I)I"⟩
abbrev cX10_moves : ByteArray := prog_12_method_109_code
def yX10_moves : MethodName := ⟨RX10, "moves", "(I)I"⟩
abbrev cX10_isServed : ByteArray := prog_12_method_110_code
def yX10_isServed : MethodName := ⟨RX10, "isServed", "(II)Z"⟩
abbrev cX10_served : ByteArray := prog_12_method_111_code
def yX10_served : MethodName := ⟨RX10, "served", "(I)I"⟩
abbrev cX10_movedAll : ByteArray := prog_12_method_112_code
def yX10_movedAll : MethodName := ⟨RX10, "movedAll", "()I"⟩
abbrev cX10_blame : ByteArray := prog_12_method_113_code
def yX10_blame : MethodName := ⟨RX10, "blame", "()I"⟩
abbrev cX10_ford : ByteArray := prog_12_method_114_code
def yX10_ford : MethodName := ⟨RX10, "ford", "()I"⟩
abbrev cX10_numberAt : ByteArray := prog_12_method_115_code
def yX10_numberAt : MethodName := ⟨RX10, "numberAt", "(II)J"⟩
abbrev cX10_askSeen : ByteArray := prog_12_method_116_code
def yX10_askSeen : MethodName := ⟨RX10, "askSeen", "(I)I"⟩
abbrev cX10_askSeen_ : ByteArray := prog_12_method_117_code
def yX10_askSeen_ : MethodName := ⟨RX10, "askSeen", "(II)I"⟩
abbrev cX10_isSeen : ByteArray := prog_12_method_118_code
def yX10_isSeen : MethodName := ⟨RX10, "isSeen", "(I)Z"⟩
abbrev cX10_facedOf : ByteArray := prog_12_method_119_code
def yX10_facedOf : MethodName := ⟨RX10, "facedOf", "(II)I"⟩
abbrev cX10_faced : ByteArray := prog_12_method_120_code
def yX10_faced : MethodName := ⟨RX10, "faced", "(II)I"⟩
abbrev cX10_griefs : ByteArray := prog_12_method_121_code
def yX10_griefs : MethodName := ⟨RX10, "griefs", "(II)I"⟩
abbrev cX10_worstOf : ByteArray := prog_12_method_122_code
def yX10_worstOf : MethodName := ⟨RX10, "worstOf", "(II)I"⟩
abbrev cX10_askOf : ByteArray := prog_12_method_123_code
def yX10_askOf : MethodName := ⟨RX10, "askOf", "(I)I"⟩
abbrev cX10_ask : ByteArray := prog_12_method_124_code
def yX10_ask : MethodName := ⟨RX10, "ask", "(II)I"⟩
abbrev cX10_leaves : ByteArray := prog_12_method_125_code
def yX10_leaves : MethodName := ⟨RX10, "leaves", "(II)I"⟩
abbrev cX10_laws : ByteArray := prog_12_method_126_code
def yX10_laws : MethodName := ⟨RX10, "laws", "(I)I"⟩
abbrev cX10_pegsBy : ByteArray := prog_12_method_127_code
def yX10_pegsBy : MethodName := ⟨RX10, "pegsBy", "(I)I"⟩
abbrev cX10_by : ByteArray := prog_12_method_128_code
def yX10_by : MethodName := ⟨RX10, "by", "(I)I"⟩
abbrev cX10_law : ByteArray := prog_12_method_129_code
def yX10_law : MethodName := ⟨RX10, "law", "()I"⟩
abbrev cX10_worthOf : ByteArray := prog_12_method_130_code
def yX10_worthOf : MethodName := ⟨RX10, "worthOf", "(I)I"⟩
abbrev cX10_beginSets : ByteArray := prog_12_method_131_code
def yX10_beginSets : MethodName := ⟨RX10, "beginSets", "()V"⟩
abbrev cX10_worth : ByteArray := prog_12_method_132_code
def yX10_worth : MethodName := ⟨RX10, "worth", "(I)I"⟩
abbrev cX10_factorial : ByteArray := prog_12_method_133_code
def yX10_factorial : MethodName := ⟨RX10, "factorial", "(I)I"⟩
abbrev cX10_divisor : ByteArray := prog_12_method_134_code
def yX10_divisor : MethodName := ⟨RX10, "divisor", "(JJ)J"⟩
abbrev cX10_part : ByteArray := prog_12_method_135_code
def yX10_part : MethodName := ⟨RX10, "part", "(JJI)J"⟩
abbrev cX10_share : ByteArray := prog_12_method_136_code
def yX10_share : MethodName := ⟨RX10, "share", "(II)I"⟩
abbrev cX10_getsBy : ByteArray := prog_12_method_137_code
def yX10_getsBy : MethodName := ⟨RX10, "getsBy", "(IIIII)I"⟩
abbrev cX10_areTwo : ByteArray := prog_12_method_138_code
def yX10_areTwo : MethodName := ⟨RX10, "areTwo", "(II)Z"⟩
abbrev cX10_rests : ByteArray := prog_12_method_139_code
def yX10_rests : MethodName := ⟨RX10, "rests", "(II)I"⟩
abbrev cX10_gets : ByteArray := prog_12_method_140_code
def yX10_gets : MethodName := ⟨RX10, "gets", "(IIII)I"⟩
abbrev cX10_layFog : ByteArray := prog_12_method_141_code
def yX10_layFog : MethodName := ⟨RX10, "layFog", "(I)V"⟩
abbrev cX10_chance : ByteArray := prog_12_method_142_code
def yX10_chance : MethodName := ⟨RX10, "chance", "(II)J"⟩
abbrev cX10_mean : ByteArray := prog_12_method_143_code
def yX10_mean : MethodName := ⟨RX10, "mean", "(I)J"⟩
abbrev cX10_keepAct : ByteArray := prog_12_method_144_code
def yX10_keepAct : MethodName := ⟨RX10, "keepAct", "(I)I"⟩
abbrev cX10_bridge : ByteArray := prog_12_method_145_code
def yX10_bridge : MethodName := ⟨RX10, "bridge", "(I)I"⟩
abbrev cX10_keeps : ByteArray := prog_12_method_146_code
def yX10_keeps : MethodName := ⟨RX10, "keeps", "(I)I"⟩
abbrev cX10_undo : ByteArray := prog_12_method_147_code
def yX10_undo : MethodName := ⟨RX10, "undo", "()I"⟩
abbrev cX10_anew : ByteArray := prog_12_method_148_code
def yX10_anew : MethodName := ⟨RX10, "anew", "()I"⟩
abbrev cX10_goDrawn : ByteArray := prog_12_method_149_code
def yX10_goDrawn : MethodName := ⟨RX10, "goDrawn", "(J)I"⟩
abbrev cX10_isSeed : ByteArray := prog_12_method_150_code
def yX10_isSeed : MethodName := ⟨RX10, "isSeed", "(I)Z"⟩
abbrev cX10_drawn : ByteArray := prog_12_method_151_code
def yX10_drawn : MethodName := ⟨RX10, "drawn", "(II)I"⟩
abbrev cX10_luck : ByteArray := prog_12_method_152_code
def yX10_luck : MethodName := ⟨RX10, "luck", "(III)I"⟩
abbrev cX10_rate : ByteArray := prog_12_method_153_code
def yX10_rate : MethodName := ⟨RX10, "rate", "(II)I"⟩
abbrev cX10_count : ByteArray := prog_12_method_154_code
def yX10_count : MethodName := ⟨RX10, "count", "(I)I"⟩
abbrev cX10_isSlot : ByteArray := prog_12_method_155_code
def yX10_isSlot : MethodName := ⟨RX10, "isSlot", "(I)Z"⟩
abbrev cX10_clipped : ByteArray := prog_12_method_156_code
def yX10_clipped : MethodName := ⟨RX10, "clipped", "(JI)J"⟩
abbrev cX10_row : ByteArray := prog_12_method_157_code
def yX10_row : MethodName := ⟨RX10, "row", "(III)I"⟩
abbrev cX10_write : ByteArray := prog_12_method_158_code
def yX10_write : MethodName := ⟨RX10, "write", "(IIJ)I"⟩
abbrev cX10_paste : ByteArray := prog_12_method_159_code
def yX10_paste : MethodName := ⟨RX10, "paste", "(IIIII)I"⟩
def RL : String := "WidowRoadsLaw"
abbrev vwCl : List vw_C := [(RX0, TX0, 19), (RX1, TX1, 3), (RX2, TX2, 2), (RX3, TX3, 3), (RX4, TX4, 7), (RX5, TX5, 4), (RX6, TX6, 12), (RX7, TX7, 6), (RX8, TX8, 2), (RX9, TX9, 11), (RX10, TX10, 46)]
end
section
theorem fb_rng (x : Int32) : -2147483648 ≤ x.toInt ∧ x.toInt < 2147483648 := by
  have h1 := Int32.le_toInt x
  have h2 := Int32.toInt_lt x
  omega
theorem fb_bmod {z : Int} (h1 : -2147483648 ≤ z) (h2 : z < 2147483648) : z.bmod (2 ^ 32) = z := by
  rw [Int.bmod_eq_of_le (by omega) (by omega)]
theorem fb_addI {x y : Int32} (h1 : -2147483648 ≤ x.toInt + y.toInt) (h2 : x.toInt + y.toInt < 2147483648) : (x + y).toInt = x.toInt + y.toInt := by
  rw [Int32.toInt_add, fb_bmod h1 h2]
theorem fb_subI {x y : Int32} (h1 : -2147483648 ≤ x.toInt - y.toInt) (h2 : x.toInt - y.toInt < 2147483648) : (x - y).toInt = x.toInt - y.toInt := by
  rw [Int32.toInt_sub, fb_bmod h1 h2]
theorem fb_mulI {x y : Int32} (h1 : -2147483648 ≤ x.toInt * y.toInt) (h2 : x.toInt * y.toInt < 2147483648) : (x * y).toInt = x.toInt * y.toInt := by
  rw [Int32.toInt_mul, fb_bmod h1 h2]
theorem fb_negI {x : Int32} (h : x.toInt ≠ -2147483648) : (-x).toInt = -x.toInt := by
  have := fb_rng x
  rw [Int32.toInt_neg, fb_bmod (by omega) (by omega)]
theorem fb_ofI {z : Int} (h1 : -2147483648 ≤ z) (h2 : z < 2147483648) : (Int32.ofInt z).toInt = z := by
  rw [Int32.toInt_ofInt, fb_bmod h1 h2]
theorem fb_asI (x : Int32) : Int32.ofInt x.toInt = x := Int32.ofInt_toInt x
theorem fb_rngL (x : Int64) : -9223372036854775808 ≤ x.toInt ∧ x.toInt < 9223372036854775808 := by
  have h1 := Int64.le_toInt x
  have h2 := Int64.toInt_lt x
  omega
theorem fb_bmodL {z : Int} (h1 : -9223372036854775808 ≤ z) (h2 : z < 9223372036854775808) : z.bmod (2 ^ 64) = z := by
  rw [Int.bmod_eq_of_le (by omega) (by omega)]
theorem fb_addL {x y : Int64} (h1 : -9223372036854775808 ≤ x.toInt + y.toInt) (h2 : x.toInt + y.toInt < 9223372036854775808) : (x + y).toInt = x.toInt + y.toInt := by
  rw [Int64.toInt_add, fb_bmodL h1 h2]
theorem fb_subL {x y : Int64} (h1 : -9223372036854775808 ≤ x.toInt - y.toInt) (h2 : x.toInt - y.toInt < 9223372036854775808) : (x - y).toInt = x.toInt - y.toInt := by
  rw [Int64.toInt_sub, fb_bmodL h1 h2]
theorem fb_mulL {x y : Int64} (h1 : -9223372036854775808 ≤ x.toInt * y.toInt) (h2 : x.toInt * y.toInt < 9223372036854775808) : (x * y).toInt = x.toInt * y.toInt := by
  rw [Int64.toInt_mul, fb_bmodL h1 h2]
theorem fa_lt (a b : Int32) : a < b ↔ a.toInt < b.toInt := Int32.lt_iff_toInt_lt
theorem fa_le (a b : Int32) : a ≤ b ↔ a.toInt ≤ b.toInt := Int32.le_iff_toInt_le
theorem fa_eq (a b : Int32) : a = b ↔ a.toInt = b.toInt := Int32.toInt_inj.symm
theorem fa_lt64 (a b : Int64) : a < b ↔ a.toInt < b.toInt := Int64.lt_iff_toInt_lt
theorem fa_le64 (a b : Int64) : a ≤ b ↔ a.toInt ≤ b.toInt := Int64.le_iff_toInt_le
theorem fa_eq64 (a b : Int64) : a = b ↔ a.toInt = b.toInt := Int64.toInt_inj.symm
/-- a comparison of two ints taken as longs -/
theorem fa_wide_lt (a b : Int32) : a.toInt64 < b.toInt64 ↔ a < b := by rw [fa_lt64, fa_lt, Int32.toInt_toInt64, Int32.toInt_toInt64]
theorem fa_wide_le (a b : Int32) : a.toInt64 ≤ b.toInt64 ↔ a ≤ b := by rw [fa_le64, fa_le, Int32.toInt_toInt64, Int32.toInt_toInt64]
theorem fa_wide_eq (a b : Int32) : a.toInt64 = b.toInt64 ↔ a = b := by rw [fa_eq64, fa_eq, Int32.toInt_toInt64, Int32.toInt_toInt64]
-- ===== ints as whole numbers: a value v with v.toInt = a =====
theorem ti_add {x y v : Int32} {a b : Int} (hx : x.toInt = a) (hy : y.toInt = b) (e : v = x + y) (h1 : -2147483648 ≤ a + b) (h2 : a + b < 2147483648) : v.toInt = a + b := by
  subst hx hy e
  exact fb_addI h1 h2
theorem ti_sub {x y v : Int32} {a b : Int} (hx : x.toInt = a) (hy : y.toInt = b) (e : v = x - y) (h1 : -2147483648 ≤ a - b) (h2 : a - b < 2147483648) : v.toInt = a - b := by
  subst hx hy e
  exact fb_subI h1 h2
theorem ti_mul {x y v : Int32} {a b : Int} (hx : x.toInt = a) (hy : y.toInt = b) (e : v = x * y) (h1 : -2147483648 ≤ a * b) (h2 : a * b < 2147483648) : v.toInt = a * b := by
  subst hx hy e
  exact fb_mulI h1 h2
theorem ti_wide {x : Int32} {v : Int64} {a : Int} (hx : x.toInt = a) (e : x.toInt64 = v) : v.toInt = a := by
  subst hx e
  exact Int32.toInt_toInt64 x
theorem i_le {x y : Int32} {a b : Int} (hx : x.toInt = a) (hy : y.toInt = b) (h : x ≤ y) : a ≤ b := by
  subst hx hy
  exact (fa_le x y).mp h
theorem i_nle {x y : Int32} {a b : Int} (hx : x.toInt = a) (hy : y.toInt = b) (h : ¬ x ≤ y) : b < a := by
  subst hx hy
  exact Int.not_le.mp (fun q => h ((fa_le x y).mpr q))
theorem i_lt {x y : Int32} {a b : Int} (hx : x.toInt = a) (hy : y.toInt = b) (h : x < y) : a < b := by
  subst hx hy
  exact (fa_lt x y).mp h
theorem i_nlt {x y : Int32} {a b : Int} (hx : x.toInt = a) (hy : y.toInt = b) (h : ¬ x < y) : b ≤ a := by
  subst hx hy
  exact Int.not_lt.mp (fun q => h ((fa_lt x y).mpr q))
theorem i_eq {x y : Int32} {a b : Int} (hx : x.toInt = a) (hy : y.toInt = b) (h : x = y) : a = b := by
  subst hx hy
  exact (fa_eq x y).mp h
theorem i_ne {x y : Int32} {a b : Int} (hx : x.toInt = a) (hy : y.toInt = b) (h : ¬ x = y) : ¬ a = b := by
  subst hx hy
  exact fun q => h ((fa_eq x y).mpr q)
theorem l_le {x y : Int64} {a b : Int} (hx : x.toInt = a) (hy : y.toInt = b) (h : x ≤ y) : a ≤ b := by
  subst hx hy
  exact (fa_le64 x y).mp h
theorem l_nle {x y : Int64} {a b : Int} (hx : x.toInt = a) (hy : y.toInt = b) (h : ¬ x ≤ y) : b < a := by
  subst hx hy
  exact Int.not_le.mp (fun q => h ((fa_le64 x y).mpr q))
theorem l_lt {x y : Int64} {a b : Int} (hx : x.toInt = a) (hy : y.toInt = b) (h : x < y) : a < b := by
  subst hx hy
  exact (fa_lt64 x y).mp h
theorem l_nlt {x y : Int64} {a b : Int} (hx : x.toInt = a) (hy : y.toInt = b) (h : ¬ x < y) : b ≤ a := by
  subst hx hy
  exact Int.not_lt.mp (fun q => h ((fa_lt64 x y).mpr q))
theorem l_eq {x y : Int64} {a b : Int} (hx : x.toInt = a) (hy : y.toInt = b) (h : x = y) : a = b := by
  subst hx hy
  exact (fa_eq64 x y).mp h
theorem l_ne {x y : Int64} {a b : Int} (hx : x.toInt = a) (hy : y.toInt = b) (h : ¬ x = y) : ¬ a = b := by
  subst hx hy
  exact fun q => h ((fa_eq64 x y).mpr q)
-- the answer of lcmp, looked at by ifCond
theorem c_lt {x y : Int64} {a b : Int} (hx : x.toInt = a) (hy : y.toInt = b) (h : lg_cmp x y < 0) : a < b := l_lt hx hy ((lg_cmp_lt x y).mp h)
theorem c_nlt {x y : Int64} {a b : Int} (hx : x.toInt = a) (hy : y.toInt = b) (h : ¬ lg_cmp x y < 0) : b ≤ a := l_nlt hx hy (fun q => h ((lg_cmp_lt x y).mpr q))
theorem c_ge {x y : Int64} {a b : Int} (hx : x.toInt = a) (hy : y.toInt = b) (h : 0 ≤ lg_cmp x y) : b ≤ a := l_le hy hx ((lg_cmp_ge x y).mp h)
theorem c_nge {x y : Int64} {a b : Int} (hx : x.toInt = a) (hy : y.toInt = b) (h : ¬ 0 ≤ lg_cmp x y) : a < b := l_nle hy hx (fun q => h ((lg_cmp_ge x y).mpr q))
theorem c_le {x y : Int64} {a b : Int} (hx : x.toInt = a) (hy : y.toInt = b) (h : lg_cmp x y ≤ 0) : a ≤ b := l_le hx hy ((lg_cmp_le x y).mp h)
theorem c_nle {x y : Int64} {a b : Int} (hx : x.toInt = a) (hy : y.toInt = b) (h : ¬ lg_cmp x y ≤ 0) : b < a := l_nle hx hy (fun q => h ((lg_cmp_le x y).mpr q))
theorem c_gt {x y : Int64} {a b : Int} (hx : x.toInt = a) (hy : y.toInt = b) (h : 0 < lg_cmp x y) : b < a := l_lt hy hx ((lg_cmp_gt x y).mp h)
theorem c_ngt {x y : Int64} {a b : Int} (hx : x.toInt = a) (hy : y.toInt = b) (h : ¬ 0 < lg_cmp x y) : a ≤ b := l_nlt hy hx (fun q => h ((lg_cmp_gt x y).mpr q))
theorem ix_in {x : Int32} {a : Int} {n : Nat} (hx : x.toInt = a) (h1 : 0 ≤ a) (h2 : a < n) : vp_in x n := by
  subst hx
  exact vp_in_iff.mpr ⟨h1, h2⟩
theorem ix_nn {x : Int32} {a : Int} (hx : x.toInt = a) (h1 : 0 ≤ a) : ¬ x < 0 := fun h => by
  have := (fa_lt x 0).mp h
  rw [hx] at this
  exact absurd this (Int.not_lt.mpr h1)
-- ===== private members of nest mates, the array class of Colony: told of a state beside the words =====
def isNest : Cond → Bool
  | .fieldLinkNest .. => true
  | .methodLinkNest .. => true
  | _ => false
def nz (U : State) : Prop := (∀ w ∈ tables_1, isNest w = true → va_Nw w U) ∧ va_AO "WidowRoads$Colony" U
theorem nz_use {s : State} {args : Array Value} (h : nz s) {w : Cond} (hm : w ∈ tables_1) (hn : isNest w = true) : w.before args s = true := by
  have h1 := h.1 w hm hn
  cases w <;> first | exact va_Nw.use rfl h1 | (simp [isNest] at hn)
theorem nz_nw {s : State} (h : nz s) {w : Cond} (hm : w ∈ tables_1) (hn : isNest w = true) : va_Nw w s := h.1 w hm hn
theorem nz_warm {s U : State} (hW : s.WarmedH U.vm) (h : nz s) : nz U := by
  refine ⟨?_, va_AO.moved hW.alike h.2⟩
  intro w hm hn
  have h1 := h.1 w hm hn
  cases w <;> first | exact va_Nw.warmF hW h1 | exact va_Nw.warmM hW h1 | (simp [isNest] at hn)
theorem nz_same {s U : State} (e : s.vm = U.vm) (h : nz s) : nz U := by
  refine ⟨?_, va_AO.moved (e ▸ Vm.Alike.refl s.vm) h.2⟩
  intro w hm hn
  have h1 := h.1 w hm hn
  cases w <;> first | exact va_Nw.same rfl e h1 | (simp [isNest] at hn)
-- ===== the form of a contract: cells ws ahead, cells w u behind =====
def mP (G : va_G) (ty : List (ClassId × FieldType)) (ws : va_W) (sz : Nat) (U : State) : Prop := U.heap.size = sz ∧ va_P G vwCl ws U.heap ∧ va_K G vwCl ty U ∧ va_D (fun _ => True) ws ∧ nz U
def mB (G : va_G) (ty : List (ClassId × FieldType)) (A : Nat → Prop) (ws : va_W) (t : State) : Prop := va_P G vwCl ws t.heap ∧ va_K G vwCl ty t ∧ va_D A ws
theorem mP_blind {G : va_G} {ty : List (ClassId × FieldType)} {ws : va_W} {sz : Nat} {av : List Value} : FrameBlind (va_Pc av (mP G ty ws sz)) := by
  intro a U g mk q
  obtain ⟨q0, q1, qP, qK, qD, qZ⟩ := q
  exact ⟨q0, q1, qP, va_K.moved (u := U) (U := U.calling g mk a) (Vm.Alike.refl U.vm) qK, qD, nz_same (s := U) (U := U.calling g mk a) rfl qZ⟩
abbrev CI (l : Launch) (y : MethodName) (wl : List Cond) (rm : Room) (G : va_G) (ty : List (ClassId × FieldType)) (av : List Value) (ws : va_W) (sz : Nat) {S : Type} (post : Int32 → S → Prop) (w : S → va_W) (mc ms : Nat) : Prop :=
  Met l y wl rm (va_Pc av (mP G ty ws sz)) (va_Qi post (fun u t => mB G ty (va_A ws sz) (w u) t) (va_A ws sz)) mc ms (va_A ws sz)
abbrev CL (l : Launch) (y : MethodName) (wl : List Cond) (rm : Room) (G : va_G) (ty : List (ClassId × FieldType)) (av : List Value) (ws : va_W) (sz : Nat) {S : Type} (post : Int64 → S → Prop) (w : S → va_W) (mc ms : Nat) : Prop :=
  Met l y wl rm (va_Pc av (mP G ty ws sz)) (va_Ql post (fun u t => mB G ty (va_A ws sz) (w u) t) (va_A ws sz)) mc ms (va_A ws sz)
abbrev CV (l : Launch) (y : MethodName) (wl : List Cond) (rm : Room) (G : va_G) (ty : List (ClassId × FieldType)) (av : List Value) (ws : va_W) (sz : Nat) {S : Type} (post : S → Prop) (w : S → va_W) (mc ms : Nat) : Prop :=
  Met l y wl rm (va_Pc av (mP G ty ws sz)) (va_Qv post (fun u t => mB G ty (va_A ws sz) (w u) t) (va_A ws sz)) mc ms (va_A ws sz)
/-- every word of the tables that goes over into a callee -/
def GW : List Cond := lw_tbl.filter goodWord
theorem GW_t {w : Cond} (i : Nat) (h : tables_1[i]? = some w) (g : goodWord w = true) : w ∈ GW := List.mem_filter.mpr ⟨List.mem_append_right _ (List.mem_of_getElem? h), g⟩
theorem GW_p {w : Cond} (i : Nat) (h : (k2_sels lw_privs)[i]? = some w) (g : goodWord w = true) : w ∈ GW := List.mem_filter.mpr ⟨List.mem_append_left _ (List.mem_of_getElem? h), g⟩
theorem GW_in {ws : List Cond} (ps : List Nat) (hp : ws = ps.filterMap (fun i => tables_1[i]?)) (h : ws.all goodWord = true) : ∀ w ∈ ws, w ∈ GW := by
  intro w hw
  have h1 := List.all_eq_true.mp h w hw
  rw [hp] at hw
  obtain ⟨i, -, hi⟩ := List.mem_filterMap.mp hw
  exact GW_t i hi h1
theorem GW_good {w : Cond} (h : w ∈ GW) : w ∈ GW ∧ ((w.onTables && w.keeps) = true ∨ ∃ ty, w = .arrayClass ty) := ⟨h, good_of_word (List.mem_filter.mp h).2⟩
abbrev wl_ (y : MethodName) (cc : ByteArray) (n : Nat) (ret : Option FieldType) : List Cond := Cond.code y cc n ret :: GW
theorem gW {w : Cond} (h : w ∈ GW) : GoodIn GW (w :: GW) := fun q hq => (List.mem_cons.mp hq).elim (fun e => e ▸ GW_good h) GW_good
theorem gV {own C : String} {idx : Nat} {y : MethodName} {w : Cond} (h1 : Cond.methodLink own idx y ∈ GW) (h2 : Cond.instanceMethod y ∈ GW) (h3 : Cond.selects C y y ∈ GW) (h4 : Cond.initialized C ∈ GW) (h : w ∈ GW) : GoodIn GW (wsV own idx C y (w :: GW)) := by
  intro q hq
  rcases List.mem_append.mp hq with hq | hq
  · simp only [List.mem_cons, List.not_mem_nil, or_false] at hq
    rcases hq with rfl | rfl | rfl | rfl
    · exact GW_good h1
    · exact GW_good h2
    · exact GW_good h3
    · exact GW_good h4
  · exact gW h q hq
theorem gS {own : String} {idx : Nat} {y : MethodName} {w : Cond} (h1 : Cond.methodLink own idx y ∈ GW) (h2 : Cond.static y ∈ GW) (h3 : Cond.initialized y.cls ∈ GW) (h : w ∈ GW) : GoodIn GW (va_wsS own idx y (w :: GW)) := by
  intro q hq
  rcases List.mem_append.mp hq with hq | hq
  · simp only [List.mem_cons, List.not_mem_nil, or_false] at hq
    rcases hq with rfl | rfl | rfl
    · exact GW_good h1
    · exact GW_good h2
    · exact GW_good h3
  · exact gW h q hq
/-- what holds as a body begins -/
def Bd (p : Program) (s : State) (m : MethodId) (meth : Method) (c : Code) (cc : ByteArray) (ret : Option FieldType) (maxL : Nat) (y : MethodName) (G : va_G) (ty : List (ClassId × FieldType)) (av : List Value) (ws : va_W) (A : Nat → Prop) (ls : Array Slot) : Prop :=
  p.tables.exec = Jvm.exec ∧ c.code = cc ∧ meth.sig.returnType = ret ∧ c.maxLocals = maxL ∧ (∀ q ∈ GW, q.before av.toArray s = true) ∧ s.vm.findClass y.cls = some m.cls ∧ meth.locks = false ∧ meth.name = y.name ∧ va_P G vwCl ws s.heap ∧ va_K G vwCl ty s ∧ va_D A ws ∧ (∀ q : Nat, s.heap.size ≤ q → A q) ∧ nz s ∧ lv_has ls maxL (lv_args 0 av)
section GO
variable {l : Launch} {y : MethodName} {rm : Room} {G : va_G} {ty : List (ClassId × FieldType)} {av : List Value} {ws : va_W} {sz : Nat} {S : Type} {w : S → va_W} {mc ms : Nat} {cc : ByteArray} {maxL : Nat} {ret : Option FieldType}
theorem start_of {Qf : (Nat → Prop) → Array Value → State → Outcome → State → Prop} (hy : plainName y.cls = true) (hml : (lg_sl av).length ≤ maxL)
    (body : ∀ (p : Program) (e : Env) (s : State) (m : MethodId) (below : List Frame) (meth : Method) (c : Code) (A : Nat → Prop) (ls : Array Slot), Bd p s m meth c cc ret maxL y G ty av ws A ls → W p l e rm s m av.toArray below meth c s.heap [] 0 0 (MQ below (Qf A) av.toArray s mc ms A) (F0 m 0 ls [])) :
    Met l y (wl_ y cc maxL ret) rm (va_Pc av (mP G ty ws sz)) (Qf (va_A ws sz)) mc ms (va_A ws sz) := by
  refine Met.ofW (cc := cc) (maxL := maxL) (ret := ret) hy rfl ?_
  intro p e s m args below meth c s₁ B hm hv
  obtain ⟨rfl, hsz, hP, hK, hD0, hZ⟩ := hv
  subst hsz
  rw [lg_entry_eq]
  have h0 := atoms_spec (ws := wl_ y cc maxL ret) B.pre
  exact body p e s m below meth c _ _ ⟨B.exec, B.bytes, B.returns, hm, fun q h => h0 q (List.mem_cons_of_mem _ h), findClass_of_methodNamed B.named, B.notSynchronized, (name_of_methodNamed B.named B.method).1, hP, hK, hD0.self, fun q h => Or.inr h, hZ, lv_entry av hml⟩
theorem CI.go {post : Int32 → S → Prop} (hy : plainName y.cls = true) (hr : ret = some .int) (hml : (lg_sl av).length ≤ maxL)
    (body : ∀ (p : Program) (e : Env) (s : State) (m : MethodId) (below : List Frame) (meth : Method) (c : Code) (A : Nat → Prop) (ls : Array Slot) (Q : State → Prop), Bd p s m meth c cc ret maxL y G ty av ws A ls →
      (∀ (H : Heap) (locs : List Loc) (pc : Nat) (ls : Array Slot) (v : Int32) (u : S), va_P G vwCl (w u) H → va_D A (w u) → va_S A s.heap H locs → decode cc pc = .ok (.ireturn, 1) → post v u → W p l e rm s m av.toArray below meth c H locs mc ms Q (F0 m pc ls [.int v])) →
      W p l e rm s m av.toArray below meth c s.heap [] 0 0 Q (F0 m 0 ls [])) : CI l y (wl_ y cc maxL ret) rm G ty av ws sz post w mc ms :=
  start_of (Qf := fun A => va_Qi post (fun u t => mB G ty A (w u) t) A) hy hml (fun p e s m below meth c A ls B => body p e s m below meth c A ls _ B (fun H locs pc ls v u hP hD hS hd hp =>
    W.iret B.1 B.2.1 (B.2.2.1.trans hr) (fun t ht hW => ⟨⟨v, u, rfl, hp, by rw [ht]; exact hP, va_K.moved hW.alike B.2.2.2.2.2.2.2.2.2.1, hD⟩, hS.F ht⟩) hS.2.2 hd B.2.2.2.2.2.2.1))
theorem CI.goz {post : Int32 → S → Prop} (hy : plainName y.cls = true) (hr : ret = some .boolean) (hml : (lg_sl av).length ≤ maxL)
    (body : ∀ (p : Program) (e : Env) (s : State) (m : MethodId) (below : List Frame) (meth : Method) (c : Code) (A : Nat → Prop) (ls : Array Slot) (Q : State → Prop), Bd p s m meth c cc ret maxL y G ty av ws A ls →
      (∀ (H : Heap) (locs : List Loc) (pc : Nat) (ls : Array Slot) (v : Int32) (u : S), va_P G vwCl (w u) H → va_D A (w u) → va_S A s.heap H locs → decode cc pc = .ok (.ireturn, 1) → narrow .boolean (.int v) = .int v → post v u → W p l e rm s m av.toArray below meth c H locs mc ms Q (F0 m pc ls [.int v])) →
      W p l e rm s m av.toArray below meth c s.heap [] 0 0 Q (F0 m 0 ls [])) : CI l y (wl_ y cc maxL ret) rm G ty av ws sz post w mc ms :=
  start_of (Qf := fun A => va_Qi post (fun u t => mB G ty A (w u) t) A) hy hml (fun p e s m below meth c A ls B => body p e s m below meth c A ls _ B (fun H locs pc ls v u hP hD hS hd hn hp =>
    W.zret B.1 B.2.1 (B.2.2.1.trans hr) hn (fun t ht hW => ⟨⟨v, u, rfl, hp, by rw [ht]; exact hP, va_K.moved hW.alike B.2.2.2.2.2.2.2.2.2.1, hD⟩, hS.F ht⟩) hS.2.2 hd B.2.2.2.2.2.2.1))
theorem CL.go {post : Int64 → S → Prop} (hy : plainName y.cls = true) (hr : ret = some .long) (hml : (lg_sl av).length ≤ maxL)
    (body : ∀ (p : Program) (e : Env) (s : State) (m : MethodId) (below : List Frame) (meth : Method) (c : Code) (A : Nat → Prop) (ls : Array Slot) (Q : State → Prop), Bd p s m meth c cc ret maxL y G ty av ws A ls →
      (∀ (H : Heap) (locs : List Loc) (pc : Nat) (ls : Array Slot) (v : Int64) (u : S), va_P G vwCl (w u) H → va_D A (w u) → va_S A s.heap H locs → decode cc pc = .ok (.lreturn, 1) → post v u → W p l e rm s m av.toArray below meth c H locs mc ms Q (F0 m pc ls [.long v])) →
      W p l e rm s m av.toArray below meth c s.heap [] 0 0 Q (F0 m 0 ls [])) : CL l y (wl_ y cc maxL ret) rm G ty av ws sz post w mc ms :=
  start_of (Qf := fun A => va_Ql post (fun u t => mB G ty A (w u) t) A) hy hml (fun p e s m below meth c A ls B => body p e s m below meth c A ls _ B (fun H locs pc ls v u hP hD hS hd hp =>
    W.lret B.1 B.2.1 (B.2.2.1.trans hr) (fun t ht hW => ⟨⟨v, u, rfl, hp, by rw [ht]; exact hP, va_K.moved hW.alike B.2.2.2.2.2.2.2.2.2.1, hD⟩, hS.F ht⟩) hS.2.2 hd B.2.2.2.2.2.2.1))
theorem CV.go {post : S → Prop} (hy : plainName y.cls = true) (hr : ret = none) (hml : (lg_sl av).length ≤ maxL)
    (body : ∀ (p : Program) (e : Env) (s : State) (m : MethodId) (below : List Frame) (meth : Method) (c : Code) (A : Nat → Prop) (ls : Array Slot) (Q : State → Prop), Bd p s m meth c cc ret maxL y G ty av ws A ls →
      (∀ (H : Heap) (locs : List Loc) (pc : Nat) (ls : Array Slot) (u : S), va_P G vwCl (w u) H → va_D A (w u) → va_S A s.heap H locs → decode cc pc = .ok (.return_, 1) → post u → W p l e rm s m av.toArray below meth c H locs mc ms Q (F0 m pc ls [])) →
      W p l e rm s m av.toArray below meth c s.heap [] 0 0 Q (F0 m 0 ls [])) : CV l y (wl_ y cc maxL ret) rm G ty av ws sz post w mc ms :=
  start_of (Qf := fun A => va_Qv post (fun u t => mB G ty A (w u) t) A) hy hml (fun p e s m below meth c A ls B => body p e s m below meth c A ls _ B (fun H locs pc ls u hP hD hS hd hp =>
    W.vret B.1 B.2.1 (B.2.2.1.trans hr) (fun t ht hW => ⟨⟨u, rfl, hp, by rw [ht]; exact hP, va_K.moved hW.alike B.2.2.2.2.2.2.2.2.2.1, hD⟩, hS.F ht⟩) hS.2.2 hd B.2.2.2.2.2.2.1))
end GO
abbrev TY (cI cJ cZ cB cQ : ClassId) : List (ClassId × FieldType) := [(cI, .int), (cJ, .long), (cZ, .boolean), (cB, .byte), (cQ, .object RX0)]
theorem fm_map {α β : Type} (f : α → Option β) : ∀ (l : List α) (w : List β), l.map f = w.map some → l.filterMap f = w
  | [], w, h => by cases w with
    | nil => rfl
    | cons b w => simp at h
  | a :: l, w, h => by cases w with
    | nil => simp at h
    | cons b w =>
      simp only [List.map_cons, List.cons.injEq] at h
      rw [List.filterMap_cons, h.1, fm_map f l w h.2]
theorem mPc {G : va_G} {ty : List (ClassId × FieldType)} {ws wc : va_W} {A : Nat → Prop} {s : State} {H : Heap} (hK : va_K G vwCl ty s) (hZ : nz s) (hP : va_P G vwCl ws H) (hD : va_D A ws) (isC : List Nat) (hn : va_nd isC = true) (hC : isC.map (fun i => ws[i]?) = wc.map some) (av : List Value) : ∀ U : State, U.heap = H → s.WarmedH U.vm → va_Pc av (mP G ty wc H.size) av.toArray U := by
  intro U hU hW
  exact ⟨rfl, by rw [hU], by rw [hU]; exact hP.sub isC (fm_map _ _ _ hC), va_K.moved hW.alike hK, (hD.sub isC hn hC).weaken (fun _ _ _ _ => trivial), nz_warm hW hZ⟩
theorem mS {G : va_G} {ty : List (ClassId × FieldType)} {ws wc : va_W} {A : Nat → Prop} {s : State} {H : Heap} (hK : va_K G vwCl ty s) (hZ : nz s) (hP : va_P G vwCl ws H) (hD : va_D A ws) (isC : List Nat) (hn : va_nd isC = true) (hC : isC.map (fun i => ws[i]?) = wc.map some) (As : List Value) : PreS s H (va_Pc As (mP G ty wc H.size)) As := ⟨mP_blind, mPc hK hZ hP hD isC hn hC As⟩
theorem mV {G : va_G} {ty : List (ClassId × FieldType)} {ws wc : va_W} {A : Nat → Prop} {s : State} {H : Heap} (hK : va_K G vwCl ty s) (hZ : nz s) (hP : va_P G vwCl ws H) (hD : va_D A ws) (isC : List Nat) (hn : va_nd isC = true) (hC : isC.map (fun i => ws[i]?) = wc.map some) (As : List Value) (q0 ci : Nat) {b : Nat} {fs : List Value} {C : String} {T : u_T} {N : Nat} (hc : vwCl[ci]? = some (C, T, N)) (he : ws[q0]? = some (b, .inr (ci, fs))) : PreV s H C b (va_Pc (.ref b :: As) (mP G ty wc H.size)) As := ⟨mP_blind, va_recv (q := (C, T, N)) hK hP hc he, mPc hK hZ hP hD isC hn hC (.ref b :: As)⟩
section KC
variable {p : Program} {l : Launch} {e : Env} {R : Room} {s : State} {m : MethodId} {args : Array Value} {below : List Frame} {meth : Method} {c : Code} {H H0 : Heap} {locs : List Loc} {cells slots mc ms : Nat} {Q : State → Prop} {G : va_G} {ty : List (ClassId × FieldType)} {A : Nat → Prop} {pc : Nat} {ls : Array Slot} {rest st0 : List Value} {S : Type} {w : S → va_W} {ws wc wr : va_W} {a : Array Value}
theorem k_i {post : Int32 → S → Prop} (hP : va_P G vwCl ws H) (hD : va_D A ws) (hS : va_S A H0 H locs) (hA : ∀ q, H0.size ≤ q → A q) (isC isR : List Nat) (hC : isC.map (fun i => ws[i]?) = wc.map some) (hR : isR.map (fun i => ws[i]?) = wr.map some) (hn : va_nd isR = true) (hd : ∀ i ∈ isR, i ∉ isC)
    (hr : va_Run p l e R s m args below meth c H locs cells slots mc ms (F0 m pc ls st0) rest (va_Qi post (fun u t => mB G ty (va_A wc H.size) (w u) t) (va_A wc H.size) a) (va_A wc H.size))
    (kk : ∀ (r : Int32) (u : S) (H1 : Heap) (locs1 : List Loc), post r u → va_P G vwCl (wr ++ w u) H1 → va_D A (wr ++ w u) → va_S A H0 H1 locs1 → W p l e R s m args below meth c H1 locs1 (cells + mc) (slots + ms) Q (F0 m (pc + 3) ls (.int r :: rest))) : W p l e R s m args below meth c H locs cells slots Q (F0 m pc ls st0) := by
  have hF := va_free hD hS hA isC hC
  refine va_calli hr hS (fun q _ h => hF q h) hF (fun r u t H1 locs1 ht hvm hp hB hz hk hS1 => ?_)
  obtain ⟨hP1, hK1, hD1⟩ := hB
  rw [ht] at hP1
  obtain ⟨a1, a2⟩ := va_join hP hD isC isR hC hR hn hd hk hF hP1 hD1
  exact kk r u H1 locs1 hp a1 a2 hS1
theorem k_l {post : Int64 → S → Prop} (hP : va_P G vwCl ws H) (hD : va_D A ws) (hS : va_S A H0 H locs) (hA : ∀ q, H0.size ≤ q → A q) (isC isR : List Nat) (hC : isC.map (fun i => ws[i]?) = wc.map some) (hR : isR.map (fun i => ws[i]?) = wr.map some) (hn : va_nd isR = true) (hd : ∀ i ∈ isR, i ∉ isC)
    (hr : va_Run p l e R s m args below meth c H locs cells slots mc ms (F0 m pc ls st0) rest (va_Ql post (fun u t => mB G ty (va_A wc H.size) (w u) t) (va_A wc H.size) a) (va_A wc H.size))
    (kk : ∀ (r : Int64) (u : S) (H1 : Heap) (locs1 : List Loc), post r u → va_P G vwCl (wr ++ w u) H1 → va_D A (wr ++ w u) → va_S A H0 H1 locs1 → W p l e R s m args below meth c H1 locs1 (cells + mc) (slots + ms) Q (F0 m (pc + 3) ls (.long r :: rest))) : W p l e R s m args below meth c H locs cells slots Q (F0 m pc ls st0) := by
  have hF := va_free hD hS hA isC hC
  refine va_calll hr hS (fun q _ h => hF q h) hF (fun r u t H1 locs1 ht hvm hp hB hz hk hS1 => ?_)
  obtain ⟨hP1, hK1, hD1⟩ := hB
  rw [ht] at hP1
  obtain ⟨a1, a2⟩ := va_join hP hD isC isR hC hR hn hd hk hF hP1 hD1
  exact kk r u H1 locs1 hp a1 a2 hS1
theorem k_v {post : S → Prop} (hP : va_P G vwCl ws H) (hD : va_D A ws) (hS : va_S A H0 H locs) (hA : ∀ q, H0.size ≤ q → A q) (isC isR : List Nat) (hC : isC.map (fun i => ws[i]?) = wc.map some) (hR : isR.map (fun i => ws[i]?) = wr.map some) (hn : va_nd isR = true) (hd : ∀ i ∈ isR, i ∉ isC)
    (hr : va_Run p l e R s m args below meth c H locs cells slots mc ms (F0 m pc ls st0) rest (va_Qv post (fun u t => mB G ty (va_A wc H.size) (w u) t) (va_A wc H.size) a) (va_A wc H.size))
    (kk : ∀ (u : S) (H1 : Heap) (locs1 : List Loc), post u → va_P G vwCl (wr ++ w u) H1 → va_D A (wr ++ w u) → va_S A H0 H1 locs1 → W p l e R s m args below meth c H1 locs1 (cells + mc) (slots + ms) Q (F0 m (pc + 3) ls rest)) : W p l e R s m args below meth c H locs cells slots Q (F0 m pc ls st0) := by
  have hF := va_free hD hS hA isC hC
  refine va_callv hr hS (fun q _ h => hF q h) hF (fun u t H1 locs1 ht hvm hp hB hz hk hS1 => ?_)
  obtain ⟨hP1, hK1, hD1⟩ := hB
  rw [ht] at hP1
  obtain ⟨a1, a2⟩ := va_join hP hD isC isR hC hR hn hd hk hF hP1 hD1
  exact kk u H1 locs1 hp a1 a2 hS1
end KC
/-- the class of an array is the one that the tables have -/
theorem ty_one {G : va_G} {ty : List (ClassId × FieldType)} {s : State} {t : FieldType} {c1 c2 : ClassId} (ht : refKind t = false) (h1 : va_RA s c1 t) (h2 : va_RA s c2 t) : c2 = c1 := by
  cases t with
  | object C => simp [refKind] at ht
  | _ => exact Option.some.inj (h2.symm.trans h1)
section NA
variable {p : Program} {l : Launch} {e : Env} {R : Room} {s : State} {m : MethodId} {args : Array Value} {below : List Frame} {meth : Method} {c : Code} {H H0 : Heap} {locs : List Loc} {cells slots : Nat} {Q : State → Prop} {G : va_G} {cl : List vw_C} {ty : List (ClassId × FieldType)} {A : Nat → Prop} {pc : Nat} {ls : Array Slot} {rest : List Value} {ws : va_W} {cc : ByteArray}
theorem m_newa (hexec : p.tables.exec = Jvm.exec) (hb : c.code = cc) {atype : ArrayType} (harr : (Cond.arrayClass (newarray.typeOf atype)).before args s = true) {t : FieldType} (hty : newarray.typeOf atype = t) (hprim : refKind t = false) (hK : va_K G cl ty s) (t0 : Nat) {cA : ClassId} (ht : ty[t0]? = some (cA, t)) (hP : va_P G cl ws H) (hD : va_D A ws) (hS : va_S A H0 H locs) (hA : ∀ q, H0.size ≤ q → A q)
    {n : Int32} {N' : Nat} {a0 : vp_A} (ha : ∀ cA : ClassId, vp_cell cA a0 = arrV cA N' (fun _ => defaultValue t)) (hn : ¬ n < 0) (hN : n.toNatClampNeg = N') (hbytes : N' * componentBytes t ≤ 536870912) (hcells : cells + 1 ≤ R.cells) (hslots : slots + N' ≤ R.slots) (hdg : decode cc pc = .ok (.newarray atype, 2))
    (kk : ∀ (q : Nat) (H1 : Heap), va_P G cl (ws ++ [(q, .inl (cA, a0))]) H1 → va_D A (ws ++ [(q, .inl (cA, a0))]) → va_S A H0 H1 locs → W p l e R s m args below meth c H1 locs (cells + 1) (slots + N') Q (F0 m (pc + 2) ls (.ref q :: rest))) : W p l e R s m args below meth c H locs cells slots Q (F0 m pc ls (.int n :: rest)) := by
  refine va_newa hexec hb harr hty hK hP hD hS hA ha hn hN hbytes hcells hslots hdg (fun q cB H1 hK1 hP1 hD1 hS1 => ?_)
  have e1 : cB = cA := by
    have h1 := (hK.2 t0 _ ht).2
    have h2 := (hK1.2 ty.length (cB, t) (by simp)).2
    exact ty_one (G := G) (ty := ty) hprim h1 h2
  subst e1
  exact kk q H1 hP1 hD1 hS1
end NA
theorem upd_z (k : Nat) : upd (fun _ => (0 : Int32)) k 0 = fun _ => 0 := by
  funext j
  simp [upd]
theorem updL_z (k : Nat) : vp_updL (fun _ => (0 : Int64)) k 0 = fun _ => 0 := by
  funext j
  simp [vp_updL]
theorem cpy_z {α : Type} (z : α) (a b n : Nat) : va_cpy (fun _ => z) (fun _ => z) a b n = fun _ => z := by
  funext j
  simp [va_cpy]
theorem tl_div {x y v : Int64} {a : Int} {k : Int} (hx : x.toInt = a) (h0 : 0 ≤ a) (hk : 0 < k) (hy : y.toInt = k) (e : v = x / y) : v.toInt = a / k := by
  subst hx hy e
  rw [Int64.toInt_div, Int.tdiv_eq_ediv_of_nonneg h0]
  have h1 := fb_rngL x
  have h3 : x.toInt / y.toInt ≤ x.toInt := Int.ediv_le_self _ h0
  have h4 : 0 ≤ x.toInt / y.toInt := Int.ediv_nonneg h0 (Int.le_of_lt hk)
  exact fb_bmodL (by omega) (by omega)
theorem ti_div {x y v : Int32} {a : Int} {k : Int} (hx : x.toInt = a) (h0 : 0 ≤ a) (hk : 0 < k) (hy : y.toInt = k) (e : v = x / y) : v.toInt = a / k := by
  subst hx hy e
  rw [Int32.toInt_div, Int.tdiv_eq_ediv_of_nonneg h0]
  have h1 := fb_rng x
  have h3 : x.toInt / y.toInt ≤ x.toInt := Int.ediv_le_self _ h0
  have h4 : 0 ≤ x.toInt / y.toInt := Int.ediv_nonneg h0 (Int.le_of_lt hk)
  exact fb_bmod (by omega) (by omega)
theorem ti_rem {x y v : Int32} {a : Int} {k : Int} (hx : x.toInt = a) (h0 : 0 ≤ a) (hk : 0 < k) (hy : y.toInt = k) (e : v = x - x / y * y) : v.toInt = a % k := by
  have hd := ti_div hx h0 hk hy (v := x / y) rfl
  have h1 := fb_rng x
  have h5 := Int.emod_def a k
  have h6 := Int.emod_nonneg a (Int.ne_of_gt hk)
  have h7 : 0 ≤ a / k * k := Int.mul_nonneg (Int.ediv_nonneg h0 (Int.le_of_lt hk)) (Int.le_of_lt hk)
  have h8 : k * (a / k) = a / k * k := Int.mul_comm _ _
  have hm := ti_mul (v := x / y * y) hd hy rfl (by omega) (by omega)
  have hs := ti_sub (v := v) hx hm e (by omega) (by omega)
  rw [hs]
  omega
section NQ
variable {p : Program} {l : Launch} {e : Env} {R : Room} {s : State} {m : MethodId} {args : Array Value} {below : List Frame} {meth : Method} {c : Code} {H H0 : Heap} {locs : List Loc} {cells slots : Nat} {Q : State → Prop} {G : va_G} {cl : List vw_C} {ty : List (ClassId × FieldType)} {A : Nat → Prop} {pc : Nat} {ls : Array Slot} {rest : List Value} {ws : va_W} {cc : ByteArray}
theorem m_newq (hexec : p.tables.exec = Jvm.exec) (hb : c.code = cc) {own C : String} {index : Nat} (hown : s.vm.findClass own = some m.cls) (hclink : (Cond.classLink own index C).before args s = true) (hover : va_AO C s) (hK : va_K G cl ty s) (t0 : Nat) {cA : ClassId} (ht : ty[t0]? = some (cA, .object C)) (hP : va_P G cl ws H) (hD : va_D A ws) (hS : va_S A H0 H locs) (hA : ∀ q, H0.size ≤ q → A q)
    {n : Int32} {N' : Nat} (hn : ¬ n < 0) (hN : n.toNatClampNeg = N') (hbytes : N' * 4 ≤ 536870912) (hcells : cells + 1 ≤ R.cells) (hslots : slots + N' ≤ R.slots) (hdg : decode cc pc = .ok (.anewarray index, 3))
    (kk : ∀ (q : Nat) (H1 : Heap), va_P G cl (ws ++ [(q, .inl (cA, N', .inr (.inr (.inr (.inr (fun _ => none))))))]) H1 → va_D A (ws ++ [(q, .inl (cA, N', .inr (.inr (.inr (.inr (fun _ => none))))))]) → va_S A H0 H1 locs → W p l e R s m args below meth c H1 locs (cells + 1) (slots + N') Q (F0 m (pc + 3) ls (.ref q :: rest))) : W p l e R s m args below meth c H locs cells slots Q (F0 m pc ls (.int n :: rest)) := by
  refine va_newq hexec hb hown hclink hover hK hP hD hS hA hn hN hbytes hcells hslots hdg (fun q cB H1 hK1 hP1 hD1 hS1 => ?_)
  have e1 : cB = cA := by
    obtain ⟨_, _, _, _, _, h1⟩ := (hK.2 t0 _ ht).2
    obtain ⟨_, _, _, _, _, h2⟩ := (hK1.2 ty.length (cB, .object C) (by simp)).2
    exact Option.some.inj (h2.symm.trans h1)
  subst e1
  exact kk q H1 hP1 hD1 hS1
end NQ
theorem va_up_s {α : Type} (f : Nat → α) (k : Nat) (v : α) : va_up f k v k = v := by simp [va_up]
end
section
abbrev oX0 (b : Nat → Nat) (v0 : Int32) (v1 : Int32) (v2 : Int32) (v3 : Int32) (v4 : Int32) (v5 : Int32) (v6 : Int32) (v7 : Int32) (v8 : Int32) (v9 : Int32) : va_E := .inr (0, [.int v0, .int v1, .int v2, .int v3, .int v4, .int v5, .int v6, .int v7, .int v8, .int v9, .ref (b 10), .ref (b 11), .ref (b 12), .ref (b 13), .ref (b 14), .ref (b 15), .ref (b 16), .ref (b 17), .ref (b 18)])
abbrev oX1 (b : Nat → Nat) (v2 : Int32) : va_E := .inr (1, [.ref (b 0), .ref (b 1), .int v2])
abbrev oX2 (b : Nat → Nat) (v0 : Int64) (v1 : Int64) : va_E := .inr (2, [.long v0, .long v1])
abbrev oX3 (b : Nat → Nat) (v0 : Int64) (v1 : Int64) (v2 : Int64) : va_E := .inr (3, [.long v0, .long v1, .long v2])
abbrev oX4 (b : Nat → Nat) (v0 : Int32) (v1 : Int32) (v4 : Int32) (v5 : Int32) (v6 : Int32) : va_E := .inr (4, [.int v0, .int v1, .ref (b 2), .ref (b 3), .int v4, .int v5, .int v6])
abbrev oX5 (b : Nat → Nat)  : va_E := .inr (5, [.ref (b 0), .ref (b 1), .ref (b 2), .ref (b 3)])
abbrev oX6 (b : Nat → Nat) (v10 : Int64) (v11 : Int32) : va_E := .inr (6, [.ref (b 0), .ref (b 1), .ref (b 2), .ref (b 3), .ref (b 4), .ref (b 5), .ref (b 6), .ref (b 7), .ref (b 8), .ref (b 9), .long v10, .int v11])
abbrev oX7 (b : Nat → Nat) (v0 : Int32) (v1 : Int32) (v2 : Int64) (v3 : Int32) (v4 : Int32) (v5 : Int32) : va_E := .inr (7, [.int v0, .int v1, .long v2, .int v3, .int v4, .int v5])
abbrev oX8 (b : Nat → Nat) (v1 : Int32) : va_E := .inr (8, [.ref (b 0), .int v1])
abbrev oX9 (b : Nat → Nat)  : va_E := .inr (9, [.ref (b 0), .ref (b 1), .ref (b 2), .ref (b 3), .ref (b 4), .ref (b 5), .ref (b 6), .ref (b 7), .ref (b 8), .ref (b 9), .ref (b 10)])
abbrev oX10 (b : Nat → Nat) (v0 : Int32) (v5 : Int32) (v7 : Int32) (v8 : Int32) (v9 : Int32) (v10 : Int32) (v11 : Int32) (v12 : Int32) (v13 : Int32) (v17 : Int32) (v18 : Int32) (v19 : Int32) (v20 : Int32) (v36 : Int32) (v38 : Int32) (v39 : Int64) (v40 : Int64) (v41 : Int64) : va_E := .inr (10, [.int v0, .ref (b 1), .ref (b 2), .ref (b 3), .ref (b 4), .int v5, .ref (b 6), .int v7, .int v8, .int v9, .int v10, .int v11, .int v12, .int v13, .ref (b 14), .ref (b 15), .ref (b 16), .int v17, .int v18, .int v19, .int v20, .ref (b 21), .ref (b 22), .ref (b 23), .ref (b 24), .ref (b 25), .ref (b 26), .ref (b 27), .ref (b 28), .ref (b 29), .ref (b 30), .ref (b 31), .ref (b 32), .ref (b 33), .ref (b 34), .ref (b 35), .int v36, .ref (b 37), .int v38, .long v39, .long v40, .long v41, .ref (b 42), .ref (b 43), .ref (b 44), .ref (b 45)])
theorem wp_0 : Cond.selects "WidowRoads$Tape" yX8_put yX8_put ∈ GW := GW_p 0 (by decide +kernel) rfl
theorem wp_1 : Cond.selects "WidowRoads$Reader" yX4_read yX4_read ∈ GW := GW_p 1 (by decide +kernel) rfl
theorem wp_2 : Cond.selects "WidowRoads$Colony" yX0_clear yX0_clear ∈ GW := GW_p 2 (by decide +kernel) rfl
theorem wp_3 : Cond.selects "WidowRoads$Reader" yX4_next yX4_next ∈ GW := GW_p 3 (by decide +kernel) rfl
theorem wp_4 : Cond.selects "WidowRoads$Tape" yX8_byteAt yX8_byteAt ∈ GW := GW_p 4 (by decide +kernel) rfl
theorem wp_12 : Cond.selects "WidowRoads$Colony" yX0_creekBits yX0_creekBits ∈ GW := GW_p 12 (by decide +kernel) rfl
theorem wp_20 : Cond.selects "WidowRoads$Colony" yX0_become yX0_become ∈ GW := GW_p 20 (by decide +kernel) rfl
theorem wp_21 : Cond.selects "WidowRoads" yX9_walkAnew yX9_walkAnew ∈ GW := GW_p 21 (by decide +kernel) rfl
theorem wp_22 : Cond.selects "WidowRoads$Supposal" yX7_asNow yX7_asNow ∈ GW := GW_p 22 (by decide +kernel) rfl
theorem wp_23 : Cond.selects "WidowRoads$Colony" yX0_walkerBits yX0_walkerBits ∈ GW := GW_p 23 (by decide +kernel) rfl
theorem wp_24 : Cond.selects "WidowRoads$Story" yX6_tell yX6_tell ∈ GW := GW_p 24 (by decide +kernel) rfl
theorem wp_25 : Cond.selects "WidowRoads$Story" yX6_begin yX6_begin ∈ GW := GW_p 25 (by decide +kernel) rfl
theorem wp_26 : Cond.selects "WidowRoads$Colony" yX0_field yX0_field ∈ GW := GW_p 26 (by decide +kernel) rfl
theorem wp_34 : Cond.selects "WidowRoads$Colony" yX0_spotOf yX0_spotOf ∈ GW := GW_p 34 (by decide +kernel) rfl
theorem wp_35 : Cond.selects "WidowRoads$Colony" yX0_hasWidow yX0_hasWidow ∈ GW := GW_p 35 (by decide +kernel) rfl
theorem wp_39 : Cond.selects "WidowRoads$Colony" yX0_hasYear yX0_hasYear ∈ GW := GW_p 39 (by decide +kernel) rfl
theorem wp_54 : Cond.selects "WidowRoads$Colony" yX0_hasHouse yX0_hasHouse ∈ GW := GW_p 54 (by decide +kernel) rfl
theorem wp_58 : Cond.selects "WidowRoads" yX9_refusalOfSeen yX9_refusalOfSeen ∈ GW := GW_p 58 (by decide +kernel) rfl
theorem wp_59 : Cond.selects "WidowRoads" yX9_refusalOfRow yX9_refusalOfRow ∈ GW := GW_p 59 (by decide +kernel) rfl
theorem wp_60 : Cond.selects "WidowRoads$Rows" yX5_empty yX5_empty ∈ GW := GW_p 60 (by decide +kernel) rfl
theorem wp_70 : Cond.selects "WidowRoads" yX9_areTwo yX9_areTwo ∈ GW := GW_p 70 (by decide +kernel) rfl
theorem wp_78 : Cond.selects "WidowRoads$Rows" yX5_many yX5_many ∈ GW := GW_p 78 (by decide +kernel) rfl
theorem wp_79 : Cond.selects "WidowRoads$Rows" yX5_clear yX5_clear ∈ GW := GW_p 79 (by decide +kernel) rfl
theorem w_1 : Jvm.Cond.initialized "WidowRoads" ∈ GW := GW_t 1 (by decide +kernel) rfl
theorem w_2 : Jvm.Cond.initialized "WidowRoads$Reader" ∈ GW := GW_t 2 (by decide +kernel) rfl
theorem w_3 : Jvm.Cond.initialized "WidowRoads$Tape" ∈ GW := GW_t 3 (by decide +kernel) rfl
theorem w_4 : Jvm.Cond.initialized "WidowRoads$Colony" ∈ GW := GW_t 4 (by decide +kernel) rfl
theorem w_5 : Jvm.Cond.initialized "WidowRoads$Supposal" ∈ GW := GW_t 5 (by decide +kernel) rfl
theorem w_6 : Jvm.Cond.initialized "WidowRoads$Story" ∈ GW := GW_t 6 (by decide +kernel) rfl
theorem w_7 : Jvm.Cond.initialized "WidowRoads$Evenings" ∈ GW := GW_t 7 (by decide +kernel) rfl
theorem w_8 : Jvm.Cond.initialized "WidowRoads$Net" ∈ GW := GW_t 8 (by decide +kernel) rfl
theorem w_9 : Jvm.Cond.initialized "WidowRoads$Rows" ∈ GW := GW_t 9 (by decide +kernel) rfl
theorem w_10 : Jvm.Cond.initialized "WidowRoads$Fraction" ∈ GW := GW_t 10 (by decide +kernel) rfl
theorem w_17 : Jvm.Cond.initialized "java/lang/System" ∈ GW := GW_t 17 (by decide +kernel) rfl
theorem w_25 : Jvm.Cond.methodLink "WidowRoads" (3 : Nat) ({ cls := "java/lang/Object", name := "<init>", desc := "()V" } : Jvm.MethodName) ∈ GW := GW_t 25 (by decide +kernel) rfl
theorem w_26 : Jvm.Cond.instanceMethod ({ cls := "java/lang/Object", name := "<init>", desc := "()V" } : Jvm.MethodName) ∈ GW := GW_t 26 (by decide +kernel) rfl
theorem w_27 : Jvm.Cond.code ({ cls := "java/lang/Object", name := "<init>", desc := "()V" } : Jvm.MethodName) object_method_1_code (1 : Nat) (Option.none : Option Jvm.ClassFile.FieldType) ∈ GW := GW_t 27 (by decide +kernel) rfl
theorem w_28 : Jvm.Cond.classLink "WidowRoads" (9 : Nat) "WidowRoads$Reader" ∈ GW := GW_t 28 (by decide +kernel) rfl
theorem w_29 : Jvm.Cond.instantiable "WidowRoads$Reader" (7 : Nat) ∈ GW := GW_t 29 (by decide +kernel) rfl
theorem w_31 : Jvm.Cond.instanceMethod ({ cls := "WidowRoads$Reader", name := "<init>", desc := "()V" } : Jvm.MethodName) ∈ GW := GW_t 31 (by decide +kernel) rfl
theorem w_32 : Jvm.Cond.code ({ cls := "WidowRoads$Reader", name := "<init>", desc := "()V" } : Jvm.MethodName) prog_6_method_1_code (1 : Nat) (Option.none : Option Jvm.ClassFile.FieldType) ∈ GW := GW_t 32 (by decide +kernel) rfl
theorem w_33 : Jvm.Cond.methodLink "WidowRoads$Reader" (3 : Nat) ({ cls := "java/lang/Object", name := "<init>", desc := "()V" } : Jvm.MethodName) ∈ GW := GW_t 33 (by decide +kernel) rfl
theorem w_34 : Jvm.Cond.classLink "WidowRoads$Reader" (15 : Nat) "WidowRoads$Tape" ∈ GW := GW_t 34 (by decide +kernel) rfl
theorem w_35 : Jvm.Cond.instantiable "WidowRoads$Tape" (2 : Nat) ∈ GW := GW_t 35 (by decide +kernel) rfl
theorem w_37 : Jvm.Cond.instanceMethod ({ cls := "WidowRoads$Tape", name := "<init>", desc := "()V" } : Jvm.MethodName) ∈ GW := GW_t 37 (by decide +kernel) rfl
theorem w_38 : Jvm.Cond.code ({ cls := "WidowRoads$Tape", name := "<init>", desc := "()V" } : Jvm.MethodName) prog_10_method_1_code (1 : Nat) (Option.none : Option Jvm.ClassFile.FieldType) ∈ GW := GW_t 38 (by decide +kernel) rfl
theorem w_39 : Jvm.Cond.methodLink "WidowRoads$Tape" (3 : Nat) ({ cls := "java/lang/Object", name := "<init>", desc := "()V" } : Jvm.MethodName) ∈ GW := GW_t 39 (by decide +kernel) rfl
theorem w_40 : Jvm.Cond.fieldLink "WidowRoads$Tape" (9 : Nat) "WidowRoads$Tape" "bytes" "[B" ∈ GW := GW_t 40 (by decide +kernel) rfl
theorem w_42 : Jvm.Cond.fieldLink "WidowRoads$Tape" (15 : Nat) "WidowRoads$Tape" "length" "I" ∈ GW := GW_t 42 (by decide +kernel) rfl
theorem w_48 : Jvm.Cond.arrayClass Jvm.ClassFile.FieldType.byte ∈ GW := GW_t 48 (by decide +kernel) rfl
theorem w_49 : Jvm.Cond.classLink "WidowRoads$Reader" (22 : Nat) "WidowRoads$Colony" ∈ GW := GW_t 49 (by decide +kernel) rfl
theorem w_50 : Jvm.Cond.instantiable "WidowRoads$Colony" (19 : Nat) ∈ GW := GW_t 50 (by decide +kernel) rfl
theorem w_52 : Jvm.Cond.instanceMethod ({ cls := "WidowRoads$Colony", name := "<init>", desc := "()V" } : Jvm.MethodName) ∈ GW := GW_t 52 (by decide +kernel) rfl
theorem w_53 : Jvm.Cond.code ({ cls := "WidowRoads$Colony", name := "<init>", desc := "()V" } : Jvm.MethodName) prog_2_method_1_code (1 : Nat) (Option.none : Option Jvm.ClassFile.FieldType) ∈ GW := GW_t 53 (by decide +kernel) rfl
theorem w_54 : Jvm.Cond.methodLink "WidowRoads$Colony" (3 : Nat) ({ cls := "java/lang/Object", name := "<init>", desc := "()V" } : Jvm.MethodName) ∈ GW := GW_t 54 (by decide +kernel) rfl
theorem w_55 : Jvm.Cond.fieldLink "WidowRoads$Colony" (39 : Nat) "WidowRoads$Colony" "lines" "I" ∈ GW := GW_t 55 (by decide +kernel) rfl
theorem w_58 : Jvm.Cond.fieldLink "WidowRoads$Colony" (43 : Nat) "WidowRoads$Colony" "span" "I" ∈ GW := GW_t 58 (by decide +kernel) rfl
theorem w_64 : Jvm.Cond.fieldLink "WidowRoads$Colony" (46 : Nat) "WidowRoads$Colony" "rule" "I" ∈ GW := GW_t 64 (by decide +kernel) rfl
theorem w_67 : Jvm.Cond.fieldLink "WidowRoads$Colony" (49 : Nat) "WidowRoads$Colony" "odds" "I" ∈ GW := GW_t 67 (by decide +kernel) rfl
theorem w_71 : Jvm.Cond.fieldLink "WidowRoads$Colony" (52 : Nat) "WidowRoads$Colony" "wide" "I" ∈ GW := GW_t 71 (by decide +kernel) rfl
theorem w_74 : Jvm.Cond.fieldLink "WidowRoads$Colony" (55 : Nat) "WidowRoads$Colony" "high" "I" ∈ GW := GW_t 74 (by decide +kernel) rfl
theorem w_77 : Jvm.Cond.fieldLink "WidowRoads$Colony" (58 : Nat) "WidowRoads$Colony" "creeks" "I" ∈ GW := GW_t 77 (by decide +kernel) rfl
theorem w_80 : Jvm.Cond.fieldLink "WidowRoads$Colony" (61 : Nat) "WidowRoads$Colony" "houses" "I" ∈ GW := GW_t 80 (by decide +kernel) rfl
theorem w_86 : Jvm.Cond.fieldLink "WidowRoads$Colony" (64 : Nat) "WidowRoads$Colony" "widows" "I" ∈ GW := GW_t 86 (by decide +kernel) rfl
theorem w_89 : Jvm.Cond.fieldLink "WidowRoads$Colony" (67 : Nat) "WidowRoads$Colony" "acts" "I" ∈ GW := GW_t 89 (by decide +kernel) rfl
theorem w_91 : Jvm.Cond.fieldLink "WidowRoads$Colony" (9 : Nat) "WidowRoads$Colony" "creekSpots" "[I" ∈ GW := GW_t 91 (by decide +kernel) rfl
theorem w_94 : Jvm.Cond.fieldLink "WidowRoads$Colony" (15 : Nat) "WidowRoads$Colony" "houseSpots" "[I" ∈ GW := GW_t 94 (by decide +kernel) rfl
theorem w_97 : Jvm.Cond.fieldLink "WidowRoads$Colony" (18 : Nat) "WidowRoads$Colony" "starts" "[I" ∈ GW := GW_t 97 (by decide +kernel) rfl
theorem w_101 : Jvm.Cond.fieldLink "WidowRoads$Colony" (21 : Nat) "WidowRoads$Colony" "faces" "[I" ∈ GW := GW_t 101 (by decide +kernel) rfl
theorem w_105 : Jvm.Cond.fieldLink "WidowRoads$Colony" (24 : Nat) "WidowRoads$Colony" "paces" "[I" ∈ GW := GW_t 105 (by decide +kernel) rfl
theorem w_109 : Jvm.Cond.fieldLink "WidowRoads$Colony" (27 : Nat) "WidowRoads$Colony" "years" "[I" ∈ GW := GW_t 109 (by decide +kernel) rfl
theorem w_113 : Jvm.Cond.fieldLink "WidowRoads$Colony" (30 : Nat) "WidowRoads$Colony" "turns" "[I" ∈ GW := GW_t 113 (by decide +kernel) rfl
theorem w_117 : Jvm.Cond.fieldLink "WidowRoads$Colony" (33 : Nat) "WidowRoads$Colony" "griefs" "[I" ∈ GW := GW_t 117 (by decide +kernel) rfl
theorem w_121 : Jvm.Cond.fieldLink "WidowRoads$Colony" (36 : Nat) "WidowRoads$Colony" "actsDone" "[I" ∈ GW := GW_t 121 (by decide +kernel) rfl
theorem w_162 : Jvm.Cond.arrayClass Jvm.ClassFile.FieldType.int ∈ GW := GW_t 162 (by decide +kernel) rfl
theorem w_163 : Jvm.Cond.fieldLink "WidowRoads$Reader" (32 : Nat) "WidowRoads$Reader" "fault" "I" ∈ GW := GW_t 163 (by decide +kernel) rfl
theorem w_165 : Jvm.Cond.fieldLink "WidowRoads$Reader" (9 : Nat) "WidowRoads$Reader" "place" "I" ∈ GW := GW_t 165 (by decide +kernel) rfl
theorem w_167 : Jvm.Cond.fieldLink "WidowRoads$Reader" (18 : Nat) "WidowRoads$Reader" "tape" "LWidowRoads$Tape;" ∈ GW := GW_t 167 (by decide +kernel) rfl
theorem w_169 : Jvm.Cond.fieldLink "WidowRoads$Reader" (25 : Nat) "WidowRoads$Reader" "into" "LWidowRoads$Colony;" ∈ GW := GW_t 169 (by decide +kernel) rfl
theorem w_171 : Jvm.Cond.fieldLink "WidowRoads$Reader" (41 : Nat) "WidowRoads$Reader" "kind" "I" ∈ GW := GW_t 171 (by decide +kernel) rfl
theorem w_172 : Jvm.Cond.fieldLink "WidowRoads$Reader" (69 : Nat) "WidowRoads$Reader" "start" "I" ∈ GW := GW_t 172 (by decide +kernel) rfl
theorem w_173 : Jvm.Cond.fieldLink "WidowRoads$Reader" (35 : Nat) "WidowRoads$Reader" "stop" "I" ∈ GW := GW_t 173 (by decide +kernel) rfl
theorem w_189 : Jvm.Cond.classLink "WidowRoads" (16 : Nat) "WidowRoads$Colony" ∈ GW := GW_t 189 (by decide +kernel) rfl
theorem w_192 : Jvm.Cond.classLink "WidowRoads" (27 : Nat) "WidowRoads$Supposal" ∈ GW := GW_t 192 (by decide +kernel) rfl
theorem w_193 : Jvm.Cond.instantiable "WidowRoads$Supposal" (6 : Nat) ∈ GW := GW_t 193 (by decide +kernel) rfl
theorem w_195 : Jvm.Cond.instanceMethod ({ cls := "WidowRoads$Supposal", name := "<init>", desc := "()V" } : Jvm.MethodName) ∈ GW := GW_t 195 (by decide +kernel) rfl
theorem w_196 : Jvm.Cond.code ({ cls := "WidowRoads$Supposal", name := "<init>", desc := "()V" } : Jvm.MethodName) prog_9_method_1_code (1 : Nat) (Option.none : Option Jvm.ClassFile.FieldType) ∈ GW := GW_t 196 (by decide +kernel) rfl
theorem w_197 : Jvm.Cond.methodLink "WidowRoads$Supposal" (3 : Nat) ({ cls := "java/lang/Object", name := "<init>", desc := "()V" } : Jvm.MethodName) ∈ GW := GW_t 197 (by decide +kernel) rfl
theorem w_198 : Jvm.Cond.fieldLink "WidowRoads$Supposal" (15 : Nat) "WidowRoads$Supposal" "rule" "I" ∈ GW := GW_t 198 (by decide +kernel) rfl
theorem w_201 : Jvm.Cond.fieldLink "WidowRoads$Supposal" (22 : Nat) "WidowRoads$Supposal" "walkers" "I" ∈ GW := GW_t 201 (by decide +kernel) rfl
theorem w_205 : Jvm.Cond.fieldLink "WidowRoads$Supposal" (29 : Nat) "WidowRoads$Supposal" "creeks" "J" ∈ GW := GW_t 205 (by decide +kernel) rfl
theorem w_208 : Jvm.Cond.fieldLink "WidowRoads$Supposal" (33 : Nat) "WidowRoads$Supposal" "widow" "I" ∈ GW := GW_t 208 (by decide +kernel) rfl
theorem w_210 : Jvm.Cond.fieldLink "WidowRoads$Supposal" (36 : Nat) "WidowRoads$Supposal" "faces" "I" ∈ GW := GW_t 210 (by decide +kernel) rfl
theorem w_212 : Jvm.Cond.fieldLink "WidowRoads$Supposal" (39 : Nat) "WidowRoads$Supposal" "turn" "I" ∈ GW := GW_t 212 (by decide +kernel) rfl
theorem w_227 : Jvm.Cond.classLink "WidowRoads" (34 : Nat) "WidowRoads$Story" ∈ GW := GW_t 227 (by decide +kernel) rfl
theorem w_228 : Jvm.Cond.instantiable "WidowRoads$Story" (12 : Nat) ∈ GW := GW_t 228 (by decide +kernel) rfl
theorem w_230 : Jvm.Cond.instanceMethod ({ cls := "WidowRoads$Story", name := "<init>", desc := "()V" } : Jvm.MethodName) ∈ GW := GW_t 230 (by decide +kernel) rfl
theorem w_231 : Jvm.Cond.code ({ cls := "WidowRoads$Story", name := "<init>", desc := "()V" } : Jvm.MethodName) prog_8_method_1_code (1 : Nat) (Option.none : Option Jvm.ClassFile.FieldType) ∈ GW := GW_t 231 (by decide +kernel) rfl
theorem w_232 : Jvm.Cond.methodLink "WidowRoads$Story" (3 : Nat) ({ cls := "java/lang/Object", name := "<init>", desc := "()V" } : Jvm.MethodName) ∈ GW := GW_t 232 (by decide +kernel) rfl
theorem w_233 : Jvm.Cond.fieldLink "WidowRoads$Story" (9 : Nat) "WidowRoads$Story" "paths" "[I" ∈ GW := GW_t 233 (by decide +kernel) rfl
theorem w_234 : Jvm.Cond.fieldLink "WidowRoads$Story" (15 : Nat) "WidowRoads$Story" "lasts" "[I" ∈ GW := GW_t 234 (by decide +kernel) rfl
theorem w_236 : Jvm.Cond.fieldLink "WidowRoads$Story" (18 : Nat) "WidowRoads$Story" "stood" "[I" ∈ GW := GW_t 236 (by decide +kernel) rfl
theorem w_238 : Jvm.Cond.fieldLink "WidowRoads$Story" (21 : Nat) "WidowRoads$Story" "been" "[J" ∈ GW := GW_t 238 (by decide +kernel) rfl
theorem w_240 : Jvm.Cond.fieldLink "WidowRoads$Story" (25 : Nat) "WidowRoads$Story" "shifted" "[I" ∈ GW := GW_t 240 (by decide +kernel) rfl
theorem w_242 : Jvm.Cond.fieldLink "WidowRoads$Story" (28 : Nat) "WidowRoads$Story" "shifts" "[I" ∈ GW := GW_t 242 (by decide +kernel) rfl
theorem w_244 : Jvm.Cond.fieldLink "WidowRoads$Story" (31 : Nat) "WidowRoads$Story" "homes" "[I" ∈ GW := GW_t 244 (by decide +kernel) rfl
theorem w_246 : Jvm.Cond.fieldLink "WidowRoads$Story" (34 : Nat) "WidowRoads$Story" "roads" "[J" ∈ GW := GW_t 246 (by decide +kernel) rfl
theorem w_250 : Jvm.Cond.fieldLink "WidowRoads$Story" (37 : Nat) "WidowRoads$Story" "across" "[J" ∈ GW := GW_t 250 (by decide +kernel) rfl
theorem w_252 : Jvm.Cond.fieldLink "WidowRoads$Story" (40 : Nat) "WidowRoads$Story" "down" "[J" ∈ GW := GW_t 252 (by decide +kernel) rfl
theorem w_254 : Jvm.Cond.fieldLink "WidowRoads$Story" (80 : Nat) "WidowRoads$Story" "field" "J" ∈ GW := GW_t 254 (by decide +kernel) rfl
theorem w_255 : Jvm.Cond.fieldLink "WidowRoads$Story" (86 : Nat) "WidowRoads$Story" "houses" "I" ∈ GW := GW_t 255 (by decide +kernel) rfl
theorem w_281 : Jvm.Cond.arrayClass Jvm.ClassFile.FieldType.long ∈ GW := GW_t 281 (by decide +kernel) rfl
theorem w_282 : Jvm.Cond.classLink "WidowRoads" (44 : Nat) "WidowRoads$Evenings" ∈ GW := GW_t 282 (by decide +kernel) rfl
theorem w_283 : Jvm.Cond.instantiable "WidowRoads$Evenings" (3 : Nat) ∈ GW := GW_t 283 (by decide +kernel) rfl
theorem w_285 : Jvm.Cond.instanceMethod ({ cls := "WidowRoads$Evenings", name := "<init>", desc := "()V" } : Jvm.MethodName) ∈ GW := GW_t 285 (by decide +kernel) rfl
theorem w_286 : Jvm.Cond.code ({ cls := "WidowRoads$Evenings", name := "<init>", desc := "()V" } : Jvm.MethodName) prog_3_method_1_code (1 : Nat) (Option.none : Option Jvm.ClassFile.FieldType) ∈ GW := GW_t 286 (by decide +kernel) rfl
theorem w_287 : Jvm.Cond.methodLink "WidowRoads$Evenings" (3 : Nat) ({ cls := "java/lang/Object", name := "<init>", desc := "()V" } : Jvm.MethodName) ∈ GW := GW_t 287 (by decide +kernel) rfl
theorem w_288 : Jvm.Cond.fieldLink "WidowRoads$Evenings" (9 : Nat) "WidowRoads$Evenings" "roads" "[J" ∈ GW := GW_t 288 (by decide +kernel) rfl
theorem w_289 : Jvm.Cond.fieldLink "WidowRoads$Evenings" (15 : Nat) "WidowRoads$Evenings" "pegs" "[I" ∈ GW := GW_t 289 (by decide +kernel) rfl
theorem w_300 : Jvm.Cond.classLink "WidowRoads" (51 : Nat) "WidowRoads$Net" ∈ GW := GW_t 300 (by decide +kernel) rfl
theorem w_301 : Jvm.Cond.instantiable "WidowRoads$Net" (3 : Nat) ∈ GW := GW_t 301 (by decide +kernel) rfl
theorem w_303 : Jvm.Cond.instanceMethod ({ cls := "WidowRoads$Net", name := "<init>", desc := "()V" } : Jvm.MethodName) ∈ GW := GW_t 303 (by decide +kernel) rfl
theorem w_304 : Jvm.Cond.code ({ cls := "WidowRoads$Net", name := "<init>", desc := "()V" } : Jvm.MethodName) prog_5_method_1_code (1 : Nat) (Option.none : Option Jvm.ClassFile.FieldType) ∈ GW := GW_t 304 (by decide +kernel) rfl
theorem w_305 : Jvm.Cond.methodLink "WidowRoads$Net" (3 : Nat) ({ cls := "java/lang/Object", name := "<init>", desc := "()V" } : Jvm.MethodName) ∈ GW := GW_t 305 (by decide +kernel) rfl
theorem w_316 : Jvm.Cond.classLink "WidowRoads" (58 : Nat) "WidowRoads$Rows" ∈ GW := GW_t 316 (by decide +kernel) rfl
theorem w_317 : Jvm.Cond.instantiable "WidowRoads$Rows" (4 : Nat) ∈ GW := GW_t 317 (by decide +kernel) rfl
theorem w_319 : Jvm.Cond.instanceMethod ({ cls := "WidowRoads$Rows", name := "<init>", desc := "()V" } : Jvm.MethodName) ∈ GW := GW_t 319 (by decide +kernel) rfl
theorem w_320 : Jvm.Cond.code ({ cls := "WidowRoads$Rows", name := "<init>", desc := "()V" } : Jvm.MethodName) prog_7_method_1_code (1 : Nat) (Option.none : Option Jvm.ClassFile.FieldType) ∈ GW := GW_t 320 (by decide +kernel) rfl
theorem w_321 : Jvm.Cond.methodLink "WidowRoads$Rows" (3 : Nat) ({ cls := "java/lang/Object", name := "<init>", desc := "()V" } : Jvm.MethodName) ∈ GW := GW_t 321 (by decide +kernel) rfl
theorem w_322 : Jvm.Cond.fieldLink "WidowRoads$Rows" (9 : Nat) "WidowRoads$Rows" "numbers" "[J" ∈ GW := GW_t 322 (by decide +kernel) rfl
theorem w_323 : Jvm.Cond.fieldLink "WidowRoads$Rows" (15 : Nat) "WidowRoads$Rows" "had" "[Z" ∈ GW := GW_t 323 (by decide +kernel) rfl
theorem w_324 : Jvm.Cond.fieldLink "WidowRoads$Rows" (19 : Nat) "WidowRoads$Rows" "widths" "[I" ∈ GW := GW_t 324 (by decide +kernel) rfl
theorem w_326 : Jvm.Cond.fieldLink "WidowRoads$Rows" (23 : Nat) "WidowRoads$Rows" "sizes" "[I" ∈ GW := GW_t 326 (by decide +kernel) rfl
theorem w_337 : Jvm.Cond.arrayClass Jvm.ClassFile.FieldType.boolean ∈ GW := GW_t 337 (by decide +kernel) rfl
theorem w_338 : Jvm.Cond.classLink "WidowRoads" (65 : Nat) "WidowRoads$Fraction" ∈ GW := GW_t 338 (by decide +kernel) rfl
theorem w_339 : Jvm.Cond.instantiable "WidowRoads$Fraction" (2 : Nat) ∈ GW := GW_t 339 (by decide +kernel) rfl
theorem w_341 : Jvm.Cond.instanceMethod ({ cls := "WidowRoads$Fraction", name := "<init>", desc := "()V" } : Jvm.MethodName) ∈ GW := GW_t 341 (by decide +kernel) rfl
theorem w_342 : Jvm.Cond.code ({ cls := "WidowRoads$Fraction", name := "<init>", desc := "()V" } : Jvm.MethodName) prog_4_method_1_code (1 : Nat) (Option.none : Option Jvm.ClassFile.FieldType) ∈ GW := GW_t 342 (by decide +kernel) rfl
theorem w_343 : Jvm.Cond.methodLink "WidowRoads$Fraction" (1 : Nat) ({ cls := "java/lang/Object", name := "<init>", desc := "()V" } : Jvm.MethodName) ∈ GW := GW_t 343 (by decide +kernel) rfl
theorem w_345 : Jvm.Cond.fieldLink "WidowRoads$Fraction" (7 : Nat) "WidowRoads$Fraction" "below" "J" ∈ GW := GW_t 345 (by decide +kernel) rfl
theorem w_351 : Jvm.Cond.fieldLink "WidowRoads" (12 : Nat) "WidowRoads" "reader" "LWidowRoads$Reader;" ∈ GW := GW_t 351 (by decide +kernel) rfl
theorem w_352 : Jvm.Cond.fieldLink "WidowRoads" (19 : Nat) "WidowRoads" "told" "LWidowRoads$Colony;" ∈ GW := GW_t 352 (by decide +kernel) rfl
theorem w_353 : Jvm.Cond.fieldLink "WidowRoads" (23 : Nat) "WidowRoads" "images" "[LWidowRoads$Colony;" ∈ GW := GW_t 353 (by decide +kernel) rfl
theorem w_354 : Jvm.Cond.fieldLink "WidowRoads" (30 : Nat) "WidowRoads" "supposal" "LWidowRoads$Supposal;" ∈ GW := GW_t 354 (by decide +kernel) rfl
theorem w_355 : Jvm.Cond.fieldLink "WidowRoads" (37 : Nat) "WidowRoads" "now" "LWidowRoads$Story;" ∈ GW := GW_t 355 (by decide +kernel) rfl
theorem w_356 : Jvm.Cond.fieldLink "WidowRoads" (41 : Nat) "WidowRoads" "spare" "LWidowRoads$Story;" ∈ GW := GW_t 356 (by decide +kernel) rfl
theorem w_357 : Jvm.Cond.fieldLink "WidowRoads" (47 : Nat) "WidowRoads" "evenings" "LWidowRoads$Evenings;" ∈ GW := GW_t 357 (by decide +kernel) rfl
theorem w_358 : Jvm.Cond.fieldLink "WidowRoads" (54 : Nat) "WidowRoads" "net" "LWidowRoads$Net;" ∈ GW := GW_t 358 (by decide +kernel) rfl
theorem w_359 : Jvm.Cond.fieldLink "WidowRoads" (61 : Nat) "WidowRoads" "rows" "LWidowRoads$Rows;" ∈ GW := GW_t 359 (by decide +kernel) rfl
theorem w_360 : Jvm.Cond.fieldLink "WidowRoads" (68 : Nat) "WidowRoads" "fraction" "LWidowRoads$Fraction;" ∈ GW := GW_t 360 (by decide +kernel) rfl
theorem w_361 : Jvm.Cond.fieldLink "WidowRoads" (72 : Nat) "WidowRoads" "tracks" "[I" ∈ GW := GW_t 361 (by decide +kernel) rfl
theorem w_391 : Jvm.Cond.instanceMethod ({ cls := "WidowRoads$Tape", name := "put", desc := "(I)V" } : Jvm.MethodName) ∈ GW := GW_t 391 (by decide +kernel) rfl
theorem w_392 : Jvm.Cond.code ({ cls := "WidowRoads$Tape", name := "put", desc := "(I)V" } : Jvm.MethodName) prog_10_method_2_code (3 : Nat) (Option.none : Option Jvm.ClassFile.FieldType) ∈ GW := GW_t 392 (by decide +kernel) rfl
theorem w_403 : Jvm.Cond.instanceMethod ({ cls := "WidowRoads$Reader", name := "read", desc := "()V" } : Jvm.MethodName) ∈ GW := GW_t 403 (by decide +kernel) rfl
theorem w_404 : Jvm.Cond.code ({ cls := "WidowRoads$Reader", name := "read", desc := "()V" } : Jvm.MethodName) prog_6_method_2_code (2 : Nat) (Option.none : Option Jvm.ClassFile.FieldType) ∈ GW := GW_t 404 (by decide +kernel) rfl
theorem w_407 : Jvm.Cond.instanceMethod ({ cls := "WidowRoads$Colony", name := "clear", desc := "()V" } : Jvm.MethodName) ∈ GW := GW_t 407 (by decide +kernel) rfl
theorem w_408 : Jvm.Cond.code ({ cls := "WidowRoads$Colony", name := "clear", desc := "()V" } : Jvm.MethodName) prog_2_method_2_code (1 : Nat) (Option.none : Option Jvm.ClassFile.FieldType) ∈ GW := GW_t 408 (by decide +kernel) rfl
theorem w_409 : Jvm.Cond.methodLink "WidowRoads$Reader" (38 : Nat) ({ cls := "WidowRoads$Reader", name := "next", desc := "()V" } : Jvm.MethodName) ∈ GW := GW_t 409 (by decide +kernel) rfl
theorem w_411 : Jvm.Cond.instanceMethod ({ cls := "WidowRoads$Reader", name := "next", desc := "()V" } : Jvm.MethodName) ∈ GW := GW_t 411 (by decide +kernel) rfl
theorem w_412 : Jvm.Cond.code ({ cls := "WidowRoads$Reader", name := "next", desc := "()V" } : Jvm.MethodName) prog_6_method_5_code (2 : Nat) (Option.none : Option Jvm.ClassFile.FieldType) ∈ GW := GW_t 412 (by decide +kernel) rfl
theorem w_415 : Jvm.Cond.instanceMethod ({ cls := "WidowRoads$Tape", name := "byteAt", desc := "(I)I" } : Jvm.MethodName) ∈ GW := GW_t 415 (by decide +kernel) rfl
theorem w_416 : Jvm.Cond.code ({ cls := "WidowRoads$Tape", name := "byteAt", desc := "(I)I" } : Jvm.MethodName) prog_10_method_3_code (2 : Nat) (Option.some Jvm.ClassFile.FieldType.int) ∈ GW := GW_t 416 (by decide +kernel) rfl
theorem w_417 : Jvm.Cond.methodLink "WidowRoads$Reader" (83 : Nat) ({ cls := "WidowRoads$Reader", name := "isBlank", desc := "(I)Z" } : Jvm.MethodName) ∈ GW := GW_t 417 (by decide +kernel) rfl
theorem w_418 : Jvm.Cond.static ({ cls := "WidowRoads$Reader", name := "isBlank", desc := "(I)Z" } : Jvm.MethodName) ∈ GW := GW_t 418 (by decide +kernel) rfl
theorem w_419 : Jvm.Cond.code ({ cls := "WidowRoads$Reader", name := "isBlank", desc := "(I)Z" } : Jvm.MethodName) prog_6_method_17_code (1 : Nat) (Option.some Jvm.ClassFile.FieldType.boolean) ∈ GW := GW_t 419 (by decide +kernel) rfl
theorem w_515 : Jvm.Cond.instanceMethod ({ cls := "WidowRoads$Colony", name := "creekBits", desc := "()J" } : Jvm.MethodName) ∈ GW := GW_t 515 (by decide +kernel) rfl
theorem w_516 : Jvm.Cond.code ({ cls := "WidowRoads$Colony", name := "creekBits", desc := "()J" } : Jvm.MethodName) prog_2_method_9_code (4 : Nat) (Option.some Jvm.ClassFile.FieldType.long) ∈ GW := GW_t 516 (by decide +kernel) rfl
theorem w_564 : Jvm.Cond.instanceMethod ({ cls := "WidowRoads$Colony", name := "become", desc := "(LWidowRoads$Colony;)V" } : Jvm.MethodName) ∈ GW := GW_t 564 (by decide +kernel) rfl
theorem w_565 : Jvm.Cond.code ({ cls := "WidowRoads$Colony", name := "become", desc := "(LWidowRoads$Colony;)V" } : Jvm.MethodName) prog_2_method_3_code (2 : Nat) (Option.none : Option Jvm.ClassFile.FieldType) ∈ GW := GW_t 565 (by decide +kernel) rfl
theorem w_566 : Jvm.Cond.methodLink "WidowRoads$Colony" (70 : Nat) ({ cls := "java/lang/System", name := "arraycopy", desc := "(Ljava/lang/Object;ILjava/lang/Object;II)V" } : Jvm.MethodName) ∈ GW := GW_t 566 (by decide +kernel) rfl
theorem w_567 : Jvm.Cond.static ({ cls := "java/lang/System", name := "arraycopy", desc := "(Ljava/lang/Object;ILjava/lang/Object;II)V" } : Jvm.MethodName) ∈ GW := GW_t 567 (by decide +kernel) rfl
theorem w_568 : Jvm.Cond.native ({ cls := "java/lang/System", name := "arraycopy", desc := "(Ljava/lang/Object;ILjava/lang/Object;II)V" } : Jvm.MethodName) ∈ GW := GW_t 568 (by decide +kernel) rfl
theorem w_569 : Jvm.Cond.methodLink "WidowRoads" (103 : Nat) ({ cls := "WidowRoads", name := "walkAnew", desc := "()V" } : Jvm.MethodName) ∈ GW := GW_t 569 (by decide +kernel) rfl
theorem w_571 : Jvm.Cond.instanceMethod ({ cls := "WidowRoads", name := "walkAnew", desc := "()V" } : Jvm.MethodName) ∈ GW := GW_t 571 (by decide +kernel) rfl
theorem w_572 : Jvm.Cond.code ({ cls := "WidowRoads", name := "walkAnew", desc := "()V" } : Jvm.MethodName) prog_1_method_70_code (1 : Nat) (Option.none : Option Jvm.ClassFile.FieldType) ∈ GW := GW_t 572 (by decide +kernel) rfl
theorem w_575 : Jvm.Cond.instanceMethod ({ cls := "WidowRoads$Supposal", name := "asNow", desc := "(LWidowRoads$Colony;)V" } : Jvm.MethodName) ∈ GW := GW_t 575 (by decide +kernel) rfl
theorem w_576 : Jvm.Cond.code ({ cls := "WidowRoads$Supposal", name := "asNow", desc := "(LWidowRoads$Colony;)V" } : Jvm.MethodName) prog_9_method_2_code (2 : Nat) (Option.none : Option Jvm.ClassFile.FieldType) ∈ GW := GW_t 576 (by decide +kernel) rfl
theorem w_579 : Jvm.Cond.instanceMethod ({ cls := "WidowRoads$Colony", name := "walkerBits", desc := "()I" } : Jvm.MethodName) ∈ GW := GW_t 579 (by decide +kernel) rfl
theorem w_580 : Jvm.Cond.code ({ cls := "WidowRoads$Colony", name := "walkerBits", desc := "()I" } : Jvm.MethodName) prog_2_method_11_code (3 : Nat) (Option.some Jvm.ClassFile.FieldType.int) ∈ GW := GW_t 580 (by decide +kernel) rfl
theorem w_584 : Jvm.Cond.instanceMethod ({ cls := "WidowRoads$Story", name := "tell", desc := "(LWidowRoads$Colony;LWidowRoads$Supposal;)V" } : Jvm.MethodName) ∈ GW := GW_t 584 (by decide +kernel) rfl
theorem w_585 : Jvm.Cond.code ({ cls := "WidowRoads$Story", name := "tell", desc := "(LWidowRoads$Colony;LWidowRoads$Supposal;)V" } : Jvm.MethodName) prog_8_method_2_code (5 : Nat) (Option.none : Option Jvm.ClassFile.FieldType) ∈ GW := GW_t 585 (by decide +kernel) rfl
theorem w_586 : Jvm.Cond.methodLink "WidowRoads$Story" (43 : Nat) ({ cls := "WidowRoads$Story", name := "begin", desc := "(LWidowRoads$Colony;)V" } : Jvm.MethodName) ∈ GW := GW_t 586 (by decide +kernel) rfl
theorem w_588 : Jvm.Cond.instanceMethod ({ cls := "WidowRoads$Story", name := "begin", desc := "(LWidowRoads$Colony;)V" } : Jvm.MethodName) ∈ GW := GW_t 588 (by decide +kernel) rfl
theorem w_589 : Jvm.Cond.code ({ cls := "WidowRoads$Story", name := "begin", desc := "(LWidowRoads$Colony;)V" } : Jvm.MethodName) prog_8_method_3_code (3 : Nat) (Option.none : Option Jvm.ClassFile.FieldType) ∈ GW := GW_t 589 (by decide +kernel) rfl
theorem w_592 : Jvm.Cond.instanceMethod ({ cls := "WidowRoads$Colony", name := "field", desc := "()J" } : Jvm.MethodName) ∈ GW := GW_t 592 (by decide +kernel) rfl
theorem w_593 : Jvm.Cond.code ({ cls := "WidowRoads$Colony", name := "field", desc := "()J" } : Jvm.MethodName) prog_2_method_8_code (4 : Nat) (Option.some Jvm.ClassFile.FieldType.long) ∈ GW := GW_t 593 (by decide +kernel) rfl
theorem w_655 : Jvm.Cond.instanceMethod ({ cls := "WidowRoads$Colony", name := "spotOf", desc := "(J)I" } : Jvm.MethodName) ∈ GW := GW_t 655 (by decide +kernel) rfl
theorem w_656 : Jvm.Cond.code ({ cls := "WidowRoads$Colony", name := "spotOf", desc := "(J)I" } : Jvm.MethodName) prog_2_method_7_code (3 : Nat) (Option.some Jvm.ClassFile.FieldType.int) ∈ GW := GW_t 656 (by decide +kernel) rfl
theorem w_657 : Jvm.Cond.constantLong "WidowRoads$Colony" (76 : Nat) (10 : Int64) ∈ GW := GW_t 657 (by decide +kernel) rfl
theorem w_662 : Jvm.Cond.static ({ cls := "WidowRoads", name := "oneIf", desc := "(Z)I" } : Jvm.MethodName) ∈ GW := GW_t 662 (by decide +kernel) rfl
theorem w_663 : Jvm.Cond.code ({ cls := "WidowRoads", name := "oneIf", desc := "(Z)I" } : Jvm.MethodName) prog_1_method_89_code (1 : Nat) (Option.some Jvm.ClassFile.FieldType.int) ∈ GW := GW_t 663 (by decide +kernel) rfl
theorem w_670 : Jvm.Cond.instanceMethod ({ cls := "WidowRoads$Colony", name := "hasWidow", desc := "(J)Z" } : Jvm.MethodName) ∈ GW := GW_t 670 (by decide +kernel) rfl
theorem w_671 : Jvm.Cond.code ({ cls := "WidowRoads$Colony", name := "hasWidow", desc := "(J)Z" } : Jvm.MethodName) prog_2_method_4_code (3 : Nat) (Option.some Jvm.ClassFile.FieldType.boolean) ∈ GW := GW_t 671 (by decide +kernel) rfl
theorem w_726 : Jvm.Cond.instanceMethod ({ cls := "WidowRoads$Colony", name := "hasYear", desc := "(I)Z" } : Jvm.MethodName) ∈ GW := GW_t 726 (by decide +kernel) rfl
theorem w_727 : Jvm.Cond.code ({ cls := "WidowRoads$Colony", name := "hasYear", desc := "(I)Z" } : Jvm.MethodName) prog_2_method_6_code (2 : Nat) (Option.some Jvm.ClassFile.FieldType.boolean) ∈ GW := GW_t 727 (by decide +kernel) rfl
theorem w_892 : Jvm.Cond.instanceMethod ({ cls := "WidowRoads$Colony", name := "hasHouse", desc := "(I)Z" } : Jvm.MethodName) ∈ GW := GW_t 892 (by decide +kernel) rfl
theorem w_893 : Jvm.Cond.code ({ cls := "WidowRoads$Colony", name := "hasHouse", desc := "(I)Z" } : Jvm.MethodName) prog_2_method_5_code (2 : Nat) (Option.some Jvm.ClassFile.FieldType.boolean) ∈ GW := GW_t 893 (by decide +kernel) rfl
theorem w_943 : Jvm.Cond.methodLink "WidowRoads" (295 : Nat) ({ cls := "WidowRoads", name := "refusalOfSeen", desc := "(II)I" } : Jvm.MethodName) ∈ GW := GW_t 943 (by decide +kernel) rfl
theorem w_945 : Jvm.Cond.instanceMethod ({ cls := "WidowRoads", name := "refusalOfSeen", desc := "(II)I" } : Jvm.MethodName) ∈ GW := GW_t 945 (by decide +kernel) rfl
theorem w_946 : Jvm.Cond.code ({ cls := "WidowRoads", name := "refusalOfSeen", desc := "(II)I" } : Jvm.MethodName) prog_1_method_76_code (3 : Nat) (Option.some Jvm.ClassFile.FieldType.int) ∈ GW := GW_t 946 (by decide +kernel) rfl
theorem w_947 : Jvm.Cond.methodLink "WidowRoads" (317 : Nat) ({ cls := "WidowRoads", name := "refusalOfRow", desc := "(I)I" } : Jvm.MethodName) ∈ GW := GW_t 947 (by decide +kernel) rfl
theorem w_949 : Jvm.Cond.instanceMethod ({ cls := "WidowRoads", name := "refusalOfRow", desc := "(I)I" } : Jvm.MethodName) ∈ GW := GW_t 949 (by decide +kernel) rfl
theorem w_950 : Jvm.Cond.code ({ cls := "WidowRoads", name := "refusalOfRow", desc := "(I)I" } : Jvm.MethodName) prog_1_method_77_code (2 : Nat) (Option.some Jvm.ClassFile.FieldType.int) ∈ GW := GW_t 950 (by decide +kernel) rfl
theorem w_951 : Jvm.Cond.methodLink "WidowRoads" (388 : Nat) ({ cls := "WidowRoads", name := "isSlot", desc := "(I)Z" } : Jvm.MethodName) ∈ GW := GW_t 951 (by decide +kernel) rfl
theorem w_952 : Jvm.Cond.static ({ cls := "WidowRoads", name := "isSlot", desc := "(I)Z" } : Jvm.MethodName) ∈ GW := GW_t 952 (by decide +kernel) rfl
theorem w_953 : Jvm.Cond.code ({ cls := "WidowRoads", name := "isSlot", desc := "(I)Z" } : Jvm.MethodName) prog_1_method_86_code (1 : Nat) (Option.some Jvm.ClassFile.FieldType.boolean) ∈ GW := GW_t 953 (by decide +kernel) rfl
theorem w_956 : Jvm.Cond.instanceMethod ({ cls := "WidowRoads$Rows", name := "empty", desc := "(I)Z" } : Jvm.MethodName) ∈ GW := GW_t 956 (by decide +kernel) rfl
theorem w_957 : Jvm.Cond.code ({ cls := "WidowRoads$Rows", name := "empty", desc := "(I)Z" } : Jvm.MethodName) prog_7_method_2_code (2 : Nat) (Option.some Jvm.ClassFile.FieldType.boolean) ∈ GW := GW_t 957 (by decide +kernel) rfl
theorem w_1025 : Jvm.Cond.constant "WidowRoads" (333 : Nat) (-1000000 : Int32) ∈ GW := GW_t 1025 (by decide +kernel) rfl
theorem w_1049 : Jvm.Cond.methodLink "WidowRoads" (341 : Nat) ({ cls := "WidowRoads", name := "areTwo", desc := "(II)Z" } : Jvm.MethodName) ∈ GW := GW_t 1049 (by decide +kernel) rfl
theorem w_1051 : Jvm.Cond.instanceMethod ({ cls := "WidowRoads", name := "areTwo", desc := "(II)Z" } : Jvm.MethodName) ∈ GW := GW_t 1051 (by decide +kernel) rfl
theorem w_1052 : Jvm.Cond.code ({ cls := "WidowRoads", name := "areTwo", desc := "(II)Z" } : Jvm.MethodName) prog_1_method_84_code (3 : Nat) (Option.some Jvm.ClassFile.FieldType.boolean) ∈ GW := GW_t 1052 (by decide +kernel) rfl
theorem w_1073 : Jvm.Cond.constantLong "WidowRoads" (349 : Nat) (-2 : Int64) ∈ GW := GW_t 1073 (by decide +kernel) rfl
theorem w_1144 : Jvm.Cond.instanceMethod ({ cls := "WidowRoads$Rows", name := "many", desc := "()I" } : Jvm.MethodName) ∈ GW := GW_t 1144 (by decide +kernel) rfl
theorem w_1145 : Jvm.Cond.code ({ cls := "WidowRoads$Rows", name := "many", desc := "()I" } : Jvm.MethodName) prog_7_method_3_code (3 : Nat) (Option.some Jvm.ClassFile.FieldType.int) ∈ GW := GW_t 1145 (by decide +kernel) rfl
theorem w_1161 : Jvm.Cond.instanceMethod ({ cls := "WidowRoads$Rows", name := "clear", desc := "(III)V" } : Jvm.MethodName) ∈ GW := GW_t 1161 (by decide +kernel) rfl
theorem w_1162 : Jvm.Cond.code ({ cls := "WidowRoads$Rows", name := "clear", desc := "(III)V" } : Jvm.MethodName) prog_7_method_4_code (5 : Nat) (Option.none : Option Jvm.ClassFile.FieldType) ∈ GW := GW_t 1162 (by decide +kernel) rfl
theorem iG_X0 : ∀ w ∈ wsX00, w ∈ GW := GW_in [123, 125, 127, 129, 131, 133, 135, 137, 139, 141, 143, 145, 147, 149, 151, 153, 155, 157, 159] (by decide +kernel) (by decide +kernel)
theorem iG_X1 : ∀ w ∈ wsX10, w ∈ GW := GW_in [293, 295, 297] (by decide +kernel) (by decide +kernel)
theorem iG_X2 : ∀ w ∈ wsX20, w ∈ GW := GW_in [346, 348] (by decide +kernel) (by decide +kernel)
theorem iG_X3 : ∀ w ∈ wsX30, w ∈ GW := GW_in [309, 311, 313] (by decide +kernel) (by decide +kernel)
theorem iG_X4 : ∀ w ∈ wsX40, w ∈ GW := GW_in [174, 176, 178, 180, 182, 184, 186] (by decide +kernel) (by decide +kernel)
theorem iG_X5 : ∀ w ∈ wsX50, w ∈ GW := GW_in [328, 330, 332, 334] (by decide +kernel) (by decide +kernel)
theorem iG_X6 : ∀ w ∈ wsX60, w ∈ GW := GW_in [256, 258, 260, 262, 264, 266, 268, 270, 272, 274, 276, 278] (by decide +kernel) (by decide +kernel)
theorem iG_X7 : ∀ w ∈ wsX70, w ∈ GW := GW_in [214, 216, 218, 220, 222, 224] (by decide +kernel) (by decide +kernel)
theorem iG_X8 : ∀ w ∈ wsX80, w ∈ GW := GW_in [43, 45] (by decide +kernel) (by decide +kernel)
theorem iG_X9 : ∀ w ∈ wsX90, w ∈ GW := GW_in [362, 364, 366, 368, 370, 372, 374, 376, 378, 380, 382] (by decide +kernel) (by decide +kernel)
theorem nw_30 : Jvm.Cond.methodLinkNest "WidowRoads" (11 : Nat) ({ cls := "WidowRoads$Reader", name := "<init>", desc := "()V" } : Jvm.MethodName) "WidowRoads" ∈ tables_1 := List.mem_of_getElem? (i := 30) (by decide +kernel)
theorem nw_36 : Jvm.Cond.methodLinkNest "WidowRoads$Reader" (17 : Nat) ({ cls := "WidowRoads$Tape", name := "<init>", desc := "()V" } : Jvm.MethodName) "WidowRoads" ∈ tables_1 := List.mem_of_getElem? (i := 36) (by decide +kernel)
theorem nw_41 : Jvm.Cond.fieldLinkNest "WidowRoads" (80 : Nat) "WidowRoads$Tape" "length" "I" "WidowRoads" ∈ tables_1 := List.mem_of_getElem? (i := 41) (by decide +kernel)
theorem nw_51 : Jvm.Cond.methodLinkNest "WidowRoads$Reader" (24 : Nat) ({ cls := "WidowRoads$Colony", name := "<init>", desc := "()V" } : Jvm.MethodName) "WidowRoads" ∈ tables_1 := List.mem_of_getElem? (i := 51) (by decide +kernel)
theorem nw_57 : Jvm.Cond.fieldLinkNest "WidowRoads" (106 : Nat) "WidowRoads$Colony" "lines" "I" "WidowRoads" ∈ tables_1 := List.mem_of_getElem? (i := 57) (by decide +kernel)
theorem nw_59 : Jvm.Cond.fieldLinkNest "WidowRoads$Story" (47 : Nat) "WidowRoads$Colony" "span" "I" "WidowRoads" ∈ tables_1 := List.mem_of_getElem? (i := 59) (by decide +kernel)
theorem nw_62 : Jvm.Cond.fieldLinkNest "WidowRoads" (186 : Nat) "WidowRoads$Colony" "span" "I" "WidowRoads" ∈ tables_1 := List.mem_of_getElem? (i := 62) (by decide +kernel)
theorem nw_63 : Jvm.Cond.fieldLinkNest "WidowRoads$Supposal" (9 : Nat) "WidowRoads$Colony" "rule" "I" "WidowRoads" ∈ tables_1 := List.mem_of_getElem? (i := 63) (by decide +kernel)
theorem nw_66 : Jvm.Cond.fieldLinkNest "WidowRoads" (373 : Nat) "WidowRoads$Colony" "rule" "I" "WidowRoads" ∈ tables_1 := List.mem_of_getElem? (i := 66) (by decide +kernel)
theorem nw_70 : Jvm.Cond.fieldLinkNest "WidowRoads" (376 : Nat) "WidowRoads$Colony" "odds" "I" "WidowRoads" ∈ tables_1 := List.mem_of_getElem? (i := 70) (by decide +kernel)
theorem nw_73 : Jvm.Cond.fieldLinkNest "WidowRoads" (379 : Nat) "WidowRoads$Colony" "wide" "I" "WidowRoads" ∈ tables_1 := List.mem_of_getElem? (i := 73) (by decide +kernel)
theorem nw_76 : Jvm.Cond.fieldLinkNest "WidowRoads" (382 : Nat) "WidowRoads$Colony" "high" "I" "WidowRoads" ∈ tables_1 := List.mem_of_getElem? (i := 76) (by decide +kernel)
theorem nw_79 : Jvm.Cond.fieldLinkNest "WidowRoads" (281 : Nat) "WidowRoads$Colony" "creeks" "I" "WidowRoads" ∈ tables_1 := List.mem_of_getElem? (i := 79) (by decide +kernel)
theorem nw_81 : Jvm.Cond.fieldLinkNest "WidowRoads$Story" (83 : Nat) "WidowRoads$Colony" "houses" "I" "WidowRoads" ∈ tables_1 := List.mem_of_getElem? (i := 81) (by decide +kernel)
theorem nw_83 : Jvm.Cond.fieldLinkNest "WidowRoads" (259 : Nat) "WidowRoads$Colony" "houses" "I" "WidowRoads" ∈ tables_1 := List.mem_of_getElem? (i := 83) (by decide +kernel)
theorem nw_88 : Jvm.Cond.fieldLinkNest "WidowRoads" (189 : Nat) "WidowRoads$Colony" "widows" "I" "WidowRoads" ∈ tables_1 := List.mem_of_getElem? (i := 88) (by decide +kernel)
theorem nw_90 : Jvm.Cond.fieldLinkNest "WidowRoads" (361 : Nat) "WidowRoads$Colony" "acts" "I" "WidowRoads" ∈ tables_1 := List.mem_of_getElem? (i := 90) (by decide +kernel)
theorem nw_164 : Jvm.Cond.fieldLinkNest "WidowRoads" (93 : Nat) "WidowRoads$Reader" "fault" "I" "WidowRoads" ∈ tables_1 := List.mem_of_getElem? (i := 164) (by decide +kernel)
theorem nw_166 : Jvm.Cond.fieldLinkNest "WidowRoads" (109 : Nat) "WidowRoads$Reader" "place" "I" "WidowRoads" ∈ tables_1 := List.mem_of_getElem? (i := 166) (by decide +kernel)
theorem nw_168 : Jvm.Cond.fieldLinkNest "WidowRoads" (76 : Nat) "WidowRoads$Reader" "tape" "LWidowRoads$Tape;" "WidowRoads" ∈ tables_1 := List.mem_of_getElem? (i := 168) (by decide +kernel)
theorem nw_170 : Jvm.Cond.fieldLinkNest "WidowRoads" (96 : Nat) "WidowRoads$Reader" "into" "LWidowRoads$Colony;" "WidowRoads" ∈ tables_1 := List.mem_of_getElem? (i := 170) (by decide +kernel)
theorem nw_190 : Jvm.Cond.methodLinkNest "WidowRoads" (18 : Nat) ({ cls := "WidowRoads$Colony", name := "<init>", desc := "()V" } : Jvm.MethodName) "WidowRoads" ∈ tables_1 := List.mem_of_getElem? (i := 190) (by decide +kernel)
theorem nw_194 : Jvm.Cond.methodLinkNest "WidowRoads" (29 : Nat) ({ cls := "WidowRoads$Supposal", name := "<init>", desc := "()V" } : Jvm.MethodName) "WidowRoads" ∈ tables_1 := List.mem_of_getElem? (i := 194) (by decide +kernel)
theorem nw_229 : Jvm.Cond.methodLinkNest "WidowRoads" (36 : Nat) ({ cls := "WidowRoads$Story", name := "<init>", desc := "()V" } : Jvm.MethodName) "WidowRoads" ∈ tables_1 := List.mem_of_getElem? (i := 229) (by decide +kernel)
theorem nw_284 : Jvm.Cond.methodLinkNest "WidowRoads" (46 : Nat) ({ cls := "WidowRoads$Evenings", name := "<init>", desc := "()V" } : Jvm.MethodName) "WidowRoads" ∈ tables_1 := List.mem_of_getElem? (i := 284) (by decide +kernel)
theorem nw_292 : Jvm.Cond.fieldLinkNest "WidowRoads" (415 : Nat) "WidowRoads$Evenings" "known" "Z" "WidowRoads" ∈ tables_1 := List.mem_of_getElem? (i := 292) (by decide +kernel)
theorem nw_302 : Jvm.Cond.methodLinkNest "WidowRoads" (53 : Nat) ({ cls := "WidowRoads$Net", name := "<init>", desc := "()V" } : Jvm.MethodName) "WidowRoads" ∈ tables_1 := List.mem_of_getElem? (i := 302) (by decide +kernel)
theorem nw_318 : Jvm.Cond.methodLinkNest "WidowRoads" (60 : Nat) ({ cls := "WidowRoads$Rows", name := "<init>", desc := "()V" } : Jvm.MethodName) "WidowRoads" ∈ tables_1 := List.mem_of_getElem? (i := 318) (by decide +kernel)
theorem nw_340 : Jvm.Cond.methodLinkNest "WidowRoads" (67 : Nat) ({ cls := "WidowRoads$Fraction", name := "<init>", desc := "()V" } : Jvm.MethodName) "WidowRoads" ∈ tables_1 := List.mem_of_getElem? (i := 340) (by decide +kernel)
theorem nw_389 : Jvm.Cond.methodLinkNest "WidowRoads" (86 : Nat) ({ cls := "WidowRoads$Tape", name := "put", desc := "(I)V" } : Jvm.MethodName) "WidowRoads" ∈ tables_1 := List.mem_of_getElem? (i := 389) (by decide +kernel)
theorem nw_401 : Jvm.Cond.methodLinkNest "WidowRoads" (90 : Nat) ({ cls := "WidowRoads$Reader", name := "read", desc := "()V" } : Jvm.MethodName) "WidowRoads" ∈ tables_1 := List.mem_of_getElem? (i := 401) (by decide +kernel)
theorem nw_405 : Jvm.Cond.methodLinkNest "WidowRoads$Reader" (29 : Nat) ({ cls := "WidowRoads$Colony", name := "clear", desc := "()V" } : Jvm.MethodName) "WidowRoads" ∈ tables_1 := List.mem_of_getElem? (i := 405) (by decide +kernel)
theorem nw_413 : Jvm.Cond.methodLinkNest "WidowRoads$Reader" (79 : Nat) ({ cls := "WidowRoads$Tape", name := "byteAt", desc := "(I)I" } : Jvm.MethodName) "WidowRoads" ∈ tables_1 := List.mem_of_getElem? (i := 413) (by decide +kernel)
theorem nw_562 : Jvm.Cond.methodLinkNest "WidowRoads" (99 : Nat) ({ cls := "WidowRoads$Colony", name := "become", desc := "(LWidowRoads$Colony;)V" } : Jvm.MethodName) "WidowRoads" ∈ tables_1 := List.mem_of_getElem? (i := 562) (by decide +kernel)
theorem nw_573 : Jvm.Cond.methodLinkNest "WidowRoads" (271 : Nat) ({ cls := "WidowRoads$Supposal", name := "asNow", desc := "(LWidowRoads$Colony;)V" } : Jvm.MethodName) "WidowRoads" ∈ tables_1 := List.mem_of_getElem? (i := 573) (by decide +kernel)
theorem nw_577 : Jvm.Cond.methodLinkNest "WidowRoads$Supposal" (18 : Nat) ({ cls := "WidowRoads$Colony", name := "walkerBits", desc := "()I" } : Jvm.MethodName) "WidowRoads" ∈ tables_1 := List.mem_of_getElem? (i := 577) (by decide +kernel)
theorem nw_581 : Jvm.Cond.methodLinkNest "WidowRoads$Supposal" (25 : Nat) ({ cls := "WidowRoads$Colony", name := "creekBits", desc := "()J" } : Jvm.MethodName) "WidowRoads" ∈ tables_1 := List.mem_of_getElem? (i := 581) (by decide +kernel)
theorem nw_582 : Jvm.Cond.methodLinkNest "WidowRoads" (277 : Nat) ({ cls := "WidowRoads$Story", name := "tell", desc := "(LWidowRoads$Colony;LWidowRoads$Supposal;)V" } : Jvm.MethodName) "WidowRoads" ∈ tables_1 := List.mem_of_getElem? (i := 582) (by decide +kernel)
theorem nw_590 : Jvm.Cond.methodLinkNest "WidowRoads$Story" (76 : Nat) ({ cls := "WidowRoads$Colony", name := "field", desc := "()J" } : Jvm.MethodName) "WidowRoads" ∈ tables_1 := List.mem_of_getElem? (i := 590) (by decide +kernel)
theorem nw_653 : Jvm.Cond.methodLinkNest "WidowRoads" (112 : Nat) ({ cls := "WidowRoads$Colony", name := "spotOf", desc := "(J)I" } : Jvm.MethodName) "WidowRoads" ∈ tables_1 := List.mem_of_getElem? (i := 653) (by decide +kernel)
theorem nw_668 : Jvm.Cond.methodLinkNest "WidowRoads" (128 : Nat) ({ cls := "WidowRoads$Colony", name := "hasWidow", desc := "(J)Z" } : Jvm.MethodName) "WidowRoads" ∈ tables_1 := List.mem_of_getElem? (i := 668) (by decide +kernel)
theorem nw_724 : Jvm.Cond.methodLinkNest "WidowRoads" (183 : Nat) ({ cls := "WidowRoads$Colony", name := "hasYear", desc := "(I)Z" } : Jvm.MethodName) "WidowRoads" ∈ tables_1 := List.mem_of_getElem? (i := 724) (by decide +kernel)
theorem nw_890 : Jvm.Cond.methodLinkNest "WidowRoads" (247 : Nat) ({ cls := "WidowRoads$Colony", name := "hasHouse", desc := "(I)Z" } : Jvm.MethodName) "WidowRoads" ∈ tables_1 := List.mem_of_getElem? (i := 890) (by decide +kernel)
theorem nw_954 : Jvm.Cond.methodLinkNest "WidowRoads" (395 : Nat) ({ cls := "WidowRoads$Rows", name := "empty", desc := "(I)Z" } : Jvm.MethodName) "WidowRoads" ∈ tables_1 := List.mem_of_getElem? (i := 954) (by decide +kernel)
theorem nw_1142 : Jvm.Cond.methodLinkNest "WidowRoads" (385 : Nat) ({ cls := "WidowRoads$Rows", name := "many", desc := "()I" } : Jvm.MethodName) "WidowRoads" ∈ tables_1 := List.mem_of_getElem? (i := 1142) (by decide +kernel)
theorem nw_1146 : Jvm.Cond.methodLinkNest "WidowRoads$Rows" (26 : Nat) ({ cls := "WidowRoads", name := "oneIf", desc := "(Z)I" } : Jvm.MethodName) "WidowRoads" ∈ tables_1 := List.mem_of_getElem? (i := 1146) (by decide +kernel)
theorem nw_1159 : Jvm.Cond.methodLinkNest "WidowRoads" (391 : Nat) ({ cls := "WidowRoads$Rows", name := "clear", desc := "(III)V" } : Jvm.MethodName) "WidowRoads" ∈ tables_1 := List.mem_of_getElem? (i := 1159) (by decide +kernel)
theorem hd_X0_become : yX0_become.cls ≠ "java/lang/invoke/MethodHandle" ∧ yX0_become.cls ≠ "java/lang/invoke/VarHandle" ∧ (parseMethodDescriptor yX0_become.desc).map (fun d => d.parameters.length) = some 1 := by decide +kernel
theorem hd_X0_clear : yX0_clear.cls ≠ "java/lang/invoke/MethodHandle" ∧ yX0_clear.cls ≠ "java/lang/invoke/VarHandle" ∧ (parseMethodDescriptor yX0_clear.desc).map (fun d => d.parameters.length) = some 0 := by decide +kernel
theorem hd_X0_creekBits : yX0_creekBits.cls ≠ "java/lang/invoke/MethodHandle" ∧ yX0_creekBits.cls ≠ "java/lang/invoke/VarHandle" ∧ (parseMethodDescriptor yX0_creekBits.desc).map (fun d => d.parameters.length) = some 0 := by decide +kernel
theorem hd_X0_field : yX0_field.cls ≠ "java/lang/invoke/MethodHandle" ∧ yX0_field.cls ≠ "java/lang/invoke/VarHandle" ∧ (parseMethodDescriptor yX0_field.desc).map (fun d => d.parameters.length) = some 0 := by decide +kernel
theorem hd_X0_hasHouse : yX0_hasHouse.cls ≠ "java/lang/invoke/MethodHandle" ∧ yX0_hasHouse.cls ≠ "java/lang/invoke/VarHandle" ∧ (parseMethodDescriptor yX0_hasHouse.desc).map (fun d => d.parameters.length) = some 1 := by decide +kernel
theorem hd_X0_hasWidow : yX0_hasWidow.cls ≠ "java/lang/invoke/MethodHandle" ∧ yX0_hasWidow.cls ≠ "java/lang/invoke/VarHandle" ∧ (parseMethodDescriptor yX0_hasWidow.desc).map (fun d => d.parameters.length) = some 1 := by decide +kernel
theorem hd_X0_hasYear : yX0_hasYear.cls ≠ "java/lang/invoke/MethodHandle" ∧ yX0_hasYear.cls ≠ "java/lang/invoke/VarHandle" ∧ (parseMethodDescriptor yX0_hasYear.desc).map (fun d => d.parameters.length) = some 1 := by decide +kernel
theorem hd_X0_init : yX0_init.cls ≠ "java/lang/invoke/MethodHandle" ∧ yX0_init.cls ≠ "java/lang/invoke/VarHandle" ∧ (parseMethodDescriptor yX0_init.desc).map (fun d => d.parameters.length) = some 0 := by decide +kernel
theorem hd_X0_spotOf : yX0_spotOf.cls ≠ "java/lang/invoke/MethodHandle" ∧ yX0_spotOf.cls ≠ "java/lang/invoke/VarHandle" ∧ (parseMethodDescriptor yX0_spotOf.desc).map (fun d => d.parameters.length) = some 1 := by decide +kernel
theorem hd_X0_walkerBits : yX0_walkerBits.cls ≠ "java/lang/invoke/MethodHandle" ∧ yX0_walkerBits.cls ≠ "java/lang/invoke/VarHandle" ∧ (parseMethodDescriptor yX0_walkerBits.desc).map (fun d => d.parameters.length) = some 0 := by decide +kernel
theorem hd_X1_init : yX1_init.cls ≠ "java/lang/invoke/MethodHandle" ∧ yX1_init.cls ≠ "java/lang/invoke/VarHandle" ∧ (parseMethodDescriptor yX1_init.desc).map (fun d => d.parameters.length) = some 0 := by decide +kernel
theorem hd_X2_init : yX2_init.cls ≠ "java/lang/invoke/MethodHandle" ∧ yX2_init.cls ≠ "java/lang/invoke/VarHandle" ∧ (parseMethodDescriptor yX2_init.desc).map (fun d => d.parameters.length) = some 0 := by decide +kernel
theorem hd_X3_init : yX3_init.cls ≠ "java/lang/invoke/MethodHandle" ∧ yX3_init.cls ≠ "java/lang/invoke/VarHandle" ∧ (parseMethodDescriptor yX3_init.desc).map (fun d => d.parameters.length) = some 0 := by decide +kernel
theorem hd_X4_init : yX4_init.cls ≠ "java/lang/invoke/MethodHandle" ∧ yX4_init.cls ≠ "java/lang/invoke/VarHandle" ∧ (parseMethodDescriptor yX4_init.desc).map (fun d => d.parameters.length) = some 0 := by decide +kernel
theorem hd_X4_isBlank : yX4_isBlank.cls ≠ "java/lang/invoke/MethodHandle" ∧ yX4_isBlank.cls ≠ "java/lang/invoke/VarHandle" ∧ (parseMethodDescriptor yX4_isBlank.desc).map (fun d => d.parameters.length) = some 1 := by decide +kernel
theorem hd_X4_next : yX4_next.cls ≠ "java/lang/invoke/MethodHandle" ∧ yX4_next.cls ≠ "java/lang/invoke/VarHandle" ∧ (parseMethodDescriptor yX4_next.desc).map (fun d => d.parameters.length) = some 0 := by decide +kernel
theorem hd_X4_read : yX4_read.cls ≠ "java/lang/invoke/MethodHandle" ∧ yX4_read.cls ≠ "java/lang/invoke/VarHandle" ∧ (parseMethodDescriptor yX4_read.desc).map (fun d => d.parameters.length) = some 0 := by decide +kernel
theorem hd_X5_clear : yX5_clear.cls ≠ "java/lang/invoke/MethodHandle" ∧ yX5_clear.cls ≠ "java/lang/invoke/VarHandle" ∧ (parseMethodDescriptor yX5_clear.desc).map (fun d => d.parameters.length) = some 3 := by decide +kernel
theorem hd_X5_empty : yX5_empty.cls ≠ "java/lang/invoke/MethodHandle" ∧ yX5_empty.cls ≠ "java/lang/invoke/VarHandle" ∧ (parseMethodDescriptor yX5_empty.desc).map (fun d => d.parameters.length) = some 1 := by decide +kernel
theorem hd_X5_init : yX5_init.cls ≠ "java/lang/invoke/MethodHandle" ∧ yX5_init.cls ≠ "java/lang/invoke/VarHandle" ∧ (parseMethodDescriptor yX5_init.desc).map (fun d => d.parameters.length) = some 0 := by decide +kernel
theorem hd_X5_many : yX5_many.cls ≠ "java/lang/invoke/MethodHandle" ∧ yX5_many.cls ≠ "java/lang/invoke/VarHandle" ∧ (parseMethodDescriptor yX5_many.desc).map (fun d => d.parameters.length) = some 0 := by decide +kernel
theorem hd_X6_begin : yX6_begin.cls ≠ "java/lang/invoke/MethodHandle" ∧ yX6_begin.cls ≠ "java/lang/invoke/VarHandle" ∧ (parseMethodDescriptor yX6_begin.desc).map (fun d => d.parameters.length) = some 1 := by decide +kernel
theorem hd_X6_init : yX6_init.cls ≠ "java/lang/invoke/MethodHandle" ∧ yX6_init.cls ≠ "java/lang/invoke/VarHandle" ∧ (parseMethodDescriptor yX6_init.desc).map (fun d => d.parameters.length) = some 0 := by decide +kernel
theorem hd_X6_tell : yX6_tell.cls ≠ "java/lang/invoke/MethodHandle" ∧ yX6_tell.cls ≠ "java/lang/invoke/VarHandle" ∧ (parseMethodDescriptor yX6_tell.desc).map (fun d => d.parameters.length) = some 2 := by decide +kernel
theorem hd_X7_asNow : yX7_asNow.cls ≠ "java/lang/invoke/MethodHandle" ∧ yX7_asNow.cls ≠ "java/lang/invoke/VarHandle" ∧ (parseMethodDescriptor yX7_asNow.desc).map (fun d => d.parameters.length) = some 1 := by decide +kernel
theorem hd_X7_init : yX7_init.cls ≠ "java/lang/invoke/MethodHandle" ∧ yX7_init.cls ≠ "java/lang/invoke/VarHandle" ∧ (parseMethodDescriptor yX7_init.desc).map (fun d => d.parameters.length) = some 0 := by decide +kernel
theorem hd_X8_byteAt : yX8_byteAt.cls ≠ "java/lang/invoke/MethodHandle" ∧ yX8_byteAt.cls ≠ "java/lang/invoke/VarHandle" ∧ (parseMethodDescriptor yX8_byteAt.desc).map (fun d => d.parameters.length) = some 1 := by decide +kernel
theorem hd_X8_init : yX8_init.cls ≠ "java/lang/invoke/MethodHandle" ∧ yX8_init.cls ≠ "java/lang/invoke/VarHandle" ∧ (parseMethodDescriptor yX8_init.desc).map (fun d => d.parameters.length) = some 0 := by decide +kernel
theorem hd_X8_put : yX8_put.cls ≠ "java/lang/invoke/MethodHandle" ∧ yX8_put.cls ≠ "java/lang/invoke/VarHandle" ∧ (parseMethodDescriptor yX8_put.desc).map (fun d => d.parameters.length) = some 1 := by decide +kernel
theorem hd_X9_areTwo : yX9_areTwo.cls ≠ "java/lang/invoke/MethodHandle" ∧ yX9_areTwo.cls ≠ "java/lang/invoke/VarHandle" ∧ (parseMethodDescriptor yX9_areTwo.desc).map (fun d => d.parameters.length) = some 2 := by decide +kernel
theorem hd_X9_isSlot : yX9_isSlot.cls ≠ "java/lang/invoke/MethodHandle" ∧ yX9_isSlot.cls ≠ "java/lang/invoke/VarHandle" ∧ (parseMethodDescriptor yX9_isSlot.desc).map (fun d => d.parameters.length) = some 1 := by decide +kernel
theorem hd_X9_oneIf : yX9_oneIf.cls ≠ "java/lang/invoke/MethodHandle" ∧ yX9_oneIf.cls ≠ "java/lang/invoke/VarHandle" ∧ (parseMethodDescriptor yX9_oneIf.desc).map (fun d => d.parameters.length) = some 1 := by decide +kernel
theorem hd_X9_refusalOfRow : yX9_refusalOfRow.cls ≠ "java/lang/invoke/MethodHandle" ∧ yX9_refusalOfRow.cls ≠ "java/lang/invoke/VarHandle" ∧ (parseMethodDescriptor yX9_refusalOfRow.desc).map (fun d => d.parameters.length) = some 1 := by decide +kernel
theorem hd_X9_refusalOfSeen : yX9_refusalOfSeen.cls ≠ "java/lang/invoke/MethodHandle" ∧ yX9_refusalOfSeen.cls ≠ "java/lang/invoke/VarHandle" ∧ (parseMethodDescriptor yX9_refusalOfSeen.desc).map (fun d => d.parameters.length) = some 2 := by decide +kernel
theorem hd_X9_walkAnew : yX9_walkAnew.cls ≠ "java/lang/invoke/MethodHandle" ∧ yX9_walkAnew.cls ≠ "java/lang/invoke/VarHandle" ∧ (parseMethodDescriptor yX9_walkAnew.desc).map (fun d => d.parameters.length) = some 0 := by decide +kernel
theorem ki_m8 : ((-8) : Int32).toInt = (-8) := by decide
theorem ki_m2 : ((-2) : Int32).toInt = (-2) := by decide
theorem ki_m1 : ((-1) : Int32).toInt = (-1) := by decide
theorem ki_0 : (0 : Int32).toInt = 0 := by decide
theorem ki_1 : (1 : Int32).toInt = 1 := by decide
theorem ki_3 : (3 : Int32).toInt = 3 := by decide
theorem ki_4 : (4 : Int32).toInt = 4 := by decide
theorem ki_6 : (6 : Int32).toInt = 6 := by decide
theorem ki_7 : (7 : Int32).toInt = 7 := by decide
theorem ki_8 : (8 : Int32).toInt = 8 := by decide
theorem ki_10 : (10 : Int32).toInt = 10 := by decide
theorem ki_16 : (16 : Int32).toInt = 16 := by decide
theorem ki_20 : (20 : Int32).toInt = 20 := by decide
theorem ki_24 : (24 : Int32).toInt = 24 := by decide
theorem ki_32 : (32 : Int32).toInt = 32 := by decide
theorem ki_60 : (60 : Int32).toInt = 60 := by decide
theorem ki_880 : (880 : Int32).toInt = 880 := by decide
theorem ki_900 : (900 : Int32).toInt = 900 := by decide
theorem kl_0 : (0 : Int64).toInt = 0 := by decide
theorem kl_10 : (10 : Int64).toInt = 10 := by decide
theorem nf_X0 : ∀ j, j < 19 → defaultValue (tyX0 j) = vp_V [.int 0, .int 0, .int 0, .int 0, .int 0, .int 0, .int 0, .int 0, .int 0, .int 0, .null, .null, .null, .null, .null, .null, .null, .null, .null] j := by
  intro j hj
  rcases (show j = 0 ∨ j = 1 ∨ j = 2 ∨ j = 3 ∨ j = 4 ∨ j = 5 ∨ j = 6 ∨ j = 7 ∨ j = 8 ∨ j = 9 ∨ j = 10 ∨ j = 11 ∨ j = 12 ∨ j = 13 ∨ j = 14 ∨ j = 15 ∨ j = 16 ∨ j = 17 ∨ j = 18 by omega) with rfl | rfl | rfl | rfl | rfl | rfl | rfl | rfl | rfl | rfl | rfl | rfl | rfl | rfl | rfl | rfl | rfl | rfl | rfl <;> rfl
theorem nf_X1 : ∀ j, j < 3 → defaultValue (tyX1 j) = vp_V [.null, .null, .int 0] j := by
  intro j hj
  rcases (show j = 0 ∨ j = 1 ∨ j = 2 by omega) with rfl | rfl | rfl <;> rfl
theorem nf_X2 : ∀ j, j < 2 → defaultValue (tyX2 j) = vp_V [.long 0, .long 0] j := by
  intro j hj
  rcases (show j = 0 ∨ j = 1 by omega) with rfl | rfl <;> rfl
theorem nf_X3 : ∀ j, j < 3 → defaultValue (tyX3 j) = vp_V [.long 0, .long 0, .long 0] j := by
  intro j hj
  rcases (show j = 0 ∨ j = 1 ∨ j = 2 by omega) with rfl | rfl | rfl <;> rfl
theorem nf_X4 : ∀ j, j < 7 → defaultValue (tyX4 j) = vp_V [.int 0, .int 0, .null, .null, .int 0, .int 0, .int 0] j := by
  intro j hj
  rcases (show j = 0 ∨ j = 1 ∨ j = 2 ∨ j = 3 ∨ j = 4 ∨ j = 5 ∨ j = 6 by omega) with rfl | rfl | rfl | rfl | rfl | rfl | rfl <;> rfl
theorem nf_X5 : ∀ j, j < 4 → defaultValue (tyX5 j) = vp_V [.null, .null, .null, .null] j := by
  intro j hj
  rcases (show j = 0 ∨ j = 1 ∨ j = 2 ∨ j = 3 by omega) with rfl | rfl | rfl | rfl <;> rfl
theorem nf_X6 : ∀ j, j < 12 → defaultValue (tyX6 j) = vp_V [.null, .null, .null, .null, .null, .null, .null, .null, .null, .null, .long 0, .int 0] j := by
  intro j hj
  rcases (show j = 0 ∨ j = 1 ∨ j = 2 ∨ j = 3 ∨ j = 4 ∨ j = 5 ∨ j = 6 ∨ j = 7 ∨ j = 8 ∨ j = 9 ∨ j = 10 ∨ j = 11 by omega) with rfl | rfl | rfl | rfl | rfl | rfl | rfl | rfl | rfl | rfl | rfl | rfl <;> rfl
theorem nf_X7 : ∀ j, j < 6 → defaultValue (tyX7 j) = vp_V [.int 0, .int 0, .long 0, .int 0, .int 0, .int 0] j := by
  intro j hj
  rcases (show j = 0 ∨ j = 1 ∨ j = 2 ∨ j = 3 ∨ j = 4 ∨ j = 5 by omega) with rfl | rfl | rfl | rfl | rfl | rfl <;> rfl
theorem nf_X8 : ∀ j, j < 2 → defaultValue (tyX8 j) = vp_V [.null, .int 0] j := by
  intro j hj
  rcases (show j = 0 ∨ j = 1 by omega) with rfl | rfl <;> rfl
abbrev z0 : Nat → Nat := fun _ => 0
end
section
theorem dX0_init_0 : decode cX0_init 0 = .ok (.aload_n 0, 1) := by decide +kernel
theorem dX0_init_1 : decode cX0_init 1 = .ok (.invokespecial 3, 3) := by decide +kernel
theorem dX0_init_4 : decode cX0_init 4 = .ok (.aload_n 0, 1) := by decide +kernel
theorem dX0_init_5 : decode cX0_init 5 = .ok (.bipush 12, 2) := by decide +kernel
theorem dX0_init_7 : decode cX0_init 7 = .ok (.newarray .int, 2) := by decide +kernel
theorem dX0_init_9 : decode cX0_init 9 = .ok (.putfield 9, 3) := by decide +kernel
theorem dX0_init_12 : decode cX0_init 12 = .ok (.aload_n 0, 1) := by decide +kernel
theorem dX0_init_13 : decode cX0_init 13 = .ok (.bipush 6, 2) := by decide +kernel
theorem dX0_init_15 : decode cX0_init 15 = .ok (.newarray .int, 2) := by decide +kernel
theorem dX0_init_17 : decode cX0_init 17 = .ok (.putfield 15, 3) := by decide +kernel
theorem dX0_init_20 : decode cX0_init 20 = .ok (.aload_n 0, 1) := by decide +kernel
theorem dX0_init_21 : decode cX0_init 21 = .ok (.bipush 7, 2) := by decide +kernel
theorem dX0_init_23 : decode cX0_init 23 = .ok (.newarray .int, 2) := by decide +kernel
theorem dX0_init_25 : decode cX0_init 25 = .ok (.putfield 18, 3) := by decide +kernel
theorem dX0_init_28 : decode cX0_init 28 = .ok (.aload_n 0, 1) := by decide +kernel
theorem dX0_init_29 : decode cX0_init 29 = .ok (.bipush 7, 2) := by decide +kernel
theorem dX0_init_31 : decode cX0_init 31 = .ok (.newarray .int, 2) := by decide +kernel
theorem dX0_init_33 : decode cX0_init 33 = .ok (.putfield 21, 3) := by decide +kernel
theorem dX0_init_36 : decode cX0_init 36 = .ok (.aload_n 0, 1) := by decide +kernel
theorem dX0_init_37 : decode cX0_init 37 = .ok (.bipush 7, 2) := by decide +kernel
theorem dX0_init_39 : decode cX0_init 39 = .ok (.newarray .int, 2) := by decide +kernel
theorem dX0_init_41 : decode cX0_init 41 = .ok (.putfield 24, 3) := by decide +kernel
theorem dX0_init_44 : decode cX0_init 44 = .ok (.aload_n 0, 1) := by decide +kernel
theorem dX0_init_45 : decode cX0_init 45 = .ok (.bipush 7, 2) := by decide +kernel
theorem dX0_init_47 : decode cX0_init 47 = .ok (.newarray .int, 2) := by decide +kernel
theorem dX0_init_49 : decode cX0_init 49 = .ok (.putfield 27, 3) := by decide +kernel
theorem dX0_init_52 : decode cX0_init 52 = .ok (.aload_n 0, 1) := by decide +kernel
theorem dX0_init_53 : decode cX0_init 53 = .ok (.bipush 7, 2) := by decide +kernel
theorem dX0_init_55 : decode cX0_init 55 = .ok (.newarray .int, 2) := by decide +kernel
theorem dX0_init_57 : decode cX0_init 57 = .ok (.putfield 30, 3) := by decide +kernel
theorem dX0_init_60 : decode cX0_init 60 = .ok (.aload_n 0, 1) := by decide +kernel
theorem dX0_init_61 : decode cX0_init 61 = .ok (.bipush 56, 2) := by decide +kernel
theorem dX0_init_63 : decode cX0_init 63 = .ok (.newarray .int, 2) := by decide +kernel
theorem dX0_init_65 : decode cX0_init 65 = .ok (.putfield 33, 3) := by decide +kernel
theorem dX0_init_68 : decode cX0_init 68 = .ok (.aload_n 0, 1) := by decide +kernel
theorem dX0_init_69 : decode cX0_init 69 = .ok (.bipush 30, 2) := by decide +kernel
theorem dX0_init_71 : decode cX0_init 71 = .ok (.newarray .int, 2) := by decide +kernel
theorem dX0_init_73 : decode cX0_init 73 = .ok (.putfield 36, 3) := by decide +kernel
theorem dX0_init_76 : decode cX0_init 76 = .ok (.return_, 1) := by decide +kernel
theorem dX1_init_0 : decode cX1_init 0 = .ok (.aload_n 0, 1) := by decide +kernel
theorem dX1_init_1 : decode cX1_init 1 = .ok (.invokespecial 3, 3) := by decide +kernel
theorem dX1_init_4 : decode cX1_init 4 = .ok (.aload_n 0, 1) := by decide +kernel
theorem dX1_init_5 : decode cX1_init 5 = .ok (.sipush 128, 3) := by decide +kernel
theorem dX1_init_8 : decode cX1_init 8 = .ok (.newarray .long, 2) := by decide +kernel
theorem dX1_init_10 : decode cX1_init 10 = .ok (.putfield 9, 3) := by decide +kernel
theorem dX1_init_13 : decode cX1_init 13 = .ok (.aload_n 0, 1) := by decide +kernel
theorem dX1_init_14 : decode cX1_init 14 = .ok (.sipush 128, 3) := by decide +kernel
theorem dX1_init_17 : decode cX1_init 17 = .ok (.newarray .int, 2) := by decide +kernel
theorem dX1_init_19 : decode cX1_init 19 = .ok (.putfield 15, 3) := by decide +kernel
theorem dX1_init_22 : decode cX1_init 22 = .ok (.return_, 1) := by decide +kernel
theorem dX2_init_0 : decode cX2_init 0 = .ok (.aload_n 0, 1) := by decide +kernel
theorem dX2_init_1 : decode cX2_init 1 = .ok (.invokespecial 1, 3) := by decide +kernel
theorem dX2_init_4 : decode cX2_init 4 = .ok (.aload_n 0, 1) := by decide +kernel
theorem dX2_init_5 : decode cX2_init 5 = .ok (.lconst 1, 1) := by decide +kernel
theorem dX2_init_6 : decode cX2_init 6 = .ok (.putfield 7, 3) := by decide +kernel
theorem dX2_init_9 : decode cX2_init 9 = .ok (.return_, 1) := by decide +kernel
theorem dX3_init_0 : decode cX3_init 0 = .ok (.aload_n 0, 1) := by decide +kernel
theorem dX3_init_1 : decode cX3_init 1 = .ok (.invokespecial 3, 3) := by decide +kernel
theorem dX3_init_4 : decode cX3_init 4 = .ok (.return_, 1) := by decide +kernel
theorem dX4_init_0 : decode cX4_init 0 = .ok (.aload_n 0, 1) := by decide +kernel
theorem dX4_init_1 : decode cX4_init 1 = .ok (.invokespecial 3, 3) := by decide +kernel
theorem dX4_init_4 : decode cX4_init 4 = .ok (.aload_n 0, 1) := by decide +kernel
theorem dX4_init_5 : decode cX4_init 5 = .ok (.iconst (-1), 1) := by decide +kernel
theorem dX4_init_6 : decode cX4_init 6 = .ok (.putfield 9, 3) := by decide +kernel
theorem dX4_init_9 : decode cX4_init 9 = .ok (.aload_n 0, 1) := by decide +kernel
theorem dX4_init_10 : decode cX4_init 10 = .ok (.new 15, 3) := by decide +kernel
theorem dX4_init_13 : decode cX4_init 13 = .ok (.dup, 1) := by decide +kernel
theorem dX4_init_14 : decode cX4_init 14 = .ok (.invokespecial 17, 3) := by decide +kernel
theorem dX4_init_17 : decode cX4_init 17 = .ok (.putfield 18, 3) := by decide +kernel
theorem dX4_init_20 : decode cX4_init 20 = .ok (.aload_n 0, 1) := by decide +kernel
theorem dX4_init_21 : decode cX4_init 21 = .ok (.new 22, 3) := by decide +kernel
theorem dX4_init_24 : decode cX4_init 24 = .ok (.dup, 1) := by decide +kernel
theorem dX4_init_25 : decode cX4_init 25 = .ok (.invokespecial 24, 3) := by decide +kernel
theorem dX4_init_28 : decode cX4_init 28 = .ok (.putfield 25, 3) := by decide +kernel
theorem dX4_init_31 : decode cX4_init 31 = .ok (.return_, 1) := by decide +kernel
theorem dX5_init_0 : decode cX5_init 0 = .ok (.aload_n 0, 1) := by decide +kernel
theorem dX5_init_1 : decode cX5_init 1 = .ok (.invokespecial 3, 3) := by decide +kernel
theorem dX5_init_4 : decode cX5_init 4 = .ok (.aload_n 0, 1) := by decide +kernel
theorem dX5_init_5 : decode cX5_init 5 = .ok (.sipush 240, 3) := by decide +kernel
theorem dX5_init_8 : decode cX5_init 8 = .ok (.newarray .long, 2) := by decide +kernel
theorem dX5_init_10 : decode cX5_init 10 = .ok (.putfield 9, 3) := by decide +kernel
theorem dX5_init_13 : decode cX5_init 13 = .ok (.aload_n 0, 1) := by decide +kernel
theorem dX5_init_14 : decode cX5_init 14 = .ok (.iconst 4, 1) := by decide +kernel
theorem dX5_init_15 : decode cX5_init 15 = .ok (.newarray .boolean, 2) := by decide +kernel
theorem dX5_init_17 : decode cX5_init 17 = .ok (.putfield 15, 3) := by decide +kernel
theorem dX5_init_20 : decode cX5_init 20 = .ok (.aload_n 0, 1) := by decide +kernel
theorem dX5_init_21 : decode cX5_init 21 = .ok (.iconst 4, 1) := by decide +kernel
theorem dX5_init_22 : decode cX5_init 22 = .ok (.newarray .int, 2) := by decide +kernel
theorem dX5_init_24 : decode cX5_init 24 = .ok (.putfield 19, 3) := by decide +kernel
theorem dX5_init_27 : decode cX5_init 27 = .ok (.aload_n 0, 1) := by decide +kernel
theorem dX5_init_28 : decode cX5_init 28 = .ok (.iconst 4, 1) := by decide +kernel
theorem dX5_init_29 : decode cX5_init 29 = .ok (.newarray .int, 2) := by decide +kernel
theorem dX5_init_31 : decode cX5_init 31 = .ok (.putfield 23, 3) := by decide +kernel
theorem dX5_init_34 : decode cX5_init 34 = .ok (.return_, 1) := by decide +kernel
theorem dX6_init_0 : decode cX6_init 0 = .ok (.aload_n 0, 1) := by decide +kernel
theorem dX6_init_1 : decode cX6_init 1 = .ok (.invokespecial 3, 3) := by decide +kernel
theorem dX6_init_4 : decode cX6_init 4 = .ok (.aload_n 0, 1) := by decide +kernel
theorem dX6_init_5 : decode cX6_init 5 = .ok (.sipush 287, 3) := by decide +kernel
theorem dX6_init_8 : decode cX6_init 8 = .ok (.newarray .int, 2) := by decide +kernel
theorem dX6_init_10 : decode cX6_init 10 = .ok (.putfield 9, 3) := by decide +kernel
theorem dX6_init_13 : decode cX6_init 13 = .ok (.aload_n 0, 1) := by decide +kernel
theorem dX6_init_14 : decode cX6_init 14 = .ok (.bipush 7, 2) := by decide +kernel
theorem dX6_init_16 : decode cX6_init 16 = .ok (.newarray .int, 2) := by decide +kernel
theorem dX6_init_18 : decode cX6_init 18 = .ok (.putfield 15, 3) := by decide +kernel
theorem dX6_init_21 : decode cX6_init 21 = .ok (.aload_n 0, 1) := by decide +kernel
theorem dX6_init_22 : decode cX6_init 22 = .ok (.bipush 7, 2) := by decide +kernel
theorem dX6_init_24 : decode cX6_init 24 = .ok (.newarray .int, 2) := by decide +kernel
theorem dX6_init_26 : decode cX6_init 26 = .ok (.putfield 18, 3) := by decide +kernel
theorem dX6_init_29 : decode cX6_init 29 = .ok (.aload_n 0, 1) := by decide +kernel
theorem dX6_init_30 : decode cX6_init 30 = .ok (.bipush 7, 2) := by decide +kernel
theorem dX6_init_32 : decode cX6_init 32 = .ok (.newarray .long, 2) := by decide +kernel
theorem dX6_init_34 : decode cX6_init 34 = .ok (.putfield 21, 3) := by decide +kernel
theorem dX6_init_37 : decode cX6_init 37 = .ok (.aload_n 0, 1) := by decide +kernel
theorem dX6_init_38 : decode cX6_init 38 = .ok (.bipush 7, 2) := by decide +kernel
theorem dX6_init_40 : decode cX6_init 40 = .ok (.newarray .int, 2) := by decide +kernel
theorem dX6_init_42 : decode cX6_init 42 = .ok (.putfield 25, 3) := by decide +kernel
theorem dX6_init_45 : decode cX6_init 45 = .ok (.aload_n 0, 1) := by decide +kernel
theorem dX6_init_46 : decode cX6_init 46 = .ok (.bipush 6, 2) := by decide +kernel
theorem dX6_init_48 : decode cX6_init 48 = .ok (.newarray .int, 2) := by decide +kernel
theorem dX6_init_50 : decode cX6_init 50 = .ok (.putfield 28, 3) := by decide +kernel
theorem dX6_init_53 : decode cX6_init 53 = .ok (.aload_n 0, 1) := by decide +kernel
theorem dX6_init_54 : decode cX6_init 54 = .ok (.bipush 78, 2) := by decide +kernel
theorem dX6_init_56 : decode cX6_init 56 = .ok (.newarray .int, 2) := by decide +kernel
theorem dX6_init_58 : decode cX6_init 58 = .ok (.putfield 31, 3) := by decide +kernel
theorem dX6_init_61 : decode cX6_init 61 = .ok (.aload_n 0, 1) := by decide +kernel
theorem dX6_init_62 : decode cX6_init 62 = .ok (.bipush 13, 2) := by decide +kernel
theorem dX6_init_64 : decode cX6_init 64 = .ok (.newarray .long, 2) := by decide +kernel
theorem dX6_init_66 : decode cX6_init 66 = .ok (.putfield 34, 3) := by decide +kernel
theorem dX6_init_69 : decode cX6_init 69 = .ok (.aload_n 0, 1) := by decide +kernel
theorem dX6_init_70 : decode cX6_init 70 = .ok (.bipush 13, 2) := by decide +kernel
theorem dX6_init_72 : decode cX6_init 72 = .ok (.newarray .long, 2) := by decide +kernel
theorem dX6_init_74 : decode cX6_init 74 = .ok (.putfield 37, 3) := by decide +kernel
theorem dX6_init_77 : decode cX6_init 77 = .ok (.aload_n 0, 1) := by decide +kernel
theorem dX6_init_78 : decode cX6_init 78 = .ok (.bipush 13, 2) := by decide +kernel
theorem dX6_init_80 : decode cX6_init 80 = .ok (.newarray .long, 2) := by decide +kernel
theorem dX6_init_82 : decode cX6_init 82 = .ok (.putfield 40, 3) := by decide +kernel
theorem dX6_init_85 : decode cX6_init 85 = .ok (.return_, 1) := by decide +kernel
theorem dX7_init_0 : decode cX7_init 0 = .ok (.aload_n 0, 1) := by decide +kernel
theorem dX7_init_1 : decode cX7_init 1 = .ok (.invokespecial 3, 3) := by decide +kernel
theorem dX7_init_4 : decode cX7_init 4 = .ok (.return_, 1) := by decide +kernel
theorem dX8_init_0 : decode cX8_init 0 = .ok (.aload_n 0, 1) := by decide +kernel
theorem dX8_init_1 : decode cX8_init 1 = .ok (.invokespecial 3, 3) := by decide +kernel
theorem dX8_init_4 : decode cX8_init 4 = .ok (.aload_n 0, 1) := by decide +kernel
theorem dX8_init_5 : decode cX8_init 5 = .ok (.sipush 900, 3) := by decide +kernel
theorem dX8_init_8 : decode cX8_init 8 = .ok (.newarray .byte, 2) := by decide +kernel
theorem dX8_init_10 : decode cX8_init 10 = .ok (.putfield 9, 3) := by decide +kernel
theorem dX8_init_13 : decode cX8_init 13 = .ok (.return_, 1) := by decide +kernel
set_option maxHeartbeats 4000000 in
set_option maxRecDepth 100000 in
theorem f_X0_init (l : Launch) (G : va_G) (cI cJ cZ cB cQ : ClassId) (sz : Nat) (h0 : Nat) : CV l yX0_init (wl_ yX0_init cX0_init 1 none) ({ frames := 1, cells := 9, slots := 139, locals := 12 } : Room) G (TY cI cJ cZ cB cQ) [.ref h0] [(h0, .inr (0, [.int 0, .int 0, .int 0, .int 0, .int 0, .int 0, .int 0, .int 0, .int 0, .int 0, .null, .null, .null, .null, .null, .null, .null, .null, .null]))] sz (fun (u : (Nat → Nat)) => True) (fun u : (Nat → Nat) => [(h0, oX0 u 0 0 0 0 0 0 0 0 0 0), (u 10, .inl (cI, 12, .inl (fun _ => 0))), (u 11, .inl (cI, 6, .inl (fun _ => 0))), (u 12, .inl (cI, 7, .inl (fun _ => 0))), (u 13, .inl (cI, 7, .inl (fun _ => 0))), (u 14, .inl (cI, 7, .inl (fun _ => 0))), (u 15, .inl (cI, 7, .inl (fun _ => 0))), (u 16, .inl (cI, 7, .inl (fun _ => 0))), (u 17, .inl (cI, 56, .inl (fun _ => 0))), (u 18, .inl (cI, 30, .inl (fun _ => 0)))]) 9 139 := by
  refine CV.go (cc := cX0_init) (maxL := 1) (ret := none) (by decide) rfl (Nat.le_of_ble_eq_true rfl) ?_
  intro p e s m below meth c A ls Q hBd hret
  obtain ⟨hx, hb, hr, hml, hts, hown, hlk, hnm, hP, hK, hD, hA, hZ, hl⟩ := hBd
  have hown : s.vm.findClass RX0 = some m.cls := hown
  have hl : lv_has ls 1 [(0, .ref h0)] := hl
  have hS : va_S A s.heap s.heap [] := va_S.rf
  refine lv_aload_n hx hb dX0_init_0 rfl (lv_at hl 0 rfl) ?_
  refine W.objInit hx hb hown (hts _ w_54) (hts _ w_26) (hts _ w_27) rfl (by rw [hml]; exact hl.1) rfl dX0_init_1 (Nat.le_of_ble_eq_true rfl) (Nat.le_of_ble_eq_true rfl) ?_
  refine W.eq (g2 := F0 m 4 ls []) rfl ?_
  refine lv_aload_n hx hb dX0_init_4 rfl (lv_at hl 0 rfl) ?_
  refine lv_bipush (v := 12) hx hb dX0_init_5 (by decide) ?_
  refine m_newa (atype := .int) (n := 12) (N' := 12) (a0 := (12, .inl (fun _ => 0))) hx hb (hts _ w_162) rfl rfl hK 0 rfl hP hD hS hA (fun _ => rfl) (by decide) (by decide) (Nat.le_of_ble_eq_true rfl) (Nat.le_of_ble_eq_true rfl) (Nat.le_of_ble_eq_true rfl) dX0_init_7 (fun q1 H hP hD hS => ?_)
  have hP : va_P G vwCl [(h0, .inr (0, [.int 0, .int 0, .int 0, .int 0, .int 0, .int 0, .int 0, .int 0, .int 0, .int 0, .null, .null, .null, .null, .null, .null, .null, .null, .null])), (q1, .inl (cI, 12, .inl (fun _ => 0)))] H := hP
  have hD : va_D A [(h0, .inr (0, [.int 0, .int 0, .int 0, .int 0, .int 0, .int 0, .int 0, .int 0, .int 0, .int 0, .null, .null, .null, .null, .null, .null, .null, .null, .null])), (q1, .inl (cI, 12, .inl (fun _ => 0)))] := hD
  refine va_putF (D := G) (ci := 0) (v := .ref q1) (ty := .array .int) (C := RX0) (T := TX0) (N := 19) hx hb hts iG_X0 tyX0 tyX0_ok nmX0 hown hK hP hD hS 0 rfl rfl 10 (by decide) (hts _ w_91) (fun _ h9 => h9) rfl hnm rfl (by decide +kernel) rfl rfl (Nat.le_of_ble_eq_true rfl) dX0_init_9 (fun H locs hP hD hS => ?_)
  have hP : va_P G vwCl [(h0, .inr (0, [.int 0, .int 0, .int 0, .int 0, .int 0, .int 0, .int 0, .int 0, .int 0, .int 0, .ref q1, .null, .null, .null, .null, .null, .null, .null, .null])), (q1, .inl (cI, 12, .inl (fun _ => 0)))] H := hP
  have hD : va_D A [(h0, .inr (0, [.int 0, .int 0, .int 0, .int 0, .int 0, .int 0, .int 0, .int 0, .int 0, .int 0, .ref q1, .null, .null, .null, .null, .null, .null, .null, .null])), (q1, .inl (cI, 12, .inl (fun _ => 0)))] := hD
  refine lv_aload_n hx hb dX0_init_12 rfl (lv_at hl 0 rfl) ?_
  refine lv_bipush (v := 6) hx hb dX0_init_13 (by decide) ?_
  refine m_newa (atype := .int) (n := 6) (N' := 6) (a0 := (6, .inl (fun _ => 0))) hx hb (hts _ w_162) rfl rfl hK 0 rfl hP hD hS hA (fun _ => rfl) (by decide) (by decide) (Nat.le_of_ble_eq_true rfl) (Nat.le_of_ble_eq_true rfl) (Nat.le_of_ble_eq_true rfl) dX0_init_15 (fun q2 H hP hD hS => ?_)
  have hP : va_P G vwCl [(h0, .inr (0, [.int 0, .int 0, .int 0, .int 0, .int 0, .int 0, .int 0, .int 0, .int 0, .int 0, .ref q1, .null, .null, .null, .null, .null, .null, .null, .null])), (q1, .inl (cI, 12, .inl (fun _ => 0))), (q2, .inl (cI, 6, .inl (fun _ => 0)))] H := hP
  have hD : va_D A [(h0, .inr (0, [.int 0, .int 0, .int 0, .int 0, .int 0, .int 0, .int 0, .int 0, .int 0, .int 0, .ref q1, .null, .null, .null, .null, .null, .null, .null, .null])), (q1, .inl (cI, 12, .inl (fun _ => 0))), (q2, .inl (cI, 6, .inl (fun _ => 0)))] := hD
  refine va_putF (D := G) (ci := 0) (v := .ref q2) (ty := .array .int) (C := RX0) (T := TX0) (N := 19) hx hb hts iG_X0 tyX0 tyX0_ok nmX0 hown hK hP hD hS 0 rfl rfl 11 (by decide) (hts _ w_94) (fun _ h9 => h9) rfl hnm rfl (by decide +kernel) rfl rfl (Nat.le_of_ble_eq_true rfl) dX0_init_17 (fun H locs hP hD hS => ?_)
  have hP : va_P G vwCl [(h0, .inr (0, [.int 0, .int 0, .int 0, .int 0, .int 0, .int 0, .int 0, .int 0, .int 0, .int 0, .ref q1, .ref q2, .null, .null, .null, .null, .null, .null, .null])), (q1, .inl (cI, 12, .inl (fun _ => 0))), (q2, .inl (cI, 6, .inl (fun _ => 0)))] H := hP
  have hD : va_D A [(h0, .inr (0, [.int 0, .int 0, .int 0, .int 0, .int 0, .int 0, .int 0, .int 0, .int 0, .int 0, .ref q1, .ref q2, .null, .null, .null, .null, .null, .null, .null])), (q1, .inl (cI, 12, .inl (fun _ => 0))), (q2, .inl (cI, 6, .inl (fun _ => 0)))] := hD
  refine lv_aload_n hx hb dX0_init_20 rfl (lv_at hl 0 rfl) ?_
  refine lv_bipush (v := 7) hx hb dX0_init_21 (by decide) ?_
  refine m_newa (atype := .int) (n := 7) (N' := 7) (a0 := (7, .inl (fun _ => 0))) hx hb (hts _ w_162) rfl rfl hK 0 rfl hP hD hS hA (fun _ => rfl) (by decide) (by decide) (Nat.le_of_ble_eq_true rfl) (Nat.le_of_ble_eq_true rfl) (Nat.le_of_ble_eq_true rfl) dX0_init_23 (fun q3 H hP hD hS => ?_)
  have hP : va_P G vwCl [(h0, .inr (0, [.int 0, .int 0, .int 0, .int 0, .int 0, .int 0, .int 0, .int 0, .int 0, .int 0, .ref q1, .ref q2, .null, .null, .null, .null, .null, .null, .null])), (q1, .inl (cI, 12, .inl (fun _ => 0))), (q2, .inl (cI, 6, .inl (fun _ => 0))), (q3, .inl (cI, 7, .inl (fun _ => 0)))] H := hP
  have hD : va_D A [(h0, .inr (0, [.int 0, .int 0, .int 0, .int 0, .int 0, .int 0, .int 0, .int 0, .int 0, .int 0, .ref q1, .ref q2, .null, .null, .null, .null, .null, .null, .null])), (q1, .inl (cI, 12, .inl (fun _ => 0))), (q2, .inl (cI, 6, .inl (fun _ => 0))), (q3, .inl (cI, 7, .inl (fun _ => 0)))] := hD
  refine va_putF (D := G) (ci := 0) (v := .ref q3) (ty := .array .int) (C := RX0) (T := TX0) (N := 19) hx hb hts iG_X0 tyX0 tyX0_ok nmX0 hown hK hP hD hS 0 rfl rfl 12 (by decide) (hts _ w_97) (fun _ h9 => h9) rfl hnm rfl (by decide +kernel) rfl rfl (Nat.le_of_ble_eq_true rfl) dX0_init_25 (fun H locs hP hD hS => ?_)
  have hP : va_P G vwCl [(h0, .inr (0, [.int 0, .int 0, .int 0, .int 0, .int 0, .int 0, .int 0, .int 0, .int 0, .int 0, .ref q1, .ref q2, .ref q3, .null, .null, .null, .null, .null, .null])), (q1, .inl (cI, 12, .inl (fun _ => 0))), (q2, .inl (cI, 6, .inl (fun _ => 0))), (q3, .inl (cI, 7, .inl (fun _ => 0)))] H := hP
  have hD : va_D A [(h0, .inr (0, [.int 0, .int 0, .int 0, .int 0, .int 0, .int 0, .int 0, .int 0, .int 0, .int 0, .ref q1, .ref q2, .ref q3, .null, .null, .null, .null, .null, .null])), (q1, .inl (cI, 12, .inl (fun _ => 0))), (q2, .inl (cI, 6, .inl (fun _ => 0))), (q3, .inl (cI, 7, .inl (fun _ => 0)))] := hD
  refine lv_aload_n hx hb dX0_init_28 rfl (lv_at hl 0 rfl) ?_
  refine lv_bipush (v := 7) hx hb dX0_init_29 (by decide) ?_
  refine m_newa (atype := .int) (n := 7) (N' := 7) (a0 := (7, .inl (fun _ => 0))) hx hb (hts _ w_162) rfl rfl hK 0 rfl hP hD hS hA (fun _ => rfl) (by decide) (by decide) (Nat.le_of_ble_eq_true rfl) (Nat.le_of_ble_eq_true rfl) (Nat.le_of_ble_eq_true rfl) dX0_init_31 (fun q4 H hP hD hS => ?_)
  have hP : va_P G vwCl [(h0, .inr (0, [.int 0, .int 0, .int 0, .int 0, .int 0, .int 0, .int 0, .int 0, .int 0, .int 0, .ref q1, .ref q2, .ref q3, .null, .null, .null, .null, .null, .null])), (q1, .inl (cI, 12, .inl (fun _ => 0))), (q2, .inl (cI, 6, .inl (fun _ => 0))), (q3, .inl (cI, 7, .inl (fun _ => 0))), (q4, .inl (cI, 7, .inl (fun _ => 0)))] H := hP
  have hD : va_D A [(h0, .inr (0, [.int 0, .int 0, .int 0, .int 0, .int 0, .int 0, .int 0, .int 0, .int 0, .int 0, .ref q1, .ref q2, .ref q3, .null, .null, .null, .null, .null, .null])), (q1, .inl (cI, 12, .inl (fun _ => 0))), (q2, .inl (cI, 6, .inl (fun _ => 0))), (q3, .inl (cI, 7, .inl (fun _ => 0))), (q4, .inl (cI, 7, .inl (fun _ => 0)))] := hD
  refine va_putF (D := G) (ci := 0) (v := .ref q4) (ty := .array .int) (C := RX0) (T := TX0) (N := 19) hx hb hts iG_X0 tyX0 tyX0_ok nmX0 hown hK hP hD hS 0 rfl rfl 13 (by decide) (hts _ w_101) (fun _ h9 => h9) rfl hnm rfl (by decide +kernel) rfl rfl (Nat.le_of_ble_eq_true rfl) dX0_init_33 (fun H locs hP hD hS => ?_)
  have hP : va_P G vwCl [(h0, .inr (0, [.int 0, .int 0, .int 0, .int 0, .int 0, .int 0, .int 0, .int 0, .int 0, .int 0, .ref q1, .ref q2, .ref q3, .ref q4, .null, .null, .null, .null, .null])), (q1, .inl (cI, 12, .inl (fun _ => 0))), (q2, .inl (cI, 6, .inl (fun _ => 0))), (q3, .inl (cI, 7, .inl (fun _ => 0))), (q4, .inl (cI, 7, .inl (fun _ => 0)))] H := hP
  have hD : va_D A [(h0, .inr (0, [.int 0, .int 0, .int 0, .int 0, .int 0, .int 0, .int 0, .int 0, .int 0, .int 0, .ref q1, .ref q2, .ref q3, .ref q4, .null, .null, .null, .null, .null])), (q1, .inl (cI, 12, .inl (fun _ => 0))), (q2, .inl (cI, 6, .inl (fun _ => 0))), (q3, .inl (cI, 7, .inl (fun _ => 0))), (q4, .inl (cI, 7, .inl (fun _ => 0)))] := hD
  refine lv_aload_n hx hb dX0_init_36 rfl (lv_at hl 0 rfl) ?_
  refine lv_bipush (v := 7) hx hb dX0_init_37 (by decide) ?_
  refine m_newa (atype := .int) (n := 7) (N' := 7) (a0 := (7, .inl (fun _ => 0))) hx hb (hts _ w_162) rfl rfl hK 0 rfl hP hD hS hA (fun _ => rfl) (by decide) (by decide) (Nat.le_of_ble_eq_true rfl) (Nat.le_of_ble_eq_true rfl) (Nat.le_of_ble_eq_true rfl) dX0_init_39 (fun q5 H hP hD hS => ?_)
  have hP : va_P G vwCl [(h0, .inr (0, [.int 0, .int 0, .int 0, .int 0, .int 0, .int 0, .int 0, .int 0, .int 0, .int 0, .ref q1, .ref q2, .ref q3, .ref q4, .null, .null, .null, .null, .null])), (q1, .inl (cI, 12, .inl (fun _ => 0))), (q2, .inl (cI, 6, .inl (fun _ => 0))), (q3, .inl (cI, 7, .inl (fun _ => 0))), (q4, .inl (cI, 7, .inl (fun _ => 0))), (q5, .inl (cI, 7, .inl (fun _ => 0)))] H := hP
  have hD : va_D A [(h0, .inr (0, [.int 0, .int 0, .int 0, .int 0, .int 0, .int 0, .int 0, .int 0, .int 0, .int 0, .ref q1, .ref q2, .ref q3, .ref q4, .null, .null, .null, .null, .null])), (q1, .inl (cI, 12, .inl (fun _ => 0))), (q2, .inl (cI, 6, .inl (fun _ => 0))), (q3, .inl (cI, 7, .inl (fun _ => 0))), (q4, .inl (cI, 7, .inl (fun _ => 0))), (q5, .inl (cI, 7, .inl (fun _ => 0)))] := hD
  refine va_putF (D := G) (ci := 0) (v := .ref q5) (ty := .array .int) (C := RX0) (T := TX0) (N := 19) hx hb hts iG_X0 tyX0 tyX0_ok nmX0 hown hK hP hD hS 0 rfl rfl 14 (by decide) (hts _ w_105) (fun _ h9 => h9) rfl hnm rfl (by decide +kernel) rfl rfl (Nat.le_of_ble_eq_true rfl) dX0_init_41 (fun H locs hP hD hS => ?_)
  have hP : va_P G vwCl [(h0, .inr (0, [.int 0, .int 0, .int 0, .int 0, .int 0, .int 0, .int 0, .int 0, .int 0, .int 0, .ref q1, .ref q2, .ref q3, .ref q4, .ref q5, .null, .null, .null, .null])), (q1, .inl (cI, 12, .inl (fun _ => 0))), (q2, .inl (cI, 6, .inl (fun _ => 0))), (q3, .inl (cI, 7, .inl (fun _ => 0))), (q4, .inl (cI, 7, .inl (fun _ => 0))), (q5, .inl (cI, 7, .inl (fun _ => 0)))] H := hP
  have hD : va_D A [(h0, .inr (0, [.int 0, .int 0, .int 0, .int 0, .int 0, .int 0, .int 0, .int 0, .int 0, .int 0, .ref q1, .ref q2, .ref q3, .ref q4, .ref q5, .null, .null, .null, .null])), (q1, .inl (cI, 12, .inl (fun _ => 0))), (q2, .inl (cI, 6, .inl (fun _ => 0))), (q3, .inl (cI, 7, .inl (fun _ => 0))), (q4, .inl (cI, 7, .inl (fun _ => 0))), (q5, .inl (cI, 7, .inl (fun _ => 0)))] := hD
  refine lv_aload_n hx hb dX0_init_44 rfl (lv_at hl 0 rfl) ?_
  refine lv_bipush (v := 7) hx hb dX0_init_45 (by decide) ?_
  refine m_newa (atype := .int) (n := 7) (N' := 7) (a0 := (7, .inl (fun _ => 0))) hx hb (hts _ w_162) rfl rfl hK 0 rfl hP hD hS hA (fun _ => rfl) (by decide) (by decide) (Nat.le_of_ble_eq_true rfl) (Nat.le_of_ble_eq_true rfl) (Nat.le_of_ble_eq_true rfl) dX0_init_47 (fun q6 H hP hD hS => ?_)
  have hP : va_P G vwCl [(h0, .inr (0, [.int 0, .int 0, .int 0, .int 0, .int 0, .int 0, .int 0, .int 0, .int 0, .int 0, .ref q1, .ref q2, .ref q3, .ref q4, .ref q5, .null, .null, .null, .null])), (q1, .inl (cI, 12, .inl (fun _ => 0))), (q2, .inl (cI, 6, .inl (fun _ => 0))), (q3, .inl (cI, 7, .inl (fun _ => 0))), (q4, .inl (cI, 7, .inl (fun _ => 0))), (q5, .inl (cI, 7, .inl (fun _ => 0))), (q6, .inl (cI, 7, .inl (fun _ => 0)))] H := hP
  have hD : va_D A [(h0, .inr (0, [.int 0, .int 0, .int 0, .int 0, .int 0, .int 0, .int 0, .int 0, .int 0, .int 0, .ref q1, .ref q2, .ref q3, .ref q4, .ref q5, .null, .null, .null, .null])), (q1, .inl (cI, 12, .inl (fun _ => 0))), (q2, .inl (cI, 6, .inl (fun _ => 0))), (q3, .inl (cI, 7, .inl (fun _ => 0))), (q4, .inl (cI, 7, .inl (fun _ => 0))), (q5, .inl (cI, 7, .inl (fun _ => 0))), (q6, .inl (cI, 7, .inl (fun _ => 0)))] := hD
  refine va_putF (D := G) (ci := 0) (v := .ref q6) (ty := .array .int) (C := RX0) (T := TX0) (N := 19) hx hb hts iG_X0 tyX0 tyX0_ok nmX0 hown hK hP hD hS 0 rfl rfl 15 (by decide) (hts _ w_109) (fun _ h9 => h9) rfl hnm rfl (by decide +kernel) rfl rfl (Nat.le_of_ble_eq_true rfl) dX0_init_49 (fun H locs hP hD hS => ?_)
  have hP : va_P G vwCl [(h0, .inr (0, [.int 0, .int 0, .int 0, .int 0, .int 0, .int 0, .int 0, .int 0, .int 0, .int 0, .ref q1, .ref q2, .ref q3, .ref q4, .ref q5, .ref q6, .null, .null, .null])), (q1, .inl (cI, 12, .inl (fun _ => 0))), (q2, .inl (cI, 6, .inl (fun _ => 0))), (q3, .inl (cI, 7, .inl (fun _ => 0))), (q4, .inl (cI, 7, .inl (fun _ => 0))), (q5, .inl (cI, 7, .inl (fun _ => 0))), (q6, .inl (cI, 7, .inl (fun _ => 0)))] H := hP
  have hD : va_D A [(h0, .inr (0, [.int 0, .int 0, .int 0, .int 0, .int 0, .int 0, .int 0, .int 0, .int 0, .int 0, .ref q1, .ref q2, .ref q3, .ref q4, .ref q5, .ref q6, .null, .null, .null])), (q1, .inl (cI, 12, .inl (fun _ => 0))), (q2, .inl (cI, 6, .inl (fun _ => 0))), (q3, .inl (cI, 7, .inl (fun _ => 0))), (q4, .inl (cI, 7, .inl (fun _ => 0))), (q5, .inl (cI, 7, .inl (fun _ => 0))), (q6, .inl (cI, 7, .inl (fun _ => 0)))] := hD
  refine lv_aload_n hx hb dX0_init_52 rfl (lv_at hl 0 rfl) ?_
  refine lv_bipush (v := 7) hx hb dX0_init_53 (by decide) ?_
  refine m_newa (atype := .int) (n := 7) (N' := 7) (a0 := (7, .inl (fun _ => 0))) hx hb (hts _ w_162) rfl rfl hK 0 rfl hP hD hS hA (fun _ => rfl) (by decide) (by decide) (Nat.le_of_ble_eq_true rfl) (Nat.le_of_ble_eq_true rfl) (Nat.le_of_ble_eq_true rfl) dX0_init_55 (fun q7 H hP hD hS => ?_)
  have hP : va_P G vwCl [(h0, .inr (0, [.int 0, .int 0, .int 0, .int 0, .int 0, .int 0, .int 0, .int 0, .int 0, .int 0, .ref q1, .ref q2, .ref q3, .ref q4, .ref q5, .ref q6, .null, .null, .null])), (q1, .inl (cI, 12, .inl (fun _ => 0))), (q2, .inl (cI, 6, .inl (fun _ => 0))), (q3, .inl (cI, 7, .inl (fun _ => 0))), (q4, .inl (cI, 7, .inl (fun _ => 0))), (q5, .inl (cI, 7, .inl (fun _ => 0))), (q6, .inl (cI, 7, .inl (fun _ => 0))), (q7, .inl (cI, 7, .inl (fun _ => 0)))] H := hP
  have hD : va_D A [(h0, .inr (0, [.int 0, .int 0, .int 0, .int 0, .int 0, .int 0, .int 0, .int 0, .int 0, .int 0, .ref q1, .ref q2, .ref q3, .ref q4, .ref q5, .ref q6, .null, .null, .null])), (q1, .inl (cI, 12, .inl (fun _ => 0))), (q2, .inl (cI, 6, .inl (fun _ => 0))), (q3, .inl (cI, 7, .inl (fun _ => 0))), (q4, .inl (cI, 7, .inl (fun _ => 0))), (q5, .inl (cI, 7, .inl (fun _ => 0))), (q6, .inl (cI, 7, .inl (fun _ => 0))), (q7, .inl (cI, 7, .inl (fun _ => 0)))] := hD
  refine va_putF (D := G) (ci := 0) (v := .ref q7) (ty := .array .int) (C := RX0) (T := TX0) (N := 19) hx hb hts iG_X0 tyX0 tyX0_ok nmX0 hown hK hP hD hS 0 rfl rfl 16 (by decide) (hts _ w_113) (fun _ h9 => h9) rfl hnm rfl (by decide +kernel) rfl rfl (Nat.le_of_ble_eq_true rfl) dX0_init_57 (fun H locs hP hD hS => ?_)
  have hP : va_P G vwCl [(h0, .inr (0, [.int 0, .int 0, .int 0, .int 0, .int 0, .int 0, .int 0, .int 0, .int 0, .int 0, .ref q1, .ref q2, .ref q3, .ref q4, .ref q5, .ref q6, .ref q7, .null, .null])), (q1, .inl (cI, 12, .inl (fun _ => 0))), (q2, .inl (cI, 6, .inl (fun _ => 0))), (q3, .inl (cI, 7, .inl (fun _ => 0))), (q4, .inl (cI, 7, .inl (fun _ => 0))), (q5, .inl (cI, 7, .inl (fun _ => 0))), (q6, .inl (cI, 7, .inl (fun _ => 0))), (q7, .inl (cI, 7, .inl (fun _ => 0)))] H := hP
  have hD : va_D A [(h0, .inr (0, [.int 0, .int 0, .int 0, .int 0, .int 0, .int 0, .int 0, .int 0, .int 0, .int 0, .ref q1, .ref q2, .ref q3, .ref q4, .ref q5, .ref q6, .ref q7, .null, .null])), (q1, .inl (cI, 12, .inl (fun _ => 0))), (q2, .inl (cI, 6, .inl (fun _ => 0))), (q3, .inl (cI, 7, .inl (fun _ => 0))), (q4, .inl (cI, 7, .inl (fun _ => 0))), (q5, .inl (cI, 7, .inl (fun _ => 0))), (q6, .inl (cI, 7, .inl (fun _ => 0))), (q7, .inl (cI, 7, .inl (fun _ => 0)))] := hD
  refine lv_aload_n hx hb dX0_init_60 rfl (lv_at hl 0 rfl) ?_
  refine lv_bipush (v := 56) hx hb dX0_init_61 (by decide) ?_
  refine m_newa (atype := .int) (n := 56) (N' := 56) (a0 := (56, .inl (fun _ => 0))) hx hb (hts _ w_162) rfl rfl hK 0 rfl hP hD hS hA (fun _ => rfl) (by decide) (by decide) (Nat.le_of_ble_eq_true rfl) (Nat.le_of_ble_eq_true rfl) (Nat.le_of_ble_eq_true rfl) dX0_init_63 (fun q8 H hP hD hS => ?_)
  have hP : va_P G vwCl [(h0, .inr (0, [.int 0, .int 0, .int 0, .int 0, .int 0, .int 0, .int 0, .int 0, .int 0, .int 0, .ref q1, .ref q2, .ref q3, .ref q4, .ref q5, .ref q6, .ref q7, .null, .null])), (q1, .inl (cI, 12, .inl (fun _ => 0))), (q2, .inl (cI, 6, .inl (fun _ => 0))), (q3, .inl (cI, 7, .inl (fun _ => 0))), (q4, .inl (cI, 7, .inl (fun _ => 0))), (q5, .inl (cI, 7, .inl (fun _ => 0))), (q6, .inl (cI, 7, .inl (fun _ => 0))), (q7, .inl (cI, 7, .inl (fun _ => 0))), (q8, .inl (cI, 56, .inl (fun _ => 0)))] H := hP
  have hD : va_D A [(h0, .inr (0, [.int 0, .int 0, .int 0, .int 0, .int 0, .int 0, .int 0, .int 0, .int 0, .int 0, .ref q1, .ref q2, .ref q3, .ref q4, .ref q5, .ref q6, .ref q7, .null, .null])), (q1, .inl (cI, 12, .inl (fun _ => 0))), (q2, .inl (cI, 6, .inl (fun _ => 0))), (q3, .inl (cI, 7, .inl (fun _ => 0))), (q4, .inl (cI, 7, .inl (fun _ => 0))), (q5, .inl (cI, 7, .inl (fun _ => 0))), (q6, .inl (cI, 7, .inl (fun _ => 0))), (q7, .inl (cI, 7, .inl (fun _ => 0))), (q8, .inl (cI, 56, .inl (fun _ => 0)))] := hD
  refine va_putF (D := G) (ci := 0) (v := .ref q8) (ty := .array .int) (C := RX0) (T := TX0) (N := 19) hx hb hts iG_X0 tyX0 tyX0_ok nmX0 hown hK hP hD hS 0 rfl rfl 17 (by decide) (hts _ w_117) (fun _ h9 => h9) rfl hnm rfl (by decide +kernel) rfl rfl (Nat.le_of_ble_eq_true rfl) dX0_init_65 (fun H locs hP hD hS => ?_)
  have hP : va_P G vwCl [(h0, .inr (0, [.int 0, .int 0, .int 0, .int 0, .int 0, .int 0, .int 0, .int 0, .int 0, .int 0, .ref q1, .ref q2, .ref q3, .ref q4, .ref q5, .ref q6, .ref q7, .ref q8, .null])), (q1, .inl (cI, 12, .inl (fun _ => 0))), (q2, .inl (cI, 6, .inl (fun _ => 0))), (q3, .inl (cI, 7, .inl (fun _ => 0))), (q4, .inl (cI, 7, .inl (fun _ => 0))), (q5, .inl (cI, 7, .inl (fun _ => 0))), (q6, .inl (cI, 7, .inl (fun _ => 0))), (q7, .inl (cI, 7, .inl (fun _ => 0))), (q8, .inl (cI, 56, .inl (fun _ => 0)))] H := hP
  have hD : va_D A [(h0, .inr (0, [.int 0, .int 0, .int 0, .int 0, .int 0, .int 0, .int 0, .int 0, .int 0, .int 0, .ref q1, .ref q2, .ref q3, .ref q4, .ref q5, .ref q6, .ref q7, .ref q8, .null])), (q1, .inl (cI, 12, .inl (fun _ => 0))), (q2, .inl (cI, 6, .inl (fun _ => 0))), (q3, .inl (cI, 7, .inl (fun _ => 0))), (q4, .inl (cI, 7, .inl (fun _ => 0))), (q5, .inl (cI, 7, .inl (fun _ => 0))), (q6, .inl (cI, 7, .inl (fun _ => 0))), (q7, .inl (cI, 7, .inl (fun _ => 0))), (q8, .inl (cI, 56, .inl (fun _ => 0)))] := hD
  refine lv_aload_n hx hb dX0_init_68 rfl (lv_at hl 0 rfl) ?_
  refine lv_bipush (v := 30) hx hb dX0_init_69 (by decide) ?_
  refine m_newa (atype := .int) (n := 30) (N' := 30) (a0 := (30, .inl (fun _ => 0))) hx hb (hts _ w_162) rfl rfl hK 0 rfl hP hD hS hA (fun _ => rfl) (by decide) (by decide) (Nat.le_of_ble_eq_true rfl) (Nat.le_of_ble_eq_true rfl) (Nat.le_of_ble_eq_true rfl) dX0_init_71 (fun q9 H hP hD hS => ?_)
  have hP : va_P G vwCl [(h0, .inr (0, [.int 0, .int 0, .int 0, .int 0, .int 0, .int 0, .int 0, .int 0, .int 0, .int 0, .ref q1, .ref q2, .ref q3, .ref q4, .ref q5, .ref q6, .ref q7, .ref q8, .null])), (q1, .inl (cI, 12, .inl (fun _ => 0))), (q2, .inl (cI, 6, .inl (fun _ => 0))), (q3, .inl (cI, 7, .inl (fun _ => 0))), (q4, .inl (cI, 7, .inl (fun _ => 0))), (q5, .inl (cI, 7, .inl (fun _ => 0))), (q6, .inl (cI, 7, .inl (fun _ => 0))), (q7, .inl (cI, 7, .inl (fun _ => 0))), (q8, .inl (cI, 56, .inl (fun _ => 0))), (q9, .inl (cI, 30, .inl (fun _ => 0)))] H := hP
  have hD : va_D A [(h0, .inr (0, [.int 0, .int 0, .int 0, .int 0, .int 0, .int 0, .int 0, .int 0, .int 0, .int 0, .ref q1, .ref q2, .ref q3, .ref q4, .ref q5, .ref q6, .ref q7, .ref q8, .null])), (q1, .inl (cI, 12, .inl (fun _ => 0))), (q2, .inl (cI, 6, .inl (fun _ => 0))), (q3, .inl (cI, 7, .inl (fun _ => 0))), (q4, .inl (cI, 7, .inl (fun _ => 0))), (q5, .inl (cI, 7, .inl (fun _ => 0))), (q6, .inl (cI, 7, .inl (fun _ => 0))), (q7, .inl (cI, 7, .inl (fun _ => 0))), (q8, .inl (cI, 56, .inl (fun _ => 0))), (q9, .inl (cI, 30, .inl (fun _ => 0)))] := hD
  refine va_putF (D := G) (ci := 0) (v := .ref q9) (ty := .array .int) (C := RX0) (T := TX0) (N := 19) hx hb hts iG_X0 tyX0 tyX0_ok nmX0 hown hK hP hD hS 0 rfl rfl 18 (by decide) (hts _ w_121) (fun _ h9 => h9) rfl hnm rfl (by decide +kernel) rfl rfl (Nat.le_of_ble_eq_true rfl) dX0_init_73 (fun H locs hP hD hS => ?_)
  have hP : va_P G vwCl [(h0, .inr (0, [.int 0, .int 0, .int 0, .int 0, .int 0, .int 0, .int 0, .int 0, .int 0, .int 0, .ref q1, .ref q2, .ref q3, .ref q4, .ref q5, .ref q6, .ref q7, .ref q8, .ref q9])), (q1, .inl (cI, 12, .inl (fun _ => 0))), (q2, .inl (cI, 6, .inl (fun _ => 0))), (q3, .inl (cI, 7, .inl (fun _ => 0))), (q4, .inl (cI, 7, .inl (fun _ => 0))), (q5, .inl (cI, 7, .inl (fun _ => 0))), (q6, .inl (cI, 7, .inl (fun _ => 0))), (q7, .inl (cI, 7, .inl (fun _ => 0))), (q8, .inl (cI, 56, .inl (fun _ => 0))), (q9, .inl (cI, 30, .inl (fun _ => 0)))] H := hP
  have hD : va_D A [(h0, .inr (0, [.int 0, .int 0, .int 0, .int 0, .int 0, .int 0, .int 0, .int 0, .int 0, .int 0, .ref q1, .ref q2, .ref q3, .ref q4, .ref q5, .ref q6, .ref q7, .ref q8, .ref q9])), (q1, .inl (cI, 12, .inl (fun _ => 0))), (q2, .inl (cI, 6, .inl (fun _ => 0))), (q3, .inl (cI, 7, .inl (fun _ => 0))), (q4, .inl (cI, 7, .inl (fun _ => 0))), (q5, .inl (cI, 7, .inl (fun _ => 0))), (q6, .inl (cI, 7, .inl (fun _ => 0))), (q7, .inl (cI, 7, .inl (fun _ => 0))), (q8, .inl (cI, 56, .inl (fun _ => 0))), (q9, .inl (cI, 30, .inl (fun _ => 0)))] := hD
  exact hret _ _ _ _ (fun k => ([0, 0, 0, 0, 0, 0, 0, 0, 0, 0, q1, q2, q3, q4, q5, q6, q7, q8, q9] : List Nat).getD k 0) hP hD hS dX0_init_76 trivial
set_option maxHeartbeats 4000000 in
set_option maxRecDepth 100000 in
theorem f_X8_init (l : Launch) (G : va_G) (cI cJ cZ cB cQ : ClassId) (sz : Nat) (h0 : Nat) : CV l yX8_init (wl_ yX8_init cX8_init 1 none) ({ frames := 1, cells := 1, slots := 900, locals := 12 } : Room) G (TY cI cJ cZ cB cQ) [.ref h0] [(h0, .inr (8, [.null, .int 0]))] sz (fun (u : (Nat → Nat)) => True) (fun u : (Nat → Nat) => [(h0, oX8 u 0), (u 0, .inl (cB, 900, .inl (fun _ => 0)))]) 1 900 := by
  refine CV.go (cc := cX8_init) (maxL := 1) (ret := none) (by decide) rfl (Nat.le_of_ble_eq_true rfl) ?_
  intro p e s m below meth c A ls Q hBd hret
  obtain ⟨hx, hb, hr, hml, hts, hown, hlk, hnm, hP, hK, hD, hA, hZ, hl⟩ := hBd
  have hown : s.vm.findClass RX8 = some m.cls := hown
  have hl : lv_has ls 1 [(0, .ref h0)] := hl
  have hS : va_S A s.heap s.heap [] := va_S.rf
  refine lv_aload_n hx hb dX8_init_0 rfl (lv_at hl 0 rfl) ?_
  refine W.objInit hx hb hown (hts _ w_39) (hts _ w_26) (hts _ w_27) rfl (by rw [hml]; exact hl.1) rfl dX8_init_1 (Nat.le_of_ble_eq_true rfl) (Nat.le_of_ble_eq_true rfl) ?_
  refine W.eq (g2 := F0 m 4 ls []) rfl ?_
  refine lv_aload_n hx hb dX8_init_4 rfl (lv_at hl 0 rfl) ?_
  refine lv_sipush (v := 900) hx hb dX8_init_5 (by decide) ?_
  refine m_newa (atype := .byte) (n := 900) (N' := 900) (a0 := (900, .inl (fun _ => 0))) hx hb (hts _ w_48) rfl rfl hK 3 rfl hP hD hS hA (fun _ => rfl) (by decide) (by decide) (Nat.le_of_ble_eq_true rfl) (Nat.le_of_ble_eq_true rfl) (Nat.le_of_ble_eq_true rfl) dX8_init_8 (fun q1 H hP hD hS => ?_)
  have hP : va_P G vwCl [(h0, .inr (8, [.null, .int 0])), (q1, .inl (cB, 900, .inl (fun _ => 0)))] H := hP
  have hD : va_D A [(h0, .inr (8, [.null, .int 0])), (q1, .inl (cB, 900, .inl (fun _ => 0)))] := hD
  refine va_putF (D := G) (ci := 8) (v := .ref q1) (ty := .array .byte) (C := RX8) (T := TX8) (N := 2) hx hb hts iG_X8 tyX8 tyX8_ok nmX8 hown hK hP hD hS 0 rfl rfl 0 (by decide) (hts _ w_40) (fun _ h9 => h9) rfl hnm rfl (by decide +kernel) rfl rfl (Nat.le_of_ble_eq_true rfl) dX8_init_10 (fun H locs hP hD hS => ?_)
  have hP : va_P G vwCl [(h0, .inr (8, [.ref q1, .int 0])), (q1, .inl (cB, 900, .inl (fun _ => 0)))] H := hP
  have hD : va_D A [(h0, .inr (8, [.ref q1, .int 0])), (q1, .inl (cB, 900, .inl (fun _ => 0)))] := hD
  exact hret _ _ _ _ (fun k => ([q1, 0] : List Nat).getD k 0) hP hD hS dX8_init_13 trivial
set_option maxHeartbeats 4000000 in
set_option maxRecDepth 100000 in
theorem f_X7_init (l : Launch) (G : va_G) (cI cJ cZ cB cQ : ClassId) (sz : Nat) (h0 : Nat) : CV l yX7_init (wl_ yX7_init cX7_init 1 none) ({ frames := 1, cells := 0, slots := 0, locals := 12 } : Room) G (TY cI cJ cZ cB cQ) [.ref h0] [(h0, .inr (7, [.int 0, .int 0, .long 0, .int 0, .int 0, .int 0]))] sz (fun (u : Unit) => True) (fun _ : Unit => [(h0, oX7 z0 0 0 0 0 0 0)]) 0 0 := by
  refine CV.go (cc := cX7_init) (maxL := 1) (ret := none) (by decide) rfl (Nat.le_of_ble_eq_true rfl) ?_
  intro p e s m below meth c A ls Q hBd hret
  obtain ⟨hx, hb, hr, hml, hts, hown, hlk, hnm, hP, hK, hD, hA, hZ, hl⟩ := hBd
  have hown : s.vm.findClass RX7 = some m.cls := hown
  have hl : lv_has ls 1 [(0, .ref h0)] := hl
  have hS : va_S A s.heap s.heap [] := va_S.rf
  refine lv_aload_n hx hb dX7_init_0 rfl (lv_at hl 0 rfl) ?_
  refine W.objInit hx hb hown (hts _ w_197) (hts _ w_26) (hts _ w_27) rfl (by rw [hml]; exact hl.1) rfl dX7_init_1 (Nat.le_of_ble_eq_true rfl) (Nat.le_of_ble_eq_true rfl) ?_
  refine W.eq (g2 := F0 m 4 ls []) rfl ?_
  exact hret _ _ _ _ () hP hD hS dX7_init_4 trivial
set_option maxHeartbeats 4000000 in
set_option maxRecDepth 100000 in
theorem f_X3_init (l : Launch) (G : va_G) (cI cJ cZ cB cQ : ClassId) (sz : Nat) (h0 : Nat) : CV l yX3_init (wl_ yX3_init cX3_init 1 none) ({ frames := 1, cells := 0, slots := 0, locals := 12 } : Room) G (TY cI cJ cZ cB cQ) [.ref h0] [(h0, .inr (3, [.long 0, .long 0, .long 0]))] sz (fun (u : Unit) => True) (fun _ : Unit => [(h0, oX3 z0 0 0 0)]) 0 0 := by
  refine CV.go (cc := cX3_init) (maxL := 1) (ret := none) (by decide) rfl (Nat.le_of_ble_eq_true rfl) ?_
  intro p e s m below meth c A ls Q hBd hret
  obtain ⟨hx, hb, hr, hml, hts, hown, hlk, hnm, hP, hK, hD, hA, hZ, hl⟩ := hBd
  have hown : s.vm.findClass RX3 = some m.cls := hown
  have hl : lv_has ls 1 [(0, .ref h0)] := hl
  have hS : va_S A s.heap s.heap [] := va_S.rf
  refine lv_aload_n hx hb dX3_init_0 rfl (lv_at hl 0 rfl) ?_
  refine W.objInit hx hb hown (hts _ w_305) (hts _ w_26) (hts _ w_27) rfl (by rw [hml]; exact hl.1) rfl dX3_init_1 (Nat.le_of_ble_eq_true rfl) (Nat.le_of_ble_eq_true rfl) ?_
  refine W.eq (g2 := F0 m 4 ls []) rfl ?_
  exact hret _ _ _ _ () hP hD hS dX3_init_4 trivial
set_option maxHeartbeats 4000000 in
set_option maxRecDepth 100000 in
theorem f_X2_init (l : Launch) (G : va_G) (cI cJ cZ cB cQ : ClassId) (sz : Nat) (h0 : Nat) : CV l yX2_init (wl_ yX2_init cX2_init 1 none) ({ frames := 1, cells := 0, slots := 0, locals := 12 } : Room) G (TY cI cJ cZ cB cQ) [.ref h0] [(h0, .inr (2, [.long 0, .long 0]))] sz (fun (u : Unit) => True) (fun _ : Unit => [(h0, oX2 z0 0 1)]) 0 0 := by
  refine CV.go (cc := cX2_init) (maxL := 1) (ret := none) (by decide) rfl (Nat.le_of_ble_eq_true rfl) ?_
  intro p e s m below meth c A ls Q hBd hret
  obtain ⟨hx, hb, hr, hml, hts, hown, hlk, hnm, hP, hK, hD, hA, hZ, hl⟩ := hBd
  have hown : s.vm.findClass RX2 = some m.cls := hown
  have hl : lv_has ls 1 [(0, .ref h0)] := hl
  have hS : va_S A s.heap s.heap [] := va_S.rf
  refine lv_aload_n hx hb dX2_init_0 rfl (lv_at hl 0 rfl) ?_
  refine W.objInit hx hb hown (hts _ w_343) (hts _ w_26) (hts _ w_27) rfl (by rw [hml]; exact hl.1) rfl dX2_init_1 (Nat.le_of_ble_eq_true rfl) (Nat.le_of_ble_eq_true rfl) ?_
  refine W.eq (g2 := F0 m 4 ls []) rfl ?_
  refine lv_aload_n hx hb dX2_init_4 rfl (lv_at hl 0 rfl) ?_
  refine lv_lconst (v := 1) hx hb dX2_init_5 (by decide) ?_
  refine va_put (D := G) (ci := 2) (v := .long 1) (ty := .long) (C := RX2) (T := TX2) (N := 2) hx hb hts iG_X2 tyX2 tyX2_ok nmX2 hown hK hP hD hS 0 rfl rfl 1 (by decide) (hts _ w_345) (fun _ h9 => h9) rfl (by decide +kernel) rfl rfl (Nat.le_of_ble_eq_true rfl) dX2_init_6 (fun H locs hP hD hS => ?_)
  have hP : va_P G vwCl [(h0, .inr (2, [.long 0, .long 1]))] H := hP
  have hD : va_D A [(h0, .inr (2, [.long 0, .long 1]))] := hD
  exact hret _ _ _ _ () hP hD hS dX2_init_9 trivial
set_option maxHeartbeats 4000000 in
set_option maxRecDepth 100000 in
theorem f_X6_init (l : Launch) (G : va_G) (cI cJ cZ cB cQ : ClassId) (sz : Nat) (h0 : Nat) : CV l yX6_init (wl_ yX6_init cX6_init 1 none) ({ frames := 1, cells := 10, slots := 438, locals := 12 } : Room) G (TY cI cJ cZ cB cQ) [.ref h0] [(h0, .inr (6, [.null, .null, .null, .null, .null, .null, .null, .null, .null, .null, .long 0, .int 0]))] sz (fun (u : (Nat → Nat)) => True) (fun u : (Nat → Nat) => [(h0, oX6 u 0 0), (u 0, .inl (cI, 287, .inl (fun _ => 0))), (u 1, .inl (cI, 7, .inl (fun _ => 0))), (u 2, .inl (cI, 7, .inl (fun _ => 0))), (u 3, .inl (cJ, 7, .inr (.inl (fun _ => 0)))), (u 4, .inl (cI, 7, .inl (fun _ => 0))), (u 5, .inl (cI, 6, .inl (fun _ => 0))), (u 6, .inl (cI, 78, .inl (fun _ => 0))), (u 7, .inl (cJ, 13, .inr (.inl (fun _ => 0)))), (u 8, .inl (cJ, 13, .inr (.inl (fun _ => 0)))), (u 9, .inl (cJ, 13, .inr (.inl (fun _ => 0))))]) 10 438 := by
  refine CV.go (cc := cX6_init) (maxL := 1) (ret := none) (by decide) rfl (Nat.le_of_ble_eq_true rfl) ?_
  intro p e s m below meth c A ls Q hBd hret
  obtain ⟨hx, hb, hr, hml, hts, hown, hlk, hnm, hP, hK, hD, hA, hZ, hl⟩ := hBd
  have hown : s.vm.findClass RX6 = some m.cls := hown
  have hl : lv_has ls 1 [(0, .ref h0)] := hl
  have hS : va_S A s.heap s.heap [] := va_S.rf
  refine lv_aload_n hx hb dX6_init_0 rfl (lv_at hl 0 rfl) ?_
  refine W.objInit hx hb hown (hts _ w_232) (hts _ w_26) (hts _ w_27) rfl (by rw [hml]; exact hl.1) rfl dX6_init_1 (Nat.le_of_ble_eq_true rfl) (Nat.le_of_ble_eq_true rfl) ?_
  refine W.eq (g2 := F0 m 4 ls []) rfl ?_
  refine lv_aload_n hx hb dX6_init_4 rfl (lv_at hl 0 rfl) ?_
  refine lv_sipush (v := 287) hx hb dX6_init_5 (by decide) ?_
  refine m_newa (atype := .int) (n := 287) (N' := 287) (a0 := (287, .inl (fun _ => 0))) hx hb (hts _ w_162) rfl rfl hK 0 rfl hP hD hS hA (fun _ => rfl) (by decide) (by decide) (Nat.le_of_ble_eq_true rfl) (Nat.le_of_ble_eq_true rfl) (Nat.le_of_ble_eq_true rfl) dX6_init_8 (fun q1 H hP hD hS => ?_)
  have hP : va_P G vwCl [(h0, .inr (6, [.null, .null, .null, .null, .null, .null, .null, .null, .null, .null, .long 0, .int 0])), (q1, .inl (cI, 287, .inl (fun _ => 0)))] H := hP
  have hD : va_D A [(h0, .inr (6, [.null, .null, .null, .null, .null, .null, .null, .null, .null, .null, .long 0, .int 0])), (q1, .inl (cI, 287, .inl (fun _ => 0)))] := hD
  refine va_putF (D := G) (ci := 6) (v := .ref q1) (ty := .array .int) (C := RX6) (T := TX6) (N := 12) hx hb hts iG_X6 tyX6 tyX6_ok nmX6 hown hK hP hD hS 0 rfl rfl 0 (by decide) (hts _ w_233) (fun _ h9 => h9) rfl hnm rfl (by decide +kernel) rfl rfl (Nat.le_of_ble_eq_true rfl) dX6_init_10 (fun H locs hP hD hS => ?_)
  have hP : va_P G vwCl [(h0, .inr (6, [.ref q1, .null, .null, .null, .null, .null, .null, .null, .null, .null, .long 0, .int 0])), (q1, .inl (cI, 287, .inl (fun _ => 0)))] H := hP
  have hD : va_D A [(h0, .inr (6, [.ref q1, .null, .null, .null, .null, .null, .null, .null, .null, .null, .long 0, .int 0])), (q1, .inl (cI, 287, .inl (fun _ => 0)))] := hD
  refine lv_aload_n hx hb dX6_init_13 rfl (lv_at hl 0 rfl) ?_
  refine lv_bipush (v := 7) hx hb dX6_init_14 (by decide) ?_
  refine m_newa (atype := .int) (n := 7) (N' := 7) (a0 := (7, .inl (fun _ => 0))) hx hb (hts _ w_162) rfl rfl hK 0 rfl hP hD hS hA (fun _ => rfl) (by decide) (by decide) (Nat.le_of_ble_eq_true rfl) (Nat.le_of_ble_eq_true rfl) (Nat.le_of_ble_eq_true rfl) dX6_init_16 (fun q2 H hP hD hS => ?_)
  have hP : va_P G vwCl [(h0, .inr (6, [.ref q1, .null, .null, .null, .null, .null, .null, .null, .null, .null, .long 0, .int 0])), (q1, .inl (cI, 287, .inl (fun _ => 0))), (q2, .inl (cI, 7, .inl (fun _ => 0)))] H := hP
  have hD : va_D A [(h0, .inr (6, [.ref q1, .null, .null, .null, .null, .null, .null, .null, .null, .null, .long 0, .int 0])), (q1, .inl (cI, 287, .inl (fun _ => 0))), (q2, .inl (cI, 7, .inl (fun _ => 0)))] := hD
  refine va_putF (D := G) (ci := 6) (v := .ref q2) (ty := .array .int) (C := RX6) (T := TX6) (N := 12) hx hb hts iG_X6 tyX6 tyX6_ok nmX6 hown hK hP hD hS 0 rfl rfl 1 (by decide) (hts _ w_234) (fun _ h9 => h9) rfl hnm rfl (by decide +kernel) rfl rfl (Nat.le_of_ble_eq_true rfl) dX6_init_18 (fun H locs hP hD hS => ?_)
  have hP : va_P G vwCl [(h0, .inr (6, [.ref q1, .ref q2, .null, .null, .null, .null, .null, .null, .null, .null, .long 0, .int 0])), (q1, .inl (cI, 287, .inl (fun _ => 0))), (q2, .inl (cI, 7, .inl (fun _ => 0)))] H := hP
  have hD : va_D A [(h0, .inr (6, [.ref q1, .ref q2, .null, .null, .null, .null, .null, .null, .null, .null, .long 0, .int 0])), (q1, .inl (cI, 287, .inl (fun _ => 0))), (q2, .inl (cI, 7, .inl (fun _ => 0)))] := hD
  refine lv_aload_n hx hb dX6_init_21 rfl (lv_at hl 0 rfl) ?_
  refine lv_bipush (v := 7) hx hb dX6_init_22 (by decide) ?_
  refine m_newa (atype := .int) (n := 7) (N' := 7) (a0 := (7, .inl (fun _ => 0))) hx hb (hts _ w_162) rfl rfl hK 0 rfl hP hD hS hA (fun _ => rfl) (by decide) (by decide) (Nat.le_of_ble_eq_true rfl) (Nat.le_of_ble_eq_true rfl) (Nat.le_of_ble_eq_true rfl) dX6_init_24 (fun q3 H hP hD hS => ?_)
  have hP : va_P G vwCl [(h0, .inr (6, [.ref q1, .ref q2, .null, .null, .null, .null, .null, .null, .null, .null, .long 0, .int 0])), (q1, .inl (cI, 287, .inl (fun _ => 0))), (q2, .inl (cI, 7, .inl (fun _ => 0))), (q3, .inl (cI, 7, .inl (fun _ => 0)))] H := hP
  have hD : va_D A [(h0, .inr (6, [.ref q1, .ref q2, .null, .null, .null, .null, .null, .null, .null, .null, .long 0, .int 0])), (q1, .inl (cI, 287, .inl (fun _ => 0))), (q2, .inl (cI, 7, .inl (fun _ => 0))), (q3, .inl (cI, 7, .inl (fun _ => 0)))] := hD
  refine va_putF (D := G) (ci := 6) (v := .ref q3) (ty := .array .int) (C := RX6) (T := TX6) (N := 12) hx hb hts iG_X6 tyX6 tyX6_ok nmX6 hown hK hP hD hS 0 rfl rfl 2 (by decide) (hts _ w_236) (fun _ h9 => h9) rfl hnm rfl (by decide +kernel) rfl rfl (Nat.le_of_ble_eq_true rfl) dX6_init_26 (fun H locs hP hD hS => ?_)
  have hP : va_P G vwCl [(h0, .inr (6, [.ref q1, .ref q2, .ref q3, .null, .null, .null, .null, .null, .null, .null, .long 0, .int 0])), (q1, .inl (cI, 287, .inl (fun _ => 0))), (q2, .inl (cI, 7, .inl (fun _ => 0))), (q3, .inl (cI, 7, .inl (fun _ => 0)))] H := hP
  have hD : va_D A [(h0, .inr (6, [.ref q1, .ref q2, .ref q3, .null, .null, .null, .null, .null, .null, .null, .long 0, .int 0])), (q1, .inl (cI, 287, .inl (fun _ => 0))), (q2, .inl (cI, 7, .inl (fun _ => 0))), (q3, .inl (cI, 7, .inl (fun _ => 0)))] := hD
  refine lv_aload_n hx hb dX6_init_29 rfl (lv_at hl 0 rfl) ?_
  refine lv_bipush (v := 7) hx hb dX6_init_30 (by decide) ?_
  refine m_newa (atype := .long) (n := 7) (N' := 7) (a0 := (7, .inr (.inl (fun _ => 0)))) hx hb (hts _ w_281) rfl rfl hK 1 rfl hP hD hS hA (fun _ => rfl) (by decide) (by decide) (Nat.le_of_ble_eq_true rfl) (Nat.le_of_ble_eq_true rfl) (Nat.le_of_ble_eq_true rfl) dX6_init_32 (fun q4 H hP hD hS => ?_)
  have hP : va_P G vwCl [(h0, .inr (6, [.ref q1, .ref q2, .ref q3, .null, .null, .null, .null, .null, .null, .null, .long 0, .int 0])), (q1, .inl (cI, 287, .inl (fun _ => 0))), (q2, .inl (cI, 7, .inl (fun _ => 0))), (q3, .inl (cI, 7, .inl (fun _ => 0))), (q4, .inl (cJ, 7, .inr (.inl (fun _ => 0))))] H := hP
  have hD : va_D A [(h0, .inr (6, [.ref q1, .ref q2, .ref q3, .null, .null, .null, .null, .null, .null, .null, .long 0, .int 0])), (q1, .inl (cI, 287, .inl (fun _ => 0))), (q2, .inl (cI, 7, .inl (fun _ => 0))), (q3, .inl (cI, 7, .inl (fun _ => 0))), (q4, .inl (cJ, 7, .inr (.inl (fun _ => 0))))] := hD
  refine va_putF (D := G) (ci := 6) (v := .ref q4) (ty := .array .long) (C := RX6) (T := TX6) (N := 12) hx hb hts iG_X6 tyX6 tyX6_ok nmX6 hown hK hP hD hS 0 rfl rfl 3 (by decide) (hts _ w_238) (fun _ h9 => h9) rfl hnm rfl (by decide +kernel) rfl rfl (Nat.le_of_ble_eq_true rfl) dX6_init_34 (fun H locs hP hD hS => ?_)
  have hP : va_P G vwCl [(h0, .inr (6, [.ref q1, .ref q2, .ref q3, .ref q4, .null, .null, .null, .null, .null, .null, .long 0, .int 0])), (q1, .inl (cI, 287, .inl (fun _ => 0))), (q2, .inl (cI, 7, .inl (fun _ => 0))), (q3, .inl (cI, 7, .inl (fun _ => 0))), (q4, .inl (cJ, 7, .inr (.inl (fun _ => 0))))] H := hP
  have hD : va_D A [(h0, .inr (6, [.ref q1, .ref q2, .ref q3, .ref q4, .null, .null, .null, .null, .null, .null, .long 0, .int 0])), (q1, .inl (cI, 287, .inl (fun _ => 0))), (q2, .inl (cI, 7, .inl (fun _ => 0))), (q3, .inl (cI, 7, .inl (fun _ => 0))), (q4, .inl (cJ, 7, .inr (.inl (fun _ => 0))))] := hD
  refine lv_aload_n hx hb dX6_init_37 rfl (lv_at hl 0 rfl) ?_
  refine lv_bipush (v := 7) hx hb dX6_init_38 (by decide) ?_
  refine m_newa (atype := .int) (n := 7) (N' := 7) (a0 := (7, .inl (fun _ => 0))) hx hb (hts _ w_162) rfl rfl hK 0 rfl hP hD hS hA (fun _ => rfl) (by decide) (by decide) (Nat.le_of_ble_eq_true rfl) (Nat.le_of_ble_eq_true rfl) (Nat.le_of_ble_eq_true rfl) dX6_init_40 (fun q5 H hP hD hS => ?_)
  have hP : va_P G vwCl [(h0, .inr (6, [.ref q1, .ref q2, .ref q3, .ref q4, .null, .null, .null, .null, .null, .null, .long 0, .int 0])), (q1, .inl (cI, 287, .inl (fun _ => 0))), (q2, .inl (cI, 7, .inl (fun _ => 0))), (q3, .inl (cI, 7, .inl (fun _ => 0))), (q4, .inl (cJ, 7, .inr (.inl (fun _ => 0)))), (q5, .inl (cI, 7, .inl (fun _ => 0)))] H := hP
  have hD : va_D A [(h0, .inr (6, [.ref q1, .ref q2, .ref q3, .ref q4, .null, .null, .null, .null, .null, .null, .long 0, .int 0])), (q1, .inl (cI, 287, .inl (fun _ => 0))), (q2, .inl (cI, 7, .inl (fun _ => 0))), (q3, .inl (cI, 7, .inl (fun _ => 0))), (q4, .inl (cJ, 7, .inr (.inl (fun _ => 0)))), (q5, .inl (cI, 7, .inl (fun _ => 0)))] := hD
  refine va_putF (D := G) (ci := 6) (v := .ref q5) (ty := .array .int) (C := RX6) (T := TX6) (N := 12) hx hb hts iG_X6 tyX6 tyX6_ok nmX6 hown hK hP hD hS 0 rfl rfl 4 (by decide) (hts _ w_240) (fun _ h9 => h9) rfl hnm rfl (by decide +kernel) rfl rfl (Nat.le_of_ble_eq_true rfl) dX6_init_42 (fun H locs hP hD hS => ?_)
  have hP : va_P G vwCl [(h0, .inr (6, [.ref q1, .ref q2, .ref q3, .ref q4, .ref q5, .null, .null, .null, .null, .null, .long 0, .int 0])), (q1, .inl (cI, 287, .inl (fun _ => 0))), (q2, .inl (cI, 7, .inl (fun _ => 0))), (q3, .inl (cI, 7, .inl (fun _ => 0))), (q4, .inl (cJ, 7, .inr (.inl (fun _ => 0)))), (q5, .inl (cI, 7, .inl (fun _ => 0)))] H := hP
  have hD : va_D A [(h0, .inr (6, [.ref q1, .ref q2, .ref q3, .ref q4, .ref q5, .null, .null, .null, .null, .null, .long 0, .int 0])), (q1, .inl (cI, 287, .inl (fun _ => 0))), (q2, .inl (cI, 7, .inl (fun _ => 0))), (q3, .inl (cI, 7, .inl (fun _ => 0))), (q4, .inl (cJ, 7, .inr (.inl (fun _ => 0)))), (q5, .inl (cI, 7, .inl (fun _ => 0)))] := hD
  refine lv_aload_n hx hb dX6_init_45 rfl (lv_at hl 0 rfl) ?_
  refine lv_bipush (v := 6) hx hb dX6_init_46 (by decide) ?_
  refine m_newa (atype := .int) (n := 6) (N' := 6) (a0 := (6, .inl (fun _ => 0))) hx hb (hts _ w_162) rfl rfl hK 0 rfl hP hD hS hA (fun _ => rfl) (by decide) (by decide) (Nat.le_of_ble_eq_true rfl) (Nat.le_of_ble_eq_true rfl) (Nat.le_of_ble_eq_true rfl) dX6_init_48 (fun q6 H hP hD hS => ?_)
  have hP : va_P G vwCl [(h0, .inr (6, [.ref q1, .ref q2, .ref q3, .ref q4, .ref q5, .null, .null, .null, .null, .null, .long 0, .int 0])), (q1, .inl (cI, 287, .inl (fun _ => 0))), (q2, .inl (cI, 7, .inl (fun _ => 0))), (q3, .inl (cI, 7, .inl (fun _ => 0))), (q4, .inl (cJ, 7, .inr (.inl (fun _ => 0)))), (q5, .inl (cI, 7, .inl (fun _ => 0))), (q6, .inl (cI, 6, .inl (fun _ => 0)))] H := hP
  have hD : va_D A [(h0, .inr (6, [.ref q1, .ref q2, .ref q3, .ref q4, .ref q5, .null, .null, .null, .null, .null, .long 0, .int 0])), (q1, .inl (cI, 287, .inl (fun _ => 0))), (q2, .inl (cI, 7, .inl (fun _ => 0))), (q3, .inl (cI, 7, .inl (fun _ => 0))), (q4, .inl (cJ, 7, .inr (.inl (fun _ => 0)))), (q5, .inl (cI, 7, .inl (fun _ => 0))), (q6, .inl (cI, 6, .inl (fun _ => 0)))] := hD
  refine va_putF (D := G) (ci := 6) (v := .ref q6) (ty := .array .int) (C := RX6) (T := TX6) (N := 12) hx hb hts iG_X6 tyX6 tyX6_ok nmX6 hown hK hP hD hS 0 rfl rfl 5 (by decide) (hts _ w_242) (fun _ h9 => h9) rfl hnm rfl (by decide +kernel) rfl rfl (Nat.le_of_ble_eq_true rfl) dX6_init_50 (fun H locs hP hD hS => ?_)
  have hP : va_P G vwCl [(h0, .inr (6, [.ref q1, .ref q2, .ref q3, .ref q4, .ref q5, .ref q6, .null, .null, .null, .null, .long 0, .int 0])), (q1, .inl (cI, 287, .inl (fun _ => 0))), (q2, .inl (cI, 7, .inl (fun _ => 0))), (q3, .inl (cI, 7, .inl (fun _ => 0))), (q4, .inl (cJ, 7, .inr (.inl (fun _ => 0)))), (q5, .inl (cI, 7, .inl (fun _ => 0))), (q6, .inl (cI, 6, .inl (fun _ => 0)))] H := hP
  have hD : va_D A [(h0, .inr (6, [.ref q1, .ref q2, .ref q3, .ref q4, .ref q5, .ref q6, .null, .null, .null, .null, .long 0, .int 0])), (q1, .inl (cI, 287, .inl (fun _ => 0))), (q2, .inl (cI, 7, .inl (fun _ => 0))), (q3, .inl (cI, 7, .inl (fun _ => 0))), (q4, .inl (cJ, 7, .inr (.inl (fun _ => 0)))), (q5, .inl (cI, 7, .inl (fun _ => 0))), (q6, .inl (cI, 6, .inl (fun _ => 0)))] := hD
  refine lv_aload_n hx hb dX6_init_53 rfl (lv_at hl 0 rfl) ?_
  refine lv_bipush (v := 78) hx hb dX6_init_54 (by decide) ?_
  refine m_newa (atype := .int) (n := 78) (N' := 78) (a0 := (78, .inl (fun _ => 0))) hx hb (hts _ w_162) rfl rfl hK 0 rfl hP hD hS hA (fun _ => rfl) (by decide) (by decide) (Nat.le_of_ble_eq_true rfl) (Nat.le_of_ble_eq_true rfl) (Nat.le_of_ble_eq_true rfl) dX6_init_56 (fun q7 H hP hD hS => ?_)
  have hP : va_P G vwCl [(h0, .inr (6, [.ref q1, .ref q2, .ref q3, .ref q4, .ref q5, .ref q6, .null, .null, .null, .null, .long 0, .int 0])), (q1, .inl (cI, 287, .inl (fun _ => 0))), (q2, .inl (cI, 7, .inl (fun _ => 0))), (q3, .inl (cI, 7, .inl (fun _ => 0))), (q4, .inl (cJ, 7, .inr (.inl (fun _ => 0)))), (q5, .inl (cI, 7, .inl (fun _ => 0))), (q6, .inl (cI, 6, .inl (fun _ => 0))), (q7, .inl (cI, 78, .inl (fun _ => 0)))] H := hP
  have hD : va_D A [(h0, .inr (6, [.ref q1, .ref q2, .ref q3, .ref q4, .ref q5, .ref q6, .null, .null, .null, .null, .long 0, .int 0])), (q1, .inl (cI, 287, .inl (fun _ => 0))), (q2, .inl (cI, 7, .inl (fun _ => 0))), (q3, .inl (cI, 7, .inl (fun _ => 0))), (q4, .inl (cJ, 7, .inr (.inl (fun _ => 0)))), (q5, .inl (cI, 7, .inl (fun _ => 0))), (q6, .inl (cI, 6, .inl (fun _ => 0))), (q7, .inl (cI, 78, .inl (fun _ => 0)))] := hD
  refine va_putF (D := G) (ci := 6) (v := .ref q7) (ty := .array .int) (C := RX6) (T := TX6) (N := 12) hx hb hts iG_X6 tyX6 tyX6_ok nmX6 hown hK hP hD hS 0 rfl rfl 6 (by decide) (hts _ w_244) (fun _ h9 => h9) rfl hnm rfl (by decide +kernel) rfl rfl (Nat.le_of_ble_eq_true rfl) dX6_init_58 (fun H locs hP hD hS => ?_)
  have hP : va_P G vwCl [(h0, .inr (6, [.ref q1, .ref q2, .ref q3, .ref q4, .ref q5, .ref q6, .ref q7, .null, .null, .null, .long 0, .int 0])), (q1, .inl (cI, 287, .inl (fun _ => 0))), (q2, .inl (cI, 7, .inl (fun _ => 0))), (q3, .inl (cI, 7, .inl (fun _ => 0))), (q4, .inl (cJ, 7, .inr (.inl (fun _ => 0)))), (q5, .inl (cI, 7, .inl (fun _ => 0))), (q6, .inl (cI, 6, .inl (fun _ => 0))), (q7, .inl (cI, 78, .inl (fun _ => 0)))] H := hP
  have hD : va_D A [(h0, .inr (6, [.ref q1, .ref q2, .ref q3, .ref q4, .ref q5, .ref q6, .ref q7, .null, .null, .null, .long 0, .int 0])), (q1, .inl (cI, 287, .inl (fun _ => 0))), (q2, .inl (cI, 7, .inl (fun _ => 0))), (q3, .inl (cI, 7, .inl (fun _ => 0))), (q4, .inl (cJ, 7, .inr (.inl (fun _ => 0)))), (q5, .inl (cI, 7, .inl (fun _ => 0))), (q6, .inl (cI, 6, .inl (fun _ => 0))), (q7, .inl (cI, 78, .inl (fun _ => 0)))] := hD
  refine lv_aload_n hx hb dX6_init_61 rfl (lv_at hl 0 rfl) ?_
  refine lv_bipush (v := 13) hx hb dX6_init_62 (by decide) ?_
  refine m_newa (atype := .long) (n := 13) (N' := 13) (a0 := (13, .inr (.inl (fun _ => 0)))) hx hb (hts _ w_281) rfl rfl hK 1 rfl hP hD hS hA (fun _ => rfl) (by decide) (by decide) (Nat.le_of_ble_eq_true rfl) (Nat.le_of_ble_eq_true rfl) (Nat.le_of_ble_eq_true rfl) dX6_init_64 (fun q8 H hP hD hS => ?_)
  have hP : va_P G vwCl [(h0, .inr (6, [.ref q1, .ref q2, .ref q3, .ref q4, .ref q5, .ref q6, .ref q7, .null, .null, .null, .long 0, .int 0])), (q1, .inl (cI, 287, .inl (fun _ => 0))), (q2, .inl (cI, 7, .inl (fun _ => 0))), (q3, .inl (cI, 7, .inl (fun _ => 0))), (q4, .inl (cJ, 7, .inr (.inl (fun _ => 0)))), (q5, .inl (cI, 7, .inl (fun _ => 0))), (q6, .inl (cI, 6, .inl (fun _ => 0))), (q7, .inl (cI, 78, .inl (fun _ => 0))), (q8, .inl (cJ, 13, .inr (.inl (fun _ => 0))))] H := hP
  have hD : va_D A [(h0, .inr (6, [.ref q1, .ref q2, .ref q3, .ref q4, .ref q5, .ref q6, .ref q7, .null, .null, .null, .long 0, .int 0])), (q1, .inl (cI, 287, .inl (fun _ => 0))), (q2, .inl (cI, 7, .inl (fun _ => 0))), (q3, .inl (cI, 7, .inl (fun _ => 0))), (q4, .inl (cJ, 7, .inr (.inl (fun _ => 0)))), (q5, .inl (cI, 7, .inl (fun _ => 0))), (q6, .inl (cI, 6, .inl (fun _ => 0))), (q7, .inl (cI, 78, .inl (fun _ => 0))), (q8, .inl (cJ, 13, .inr (.inl (fun _ => 0))))] := hD
  refine va_putF (D := G) (ci := 6) (v := .ref q8) (ty := .array .long) (C := RX6) (T := TX6) (N := 12) hx hb hts iG_X6 tyX6 tyX6_ok nmX6 hown hK hP hD hS 0 rfl rfl 7 (by decide) (hts _ w_246) (fun _ h9 => h9) rfl hnm rfl (by decide +kernel) rfl rfl (Nat.le_of_ble_eq_true rfl) dX6_init_66 (fun H locs hP hD hS => ?_)
  have hP : va_P G vwCl [(h0, .inr (6, [.ref q1, .ref q2, .ref q3, .ref q4, .ref q5, .ref q6, .ref q7, .ref q8, .null, .null, .long 0, .int 0])), (q1, .inl (cI, 287, .inl (fun _ => 0))), (q2, .inl (cI, 7, .inl (fun _ => 0))), (q3, .inl (cI, 7, .inl (fun _ => 0))), (q4, .inl (cJ, 7, .inr (.inl (fun _ => 0)))), (q5, .inl (cI, 7, .inl (fun _ => 0))), (q6, .inl (cI, 6, .inl (fun _ => 0))), (q7, .inl (cI, 78, .inl (fun _ => 0))), (q8, .inl (cJ, 13, .inr (.inl (fun _ => 0))))] H := hP
  have hD : va_D A [(h0, .inr (6, [.ref q1, .ref q2, .ref q3, .ref q4, .ref q5, .ref q6, .ref q7, .ref q8, .null, .null, .long 0, .int 0])), (q1, .inl (cI, 287, .inl (fun _ => 0))), (q2, .inl (cI, 7, .inl (fun _ => 0))), (q3, .inl (cI, 7, .inl (fun _ => 0))), (q4, .inl (cJ, 7, .inr (.inl (fun _ => 0)))), (q5, .inl (cI, 7, .inl (fun _ => 0))), (q6, .inl (cI, 6, .inl (fun _ => 0))), (q7, .inl (cI, 78, .inl (fun _ => 0))), (q8, .inl (cJ, 13, .inr (.inl (fun _ => 0))))] := hD
  refine lv_aload_n hx hb dX6_init_69 rfl (lv_at hl 0 rfl) ?_
  refine lv_bipush (v := 13) hx hb dX6_init_70 (by decide) ?_
  refine m_newa (atype := .long) (n := 13) (N' := 13) (a0 := (13, .inr (.inl (fun _ => 0)))) hx hb (hts _ w_281) rfl rfl hK 1 rfl hP hD hS hA (fun _ => rfl) (by decide) (by decide) (Nat.le_of_ble_eq_true rfl) (Nat.le_of_ble_eq_true rfl) (Nat.le_of_ble_eq_true rfl) dX6_init_72 (fun q9 H hP hD hS => ?_)
  have hP : va_P G vwCl [(h0, .inr (6, [.ref q1, .ref q2, .ref q3, .ref q4, .ref q5, .ref q6, .ref q7, .ref q8, .null, .null, .long 0, .int 0])), (q1, .inl (cI, 287, .inl (fun _ => 0))), (q2, .inl (cI, 7, .inl (fun _ => 0))), (q3, .inl (cI, 7, .inl (fun _ => 0))), (q4, .inl (cJ, 7, .inr (.inl (fun _ => 0)))), (q5, .inl (cI, 7, .inl (fun _ => 0))), (q6, .inl (cI, 6, .inl (fun _ => 0))), (q7, .inl (cI, 78, .inl (fun _ => 0))), (q8, .inl (cJ, 13, .inr (.inl (fun _ => 0)))), (q9, .inl (cJ, 13, .inr (.inl (fun _ => 0))))] H := hP
  have hD : va_D A [(h0, .inr (6, [.ref q1, .ref q2, .ref q3, .ref q4, .ref q5, .ref q6, .ref q7, .ref q8, .null, .null, .long 0, .int 0])), (q1, .inl (cI, 287, .inl (fun _ => 0))), (q2, .inl (cI, 7, .inl (fun _ => 0))), (q3, .inl (cI, 7, .inl (fun _ => 0))), (q4, .inl (cJ, 7, .inr (.inl (fun _ => 0)))), (q5, .inl (cI, 7, .inl (fun _ => 0))), (q6, .inl (cI, 6, .inl (fun _ => 0))), (q7, .inl (cI, 78, .inl (fun _ => 0))), (q8, .inl (cJ, 13, .inr (.inl (fun _ => 0)))), (q9, .inl (cJ, 13, .inr (.inl (fun _ => 0))))] := hD
  refine va_putF (D := G) (ci := 6) (v := .ref q9) (ty := .array .long) (C := RX6) (T := TX6) (N := 12) hx hb hts iG_X6 tyX6 tyX6_ok nmX6 hown hK hP hD hS 0 rfl rfl 8 (by decide) (hts _ w_250) (fun _ h9 => h9) rfl hnm rfl (by decide +kernel) rfl rfl (Nat.le_of_ble_eq_true rfl) dX6_init_74 (fun H locs hP hD hS => ?_)
  have hP : va_P G vwCl [(h0, .inr (6, [.ref q1, .ref q2, .ref q3, .ref q4, .ref q5, .ref q6, .ref q7, .ref q8, .ref q9, .null, .long 0, .int 0])), (q1, .inl (cI, 287, .inl (fun _ => 0))), (q2, .inl (cI, 7, .inl (fun _ => 0))), (q3, .inl (cI, 7, .inl (fun _ => 0))), (q4, .inl (cJ, 7, .inr (.inl (fun _ => 0)))), (q5, .inl (cI, 7, .inl (fun _ => 0))), (q6, .inl (cI, 6, .inl (fun _ => 0))), (q7, .inl (cI, 78, .inl (fun _ => 0))), (q8, .inl (cJ, 13, .inr (.inl (fun _ => 0)))), (q9, .inl (cJ, 13, .inr (.inl (fun _ => 0))))] H := hP
  have hD : va_D A [(h0, .inr (6, [.ref q1, .ref q2, .ref q3, .ref q4, .ref q5, .ref q6, .ref q7, .ref q8, .ref q9, .null, .long 0, .int 0])), (q1, .inl (cI, 287, .inl (fun _ => 0))), (q2, .inl (cI, 7, .inl (fun _ => 0))), (q3, .inl (cI, 7, .inl (fun _ => 0))), (q4, .inl (cJ, 7, .inr (.inl (fun _ => 0)))), (q5, .inl (cI, 7, .inl (fun _ => 0))), (q6, .inl (cI, 6, .inl (fun _ => 0))), (q7, .inl (cI, 78, .inl (fun _ => 0))), (q8, .inl (cJ, 13, .inr (.inl (fun _ => 0)))), (q9, .inl (cJ, 13, .inr (.inl (fun _ => 0))))] := hD
  refine lv_aload_n hx hb dX6_init_77 rfl (lv_at hl 0 rfl) ?_
  refine lv_bipush (v := 13) hx hb dX6_init_78 (by decide) ?_
  refine m_newa (atype := .long) (n := 13) (N' := 13) (a0 := (13, .inr (.inl (fun _ => 0)))) hx hb (hts _ w_281) rfl rfl hK 1 rfl hP hD hS hA (fun _ => rfl) (by decide) (by decide) (Nat.le_of_ble_eq_true rfl) (Nat.le_of_ble_eq_true rfl) (Nat.le_of_ble_eq_true rfl) dX6_init_80 (fun q10 H hP hD hS => ?_)
  have hP : va_P G vwCl [(h0, .inr (6, [.ref q1, .ref q2, .ref q3, .ref q4, .ref q5, .ref q6, .ref q7, .ref q8, .ref q9, .null, .long 0, .int 0])), (q1, .inl (cI, 287, .inl (fun _ => 0))), (q2, .inl (cI, 7, .inl (fun _ => 0))), (q3, .inl (cI, 7, .inl (fun _ => 0))), (q4, .inl (cJ, 7, .inr (.inl (fun _ => 0)))), (q5, .inl (cI, 7, .inl (fun _ => 0))), (q6, .inl (cI, 6, .inl (fun _ => 0))), (q7, .inl (cI, 78, .inl (fun _ => 0))), (q8, .inl (cJ, 13, .inr (.inl (fun _ => 0)))), (q9, .inl (cJ, 13, .inr (.inl (fun _ => 0)))), (q10, .inl (cJ, 13, .inr (.inl (fun _ => 0))))] H := hP
  have hD : va_D A [(h0, .inr (6, [.ref q1, .ref q2, .ref q3, .ref q4, .ref q5, .ref q6, .ref q7, .ref q8, .ref q9, .null, .long 0, .int 0])), (q1, .inl (cI, 287, .inl (fun _ => 0))), (q2, .inl (cI, 7, .inl (fun _ => 0))), (q3, .inl (cI, 7, .inl (fun _ => 0))), (q4, .inl (cJ, 7, .inr (.inl (fun _ => 0)))), (q5, .inl (cI, 7, .inl (fun _ => 0))), (q6, .inl (cI, 6, .inl (fun _ => 0))), (q7, .inl (cI, 78, .inl (fun _ => 0))), (q8, .inl (cJ, 13, .inr (.inl (fun _ => 0)))), (q9, .inl (cJ, 13, .inr (.inl (fun _ => 0)))), (q10, .inl (cJ, 13, .inr (.inl (fun _ => 0))))] := hD
  refine va_putF (D := G) (ci := 6) (v := .ref q10) (ty := .array .long) (C := RX6) (T := TX6) (N := 12) hx hb hts iG_X6 tyX6 tyX6_ok nmX6 hown hK hP hD hS 0 rfl rfl 9 (by decide) (hts _ w_252) (fun _ h9 => h9) rfl hnm rfl (by decide +kernel) rfl rfl (Nat.le_of_ble_eq_true rfl) dX6_init_82 (fun H locs hP hD hS => ?_)
  have hP : va_P G vwCl [(h0, .inr (6, [.ref q1, .ref q2, .ref q3, .ref q4, .ref q5, .ref q6, .ref q7, .ref q8, .ref q9, .ref q10, .long 0, .int 0])), (q1, .inl (cI, 287, .inl (fun _ => 0))), (q2, .inl (cI, 7, .inl (fun _ => 0))), (q3, .inl (cI, 7, .inl (fun _ => 0))), (q4, .inl (cJ, 7, .inr (.inl (fun _ => 0)))), (q5, .inl (cI, 7, .inl (fun _ => 0))), (q6, .inl (cI, 6, .inl (fun _ => 0))), (q7, .inl (cI, 78, .inl (fun _ => 0))), (q8, .inl (cJ, 13, .inr (.inl (fun _ => 0)))), (q9, .inl (cJ, 13, .inr (.inl (fun _ => 0)))), (q10, .inl (cJ, 13, .inr (.inl (fun _ => 0))))] H := hP
  have hD : va_D A [(h0, .inr (6, [.ref q1, .ref q2, .ref q3, .ref q4, .ref q5, .ref q6, .ref q7, .ref q8, .ref q9, .ref q10, .long 0, .int 0])), (q1, .inl (cI, 287, .inl (fun _ => 0))), (q2, .inl (cI, 7, .inl (fun _ => 0))), (q3, .inl (cI, 7, .inl (fun _ => 0))), (q4, .inl (cJ, 7, .inr (.inl (fun _ => 0)))), (q5, .inl (cI, 7, .inl (fun _ => 0))), (q6, .inl (cI, 6, .inl (fun _ => 0))), (q7, .inl (cI, 78, .inl (fun _ => 0))), (q8, .inl (cJ, 13, .inr (.inl (fun _ => 0)))), (q9, .inl (cJ, 13, .inr (.inl (fun _ => 0)))), (q10, .inl (cJ, 13, .inr (.inl (fun _ => 0))))] := hD
  exact hret _ _ _ _ (fun k => ([q1, q2, q3, q4, q5, q6, q7, q8, q9, q10, 0, 0] : List Nat).getD k 0) hP hD hS dX6_init_85 trivial
set_option maxHeartbeats 4000000 in
set_option maxRecDepth 100000 in
theorem f_X1_init (l : Launch) (G : va_G) (cI cJ cZ cB cQ : ClassId) (sz : Nat) (h0 : Nat) : CV l yX1_init (wl_ yX1_init cX1_init 1 none) ({ frames := 1, cells := 2, slots := 256, locals := 12 } : Room) G (TY cI cJ cZ cB cQ) [.ref h0] [(h0, .inr (1, [.null, .null, .int 0]))] sz (fun (u : (Nat → Nat)) => True) (fun u : (Nat → Nat) => [(h0, oX1 u 0), (u 0, .inl (cJ, 128, .inr (.inl (fun _ => 0)))), (u 1, .inl (cI, 128, .inl (fun _ => 0)))]) 2 256 := by
  refine CV.go (cc := cX1_init) (maxL := 1) (ret := none) (by decide) rfl (Nat.le_of_ble_eq_true rfl) ?_
  intro p e s m below meth c A ls Q hBd hret
  obtain ⟨hx, hb, hr, hml, hts, hown, hlk, hnm, hP, hK, hD, hA, hZ, hl⟩ := hBd
  have hown : s.vm.findClass RX1 = some m.cls := hown
  have hl : lv_has ls 1 [(0, .ref h0)] := hl
  have hS : va_S A s.heap s.heap [] := va_S.rf
  refine lv_aload_n hx hb dX1_init_0 rfl (lv_at hl 0 rfl) ?_
  refine W.objInit hx hb hown (hts _ w_287) (hts _ w_26) (hts _ w_27) rfl (by rw [hml]; exact hl.1) rfl dX1_init_1 (Nat.le_of_ble_eq_true rfl) (Nat.le_of_ble_eq_true rfl) ?_
  refine W.eq (g2 := F0 m 4 ls []) rfl ?_
  refine lv_aload_n hx hb dX1_init_4 rfl (lv_at hl 0 rfl) ?_
  refine lv_sipush (v := 128) hx hb dX1_init_5 (by decide) ?_
  refine m_newa (atype := .long) (n := 128) (N' := 128) (a0 := (128, .inr (.inl (fun _ => 0)))) hx hb (hts _ w_281) rfl rfl hK 1 rfl hP hD hS hA (fun _ => rfl) (by decide) (by decide) (Nat.le_of_ble_eq_true rfl) (Nat.le_of_ble_eq_true rfl) (Nat.le_of_ble_eq_true rfl) dX1_init_8 (fun q1 H hP hD hS => ?_)
  have hP : va_P G vwCl [(h0, .inr (1, [.null, .null, .int 0])), (q1, .inl (cJ, 128, .inr (.inl (fun _ => 0))))] H := hP
  have hD : va_D A [(h0, .inr (1, [.null, .null, .int 0])), (q1, .inl (cJ, 128, .inr (.inl (fun _ => 0))))] := hD
  refine va_putF (D := G) (ci := 1) (v := .ref q1) (ty := .array .long) (C := RX1) (T := TX1) (N := 3) hx hb hts iG_X1 tyX1 tyX1_ok nmX1 hown hK hP hD hS 0 rfl rfl 0 (by decide) (hts _ w_288) (fun _ h9 => h9) rfl hnm rfl (by decide +kernel) rfl rfl (Nat.le_of_ble_eq_true rfl) dX1_init_10 (fun H locs hP hD hS => ?_)
  have hP : va_P G vwCl [(h0, .inr (1, [.ref q1, .null, .int 0])), (q1, .inl (cJ, 128, .inr (.inl (fun _ => 0))))] H := hP
  have hD : va_D A [(h0, .inr (1, [.ref q1, .null, .int 0])), (q1, .inl (cJ, 128, .inr (.inl (fun _ => 0))))] := hD
  refine lv_aload_n hx hb dX1_init_13 rfl (lv_at hl 0 rfl) ?_
  refine lv_sipush (v := 128) hx hb dX1_init_14 (by decide) ?_
  refine m_newa (atype := .int) (n := 128) (N' := 128) (a0 := (128, .inl (fun _ => 0))) hx hb (hts _ w_162) rfl rfl hK 0 rfl hP hD hS hA (fun _ => rfl) (by decide) (by decide) (Nat.le_of_ble_eq_true rfl) (Nat.le_of_ble_eq_true rfl) (Nat.le_of_ble_eq_true rfl) dX1_init_17 (fun q2 H hP hD hS => ?_)
  have hP : va_P G vwCl [(h0, .inr (1, [.ref q1, .null, .int 0])), (q1, .inl (cJ, 128, .inr (.inl (fun _ => 0)))), (q2, .inl (cI, 128, .inl (fun _ => 0)))] H := hP
  have hD : va_D A [(h0, .inr (1, [.ref q1, .null, .int 0])), (q1, .inl (cJ, 128, .inr (.inl (fun _ => 0)))), (q2, .inl (cI, 128, .inl (fun _ => 0)))] := hD
  refine va_putF (D := G) (ci := 1) (v := .ref q2) (ty := .array .int) (C := RX1) (T := TX1) (N := 3) hx hb hts iG_X1 tyX1 tyX1_ok nmX1 hown hK hP hD hS 0 rfl rfl 1 (by decide) (hts _ w_289) (fun _ h9 => h9) rfl hnm rfl (by decide +kernel) rfl rfl (Nat.le_of_ble_eq_true rfl) dX1_init_19 (fun H locs hP hD hS => ?_)
  have hP : va_P G vwCl [(h0, .inr (1, [.ref q1, .ref q2, .int 0])), (q1, .inl (cJ, 128, .inr (.inl (fun _ => 0)))), (q2, .inl (cI, 128, .inl (fun _ => 0)))] H := hP
  have hD : va_D A [(h0, .inr (1, [.ref q1, .ref q2, .int 0])), (q1, .inl (cJ, 128, .inr (.inl (fun _ => 0)))), (q2, .inl (cI, 128, .inl (fun _ => 0)))] := hD
  exact hret _ _ _ _ (fun k => ([q1, q2, 0] : List Nat).getD k 0) hP hD hS dX1_init_22 trivial
set_option maxHeartbeats 4000000 in
set_option maxRecDepth 100000 in
theorem f_X5_init (l : Launch) (G : va_G) (cI cJ cZ cB cQ : ClassId) (sz : Nat) (h0 : Nat) : CV l yX5_init (wl_ yX5_init cX5_init 1 none) ({ frames := 1, cells := 4, slots := 252, locals := 12 } : Room) G (TY cI cJ cZ cB cQ) [.ref h0] [(h0, .inr (5, [.null, .null, .null, .null]))] sz (fun (u : (Nat → Nat)) => True) (fun u : (Nat → Nat) => [(h0, oX5 u), (u 0, .inl (cJ, 240, .inr (.inl (fun _ => 0)))), (u 1, .inl (cZ, 4, .inl (fun _ => 0))), (u 2, .inl (cI, 4, .inl (fun _ => 0))), (u 3, .inl (cI, 4, .inl (fun _ => 0)))]) 4 252 := by
  refine CV.go (cc := cX5_init) (maxL := 1) (ret := none) (by decide) rfl (Nat.le_of_ble_eq_true rfl) ?_
  intro p e s m below meth c A ls Q hBd hret
  obtain ⟨hx, hb, hr, hml, hts, hown, hlk, hnm, hP, hK, hD, hA, hZ, hl⟩ := hBd
  have hown : s.vm.findClass RX5 = some m.cls := hown
  have hl : lv_has ls 1 [(0, .ref h0)] := hl
  have hS : va_S A s.heap s.heap [] := va_S.rf
  refine lv_aload_n hx hb dX5_init_0 rfl (lv_at hl 0 rfl) ?_
  refine W.objInit hx hb hown (hts _ w_321) (hts _ w_26) (hts _ w_27) rfl (by rw [hml]; exact hl.1) rfl dX5_init_1 (Nat.le_of_ble_eq_true rfl) (Nat.le_of_ble_eq_true rfl) ?_
  refine W.eq (g2 := F0 m 4 ls []) rfl ?_
  refine lv_aload_n hx hb dX5_init_4 rfl (lv_at hl 0 rfl) ?_
  refine lv_sipush (v := 240) hx hb dX5_init_5 (by decide) ?_
  refine m_newa (atype := .long) (n := 240) (N' := 240) (a0 := (240, .inr (.inl (fun _ => 0)))) hx hb (hts _ w_281) rfl rfl hK 1 rfl hP hD hS hA (fun _ => rfl) (by decide) (by decide) (Nat.le_of_ble_eq_true rfl) (Nat.le_of_ble_eq_true rfl) (Nat.le_of_ble_eq_true rfl) dX5_init_8 (fun q1 H hP hD hS => ?_)
  have hP : va_P G vwCl [(h0, .inr (5, [.null, .null, .null, .null])), (q1, .inl (cJ, 240, .inr (.inl (fun _ => 0))))] H := hP
  have hD : va_D A [(h0, .inr (5, [.null, .null, .null, .null])), (q1, .inl (cJ, 240, .inr (.inl (fun _ => 0))))] := hD
  refine va_putF (D := G) (ci := 5) (v := .ref q1) (ty := .array .long) (C := RX5) (T := TX5) (N := 4) hx hb hts iG_X5 tyX5 tyX5_ok nmX5 hown hK hP hD hS 0 rfl rfl 0 (by decide) (hts _ w_322) (fun _ h9 => h9) rfl hnm rfl (by decide +kernel) rfl rfl (Nat.le_of_ble_eq_true rfl) dX5_init_10 (fun H locs hP hD hS => ?_)
  have hP : va_P G vwCl [(h0, .inr (5, [.ref q1, .null, .null, .null])), (q1, .inl (cJ, 240, .inr (.inl (fun _ => 0))))] H := hP
  have hD : va_D A [(h0, .inr (5, [.ref q1, .null, .null, .null])), (q1, .inl (cJ, 240, .inr (.inl (fun _ => 0))))] := hD
  refine lv_aload_n hx hb dX5_init_13 rfl (lv_at hl 0 rfl) ?_
  refine lv_iconst (v := 4) hx hb dX5_init_14 (by decide) ?_
  refine m_newa (atype := .boolean) (n := 4) (N' := 4) (a0 := (4, .inl (fun _ => 0))) hx hb (hts _ w_337) rfl rfl hK 2 rfl hP hD hS hA (fun _ => rfl) (by decide) (by decide) (Nat.le_of_ble_eq_true rfl) (Nat.le_of_ble_eq_true rfl) (Nat.le_of_ble_eq_true rfl) dX5_init_15 (fun q2 H hP hD hS => ?_)
  have hP : va_P G vwCl [(h0, .inr (5, [.ref q1, .null, .null, .null])), (q1, .inl (cJ, 240, .inr (.inl (fun _ => 0)))), (q2, .inl (cZ, 4, .inl (fun _ => 0)))] H := hP
  have hD : va_D A [(h0, .inr (5, [.ref q1, .null, .null, .null])), (q1, .inl (cJ, 240, .inr (.inl (fun _ => 0)))), (q2, .inl (cZ, 4, .inl (fun _ => 0)))] := hD
  refine va_putF (D := G) (ci := 5) (v := .ref q2) (ty := .array .boolean) (C := RX5) (T := TX5) (N := 4) hx hb hts iG_X5 tyX5 tyX5_ok nmX5 hown hK hP hD hS 0 rfl rfl 1 (by decide) (hts _ w_323) (fun _ h9 => h9) rfl hnm rfl (by decide +kernel) rfl rfl (Nat.le_of_ble_eq_true rfl) dX5_init_17 (fun H locs hP hD hS => ?_)
  have hP : va_P G vwCl [(h0, .inr (5, [.ref q1, .ref q2, .null, .null])), (q1, .inl (cJ, 240, .inr (.inl (fun _ => 0)))), (q2, .inl (cZ, 4, .inl (fun _ => 0)))] H := hP
  have hD : va_D A [(h0, .inr (5, [.ref q1, .ref q2, .null, .null])), (q1, .inl (cJ, 240, .inr (.inl (fun _ => 0)))), (q2, .inl (cZ, 4, .inl (fun _ => 0)))] := hD
  refine lv_aload_n hx hb dX5_init_20 rfl (lv_at hl 0 rfl) ?_
  refine lv_iconst (v := 4) hx hb dX5_init_21 (by decide) ?_
  refine m_newa (atype := .int) (n := 4) (N' := 4) (a0 := (4, .inl (fun _ => 0))) hx hb (hts _ w_162) rfl rfl hK 0 rfl hP hD hS hA (fun _ => rfl) (by decide) (by decide) (Nat.le_of_ble_eq_true rfl) (Nat.le_of_ble_eq_true rfl) (Nat.le_of_ble_eq_true rfl) dX5_init_22 (fun q3 H hP hD hS => ?_)
  have hP : va_P G vwCl [(h0, .inr (5, [.ref q1, .ref q2, .null, .null])), (q1, .inl (cJ, 240, .inr (.inl (fun _ => 0)))), (q2, .inl (cZ, 4, .inl (fun _ => 0))), (q3, .inl (cI, 4, .inl (fun _ => 0)))] H := hP
  have hD : va_D A [(h0, .inr (5, [.ref q1, .ref q2, .null, .null])), (q1, .inl (cJ, 240, .inr (.inl (fun _ => 0)))), (q2, .inl (cZ, 4, .inl (fun _ => 0))), (q3, .inl (cI, 4, .inl (fun _ => 0)))] := hD
  refine va_putF (D := G) (ci := 5) (v := .ref q3) (ty := .array .int) (C := RX5) (T := TX5) (N := 4) hx hb hts iG_X5 tyX5 tyX5_ok nmX5 hown hK hP hD hS 0 rfl rfl 2 (by decide) (hts _ w_324) (fun _ h9 => h9) rfl hnm rfl (by decide +kernel) rfl rfl (Nat.le_of_ble_eq_true rfl) dX5_init_24 (fun H locs hP hD hS => ?_)
  have hP : va_P G vwCl [(h0, .inr (5, [.ref q1, .ref q2, .ref q3, .null])), (q1, .inl (cJ, 240, .inr (.inl (fun _ => 0)))), (q2, .inl (cZ, 4, .inl (fun _ => 0))), (q3, .inl (cI, 4, .inl (fun _ => 0)))] H := hP
  have hD : va_D A [(h0, .inr (5, [.ref q1, .ref q2, .ref q3, .null])), (q1, .inl (cJ, 240, .inr (.inl (fun _ => 0)))), (q2, .inl (cZ, 4, .inl (fun _ => 0))), (q3, .inl (cI, 4, .inl (fun _ => 0)))] := hD
  refine lv_aload_n hx hb dX5_init_27 rfl (lv_at hl 0 rfl) ?_
  refine lv_iconst (v := 4) hx hb dX5_init_28 (by decide) ?_
  refine m_newa (atype := .int) (n := 4) (N' := 4) (a0 := (4, .inl (fun _ => 0))) hx hb (hts _ w_162) rfl rfl hK 0 rfl hP hD hS hA (fun _ => rfl) (by decide) (by decide) (Nat.le_of_ble_eq_true rfl) (Nat.le_of_ble_eq_true rfl) (Nat.le_of_ble_eq_true rfl) dX5_init_29 (fun q4 H hP hD hS => ?_)
  have hP : va_P G vwCl [(h0, .inr (5, [.ref q1, .ref q2, .ref q3, .null])), (q1, .inl (cJ, 240, .inr (.inl (fun _ => 0)))), (q2, .inl (cZ, 4, .inl (fun _ => 0))), (q3, .inl (cI, 4, .inl (fun _ => 0))), (q4, .inl (cI, 4, .inl (fun _ => 0)))] H := hP
  have hD : va_D A [(h0, .inr (5, [.ref q1, .ref q2, .ref q3, .null])), (q1, .inl (cJ, 240, .inr (.inl (fun _ => 0)))), (q2, .inl (cZ, 4, .inl (fun _ => 0))), (q3, .inl (cI, 4, .inl (fun _ => 0))), (q4, .inl (cI, 4, .inl (fun _ => 0)))] := hD
  refine va_putF (D := G) (ci := 5) (v := .ref q4) (ty := .array .int) (C := RX5) (T := TX5) (N := 4) hx hb hts iG_X5 tyX5 tyX5_ok nmX5 hown hK hP hD hS 0 rfl rfl 3 (by decide) (hts _ w_326) (fun _ h9 => h9) rfl hnm rfl (by decide +kernel) rfl rfl (Nat.le_of_ble_eq_true rfl) dX5_init_31 (fun H locs hP hD hS => ?_)
  have hP : va_P G vwCl [(h0, .inr (5, [.ref q1, .ref q2, .ref q3, .ref q4])), (q1, .inl (cJ, 240, .inr (.inl (fun _ => 0)))), (q2, .inl (cZ, 4, .inl (fun _ => 0))), (q3, .inl (cI, 4, .inl (fun _ => 0))), (q4, .inl (cI, 4, .inl (fun _ => 0)))] H := hP
  have hD : va_D A [(h0, .inr (5, [.ref q1, .ref q2, .ref q3, .ref q4])), (q1, .inl (cJ, 240, .inr (.inl (fun _ => 0)))), (q2, .inl (cZ, 4, .inl (fun _ => 0))), (q3, .inl (cI, 4, .inl (fun _ => 0))), (q4, .inl (cI, 4, .inl (fun _ => 0)))] := hD
  exact hret _ _ _ _ (fun k => ([q1, q2, q3, q4] : List Nat).getD k 0) hP hD hS dX5_init_34 trivial
set_option maxHeartbeats 4000000 in
set_option maxRecDepth 100000 in
theorem f_X4_init (l : Launch) (G : va_G) (cI cJ cZ cB cQ : ClassId) (sz : Nat) (h0 : Nat) : CV l yX4_init (wl_ yX4_init cX4_init 1 none) ({ frames := 2, cells := 12, slots := 1060, locals := 32 } : Room) G (TY cI cJ cZ cB cQ) [.ref h0] [(h0, .inr (4, [.int 0, .int 0, .null, .null, .int 0, .int 0, .int 0]))] sz (fun (u : (Nat → Nat) × (Nat → Nat) × (Nat → Nat)) => True) (fun u : (Nat → Nat) × (Nat → Nat) × (Nat → Nat) => [(h0, oX4 u.1 0 (-1) 0 0 0), (u.1 2, oX8 u.2.1 0), (u.2.1 0, .inl (cB, 900, .inl (fun _ => 0))), (u.1 3, oX0 u.2.2 0 0 0 0 0 0 0 0 0 0), (u.2.2 10, .inl (cI, 12, .inl (fun _ => 0))), (u.2.2 11, .inl (cI, 6, .inl (fun _ => 0))), (u.2.2 12, .inl (cI, 7, .inl (fun _ => 0))), (u.2.2 13, .inl (cI, 7, .inl (fun _ => 0))), (u.2.2 14, .inl (cI, 7, .inl (fun _ => 0))), (u.2.2 15, .inl (cI, 7, .inl (fun _ => 0))), (u.2.2 16, .inl (cI, 7, .inl (fun _ => 0))), (u.2.2 17, .inl (cI, 56, .inl (fun _ => 0))), (u.2.2 18, .inl (cI, 30, .inl (fun _ => 0)))]) 12 1060 := by
  refine CV.go (cc := cX4_init) (maxL := 1) (ret := none) (by decide) rfl (Nat.le_of_ble_eq_true rfl) ?_
  intro p e s m below meth c A ls Q hBd hret
  obtain ⟨hx, hb, hr, hml, hts, hown, hlk, hnm, hP, hK, hD, hA, hZ, hl⟩ := hBd
  have hown : s.vm.findClass RX4 = some m.cls := hown
  have hl : lv_has ls 1 [(0, .ref h0)] := hl
  have hS : va_S A s.heap s.heap [] := va_S.rf
  refine lv_aload_n hx hb dX4_init_0 rfl (lv_at hl 0 rfl) ?_
  refine W.objInit hx hb hown (hts _ w_33) (hts _ w_26) (hts _ w_27) rfl (by rw [hml]; exact hl.1) rfl dX4_init_1 (Nat.le_of_ble_eq_true rfl) (Nat.le_of_ble_eq_true rfl) ?_
  refine W.eq (g2 := F0 m 4 ls []) rfl ?_
  refine lv_aload_n hx hb dX4_init_4 rfl (lv_at hl 0 rfl) ?_
  refine lv_iconst (v := (-1)) hx hb dX4_init_5 (by decide) ?_
  refine va_put (D := G) (ci := 4) (v := .int (-1)) (ty := .int) (C := RX4) (T := TX4) (N := 7) hx hb hts iG_X4 tyX4 tyX4_ok nmX4 hown hK hP hD hS 0 rfl rfl 1 (by decide) (hts _ w_165) (fun _ h9 => h9) rfl (by decide +kernel) rfl rfl (Nat.le_of_ble_eq_true rfl) dX4_init_6 (fun H locs hP hD hS => ?_)
  have hP : va_P G vwCl [(h0, .inr (4, [.int 0, .int (-1), .null, .null, .int 0, .int 0, .int 0]))] H := hP
  have hD : va_D A [(h0, .inr (4, [.int 0, .int (-1), .null, .null, .int 0, .int 0, .int 0]))] := hD
  refine lv_aload_n hx hb dX4_init_9 rfl (lv_at hl 0 rfl) ?_
  refine va_new (ci := 8) (fs := [.null, .int 0]) (C := RX8) (T := TX8) (N := 2) hx hb hts iG_X8 tyX8 tyX8_ok hown (hts _ w_34) (hts _ w_35) (hts _ w_3) hK hP hD hS hA rfl (nf_X8) (Nat.le_of_ble_eq_true rfl) (Nat.le_of_ble_eq_true rfl) dX4_init_10 (fun q1 H hP hD hS => ?_)
  have hP : va_P G vwCl [(h0, .inr (4, [.int 0, .int (-1), .null, .null, .int 0, .int 0, .int 0])), (q1, .inr (8, [.null, .int 0]))] H := hP
  have hD : va_D A [(h0, .inr (4, [.int 0, .int (-1), .null, .null, .int 0, .int 0, .int 0])), (q1, .inr (8, [.null, .int 0]))] := hD
  refine lv_dup hx hb dX4_init_13 rfl ?_
  refine k_v (wc := [(q1, .inr (8, [.null, .int 0]))]) (wr := [(h0, .inr (4, [.int 0, .int (-1), .null, .null, .int 0, .int 0, .int 0]))]) hP hD hS hA [1] [0] rfl rfl rfl (by decide) (va_runIN (As := []) (rest := [.ref q1, .ref h0]) ⟨hx, hb, hml, hown, hts⟩ (f_X8_init l G cI cJ cZ cB cQ _ q1) ⟨va_cnB (host := "WidowRoads") 0 hts (gW w_38) rfl rfl rfl (nz_nw hZ nw_36 rfl) (hts _ w_3) hd_X8_init ⟨Nat.le_of_ble_eq_true rfl, Nat.le_of_ble_eq_true rfl⟩, rfl, (hts _ w_37)⟩ (mS hK hZ hP hD [1] rfl rfl [.ref q1]) rfl rfl hl.1 rfl (lv_room (Nat.le_of_ble_eq_true rfl)) dX4_init_14 ⟨Nat.le_of_ble_eq_true rfl, Nat.le_of_ble_eq_true rfl⟩) (fun u3 H locs hw4 hP hD hS => ?_)
  obtain ⟨b5, rfl⟩ : ∃ z, z = u3 := ⟨_, rfl⟩
  have hP : va_P G vwCl [(h0, .inr (4, [.int 0, .int (-1), .null, .null, .int 0, .int 0, .int 0])), (q1, oX8 b5 0), (b5 0, .inl (cB, 900, .inl (fun _ => 0)))] H := hP
  have hD : va_D A [(h0, .inr (4, [.int 0, .int (-1), .null, .null, .int 0, .int 0, .int 0])), (q1, oX8 b5 0), (b5 0, .inl (cB, 900, .inl (fun _ => 0)))] := hD
  refine va_putF (D := G) (ci := 4) (v := .ref q1) (ty := .object "WidowRoads$Tape") (C := RX4) (T := TX4) (N := 7) hx hb hts iG_X4 tyX4 tyX4_ok nmX4 hown hK hP hD hS 0 rfl rfl 2 (by decide) (hts _ w_167) (fun _ h9 => h9) rfl hnm rfl (by decide +kernel) rfl rfl (Nat.le_of_ble_eq_true rfl) dX4_init_17 (fun H locs hP hD hS => ?_)
  have hP : va_P G vwCl [(h0, .inr (4, [.int 0, .int (-1), .ref q1, .null, .int 0, .int 0, .int 0])), (q1, oX8 b5 0), (b5 0, .inl (cB, 900, .inl (fun _ => 0)))] H := hP
  have hD : va_D A [(h0, .inr (4, [.int 0, .int (-1), .ref q1, .null, .int 0, .int 0, .int 0])), (q1, oX8 b5 0), (b5 0, .inl (cB, 900, .inl (fun _ => 0)))] := hD
  refine lv_aload_n hx hb dX4_init_20 rfl (lv_at hl 0 rfl) ?_
  refine va_new (ci := 0) (fs := [.int 0, .int 0, .int 0, .int 0, .int 0, .int 0, .int 0, .int 0, .int 0, .int 0, .null, .null, .null, .null, .null, .null, .null, .null, .null]) (C := RX0) (T := TX0) (N := 19) hx hb hts iG_X0 tyX0 tyX0_ok hown (hts _ w_49) (hts _ w_50) (hts _ w_4) hK hP hD hS hA rfl (nf_X0) (Nat.le_of_ble_eq_true rfl) (Nat.le_of_ble_eq_true rfl) dX4_init_21 (fun q6 H hP hD hS => ?_)
  have hP : va_P G vwCl [(h0, .inr (4, [.int 0, .int (-1), .ref q1, .null, .int 0, .int 0, .int 0])), (q1, oX8 b5 0), (b5 0, .inl (cB, 900, .inl (fun _ => 0))), (q6, .inr (0, [.int 0, .int 0, .int 0, .int 0, .int 0, .int 0, .int 0, .int 0, .int 0, .int 0, .null, .null, .null, .null, .null, .null, .null, .null, .null]))] H := hP
  have hD : va_D A [(h0, .inr (4, [.int 0, .int (-1), .ref q1, .null, .int 0, .int 0, .int 0])), (q1, oX8 b5 0), (b5 0, .inl (cB, 900, .inl (fun _ => 0))), (q6, .inr (0, [.int 0, .int 0, .int 0, .int 0, .int 0, .int 0, .int 0, .int 0, .int 0, .int 0, .null, .null, .null, .null, .null, .null, .null, .null, .null]))] := hD
  refine lv_dup hx hb dX4_init_24 rfl ?_
  refine k_v (wc := [(q6, .inr (0, [.int 0, .int 0, .int 0, .int 0, .int 0, .int 0, .int 0, .int 0, .int 0, .int 0, .null, .null, .null, .null, .null, .null, .null, .null, .null]))]) (wr := [(h0, .inr (4, [.int 0, .int (-1), .ref q1, .null, .int 0, .int 0, .int 0])), (q1, oX8 b5 0), (b5 0, .inl (cB, 900, .inl (fun _ => 0)))]) hP hD hS hA [3] [0, 1, 2] rfl rfl rfl (by decide) (va_runIN (As := []) (rest := [.ref q6, .ref h0]) ⟨hx, hb, hml, hown, hts⟩ (f_X0_init l G cI cJ cZ cB cQ _ q6) ⟨va_cnB (host := "WidowRoads") 0 hts (gW w_53) rfl rfl rfl (nz_nw hZ nw_51 rfl) (hts _ w_4) hd_X0_init ⟨Nat.le_of_ble_eq_true rfl, Nat.le_of_ble_eq_true rfl⟩, rfl, (hts _ w_52)⟩ (mS hK hZ hP hD [3] rfl rfl [.ref q6]) rfl rfl hl.1 rfl (lv_room (Nat.le_of_ble_eq_true rfl)) dX4_init_25 ⟨Nat.le_of_ble_eq_true rfl, Nat.le_of_ble_eq_true rfl⟩) (fun u8 H locs hw9 hP hD hS => ?_)
  obtain ⟨b10, rfl⟩ : ∃ z, z = u8 := ⟨_, rfl⟩
  have hP : va_P G vwCl [(h0, .inr (4, [.int 0, .int (-1), .ref q1, .null, .int 0, .int 0, .int 0])), (q1, oX8 b5 0), (b5 0, .inl (cB, 900, .inl (fun _ => 0))), (q6, oX0 b10 0 0 0 0 0 0 0 0 0 0), (b10 10, .inl (cI, 12, .inl (fun _ => 0))), (b10 11, .inl (cI, 6, .inl (fun _ => 0))), (b10 12, .inl (cI, 7, .inl (fun _ => 0))), (b10 13, .inl (cI, 7, .inl (fun _ => 0))), (b10 14, .inl (cI, 7, .inl (fun _ => 0))), (b10 15, .inl (cI, 7, .inl (fun _ => 0))), (b10 16, .inl (cI, 7, .inl (fun _ => 0))), (b10 17, .inl (cI, 56, .inl (fun _ => 0))), (b10 18, .inl (cI, 30, .inl (fun _ => 0)))] H := hP
  have hD : va_D A [(h0, .inr (4, [.int 0, .int (-1), .ref q1, .null, .int 0, .int 0, .int 0])), (q1, oX8 b5 0), (b5 0, .inl (cB, 900, .inl (fun _ => 0))), (q6, oX0 b10 0 0 0 0 0 0 0 0 0 0), (b10 10, .inl (cI, 12, .inl (fun _ => 0))), (b10 11, .inl (cI, 6, .inl (fun _ => 0))), (b10 12, .inl (cI, 7, .inl (fun _ => 0))), (b10 13, .inl (cI, 7, .inl (fun _ => 0))), (b10 14, .inl (cI, 7, .inl (fun _ => 0))), (b10 15, .inl (cI, 7, .inl (fun _ => 0))), (b10 16, .inl (cI, 7, .inl (fun _ => 0))), (b10 17, .inl (cI, 56, .inl (fun _ => 0))), (b10 18, .inl (cI, 30, .inl (fun _ => 0)))] := hD
  refine va_putF (D := G) (ci := 4) (v := .ref q6) (ty := .object "WidowRoads$Colony") (C := RX4) (T := TX4) (N := 7) hx hb hts iG_X4 tyX4 tyX4_ok nmX4 hown hK hP hD hS 0 rfl rfl 3 (by decide) (hts _ w_169) (fun _ h9 => h9) rfl hnm rfl (by decide +kernel) rfl rfl (Nat.le_of_ble_eq_true rfl) dX4_init_28 (fun H locs hP hD hS => ?_)
  have hP : va_P G vwCl [(h0, .inr (4, [.int 0, .int (-1), .ref q1, .ref q6, .int 0, .int 0, .int 0])), (q1, oX8 b5 0), (b5 0, .inl (cB, 900, .inl (fun _ => 0))), (q6, oX0 b10 0 0 0 0 0 0 0 0 0 0), (b10 10, .inl (cI, 12, .inl (fun _ => 0))), (b10 11, .inl (cI, 6, .inl (fun _ => 0))), (b10 12, .inl (cI, 7, .inl (fun _ => 0))), (b10 13, .inl (cI, 7, .inl (fun _ => 0))), (b10 14, .inl (cI, 7, .inl (fun _ => 0))), (b10 15, .inl (cI, 7, .inl (fun _ => 0))), (b10 16, .inl (cI, 7, .inl (fun _ => 0))), (b10 17, .inl (cI, 56, .inl (fun _ => 0))), (b10 18, .inl (cI, 30, .inl (fun _ => 0)))] H := hP
  have hD : va_D A [(h0, .inr (4, [.int 0, .int (-1), .ref q1, .ref q6, .int 0, .int 0, .int 0])), (q1, oX8 b5 0), (b5 0, .inl (cB, 900, .inl (fun _ => 0))), (q6, oX0 b10 0 0 0 0 0 0 0 0 0 0), (b10 10, .inl (cI, 12, .inl (fun _ => 0))), (b10 11, .inl (cI, 6, .inl (fun _ => 0))), (b10 12, .inl (cI, 7, .inl (fun _ => 0))), (b10 13, .inl (cI, 7, .inl (fun _ => 0))), (b10 14, .inl (cI, 7, .inl (fun _ => 0))), (b10 15, .inl (cI, 7, .inl (fun _ => 0))), (b10 16, .inl (cI, 7, .inl (fun _ => 0))), (b10 17, .inl (cI, 56, .inl (fun _ => 0))), (b10 18, .inl (cI, 30, .inl (fun _ => 0)))] := hD
  exact hret _ _ _ _ ((fun k => ([0, 0, q1, q6, 0, 0, 0] : List Nat).getD k 0), b5, b10) hP hD hS dX4_init_31 trivial
end
section
theorem dX9_init_0 : decode cX9_init 0 = .ok (.aload_n 0, 1) := by decide +kernel
theorem dX9_init_1 : decode cX9_init 1 = .ok (.invokespecial 3, 3) := by decide +kernel
theorem dX9_init_4 : decode cX9_init 4 = .ok (.aload_n 0, 1) := by decide +kernel
theorem dX9_init_5 : decode cX9_init 5 = .ok (.new 9, 3) := by decide +kernel
theorem dX9_init_8 : decode cX9_init 8 = .ok (.dup, 1) := by decide +kernel
theorem dX9_init_9 : decode cX9_init 9 = .ok (.invokespecial 11, 3) := by decide +kernel
theorem dX9_init_12 : decode cX9_init 12 = .ok (.putfield 12, 3) := by decide +kernel
theorem dX9_init_15 : decode cX9_init 15 = .ok (.aload_n 0, 1) := by decide +kernel
theorem dX9_init_16 : decode cX9_init 16 = .ok (.new 16, 3) := by decide +kernel
theorem dX9_init_19 : decode cX9_init 19 = .ok (.dup, 1) := by decide +kernel
theorem dX9_init_20 : decode cX9_init 20 = .ok (.invokespecial 18, 3) := by decide +kernel
theorem dX9_init_23 : decode cX9_init 23 = .ok (.putfield 19, 3) := by decide +kernel
theorem dX9_init_26 : decode cX9_init 26 = .ok (.aload_n 0, 1) := by decide +kernel
theorem dX9_init_27 : decode cX9_init 27 = .ok (.iconst 3, 1) := by decide +kernel
theorem dX9_init_28 : decode cX9_init 28 = .ok (.anewarray 16, 3) := by decide +kernel
theorem dX9_init_31 : decode cX9_init 31 = .ok (.putfield 23, 3) := by decide +kernel
theorem dX9_init_34 : decode cX9_init 34 = .ok (.aload_n 0, 1) := by decide +kernel
theorem dX9_init_35 : decode cX9_init 35 = .ok (.new 27, 3) := by decide +kernel
theorem dX9_init_38 : decode cX9_init 38 = .ok (.dup, 1) := by decide +kernel
theorem dX9_init_39 : decode cX9_init 39 = .ok (.invokespecial 29, 3) := by decide +kernel
theorem dX9_init_42 : decode cX9_init 42 = .ok (.putfield 30, 3) := by decide +kernel
theorem dX9_init_45 : decode cX9_init 45 = .ok (.aload_n 0, 1) := by decide +kernel
theorem dX9_init_46 : decode cX9_init 46 = .ok (.new 34, 3) := by decide +kernel
theorem dX9_init_49 : decode cX9_init 49 = .ok (.dup, 1) := by decide +kernel
theorem dX9_init_50 : decode cX9_init 50 = .ok (.invokespecial 36, 3) := by decide +kernel
theorem dX9_init_53 : decode cX9_init 53 = .ok (.putfield 37, 3) := by decide +kernel
theorem dX9_init_56 : decode cX9_init 56 = .ok (.aload_n 0, 1) := by decide +kernel
theorem dX9_init_57 : decode cX9_init 57 = .ok (.new 34, 3) := by decide +kernel
theorem dX9_init_60 : decode cX9_init 60 = .ok (.dup, 1) := by decide +kernel
theorem dX9_init_61 : decode cX9_init 61 = .ok (.invokespecial 36, 3) := by decide +kernel
theorem dX9_init_64 : decode cX9_init 64 = .ok (.putfield 41, 3) := by decide +kernel
theorem dX9_init_67 : decode cX9_init 67 = .ok (.aload_n 0, 1) := by decide +kernel
theorem dX9_init_68 : decode cX9_init 68 = .ok (.new 44, 3) := by decide +kernel
theorem dX9_init_71 : decode cX9_init 71 = .ok (.dup, 1) := by decide +kernel
theorem dX9_init_72 : decode cX9_init 72 = .ok (.invokespecial 46, 3) := by decide +kernel
theorem dX9_init_75 : decode cX9_init 75 = .ok (.putfield 47, 3) := by decide +kernel
theorem dX9_init_78 : decode cX9_init 78 = .ok (.aload_n 0, 1) := by decide +kernel
theorem dX9_init_79 : decode cX9_init 79 = .ok (.new 51, 3) := by decide +kernel
theorem dX9_init_82 : decode cX9_init 82 = .ok (.dup, 1) := by decide +kernel
theorem dX9_init_83 : decode cX9_init 83 = .ok (.invokespecial 53, 3) := by decide +kernel
theorem dX9_init_86 : decode cX9_init 86 = .ok (.putfield 54, 3) := by decide +kernel
theorem dX9_init_89 : decode cX9_init 89 = .ok (.aload_n 0, 1) := by decide +kernel
theorem dX9_init_90 : decode cX9_init 90 = .ok (.new 58, 3) := by decide +kernel
theorem dX9_init_93 : decode cX9_init 93 = .ok (.dup, 1) := by decide +kernel
theorem dX9_init_94 : decode cX9_init 94 = .ok (.invokespecial 60, 3) := by decide +kernel
theorem dX9_init_97 : decode cX9_init 97 = .ok (.putfield 61, 3) := by decide +kernel
theorem dX9_init_100 : decode cX9_init 100 = .ok (.aload_n 0, 1) := by decide +kernel
theorem dX9_init_101 : decode cX9_init 101 = .ok (.new 65, 3) := by decide +kernel
theorem dX9_init_104 : decode cX9_init 104 = .ok (.dup, 1) := by decide +kernel
theorem dX9_init_105 : decode cX9_init 105 = .ok (.invokespecial 67, 3) := by decide +kernel
theorem dX9_init_108 : decode cX9_init 108 = .ok (.putfield 68, 3) := by decide +kernel
theorem dX9_init_111 : decode cX9_init 111 = .ok (.aload_n 0, 1) := by decide +kernel
theorem dX9_init_112 : decode cX9_init 112 = .ok (.sipush 164, 3) := by decide +kernel
theorem dX9_init_115 : decode cX9_init 115 = .ok (.newarray .int, 2) := by decide +kernel
theorem dX9_init_117 : decode cX9_init 117 = .ok (.putfield 72, 3) := by decide +kernel
theorem dX9_init_120 : decode cX9_init 120 = .ok (.return_, 1) := by decide +kernel
set_option maxHeartbeats 4000000 in
set_option maxRecDepth 100000 in
theorem f_X9_init (l : Launch) (G : va_G) (cI cJ cZ cB cQ : ClassId) (sz : Nat) (h0 : Nat) : CV l yX9_init (wl_ yX9_init cX9_init 1 none) ({ frames := 3, cells := 58, slots := 2818, locals := 52 } : Room) G (TY cI cJ cZ cB cQ) [.ref h0] [(h0, .inr (9, [.null, .null, .null, .null, .null, .null, .null, .null, .null, .null, .null]))] sz (fun (u : (Nat → Nat) × (Nat → Nat) × (Nat → Nat) × (Nat → Nat) × (Nat → Nat) × (Nat → Nat) × (Nat → Nat) × (Nat → Nat) × (Nat → Nat)) => True) (fun u : (Nat → Nat) × (Nat → Nat) × (Nat → Nat) × (Nat → Nat) × (Nat → Nat) × (Nat → Nat) × (Nat → Nat) × (Nat → Nat) × (Nat → Nat) => [(h0, oX9 u.1), (u.1 0, oX4 u.2.1 0 (-1) 0 0 0), (u.2.1 2, oX8 u.2.2.1 0), (u.2.2.1 0, .inl (cB, 900, .inl (fun _ => 0))), (u.2.1 3, oX0 u.2.2.2.1 0 0 0 0 0 0 0 0 0 0), (u.2.2.2.1 10, .inl (cI, 12, .inl (fun _ => 0))), (u.2.2.2.1 11, .inl (cI, 6, .inl (fun _ => 0))), (u.2.2.2.1 12, .inl (cI, 7, .inl (fun _ => 0))), (u.2.2.2.1 13, .inl (cI, 7, .inl (fun _ => 0))), (u.2.2.2.1 14, .inl (cI, 7, .inl (fun _ => 0))), (u.2.2.2.1 15, .inl (cI, 7, .inl (fun _ => 0))), (u.2.2.2.1 16, .inl (cI, 7, .inl (fun _ => 0))), (u.2.2.2.1 17, .inl (cI, 56, .inl (fun _ => 0))), (u.2.2.2.1 18, .inl (cI, 30, .inl (fun _ => 0))), (u.1 1, oX0 u.2.2.2.2.1 0 0 0 0 0 0 0 0 0 0), (u.2.2.2.2.1 10, .inl (cI, 12, .inl (fun _ => 0))), (u.2.2.2.2.1 11, .inl (cI, 6, .inl (fun _ => 0))), (u.2.2.2.2.1 12, .inl (cI, 7, .inl (fun _ => 0))), (u.2.2.2.2.1 13, .inl (cI, 7, .inl (fun _ => 0))), (u.2.2.2.2.1 14, .inl (cI, 7, .inl (fun _ => 0))), (u.2.2.2.2.1 15, .inl (cI, 7, .inl (fun _ => 0))), (u.2.2.2.2.1 16, .inl (cI, 7, .inl (fun _ => 0))), (u.2.2.2.2.1 17, .inl (cI, 56, .inl (fun _ => 0))), (u.2.2.2.2.1 18, .inl (cI, 30, .inl (fun _ => 0))), (u.1 2, .inl (cQ, 3, .inr (.inr (.inr (.inr (fun _ => none)))))), (u.1 3, oX7 z0 0 0 0 0 0 0), (u.1 4, oX6 u.2.2.2.2.2.1 0 0), (u.2.2.2.2.2.1 0, .inl (cI, 287, .inl (fun _ => 0))), (u.2.2.2.2.2.1 1, .inl (cI, 7, .inl (fun _ => 0))), (u.2.2.2.2.2.1 2, .inl (cI, 7, .inl (fun _ => 0))), (u.2.2.2.2.2.1 3, .inl (cJ, 7, .inr (.inl (fun _ => 0)))), (u.2.2.2.2.2.1 4, .inl (cI, 7, .inl (fun _ => 0))), (u.2.2.2.2.2.1 5, .inl (cI, 6, .inl (fun _ => 0))), (u.2.2.2.2.2.1 6, .inl (cI, 78, .inl (fun _ => 0))), (u.2.2.2.2.2.1 7, .inl (cJ, 13, .inr (.inl (fun _ => 0)))), (u.2.2.2.2.2.1 8, .inl (cJ, 13, .inr (.inl (fun _ => 0)))), (u.2.2.2.2.2.1 9, .inl (cJ, 13, .inr (.inl (fun _ => 0)))), (u.1 5, oX6 u.2.2.2.2.2.2.1 0 0), (u.2.2.2.2.2.2.1 0, .inl (cI, 287, .inl (fun _ => 0))), (u.2.2.2.2.2.2.1 1, .inl (cI, 7, .inl (fun _ => 0))), (u.2.2.2.2.2.2.1 2, .inl (cI, 7, .inl (fun _ => 0))), (u.2.2.2.2.2.2.1 3, .inl (cJ, 7, .inr (.inl (fun _ => 0)))), (u.2.2.2.2.2.2.1 4, .inl (cI, 7, .inl (fun _ => 0))), (u.2.2.2.2.2.2.1 5, .inl (cI, 6, .inl (fun _ => 0))), (u.2.2.2.2.2.2.1 6, .inl (cI, 78, .inl (fun _ => 0))), (u.2.2.2.2.2.2.1 7, .inl (cJ, 13, .inr (.inl (fun _ => 0)))), (u.2.2.2.2.2.2.1 8, .inl (cJ, 13, .inr (.inl (fun _ => 0)))), (u.2.2.2.2.2.2.1 9, .inl (cJ, 13, .inr (.inl (fun _ => 0)))), (u.1 6, oX1 u.2.2.2.2.2.2.2.1 0), (u.2.2.2.2.2.2.2.1 0, .inl (cJ, 128, .inr (.inl (fun _ => 0)))), (u.2.2.2.2.2.2.2.1 1, .inl (cI, 128, .inl (fun _ => 0))), (u.1 7, oX3 z0 0 0 0), (u.1 8, oX5 u.2.2.2.2.2.2.2.2), (u.2.2.2.2.2.2.2.2 0, .inl (cJ, 240, .inr (.inl (fun _ => 0)))), (u.2.2.2.2.2.2.2.2 1, .inl (cZ, 4, .inl (fun _ => 0))), (u.2.2.2.2.2.2.2.2 2, .inl (cI, 4, .inl (fun _ => 0))), (u.2.2.2.2.2.2.2.2 3, .inl (cI, 4, .inl (fun _ => 0))), (u.1 9, oX2 z0 0 1), (u.1 10, .inl (cI, 164, .inl (fun _ => 0)))]) 58 2818 := by
  refine CV.go (cc := cX9_init) (maxL := 1) (ret := none) (by decide) rfl (Nat.le_of_ble_eq_true rfl) ?_
  intro p e s m below meth c A ls Q hBd hret
  obtain ⟨hx, hb, hr, hml, hts, hown, hlk, hnm, hP, hK, hD, hA, hZ, hl⟩ := hBd
  have hown : s.vm.findClass RX9 = some m.cls := hown
  have hl : lv_has ls 1 [(0, .ref h0)] := hl
  have hS : va_S A s.heap s.heap [] := va_S.rf
  refine lv_aload_n hx hb dX9_init_0 rfl (lv_at hl 0 rfl) ?_
  refine W.objInit hx hb hown (hts _ w_25) (hts _ w_26) (hts _ w_27) rfl (by rw [hml]; exact hl.1) rfl dX9_init_1 (Nat.le_of_ble_eq_true rfl) (Nat.le_of_ble_eq_true rfl) ?_
  refine W.eq (g2 := F0 m 4 ls []) rfl ?_
  refine lv_aload_n hx hb dX9_init_4 rfl (lv_at hl 0 rfl) ?_
  refine va_new (ci := 4) (fs := [.int 0, .int 0, .null, .null, .int 0, .int 0, .int 0]) (C := RX4) (T := TX4) (N := 7) hx hb hts iG_X4 tyX4 tyX4_ok hown (hts _ w_28) (hts _ w_29) (hts _ w_2) hK hP hD hS hA rfl (nf_X4) (Nat.le_of_ble_eq_true rfl) (Nat.le_of_ble_eq_true rfl) dX9_init_5 (fun q1 H hP hD hS => ?_)
  have hP : va_P G vwCl [(h0, .inr (9, [.null, .null, .null, .null, .null, .null, .null, .null, .null, .null, .null])), (q1, .inr (4, [.int 0, .int 0, .null, .null, .int 0, .int 0, .int 0]))] H := hP
  have hD : va_D A [(h0, .inr (9, [.null, .null, .null, .null, .null, .null, .null, .null, .null, .null, .null])), (q1, .inr (4, [.int 0, .int 0, .null, .null, .int 0, .int 0, .int 0]))] := hD
  refine lv_dup hx hb dX9_init_8 rfl ?_
  refine k_v (wc := [(q1, .inr (4, [.int 0, .int 0, .null, .null, .int 0, .int 0, .int 0]))]) (wr := [(h0, .inr (9, [.null, .null, .null, .null, .null, .null, .null, .null, .null, .null, .null]))]) hP hD hS hA [1] [0] rfl rfl rfl (by decide) (va_runIN (As := []) (rest := [.ref q1, .ref h0]) ⟨hx, hb, hml, hown, hts⟩ (f_X4_init l G cI cJ cZ cB cQ _ q1) ⟨va_cnB (host := "WidowRoads") 0 hts (gW w_32) rfl rfl rfl (nz_nw hZ nw_30 rfl) (hts _ w_2) hd_X4_init ⟨Nat.le_of_ble_eq_true rfl, Nat.le_of_ble_eq_true rfl⟩, rfl, (hts _ w_31)⟩ (mS hK hZ hP hD [1] rfl rfl [.ref q1]) rfl rfl hl.1 rfl (lv_room (Nat.le_of_ble_eq_true rfl)) dX9_init_9 ⟨Nat.le_of_ble_eq_true rfl, Nat.le_of_ble_eq_true rfl⟩) (fun u3 H locs hw4 hP hD hS => ?_)
  obtain ⟨b5, bt6, bc7⟩ := u3
  have hP : va_P G vwCl [(h0, .inr (9, [.null, .null, .null, .null, .null, .null, .null, .null, .null, .null, .null])), (q1, oX4 b5 0 (-1) 0 0 0), (b5 2, oX8 bt6 0), (bt6 0, .inl (cB, 900, .inl (fun _ => 0))), (b5 3, oX0 bc7 0 0 0 0 0 0 0 0 0 0), (bc7 10, .inl (cI, 12, .inl (fun _ => 0))), (bc7 11, .inl (cI, 6, .inl (fun _ => 0))), (bc7 12, .inl (cI, 7, .inl (fun _ => 0))), (bc7 13, .inl (cI, 7, .inl (fun _ => 0))), (bc7 14, .inl (cI, 7, .inl (fun _ => 0))), (bc7 15, .inl (cI, 7, .inl (fun _ => 0))), (bc7 16, .inl (cI, 7, .inl (fun _ => 0))), (bc7 17, .inl (cI, 56, .inl (fun _ => 0))), (bc7 18, .inl (cI, 30, .inl (fun _ => 0)))] H := hP
  have hD : va_D A [(h0, .inr (9, [.null, .null, .null, .null, .null, .null, .null, .null, .null, .null, .null])), (q1, oX4 b5 0 (-1) 0 0 0), (b5 2, oX8 bt6 0), (bt6 0, .inl (cB, 900, .inl (fun _ => 0))), (b5 3, oX0 bc7 0 0 0 0 0 0 0 0 0 0), (bc7 10, .inl (cI, 12, .inl (fun _ => 0))), (bc7 11, .inl (cI, 6, .inl (fun _ => 0))), (bc7 12, .inl (cI, 7, .inl (fun _ => 0))), (bc7 13, .inl (cI, 7, .inl (fun _ => 0))), (bc7 14, .inl (cI, 7, .inl (fun _ => 0))), (bc7 15, .inl (cI, 7, .inl (fun _ => 0))), (bc7 16, .inl (cI, 7, .inl (fun _ => 0))), (bc7 17, .inl (cI, 56, .inl (fun _ => 0))), (bc7 18, .inl (cI, 30, .inl (fun _ => 0)))] := hD
  refine va_putF (D := G) (ci := 9) (v := .ref q1) (ty := .object "WidowRoads$Reader") (C := RX9) (T := TX9) (N := 11) hx hb hts iG_X9 tyX9 tyX9_ok nmX9 hown hK hP hD hS 0 rfl rfl 0 (by decide) (hts _ w_351) (fun _ h9 => h9) rfl hnm rfl (by decide +kernel) rfl rfl (Nat.le_of_ble_eq_true rfl) dX9_init_12 (fun H locs hP hD hS => ?_)
  have hP : va_P G vwCl [(h0, .inr (9, [.ref q1, .null, .null, .null, .null, .null, .null, .null, .null, .null, .null])), (q1, oX4 b5 0 (-1) 0 0 0), (b5 2, oX8 bt6 0), (bt6 0, .inl (cB, 900, .inl (fun _ => 0))), (b5 3, oX0 bc7 0 0 0 0 0 0 0 0 0 0), (bc7 10, .inl (cI, 12, .inl (fun _ => 0))), (bc7 11, .inl (cI, 6, .inl (fun _ => 0))), (bc7 12, .inl (cI, 7, .inl (fun _ => 0))), (bc7 13, .inl (cI, 7, .inl (fun _ => 0))), (bc7 14, .inl (cI, 7, .inl (fun _ => 0))), (bc7 15, .inl (cI, 7, .inl (fun _ => 0))), (bc7 16, .inl (cI, 7, .inl (fun _ => 0))), (bc7 17, .inl (cI, 56, .inl (fun _ => 0))), (bc7 18, .inl (cI, 30, .inl (fun _ => 0)))] H := hP
  have hD : va_D A [(h0, .inr (9, [.ref q1, .null, .null, .null, .null, .null, .null, .null, .null, .null, .null])), (q1, oX4 b5 0 (-1) 0 0 0), (b5 2, oX8 bt6 0), (bt6 0, .inl (cB, 900, .inl (fun _ => 0))), (b5 3, oX0 bc7 0 0 0 0 0 0 0 0 0 0), (bc7 10, .inl (cI, 12, .inl (fun _ => 0))), (bc7 11, .inl (cI, 6, .inl (fun _ => 0))), (bc7 12, .inl (cI, 7, .inl (fun _ => 0))), (bc7 13, .inl (cI, 7, .inl (fun _ => 0))), (bc7 14, .inl (cI, 7, .inl (fun _ => 0))), (bc7 15, .inl (cI, 7, .inl (fun _ => 0))), (bc7 16, .inl (cI, 7, .inl (fun _ => 0))), (bc7 17, .inl (cI, 56, .inl (fun _ => 0))), (bc7 18, .inl (cI, 30, .inl (fun _ => 0)))] := hD
  refine lv_aload_n hx hb dX9_init_15 rfl (lv_at hl 0 rfl) ?_
  refine va_new (ci := 0) (fs := [.int 0, .int 0, .int 0, .int 0, .int 0, .int 0, .int 0, .int 0, .int 0, .int 0, .null, .null, .null, .null, .null, .null, .null, .null, .null]) (C := RX0) (T := TX0) (N := 19) hx hb hts iG_X0 tyX0 tyX0_ok hown (hts _ w_189) (hts _ w_50) (hts _ w_4) hK hP hD hS hA rfl (nf_X0) (Nat.le_of_ble_eq_true rfl) (Nat.le_of_ble_eq_true rfl) dX9_init_16 (fun q8 H hP hD hS => ?_)
  have hP : va_P G vwCl [(h0, .inr (9, [.ref q1, .null, .null, .null, .null, .null, .null, .null, .null, .null, .null])), (q1, oX4 b5 0 (-1) 0 0 0), (b5 2, oX8 bt6 0), (bt6 0, .inl (cB, 900, .inl (fun _ => 0))), (b5 3, oX0 bc7 0 0 0 0 0 0 0 0 0 0), (bc7 10, .inl (cI, 12, .inl (fun _ => 0))), (bc7 11, .inl (cI, 6, .inl (fun _ => 0))), (bc7 12, .inl (cI, 7, .inl (fun _ => 0))), (bc7 13, .inl (cI, 7, .inl (fun _ => 0))), (bc7 14, .inl (cI, 7, .inl (fun _ => 0))), (bc7 15, .inl (cI, 7, .inl (fun _ => 0))), (bc7 16, .inl (cI, 7, .inl (fun _ => 0))), (bc7 17, .inl (cI, 56, .inl (fun _ => 0))), (bc7 18, .inl (cI, 30, .inl (fun _ => 0))), (q8, .inr (0, [.int 0, .int 0, .int 0, .int 0, .int 0, .int 0, .int 0, .int 0, .int 0, .int 0, .null, .null, .null, .null, .null, .null, .null, .null, .null]))] H := hP
  have hD : va_D A [(h0, .inr (9, [.ref q1, .null, .null, .null, .null, .null, .null, .null, .null, .null, .null])), (q1, oX4 b5 0 (-1) 0 0 0), (b5 2, oX8 bt6 0), (bt6 0, .inl (cB, 900, .inl (fun _ => 0))), (b5 3, oX0 bc7 0 0 0 0 0 0 0 0 0 0), (bc7 10, .inl (cI, 12, .inl (fun _ => 0))), (bc7 11, .inl (cI, 6, .inl (fun _ => 0))), (bc7 12, .inl (cI, 7, .inl (fun _ => 0))), (bc7 13, .inl (cI, 7, .inl (fun _ => 0))), (bc7 14, .inl (cI, 7, .inl (fun _ => 0))), (bc7 15, .inl (cI, 7, .inl (fun _ => 0))), (bc7 16, .inl (cI, 7, .inl (fun _ => 0))), (bc7 17, .inl (cI, 56, .inl (fun _ => 0))), (bc7 18, .inl (cI, 30, .inl (fun _ => 0))), (q8, .inr (0, [.int 0, .int 0, .int 0, .int 0, .int 0, .int 0, .int 0, .int 0, .int 0, .int 0, .null, .null, .null, .null, .null, .null, .null, .null, .null]))] := hD
  refine lv_dup hx hb dX9_init_19 rfl ?_
  refine k_v (wc := [(q8, .inr (0, [.int 0, .int 0, .int 0, .int 0, .int 0, .int 0, .int 0, .int 0, .int 0, .int 0, .null, .null, .null, .null, .null, .null, .null, .null, .null]))]) (wr := [(h0, .inr (9, [.ref q1, .null, .null, .null, .null, .null, .null, .null, .null, .null, .null])), (q1, oX4 b5 0 (-1) 0 0 0), (b5 2, oX8 bt6 0), (bt6 0, .inl (cB, 900, .inl (fun _ => 0))), (b5 3, oX0 bc7 0 0 0 0 0 0 0 0 0 0), (bc7 10, .inl (cI, 12, .inl (fun _ => 0))), (bc7 11, .inl (cI, 6, .inl (fun _ => 0))), (bc7 12, .inl (cI, 7, .inl (fun _ => 0))), (bc7 13, .inl (cI, 7, .inl (fun _ => 0))), (bc7 14, .inl (cI, 7, .inl (fun _ => 0))), (bc7 15, .inl (cI, 7, .inl (fun _ => 0))), (bc7 16, .inl (cI, 7, .inl (fun _ => 0))), (bc7 17, .inl (cI, 56, .inl (fun _ => 0))), (bc7 18, .inl (cI, 30, .inl (fun _ => 0)))]) hP hD hS hA [14] [0, 1, 2, 3, 4, 5, 6, 7, 8, 9, 10, 11, 12, 13] rfl rfl rfl (by decide) (va_runIN (As := []) (rest := [.ref q8, .ref h0]) ⟨hx, hb, hml, hown, hts⟩ (f_X0_init l G cI cJ cZ cB cQ _ q8) ⟨va_cnB (host := "WidowRoads") 0 hts (gW w_53) rfl rfl rfl (nz_nw hZ nw_190 rfl) (hts _ w_4) hd_X0_init ⟨Nat.le_of_ble_eq_true rfl, Nat.le_of_ble_eq_true rfl⟩, rfl, (hts _ w_52)⟩ (mS hK hZ hP hD [14] rfl rfl [.ref q8]) rfl rfl hl.1 rfl (lv_room (Nat.le_of_ble_eq_true rfl)) dX9_init_20 ⟨Nat.le_of_ble_eq_true rfl, Nat.le_of_ble_eq_true rfl⟩) (fun u10 H locs hw11 hP hD hS => ?_)
  obtain ⟨b12, rfl⟩ : ∃ z, z = u10 := ⟨_, rfl⟩
  have hP : va_P G vwCl [(h0, .inr (9, [.ref q1, .null, .null, .null, .null, .null, .null, .null, .null, .null, .null])), (q1, oX4 b5 0 (-1) 0 0 0), (b5 2, oX8 bt6 0), (bt6 0, .inl (cB, 900, .inl (fun _ => 0))), (b5 3, oX0 bc7 0 0 0 0 0 0 0 0 0 0), (bc7 10, .inl (cI, 12, .inl (fun _ => 0))), (bc7 11, .inl (cI, 6, .inl (fun _ => 0))), (bc7 12, .inl (cI, 7, .inl (fun _ => 0))), (bc7 13, .inl (cI, 7, .inl (fun _ => 0))), (bc7 14, .inl (cI, 7, .inl (fun _ => 0))), (bc7 15, .inl (cI, 7, .inl (fun _ => 0))), (bc7 16, .inl (cI, 7, .inl (fun _ => 0))), (bc7 17, .inl (cI, 56, .inl (fun _ => 0))), (bc7 18, .inl (cI, 30, .inl (fun _ => 0))), (q8, oX0 b12 0 0 0 0 0 0 0 0 0 0), (b12 10, .inl (cI, 12, .inl (fun _ => 0))), (b12 11, .inl (cI, 6, .inl (fun _ => 0))), (b12 12, .inl (cI, 7, .inl (fun _ => 0))), (b12 13, .inl (cI, 7, .inl (fun _ => 0))), (b12 14, .inl (cI, 7, .inl (fun _ => 0))), (b12 15, .inl (cI, 7, .inl (fun _ => 0))), (b12 16, .inl (cI, 7, .inl (fun _ => 0))), (b12 17, .inl (cI, 56, .inl (fun _ => 0))), (b12 18, .inl (cI, 30, .inl (fun _ => 0)))] H := hP
  have hD : va_D A [(h0, .inr (9, [.ref q1, .null, .null, .null, .null, .null, .null, .null, .null, .null, .null])), (q1, oX4 b5 0 (-1) 0 0 0), (b5 2, oX8 bt6 0), (bt6 0, .inl (cB, 900, .inl (fun _ => 0))), (b5 3, oX0 bc7 0 0 0 0 0 0 0 0 0 0), (bc7 10, .inl (cI, 12, .inl (fun _ => 0))), (bc7 11, .inl (cI, 6, .inl (fun _ => 0))), (bc7 12, .inl (cI, 7, .inl (fun _ => 0))), (bc7 13, .inl (cI, 7, .inl (fun _ => 0))), (bc7 14, .inl (cI, 7, .inl (fun _ => 0))), (bc7 15, .inl (cI, 7, .inl (fun _ => 0))), (bc7 16, .inl (cI, 7, .inl (fun _ => 0))), (bc7 17, .inl (cI, 56, .inl (fun _ => 0))), (bc7 18, .inl (cI, 30, .inl (fun _ => 0))), (q8, oX0 b12 0 0 0 0 0 0 0 0 0 0), (b12 10, .inl (cI, 12, .inl (fun _ => 0))), (b12 11, .inl (cI, 6, .inl (fun _ => 0))), (b12 12, .inl (cI, 7, .inl (fun _ => 0))), (b12 13, .inl (cI, 7, .inl (fun _ => 0))), (b12 14, .inl (cI, 7, .inl (fun _ => 0))), (b12 15, .inl (cI, 7, .inl (fun _ => 0))), (b12 16, .inl (cI, 7, .inl (fun _ => 0))), (b12 17, .inl (cI, 56, .inl (fun _ => 0))), (b12 18, .inl (cI, 30, .inl (fun _ => 0)))] := hD
  refine va_putF (D := G) (ci := 9) (v := .ref q8) (ty := .object "WidowRoads$Colony") (C := RX9) (T := TX9) (N := 11) hx hb hts iG_X9 tyX9 tyX9_ok nmX9 hown hK hP hD hS 0 rfl rfl 1 (by decide) (hts _ w_352) (fun _ h9 => h9) rfl hnm rfl (by decide +kernel) rfl rfl (Nat.le_of_ble_eq_true rfl) dX9_init_23 (fun H locs hP hD hS => ?_)
  have hP : va_P G vwCl [(h0, .inr (9, [.ref q1, .ref q8, .null, .null, .null, .null, .null, .null, .null, .null, .null])), (q1, oX4 b5 0 (-1) 0 0 0), (b5 2, oX8 bt6 0), (bt6 0, .inl (cB, 900, .inl (fun _ => 0))), (b5 3, oX0 bc7 0 0 0 0 0 0 0 0 0 0), (bc7 10, .inl (cI, 12, .inl (fun _ => 0))), (bc7 11, .inl (cI, 6, .inl (fun _ => 0))), (bc7 12, .inl (cI, 7, .inl (fun _ => 0))), (bc7 13, .inl (cI, 7, .inl (fun _ => 0))), (bc7 14, .inl (cI, 7, .inl (fun _ => 0))), (bc7 15, .inl (cI, 7, .inl (fun _ => 0))), (bc7 16, .inl (cI, 7, .inl (fun _ => 0))), (bc7 17, .inl (cI, 56, .inl (fun _ => 0))), (bc7 18, .inl (cI, 30, .inl (fun _ => 0))), (q8, oX0 b12 0 0 0 0 0 0 0 0 0 0), (b12 10, .inl (cI, 12, .inl (fun _ => 0))), (b12 11, .inl (cI, 6, .inl (fun _ => 0))), (b12 12, .inl (cI, 7, .inl (fun _ => 0))), (b12 13, .inl (cI, 7, .inl (fun _ => 0))), (b12 14, .inl (cI, 7, .inl (fun _ => 0))), (b12 15, .inl (cI, 7, .inl (fun _ => 0))), (b12 16, .inl (cI, 7, .inl (fun _ => 0))), (b12 17, .inl (cI, 56, .inl (fun _ => 0))), (b12 18, .inl (cI, 30, .inl (fun _ => 0)))] H := hP
  have hD : va_D A [(h0, .inr (9, [.ref q1, .ref q8, .null, .null, .null, .null, .null, .null, .null, .null, .null])), (q1, oX4 b5 0 (-1) 0 0 0), (b5 2, oX8 bt6 0), (bt6 0, .inl (cB, 900, .inl (fun _ => 0))), (b5 3, oX0 bc7 0 0 0 0 0 0 0 0 0 0), (bc7 10, .inl (cI, 12, .inl (fun _ => 0))), (bc7 11, .inl (cI, 6, .inl (fun _ => 0))), (bc7 12, .inl (cI, 7, .inl (fun _ => 0))), (bc7 13, .inl (cI, 7, .inl (fun _ => 0))), (bc7 14, .inl (cI, 7, .inl (fun _ => 0))), (bc7 15, .inl (cI, 7, .inl (fun _ => 0))), (bc7 16, .inl (cI, 7, .inl (fun _ => 0))), (bc7 17, .inl (cI, 56, .inl (fun _ => 0))), (bc7 18, .inl (cI, 30, .inl (fun _ => 0))), (q8, oX0 b12 0 0 0 0 0 0 0 0 0 0), (b12 10, .inl (cI, 12, .inl (fun _ => 0))), (b12 11, .inl (cI, 6, .inl (fun _ => 0))), (b12 12, .inl (cI, 7, .inl (fun _ => 0))), (b12 13, .inl (cI, 7, .inl (fun _ => 0))), (b12 14, .inl (cI, 7, .inl (fun _ => 0))), (b12 15, .inl (cI, 7, .inl (fun _ => 0))), (b12 16, .inl (cI, 7, .inl (fun _ => 0))), (b12 17, .inl (cI, 56, .inl (fun _ => 0))), (b12 18, .inl (cI, 30, .inl (fun _ => 0)))] := hD
  refine lv_aload_n hx hb dX9_init_26 rfl (lv_at hl 0 rfl) ?_
  refine lv_iconst (v := 3) hx hb dX9_init_27 (by decide) ?_
  refine m_newq (n := 3) (N' := 3) hx hb hown (hts _ w_189) hZ.2 hK 4 rfl hP hD hS hA (by decide) (by decide) (Nat.le_of_ble_eq_true rfl) (Nat.le_of_ble_eq_true rfl) (Nat.le_of_ble_eq_true rfl) dX9_init_28 (fun q13 H hP hD hS => ?_)
  have hP : va_P G vwCl [(h0, .inr (9, [.ref q1, .ref q8, .null, .null, .null, .null, .null, .null, .null, .null, .null])), (q1, oX4 b5 0 (-1) 0 0 0), (b5 2, oX8 bt6 0), (bt6 0, .inl (cB, 900, .inl (fun _ => 0))), (b5 3, oX0 bc7 0 0 0 0 0 0 0 0 0 0), (bc7 10, .inl (cI, 12, .inl (fun _ => 0))), (bc7 11, .inl (cI, 6, .inl (fun _ => 0))), (bc7 12, .inl (cI, 7, .inl (fun _ => 0))), (bc7 13, .inl (cI, 7, .inl (fun _ => 0))), (bc7 14, .inl (cI, 7, .inl (fun _ => 0))), (bc7 15, .inl (cI, 7, .inl (fun _ => 0))), (bc7 16, .inl (cI, 7, .inl (fun _ => 0))), (bc7 17, .inl (cI, 56, .inl (fun _ => 0))), (bc7 18, .inl (cI, 30, .inl (fun _ => 0))), (q8, oX0 b12 0 0 0 0 0 0 0 0 0 0), (b12 10, .inl (cI, 12, .inl (fun _ => 0))), (b12 11, .inl (cI, 6, .inl (fun _ => 0))), (b12 12, .inl (cI, 7, .inl (fun _ => 0))), (b12 13, .inl (cI, 7, .inl (fun _ => 0))), (b12 14, .inl (cI, 7, .inl (fun _ => 0))), (b12 15, .inl (cI, 7, .inl (fun _ => 0))), (b12 16, .inl (cI, 7, .inl (fun _ => 0))), (b12 17, .inl (cI, 56, .inl (fun _ => 0))), (b12 18, .inl (cI, 30, .inl (fun _ => 0))), (q13, .inl (cQ, 3, .inr (.inr (.inr (.inr (fun _ => none))))))] H := hP
  have hD : va_D A [(h0, .inr (9, [.ref q1, .ref q8, .null, .null, .null, .null, .null, .null, .null, .null, .null])), (q1, oX4 b5 0 (-1) 0 0 0), (b5 2, oX8 bt6 0), (bt6 0, .inl (cB, 900, .inl (fun _ => 0))), (b5 3, oX0 bc7 0 0 0 0 0 0 0 0 0 0), (bc7 10, .inl (cI, 12, .inl (fun _ => 0))), (bc7 11, .inl (cI, 6, .inl (fun _ => 0))), (bc7 12, .inl (cI, 7, .inl (fun _ => 0))), (bc7 13, .inl (cI, 7, .inl (fun _ => 0))), (bc7 14, .inl (cI, 7, .inl (fun _ => 0))), (bc7 15, .inl (cI, 7, .inl (fun _ => 0))), (bc7 16, .inl (cI, 7, .inl (fun _ => 0))), (bc7 17, .inl (cI, 56, .inl (fun _ => 0))), (bc7 18, .inl (cI, 30, .inl (fun _ => 0))), (q8, oX0 b12 0 0 0 0 0 0 0 0 0 0), (b12 10, .inl (cI, 12, .inl (fun _ => 0))), (b12 11, .inl (cI, 6, .inl (fun _ => 0))), (b12 12, .inl (cI, 7, .inl (fun _ => 0))), (b12 13, .inl (cI, 7, .inl (fun _ => 0))), (b12 14, .inl (cI, 7, .inl (fun _ => 0))), (b12 15, .inl (cI, 7, .inl (fun _ => 0))), (b12 16, .inl (cI, 7, .inl (fun _ => 0))), (b12 17, .inl (cI, 56, .inl (fun _ => 0))), (b12 18, .inl (cI, 30, .inl (fun _ => 0))), (q13, .inl (cQ, 3, .inr (.inr (.inr (.inr (fun _ => none))))))] := hD
  refine va_putF (D := G) (ci := 9) (v := .ref q13) (ty := .array (.object "WidowRoads$Colony")) (C := RX9) (T := TX9) (N := 11) hx hb hts iG_X9 tyX9 tyX9_ok nmX9 hown hK hP hD hS 0 rfl rfl 2 (by decide) (hts _ w_353) (fun _ h9 => h9) rfl hnm rfl (by decide +kernel) rfl rfl (Nat.le_of_ble_eq_true rfl) dX9_init_31 (fun H locs hP hD hS => ?_)
  have hP : va_P G vwCl [(h0, .inr (9, [.ref q1, .ref q8, .ref q13, .null, .null, .null, .null, .null, .null, .null, .null])), (q1, oX4 b5 0 (-1) 0 0 0), (b5 2, oX8 bt6 0), (bt6 0, .inl (cB, 900, .inl (fun _ => 0))), (b5 3, oX0 bc7 0 0 0 0 0 0 0 0 0 0), (bc7 10, .inl (cI, 12, .inl (fun _ => 0))), (bc7 11, .inl (cI, 6, .inl (fun _ => 0))), (bc7 12, .inl (cI, 7, .inl (fun _ => 0))), (bc7 13, .inl (cI, 7, .inl (fun _ => 0))), (bc7 14, .inl (cI, 7, .inl (fun _ => 0))), (bc7 15, .inl (cI, 7, .inl (fun _ => 0))), (bc7 16, .inl (cI, 7, .inl (fun _ => 0))), (bc7 17, .inl (cI, 56, .inl (fun _ => 0))), (bc7 18, .inl (cI, 30, .inl (fun _ => 0))), (q8, oX0 b12 0 0 0 0 0 0 0 0 0 0), (b12 10, .inl (cI, 12, .inl (fun _ => 0))), (b12 11, .inl (cI, 6, .inl (fun _ => 0))), (b12 12, .inl (cI, 7, .inl (fun _ => 0))), (b12 13, .inl (cI, 7, .inl (fun _ => 0))), (b12 14, .inl (cI, 7, .inl (fun _ => 0))), (b12 15, .inl (cI, 7, .inl (fun _ => 0))), (b12 16, .inl (cI, 7, .inl (fun _ => 0))), (b12 17, .inl (cI, 56, .inl (fun _ => 0))), (b12 18, .inl (cI, 30, .inl (fun _ => 0))), (q13, .inl (cQ, 3, .inr (.inr (.inr (.inr (fun _ => none))))))] H := hP
  have hD : va_D A [(h0, .inr (9, [.ref q1, .ref q8, .ref q13, .null, .null, .null, .null, .null, .null, .null, .null])), (q1, oX4 b5 0 (-1) 0 0 0), (b5 2, oX8 bt6 0), (bt6 0, .inl (cB, 900, .inl (fun _ => 0))), (b5 3, oX0 bc7 0 0 0 0 0 0 0 0 0 0), (bc7 10, .inl (cI, 12, .inl (fun _ => 0))), (bc7 11, .inl (cI, 6, .inl (fun _ => 0))), (bc7 12, .inl (cI, 7, .inl (fun _ => 0))), (bc7 13, .inl (cI, 7, .inl (fun _ => 0))), (bc7 14, .inl (cI, 7, .inl (fun _ => 0))), (bc7 15, .inl (cI, 7, .inl (fun _ => 0))), (bc7 16, .inl (cI, 7, .inl (fun _ => 0))), (bc7 17, .inl (cI, 56, .inl (fun _ => 0))), (bc7 18, .inl (cI, 30, .inl (fun _ => 0))), (q8, oX0 b12 0 0 0 0 0 0 0 0 0 0), (b12 10, .inl (cI, 12, .inl (fun _ => 0))), (b12 11, .inl (cI, 6, .inl (fun _ => 0))), (b12 12, .inl (cI, 7, .inl (fun _ => 0))), (b12 13, .inl (cI, 7, .inl (fun _ => 0))), (b12 14, .inl (cI, 7, .inl (fun _ => 0))), (b12 15, .inl (cI, 7, .inl (fun _ => 0))), (b12 16, .inl (cI, 7, .inl (fun _ => 0))), (b12 17, .inl (cI, 56, .inl (fun _ => 0))), (b12 18, .inl (cI, 30, .inl (fun _ => 0))), (q13, .inl (cQ, 3, .inr (.inr (.inr (.inr (fun _ => none))))))] := hD
  refine lv_aload_n hx hb dX9_init_34 rfl (lv_at hl 0 rfl) ?_
  refine va_new (ci := 7) (fs := [.int 0, .int 0, .long 0, .int 0, .int 0, .int 0]) (C := RX7) (T := TX7) (N := 6) hx hb hts iG_X7 tyX7 tyX7_ok hown (hts _ w_192) (hts _ w_193) (hts _ w_5) hK hP hD hS hA rfl (nf_X7) (Nat.le_of_ble_eq_true rfl) (Nat.le_of_ble_eq_true rfl) dX9_init_35 (fun q14 H hP hD hS => ?_)
  have hP : va_P G vwCl [(h0, .inr (9, [.ref q1, .ref q8, .ref q13, .null, .null, .null, .null, .null, .null, .null, .null])), (q1, oX4 b5 0 (-1) 0 0 0), (b5 2, oX8 bt6 0), (bt6 0, .inl (cB, 900, .inl (fun _ => 0))), (b5 3, oX0 bc7 0 0 0 0 0 0 0 0 0 0), (bc7 10, .inl (cI, 12, .inl (fun _ => 0))), (bc7 11, .inl (cI, 6, .inl (fun _ => 0))), (bc7 12, .inl (cI, 7, .inl (fun _ => 0))), (bc7 13, .inl (cI, 7, .inl (fun _ => 0))), (bc7 14, .inl (cI, 7, .inl (fun _ => 0))), (bc7 15, .inl (cI, 7, .inl (fun _ => 0))), (bc7 16, .inl (cI, 7, .inl (fun _ => 0))), (bc7 17, .inl (cI, 56, .inl (fun _ => 0))), (bc7 18, .inl (cI, 30, .inl (fun _ => 0))), (q8, oX0 b12 0 0 0 0 0 0 0 0 0 0), (b12 10, .inl (cI, 12, .inl (fun _ => 0))), (b12 11, .inl (cI, 6, .inl (fun _ => 0))), (b12 12, .inl (cI, 7, .inl (fun _ => 0))), (b12 13, .inl (cI, 7, .inl (fun _ => 0))), (b12 14, .inl (cI, 7, .inl (fun _ => 0))), (b12 15, .inl (cI, 7, .inl (fun _ => 0))), (b12 16, .inl (cI, 7, .inl (fun _ => 0))), (b12 17, .inl (cI, 56, .inl (fun _ => 0))), (b12 18, .inl (cI, 30, .inl (fun _ => 0))), (q13, .inl (cQ, 3, .inr (.inr (.inr (.inr (fun _ => none)))))), (q14, .inr (7, [.int 0, .int 0, .long 0, .int 0, .int 0, .int 0]))] H := hP
  have hD : va_D A [(h0, .inr (9, [.ref q1, .ref q8, .ref q13, .null, .null, .null, .null, .null, .null, .null, .null])), (q1, oX4 b5 0 (-1) 0 0 0), (b5 2, oX8 bt6 0), (bt6 0, .inl (cB, 900, .inl (fun _ => 0))), (b5 3, oX0 bc7 0 0 0 0 0 0 0 0 0 0), (bc7 10, .inl (cI, 12, .inl (fun _ => 0))), (bc7 11, .inl (cI, 6, .inl (fun _ => 0))), (bc7 12, .inl (cI, 7, .inl (fun _ => 0))), (bc7 13, .inl (cI, 7, .inl (fun _ => 0))), (bc7 14, .inl (cI, 7, .inl (fun _ => 0))), (bc7 15, .inl (cI, 7, .inl (fun _ => 0))), (bc7 16, .inl (cI, 7, .inl (fun _ => 0))), (bc7 17, .inl (cI, 56, .inl (fun _ => 0))), (bc7 18, .inl (cI, 30, .inl (fun _ => 0))), (q8, oX0 b12 0 0 0 0 0 0 0 0 0 0), (b12 10, .inl (cI, 12, .inl (fun _ => 0))), (b12 11, .inl (cI, 6, .inl (fun _ => 0))), (b12 12, .inl (cI, 7, .inl (fun _ => 0))), (b12 13, .inl (cI, 7, .inl (fun _ => 0))), (b12 14, .inl (cI, 7, .inl (fun _ => 0))), (b12 15, .inl (cI, 7, .inl (fun _ => 0))), (b12 16, .inl (cI, 7, .inl (fun _ => 0))), (b12 17, .inl (cI, 56, .inl (fun _ => 0))), (b12 18, .inl (cI, 30, .inl (fun _ => 0))), (q13, .inl (cQ, 3, .inr (.inr (.inr (.inr (fun _ => none)))))), (q14, .inr (7, [.int 0, .int 0, .long 0, .int 0, .int 0, .int 0]))] := hD
  refine lv_dup hx hb dX9_init_38 rfl ?_
  refine k_v (wc := [(q14, .inr (7, [.int 0, .int 0, .long 0, .int 0, .int 0, .int 0]))]) (wr := [(h0, .inr (9, [.ref q1, .ref q8, .ref q13, .null, .null, .null, .null, .null, .null, .null, .null])), (q1, oX4 b5 0 (-1) 0 0 0), (b5 2, oX8 bt6 0), (bt6 0, .inl (cB, 900, .inl (fun _ => 0))), (b5 3, oX0 bc7 0 0 0 0 0 0 0 0 0 0), (bc7 10, .inl (cI, 12, .inl (fun _ => 0))), (bc7 11, .inl (cI, 6, .inl (fun _ => 0))), (bc7 12, .inl (cI, 7, .inl (fun _ => 0))), (bc7 13, .inl (cI, 7, .inl (fun _ => 0))), (bc7 14, .inl (cI, 7, .inl (fun _ => 0))), (bc7 15, .inl (cI, 7, .inl (fun _ => 0))), (bc7 16, .inl (cI, 7, .inl (fun _ => 0))), (bc7 17, .inl (cI, 56, .inl (fun _ => 0))), (bc7 18, .inl (cI, 30, .inl (fun _ => 0))), (q8, oX0 b12 0 0 0 0 0 0 0 0 0 0), (b12 10, .inl (cI, 12, .inl (fun _ => 0))), (b12 11, .inl (cI, 6, .inl (fun _ => 0))), (b12 12, .inl (cI, 7, .inl (fun _ => 0))), (b12 13, .inl (cI, 7, .inl (fun _ => 0))), (b12 14, .inl (cI, 7, .inl (fun _ => 0))), (b12 15, .inl (cI, 7, .inl (fun _ => 0))), (b12 16, .inl (cI, 7, .inl (fun _ => 0))), (b12 17, .inl (cI, 56, .inl (fun _ => 0))), (b12 18, .inl (cI, 30, .inl (fun _ => 0))), (q13, .inl (cQ, 3, .inr (.inr (.inr (.inr (fun _ => none))))))]) hP hD hS hA [25] [0, 1, 2, 3, 4, 5, 6, 7, 8, 9, 10, 11, 12, 13, 14, 15, 16, 17, 18, 19, 20, 21, 22, 23, 24] rfl rfl rfl (by decide) (va_runIN (As := []) (rest := [.ref q14, .ref h0]) ⟨hx, hb, hml, hown, hts⟩ (f_X7_init l G cI cJ cZ cB cQ _ q14) ⟨va_cnB (host := "WidowRoads") 0 hts (gW w_196) rfl rfl rfl (nz_nw hZ nw_194 rfl) (hts _ w_5) hd_X7_init ⟨Nat.le_of_ble_eq_true rfl, Nat.le_of_ble_eq_true rfl⟩, rfl, (hts _ w_195)⟩ (mS hK hZ hP hD [25] rfl rfl [.ref q14]) rfl rfl hl.1 rfl (lv_room (Nat.le_of_ble_eq_true rfl)) dX9_init_39 ⟨Nat.le_of_ble_eq_true rfl, Nat.le_of_ble_eq_true rfl⟩) (fun u16 H locs hw17 hP hD hS => ?_)
  have hP : va_P G vwCl [(h0, .inr (9, [.ref q1, .ref q8, .ref q13, .null, .null, .null, .null, .null, .null, .null, .null])), (q1, oX4 b5 0 (-1) 0 0 0), (b5 2, oX8 bt6 0), (bt6 0, .inl (cB, 900, .inl (fun _ => 0))), (b5 3, oX0 bc7 0 0 0 0 0 0 0 0 0 0), (bc7 10, .inl (cI, 12, .inl (fun _ => 0))), (bc7 11, .inl (cI, 6, .inl (fun _ => 0))), (bc7 12, .inl (cI, 7, .inl (fun _ => 0))), (bc7 13, .inl (cI, 7, .inl (fun _ => 0))), (bc7 14, .inl (cI, 7, .inl (fun _ => 0))), (bc7 15, .inl (cI, 7, .inl (fun _ => 0))), (bc7 16, .inl (cI, 7, .inl (fun _ => 0))), (bc7 17, .inl (cI, 56, .inl (fun _ => 0))), (bc7 18, .inl (cI, 30, .inl (fun _ => 0))), (q8, oX0 b12 0 0 0 0 0 0 0 0 0 0), (b12 10, .inl (cI, 12, .inl (fun _ => 0))), (b12 11, .inl (cI, 6, .inl (fun _ => 0))), (b12 12, .inl (cI, 7, .inl (fun _ => 0))), (b12 13, .inl (cI, 7, .inl (fun _ => 0))), (b12 14, .inl (cI, 7, .inl (fun _ => 0))), (b12 15, .inl (cI, 7, .inl (fun _ => 0))), (b12 16, .inl (cI, 7, .inl (fun _ => 0))), (b12 17, .inl (cI, 56, .inl (fun _ => 0))), (b12 18, .inl (cI, 30, .inl (fun _ => 0))), (q13, .inl (cQ, 3, .inr (.inr (.inr (.inr (fun _ => none)))))), (q14, oX7 z0 0 0 0 0 0 0)] H := hP
  have hD : va_D A [(h0, .inr (9, [.ref q1, .ref q8, .ref q13, .null, .null, .null, .null, .null, .null, .null, .null])), (q1, oX4 b5 0 (-1) 0 0 0), (b5 2, oX8 bt6 0), (bt6 0, .inl (cB, 900, .inl (fun _ => 0))), (b5 3, oX0 bc7 0 0 0 0 0 0 0 0 0 0), (bc7 10, .inl (cI, 12, .inl (fun _ => 0))), (bc7 11, .inl (cI, 6, .inl (fun _ => 0))), (bc7 12, .inl (cI, 7, .inl (fun _ => 0))), (bc7 13, .inl (cI, 7, .inl (fun _ => 0))), (bc7 14, .inl (cI, 7, .inl (fun _ => 0))), (bc7 15, .inl (cI, 7, .inl (fun _ => 0))), (bc7 16, .inl (cI, 7, .inl (fun _ => 0))), (bc7 17, .inl (cI, 56, .inl (fun _ => 0))), (bc7 18, .inl (cI, 30, .inl (fun _ => 0))), (q8, oX0 b12 0 0 0 0 0 0 0 0 0 0), (b12 10, .inl (cI, 12, .inl (fun _ => 0))), (b12 11, .inl (cI, 6, .inl (fun _ => 0))), (b12 12, .inl (cI, 7, .inl (fun _ => 0))), (b12 13, .inl (cI, 7, .inl (fun _ => 0))), (b12 14, .inl (cI, 7, .inl (fun _ => 0))), (b12 15, .inl (cI, 7, .inl (fun _ => 0))), (b12 16, .inl (cI, 7, .inl (fun _ => 0))), (b12 17, .inl (cI, 56, .inl (fun _ => 0))), (b12 18, .inl (cI, 30, .inl (fun _ => 0))), (q13, .inl (cQ, 3, .inr (.inr (.inr (.inr (fun _ => none)))))), (q14, oX7 z0 0 0 0 0 0 0)] := hD
  refine va_putF (D := G) (ci := 9) (v := .ref q14) (ty := .object "WidowRoads$Supposal") (C := RX9) (T := TX9) (N := 11) hx hb hts iG_X9 tyX9 tyX9_ok nmX9 hown hK hP hD hS 0 rfl rfl 3 (by decide) (hts _ w_354) (fun _ h9 => h9) rfl hnm rfl (by decide +kernel) rfl rfl (Nat.le_of_ble_eq_true rfl) dX9_init_42 (fun H locs hP hD hS => ?_)
  have hP : va_P G vwCl [(h0, .inr (9, [.ref q1, .ref q8, .ref q13, .ref q14, .null, .null, .null, .null, .null, .null, .null])), (q1, oX4 b5 0 (-1) 0 0 0), (b5 2, oX8 bt6 0), (bt6 0, .inl (cB, 900, .inl (fun _ => 0))), (b5 3, oX0 bc7 0 0 0 0 0 0 0 0 0 0), (bc7 10, .inl (cI, 12, .inl (fun _ => 0))), (bc7 11, .inl (cI, 6, .inl (fun _ => 0))), (bc7 12, .inl (cI, 7, .inl (fun _ => 0))), (bc7 13, .inl (cI, 7, .inl (fun _ => 0))), (bc7 14, .inl (cI, 7, .inl (fun _ => 0))), (bc7 15, .inl (cI, 7, .inl (fun _ => 0))), (bc7 16, .inl (cI, 7, .inl (fun _ => 0))), (bc7 17, .inl (cI, 56, .inl (fun _ => 0))), (bc7 18, .inl (cI, 30, .inl (fun _ => 0))), (q8, oX0 b12 0 0 0 0 0 0 0 0 0 0), (b12 10, .inl (cI, 12, .inl (fun _ => 0))), (b12 11, .inl (cI, 6, .inl (fun _ => 0))), (b12 12, .inl (cI, 7, .inl (fun _ => 0))), (b12 13, .inl (cI, 7, .inl (fun _ => 0))), (b12 14, .inl (cI, 7, .inl (fun _ => 0))), (b12 15, .inl (cI, 7, .inl (fun _ => 0))), (b12 16, .inl (cI, 7, .inl (fun _ => 0))), (b12 17, .inl (cI, 56, .inl (fun _ => 0))), (b12 18, .inl (cI, 30, .inl (fun _ => 0))), (q13, .inl (cQ, 3, .inr (.inr (.inr (.inr (fun _ => none)))))), (q14, oX7 z0 0 0 0 0 0 0)] H := hP
  have hD : va_D A [(h0, .inr (9, [.ref q1, .ref q8, .ref q13, .ref q14, .null, .null, .null, .null, .null, .null, .null])), (q1, oX4 b5 0 (-1) 0 0 0), (b5 2, oX8 bt6 0), (bt6 0, .inl (cB, 900, .inl (fun _ => 0))), (b5 3, oX0 bc7 0 0 0 0 0 0 0 0 0 0), (bc7 10, .inl (cI, 12, .inl (fun _ => 0))), (bc7 11, .inl (cI, 6, .inl (fun _ => 0))), (bc7 12, .inl (cI, 7, .inl (fun _ => 0))), (bc7 13, .inl (cI, 7, .inl (fun _ => 0))), (bc7 14, .inl (cI, 7, .inl (fun _ => 0))), (bc7 15, .inl (cI, 7, .inl (fun _ => 0))), (bc7 16, .inl (cI, 7, .inl (fun _ => 0))), (bc7 17, .inl (cI, 56, .inl (fun _ => 0))), (bc7 18, .inl (cI, 30, .inl (fun _ => 0))), (q8, oX0 b12 0 0 0 0 0 0 0 0 0 0), (b12 10, .inl (cI, 12, .inl (fun _ => 0))), (b12 11, .inl (cI, 6, .inl (fun _ => 0))), (b12 12, .inl (cI, 7, .inl (fun _ => 0))), (b12 13, .inl (cI, 7, .inl (fun _ => 0))), (b12 14, .inl (cI, 7, .inl (fun _ => 0))), (b12 15, .inl (cI, 7, .inl (fun _ => 0))), (b12 16, .inl (cI, 7, .inl (fun _ => 0))), (b12 17, .inl (cI, 56, .inl (fun _ => 0))), (b12 18, .inl (cI, 30, .inl (fun _ => 0))), (q13, .inl (cQ, 3, .inr (.inr (.inr (.inr (fun _ => none)))))), (q14, oX7 z0 0 0 0 0 0 0)] := hD
  refine lv_aload_n hx hb dX9_init_45 rfl (lv_at hl 0 rfl) ?_
  refine va_new (ci := 6) (fs := [.null, .null, .null, .null, .null, .null, .null, .null, .null, .null, .long 0, .int 0]) (C := RX6) (T := TX6) (N := 12) hx hb hts iG_X6 tyX6 tyX6_ok hown (hts _ w_227) (hts _ w_228) (hts _ w_6) hK hP hD hS hA rfl (nf_X6) (Nat.le_of_ble_eq_true rfl) (Nat.le_of_ble_eq_true rfl) dX9_init_46 (fun q18 H hP hD hS => ?_)
  have hP : va_P G vwCl [(h0, .inr (9, [.ref q1, .ref q8, .ref q13, .ref q14, .null, .null, .null, .null, .null, .null, .null])), (q1, oX4 b5 0 (-1) 0 0 0), (b5 2, oX8 bt6 0), (bt6 0, .inl (cB, 900, .inl (fun _ => 0))), (b5 3, oX0 bc7 0 0 0 0 0 0 0 0 0 0), (bc7 10, .inl (cI, 12, .inl (fun _ => 0))), (bc7 11, .inl (cI, 6, .inl (fun _ => 0))), (bc7 12, .inl (cI, 7, .inl (fun _ => 0))), (bc7 13, .inl (cI, 7, .inl (fun _ => 0))), (bc7 14, .inl (cI, 7, .inl (fun _ => 0))), (bc7 15, .inl (cI, 7, .inl (fun _ => 0))), (bc7 16, .inl (cI, 7, .inl (fun _ => 0))), (bc7 17, .inl (cI, 56, .inl (fun _ => 0))), (bc7 18, .inl (cI, 30, .inl (fun _ => 0))), (q8, oX0 b12 0 0 0 0 0 0 0 0 0 0), (b12 10, .inl (cI, 12, .inl (fun _ => 0))), (b12 11, .inl (cI, 6, .inl (fun _ => 0))), (b12 12, .inl (cI, 7, .inl (fun _ => 0))), (b12 13, .inl (cI, 7, .inl (fun _ => 0))), (b12 14, .inl (cI, 7, .inl (fun _ => 0))), (b12 15, .inl (cI, 7, .inl (fun _ => 0))), (b12 16, .inl (cI, 7, .inl (fun _ => 0))), (b12 17, .inl (cI, 56, .inl (fun _ => 0))), (b12 18, .inl (cI, 30, .inl (fun _ => 0))), (q13, .inl (cQ, 3, .inr (.inr (.inr (.inr (fun _ => none)))))), (q14, oX7 z0 0 0 0 0 0 0), (q18, .inr (6, [.null, .null, .null, .null, .null, .null, .null, .null, .null, .null, .long 0, .int 0]))] H := hP
  have hD : va_D A [(h0, .inr (9, [.ref q1, .ref q8, .ref q13, .ref q14, .null, .null, .null, .null, .null, .null, .null])), (q1, oX4 b5 0 (-1) 0 0 0), (b5 2, oX8 bt6 0), (bt6 0, .inl (cB, 900, .inl (fun _ => 0))), (b5 3, oX0 bc7 0 0 0 0 0 0 0 0 0 0), (bc7 10, .inl (cI, 12, .inl (fun _ => 0))), (bc7 11, .inl (cI, 6, .inl (fun _ => 0))), (bc7 12, .inl (cI, 7, .inl (fun _ => 0))), (bc7 13, .inl (cI, 7, .inl (fun _ => 0))), (bc7 14, .inl (cI, 7, .inl (fun _ => 0))), (bc7 15, .inl (cI, 7, .inl (fun _ => 0))), (bc7 16, .inl (cI, 7, .inl (fun _ => 0))), (bc7 17, .inl (cI, 56, .inl (fun _ => 0))), (bc7 18, .inl (cI, 30, .inl (fun _ => 0))), (q8, oX0 b12 0 0 0 0 0 0 0 0 0 0), (b12 10, .inl (cI, 12, .inl (fun _ => 0))), (b12 11, .inl (cI, 6, .inl (fun _ => 0))), (b12 12, .inl (cI, 7, .inl (fun _ => 0))), (b12 13, .inl (cI, 7, .inl (fun _ => 0))), (b12 14, .inl (cI, 7, .inl (fun _ => 0))), (b12 15, .inl (cI, 7, .inl (fun _ => 0))), (b12 16, .inl (cI, 7, .inl (fun _ => 0))), (b12 17, .inl (cI, 56, .inl (fun _ => 0))), (b12 18, .inl (cI, 30, .inl (fun _ => 0))), (q13, .inl (cQ, 3, .inr (.inr (.inr (.inr (fun _ => none)))))), (q14, oX7 z0 0 0 0 0 0 0), (q18, .inr (6, [.null, .null, .null, .null, .null, .null, .null, .null, .null, .null, .long 0, .int 0]))] := hD
  refine lv_dup hx hb dX9_init_49 rfl ?_
  refine k_v (wc := [(q18, .inr (6, [.null, .null, .null, .null, .null, .null, .null, .null, .null, .null, .long 0, .int 0]))]) (wr := [(h0, .inr (9, [.ref q1, .ref q8, .ref q13, .ref q14, .null, .null, .null, .null, .null, .null, .null])), (q1, oX4 b5 0 (-1) 0 0 0), (b5 2, oX8 bt6 0), (bt6 0, .inl (cB, 900, .inl (fun _ => 0))), (b5 3, oX0 bc7 0 0 0 0 0 0 0 0 0 0), (bc7 10, .inl (cI, 12, .inl (fun _ => 0))), (bc7 11, .inl (cI, 6, .inl (fun _ => 0))), (bc7 12, .inl (cI, 7, .inl (fun _ => 0))), (bc7 13, .inl (cI, 7, .inl (fun _ => 0))), (bc7 14, .inl (cI, 7, .inl (fun _ => 0))), (bc7 15, .inl (cI, 7, .inl (fun _ => 0))), (bc7 16, .inl (cI, 7, .inl (fun _ => 0))), (bc7 17, .inl (cI, 56, .inl (fun _ => 0))), (bc7 18, .inl (cI, 30, .inl (fun _ => 0))), (q8, oX0 b12 0 0 0 0 0 0 0 0 0 0), (b12 10, .inl (cI, 12, .inl (fun _ => 0))), (b12 11, .inl (cI, 6, .inl (fun _ => 0))), (b12 12, .inl (cI, 7, .inl (fun _ => 0))), (b12 13, .inl (cI, 7, .inl (fun _ => 0))), (b12 14, .inl (cI, 7, .inl (fun _ => 0))), (b12 15, .inl (cI, 7, .inl (fun _ => 0))), (b12 16, .inl (cI, 7, .inl (fun _ => 0))), (b12 17, .inl (cI, 56, .inl (fun _ => 0))), (b12 18, .inl (cI, 30, .inl (fun _ => 0))), (q13, .inl (cQ, 3, .inr (.inr (.inr (.inr (fun _ => none)))))), (q14, oX7 z0 0 0 0 0 0 0)]) hP hD hS hA [26] [0, 1, 2, 3, 4, 5, 6, 7, 8, 9, 10, 11, 12, 13, 14, 15, 16, 17, 18, 19, 20, 21, 22, 23, 24, 25] rfl rfl rfl (by decide) (va_runIN (As := []) (rest := [.ref q18, .ref h0]) ⟨hx, hb, hml, hown, hts⟩ (f_X6_init l G cI cJ cZ cB cQ _ q18) ⟨va_cnB (host := "WidowRoads") 0 hts (gW w_231) rfl rfl rfl (nz_nw hZ nw_229 rfl) (hts _ w_6) hd_X6_init ⟨Nat.le_of_ble_eq_true rfl, Nat.le_of_ble_eq_true rfl⟩, rfl, (hts _ w_230)⟩ (mS hK hZ hP hD [26] rfl rfl [.ref q18]) rfl rfl hl.1 rfl (lv_room (Nat.le_of_ble_eq_true rfl)) dX9_init_50 ⟨Nat.le_of_ble_eq_true rfl, Nat.le_of_ble_eq_true rfl⟩) (fun u20 H locs hw21 hP hD hS => ?_)
  obtain ⟨b22, rfl⟩ : ∃ z, z = u20 := ⟨_, rfl⟩
  have hP : va_P G vwCl [(h0, .inr (9, [.ref q1, .ref q8, .ref q13, .ref q14, .null, .null, .null, .null, .null, .null, .null])), (q1, oX4 b5 0 (-1) 0 0 0), (b5 2, oX8 bt6 0), (bt6 0, .inl (cB, 900, .inl (fun _ => 0))), (b5 3, oX0 bc7 0 0 0 0 0 0 0 0 0 0), (bc7 10, .inl (cI, 12, .inl (fun _ => 0))), (bc7 11, .inl (cI, 6, .inl (fun _ => 0))), (bc7 12, .inl (cI, 7, .inl (fun _ => 0))), (bc7 13, .inl (cI, 7, .inl (fun _ => 0))), (bc7 14, .inl (cI, 7, .inl (fun _ => 0))), (bc7 15, .inl (cI, 7, .inl (fun _ => 0))), (bc7 16, .inl (cI, 7, .inl (fun _ => 0))), (bc7 17, .inl (cI, 56, .inl (fun _ => 0))), (bc7 18, .inl (cI, 30, .inl (fun _ => 0))), (q8, oX0 b12 0 0 0 0 0 0 0 0 0 0), (b12 10, .inl (cI, 12, .inl (fun _ => 0))), (b12 11, .inl (cI, 6, .inl (fun _ => 0))), (b12 12, .inl (cI, 7, .inl (fun _ => 0))), (b12 13, .inl (cI, 7, .inl (fun _ => 0))), (b12 14, .inl (cI, 7, .inl (fun _ => 0))), (b12 15, .inl (cI, 7, .inl (fun _ => 0))), (b12 16, .inl (cI, 7, .inl (fun _ => 0))), (b12 17, .inl (cI, 56, .inl (fun _ => 0))), (b12 18, .inl (cI, 30, .inl (fun _ => 0))), (q13, .inl (cQ, 3, .inr (.inr (.inr (.inr (fun _ => none)))))), (q14, oX7 z0 0 0 0 0 0 0), (q18, oX6 b22 0 0), (b22 0, .inl (cI, 287, .inl (fun _ => 0))), (b22 1, .inl (cI, 7, .inl (fun _ => 0))), (b22 2, .inl (cI, 7, .inl (fun _ => 0))), (b22 3, .inl (cJ, 7, .inr (.inl (fun _ => 0)))), (b22 4, .inl (cI, 7, .inl (fun _ => 0))), (b22 5, .inl (cI, 6, .inl (fun _ => 0))), (b22 6, .inl (cI, 78, .inl (fun _ => 0))), (b22 7, .inl (cJ, 13, .inr (.inl (fun _ => 0)))), (b22 8, .inl (cJ, 13, .inr (.inl (fun _ => 0)))), (b22 9, .inl (cJ, 13, .inr (.inl (fun _ => 0))))] H := hP
  have hD : va_D A [(h0, .inr (9, [.ref q1, .ref q8, .ref q13, .ref q14, .null, .null, .null, .null, .null, .null, .null])), (q1, oX4 b5 0 (-1) 0 0 0), (b5 2, oX8 bt6 0), (bt6 0, .inl (cB, 900, .inl (fun _ => 0))), (b5 3, oX0 bc7 0 0 0 0 0 0 0 0 0 0), (bc7 10, .inl (cI, 12, .inl (fun _ => 0))), (bc7 11, .inl (cI, 6, .inl (fun _ => 0))), (bc7 12, .inl (cI, 7, .inl (fun _ => 0))), (bc7 13, .inl (cI, 7, .inl (fun _ => 0))), (bc7 14, .inl (cI, 7, .inl (fun _ => 0))), (bc7 15, .inl (cI, 7, .inl (fun _ => 0))), (bc7 16, .inl (cI, 7, .inl (fun _ => 0))), (bc7 17, .inl (cI, 56, .inl (fun _ => 0))), (bc7 18, .inl (cI, 30, .inl (fun _ => 0))), (q8, oX0 b12 0 0 0 0 0 0 0 0 0 0), (b12 10, .inl (cI, 12, .inl (fun _ => 0))), (b12 11, .inl (cI, 6, .inl (fun _ => 0))), (b12 12, .inl (cI, 7, .inl (fun _ => 0))), (b12 13, .inl (cI, 7, .inl (fun _ => 0))), (b12 14, .inl (cI, 7, .inl (fun _ => 0))), (b12 15, .inl (cI, 7, .inl (fun _ => 0))), (b12 16, .inl (cI, 7, .inl (fun _ => 0))), (b12 17, .inl (cI, 56, .inl (fun _ => 0))), (b12 18, .inl (cI, 30, .inl (fun _ => 0))), (q13, .inl (cQ, 3, .inr (.inr (.inr (.inr (fun _ => none)))))), (q14, oX7 z0 0 0 0 0 0 0), (q18, oX6 b22 0 0), (b22 0, .inl (cI, 287, .inl (fun _ => 0))), (b22 1, .inl (cI, 7, .inl (fun _ => 0))), (b22 2, .inl (cI, 7, .inl (fun _ => 0))), (b22 3, .inl (cJ, 7, .inr (.inl (fun _ => 0)))), (b22 4, .inl (cI, 7, .inl (fun _ => 0))), (b22 5, .inl (cI, 6, .inl (fun _ => 0))), (b22 6, .inl (cI, 78, .inl (fun _ => 0))), (b22 7, .inl (cJ, 13, .inr (.inl (fun _ => 0)))), (b22 8, .inl (cJ, 13, .inr (.inl (fun _ => 0)))), (b22 9, .inl (cJ, 13, .inr (.inl (fun _ => 0))))] := hD
  refine va_putF (D := G) (ci := 9) (v := .ref q18) (ty := .object "WidowRoads$Story") (C := RX9) (T := TX9) (N := 11) hx hb hts iG_X9 tyX9 tyX9_ok nmX9 hown hK hP hD hS 0 rfl rfl 4 (by decide) (hts _ w_355) (fun _ h9 => h9) rfl hnm rfl (by decide +kernel) rfl rfl (Nat.le_of_ble_eq_true rfl) dX9_init_53 (fun H locs hP hD hS => ?_)
  have hP : va_P G vwCl [(h0, .inr (9, [.ref q1, .ref q8, .ref q13, .ref q14, .ref q18, .null, .null, .null, .null, .null, .null])), (q1, oX4 b5 0 (-1) 0 0 0), (b5 2, oX8 bt6 0), (bt6 0, .inl (cB, 900, .inl (fun _ => 0))), (b5 3, oX0 bc7 0 0 0 0 0 0 0 0 0 0), (bc7 10, .inl (cI, 12, .inl (fun _ => 0))), (bc7 11, .inl (cI, 6, .inl (fun _ => 0))), (bc7 12, .inl (cI, 7, .inl (fun _ => 0))), (bc7 13, .inl (cI, 7, .inl (fun _ => 0))), (bc7 14, .inl (cI, 7, .inl (fun _ => 0))), (bc7 15, .inl (cI, 7, .inl (fun _ => 0))), (bc7 16, .inl (cI, 7, .inl (fun _ => 0))), (bc7 17, .inl (cI, 56, .inl (fun _ => 0))), (bc7 18, .inl (cI, 30, .inl (fun _ => 0))), (q8, oX0 b12 0 0 0 0 0 0 0 0 0 0), (b12 10, .inl (cI, 12, .inl (fun _ => 0))), (b12 11, .inl (cI, 6, .inl (fun _ => 0))), (b12 12, .inl (cI, 7, .inl (fun _ => 0))), (b12 13, .inl (cI, 7, .inl (fun _ => 0))), (b12 14, .inl (cI, 7, .inl (fun _ => 0))), (b12 15, .inl (cI, 7, .inl (fun _ => 0))), (b12 16, .inl (cI, 7, .inl (fun _ => 0))), (b12 17, .inl (cI, 56, .inl (fun _ => 0))), (b12 18, .inl (cI, 30, .inl (fun _ => 0))), (q13, .inl (cQ, 3, .inr (.inr (.inr (.inr (fun _ => none)))))), (q14, oX7 z0 0 0 0 0 0 0), (q18, oX6 b22 0 0), (b22 0, .inl (cI, 287, .inl (fun _ => 0))), (b22 1, .inl (cI, 7, .inl (fun _ => 0))), (b22 2, .inl (cI, 7, .inl (fun _ => 0))), (b22 3, .inl (cJ, 7, .inr (.inl (fun _ => 0)))), (b22 4, .inl (cI, 7, .inl (fun _ => 0))), (b22 5, .inl (cI, 6, .inl (fun _ => 0))), (b22 6, .inl (cI, 78, .inl (fun _ => 0))), (b22 7, .inl (cJ, 13, .inr (.inl (fun _ => 0)))), (b22 8, .inl (cJ, 13, .inr (.inl (fun _ => 0)))), (b22 9, .inl (cJ, 13, .inr (.inl (fun _ => 0))))] H := hP
  have hD : va_D A [(h0, .inr (9, [.ref q1, .ref q8, .ref q13, .ref q14, .ref q18, .null, .null, .null, .null, .null, .null])), (q1, oX4 b5 0 (-1) 0 0 0), (b5 2, oX8 bt6 0), (bt6 0, .inl (cB, 900, .inl (fun _ => 0))), (b5 3, oX0 bc7 0 0 0 0 0 0 0 0 0 0), (bc7 10, .inl (cI, 12, .inl (fun _ => 0))), (bc7 11, .inl (cI, 6, .inl (fun _ => 0))), (bc7 12, .inl (cI, 7, .inl (fun _ => 0))), (bc7 13, .inl (cI, 7, .inl (fun _ => 0))), (bc7 14, .inl (cI, 7, .inl (fun _ => 0))), (bc7 15, .inl (cI, 7, .inl (fun _ => 0))), (bc7 16, .inl (cI, 7, .inl (fun _ => 0))), (bc7 17, .inl (cI, 56, .inl (fun _ => 0))), (bc7 18, .inl (cI, 30, .inl (fun _ => 0))), (q8, oX0 b12 0 0 0 0 0 0 0 0 0 0), (b12 10, .inl (cI, 12, .inl (fun _ => 0))), (b12 11, .inl (cI, 6, .inl (fun _ => 0))), (b12 12, .inl (cI, 7, .inl (fun _ => 0))), (b12 13, .inl (cI, 7, .inl (fun _ => 0))), (b12 14, .inl (cI, 7, .inl (fun _ => 0))), (b12 15, .inl (cI, 7, .inl (fun _ => 0))), (b12 16, .inl (cI, 7, .inl (fun _ => 0))), (b12 17, .inl (cI, 56, .inl (fun _ => 0))), (b12 18, .inl (cI, 30, .inl (fun _ => 0))), (q13, .inl (cQ, 3, .inr (.inr (.inr (.inr (fun _ => none)))))), (q14, oX7 z0 0 0 0 0 0 0), (q18, oX6 b22 0 0), (b22 0, .inl (cI, 287, .inl (fun _ => 0))), (b22 1, .inl (cI, 7, .inl (fun _ => 0))), (b22 2, .inl (cI, 7, .inl (fun _ => 0))), (b22 3, .inl (cJ, 7, .inr (.inl (fun _ => 0)))), (b22 4, .inl (cI, 7, .inl (fun _ => 0))), (b22 5, .inl (cI, 6, .inl (fun _ => 0))), (b22 6, .inl (cI, 78, .inl (fun _ => 0))), (b22 7, .inl (cJ, 13, .inr (.inl (fun _ => 0)))), (b22 8, .inl (cJ, 13, .inr (.inl (fun _ => 0)))), (b22 9, .inl (cJ, 13, .inr (.inl (fun _ => 0))))] := hD
  refine lv_aload_n hx hb dX9_init_56 rfl (lv_at hl 0 rfl) ?_
  refine va_new (ci := 6) (fs := [.null, .null, .null, .null, .null, .null, .null, .null, .null, .null, .long 0, .int 0]) (C := RX6) (T := TX6) (N := 12) hx hb hts iG_X6 tyX6 tyX6_ok hown (hts _ w_227) (hts _ w_228) (hts _ w_6) hK hP hD hS hA rfl (nf_X6) (Nat.le_of_ble_eq_true rfl) (Nat.le_of_ble_eq_true rfl) dX9_init_57 (fun q23 H hP hD hS => ?_)
  have hP : va_P G vwCl [(h0, .inr (9, [.ref q1, .ref q8, .ref q13, .ref q14, .ref q18, .null, .null, .null, .null, .null, .null])), (q1, oX4 b5 0 (-1) 0 0 0), (b5 2, oX8 bt6 0), (bt6 0, .inl (cB, 900, .inl (fun _ => 0))), (b5 3, oX0 bc7 0 0 0 0 0 0 0 0 0 0), (bc7 10, .inl (cI, 12, .inl (fun _ => 0))), (bc7 11, .inl (cI, 6, .inl (fun _ => 0))), (bc7 12, .inl (cI, 7, .inl (fun _ => 0))), (bc7 13, .inl (cI, 7, .inl (fun _ => 0))), (bc7 14, .inl (cI, 7, .inl (fun _ => 0))), (bc7 15, .inl (cI, 7, .inl (fun _ => 0))), (bc7 16, .inl (cI, 7, .inl (fun _ => 0))), (bc7 17, .inl (cI, 56, .inl (fun _ => 0))), (bc7 18, .inl (cI, 30, .inl (fun _ => 0))), (q8, oX0 b12 0 0 0 0 0 0 0 0 0 0), (b12 10, .inl (cI, 12, .inl (fun _ => 0))), (b12 11, .inl (cI, 6, .inl (fun _ => 0))), (b12 12, .inl (cI, 7, .inl (fun _ => 0))), (b12 13, .inl (cI, 7, .inl (fun _ => 0))), (b12 14, .inl (cI, 7, .inl (fun _ => 0))), (b12 15, .inl (cI, 7, .inl (fun _ => 0))), (b12 16, .inl (cI, 7, .inl (fun _ => 0))), (b12 17, .inl (cI, 56, .inl (fun _ => 0))), (b12 18, .inl (cI, 30, .inl (fun _ => 0))), (q13, .inl (cQ, 3, .inr (.inr (.inr (.inr (fun _ => none)))))), (q14, oX7 z0 0 0 0 0 0 0), (q18, oX6 b22 0 0), (b22 0, .inl (cI, 287, .inl (fun _ => 0))), (b22 1, .inl (cI, 7, .inl (fun _ => 0))), (b22 2, .inl (cI, 7, .inl (fun _ => 0))), (b22 3, .inl (cJ, 7, .inr (.inl (fun _ => 0)))), (b22 4, .inl (cI, 7, .inl (fun _ => 0))), (b22 5, .inl (cI, 6, .inl (fun _ => 0))), (b22 6, .inl (cI, 78, .inl (fun _ => 0))), (b22 7, .inl (cJ, 13, .inr (.inl (fun _ => 0)))), (b22 8, .inl (cJ, 13, .inr (.inl (fun _ => 0)))), (b22 9, .inl (cJ, 13, .inr (.inl (fun _ => 0)))), (q23, .inr (6, [.null, .null, .null, .null, .null, .null, .null, .null, .null, .null, .long 0, .int 0]))] H := hP
  have hD : va_D A [(h0, .inr (9, [.ref q1, .ref q8, .ref q13, .ref q14, .ref q18, .null, .null, .null, .null, .null, .null])), (q1, oX4 b5 0 (-1) 0 0 0), (b5 2, oX8 bt6 0), (bt6 0, .inl (cB, 900, .inl (fun _ => 0))), (b5 3, oX0 bc7 0 0 0 0 0 0 0 0 0 0), (bc7 10, .inl (cI, 12, .inl (fun _ => 0))), (bc7 11, .inl (cI, 6, .inl (fun _ => 0))), (bc7 12, .inl (cI, 7, .inl (fun _ => 0))), (bc7 13, .inl (cI, 7, .inl (fun _ => 0))), (bc7 14, .inl (cI, 7, .inl (fun _ => 0))), (bc7 15, .inl (cI, 7, .inl (fun _ => 0))), (bc7 16, .inl (cI, 7, .inl (fun _ => 0))), (bc7 17, .inl (cI, 56, .inl (fun _ => 0))), (bc7 18, .inl (cI, 30, .inl (fun _ => 0))), (q8, oX0 b12 0 0 0 0 0 0 0 0 0 0), (b12 10, .inl (cI, 12, .inl (fun _ => 0))), (b12 11, .inl (cI, 6, .inl (fun _ => 0))), (b12 12, .inl (cI, 7, .inl (fun _ => 0))), (b12 13, .inl (cI, 7, .inl (fun _ => 0))), (b12 14, .inl (cI, 7, .inl (fun _ => 0))), (b12 15, .inl (cI, 7, .inl (fun _ => 0))), (b12 16, .inl (cI, 7, .inl (fun _ => 0))), (b12 17, .inl (cI, 56, .inl (fun _ => 0))), (b12 18, .inl (cI, 30, .inl (fun _ => 0))), (q13, .inl (cQ, 3, .inr (.inr (.inr (.inr (fun _ => none)))))), (q14, oX7 z0 0 0 0 0 0 0), (q18, oX6 b22 0 0), (b22 0, .inl (cI, 287, .inl (fun _ => 0))), (b22 1, .inl (cI, 7, .inl (fun _ => 0))), (b22 2, .inl (cI, 7, .inl (fun _ => 0))), (b22 3, .inl (cJ, 7, .inr (.inl (fun _ => 0)))), (b22 4, .inl (cI, 7, .inl (fun _ => 0))), (b22 5, .inl (cI, 6, .inl (fun _ => 0))), (b22 6, .inl (cI, 78, .inl (fun _ => 0))), (b22 7, .inl (cJ, 13, .inr (.inl (fun _ => 0)))), (b22 8, .inl (cJ, 13, .inr (.inl (fun _ => 0)))), (b22 9, .inl (cJ, 13, .inr (.inl (fun _ => 0)))), (q23, .inr (6, [.null, .null, .null, .null, .null, .null, .null, .null, .null, .null, .long 0, .int 0]))] := hD
  refine lv_dup hx hb dX9_init_60 rfl ?_
  refine k_v (wc := [(q23, .inr (6, [.null, .null, .null, .null, .null, .null, .null, .null, .null, .null, .long 0, .int 0]))]) (wr := [(h0, .inr (9, [.ref q1, .ref q8, .ref q13, .ref q14, .ref q18, .null, .null, .null, .null, .null, .null])), (q1, oX4 b5 0 (-1) 0 0 0), (b5 2, oX8 bt6 0), (bt6 0, .inl (cB, 900, .inl (fun _ => 0))), (b5 3, oX0 bc7 0 0 0 0 0 0 0 0 0 0), (bc7 10, .inl (cI, 12, .inl (fun _ => 0))), (bc7 11, .inl (cI, 6, .inl (fun _ => 0))), (bc7 12, .inl (cI, 7, .inl (fun _ => 0))), (bc7 13, .inl (cI, 7, .inl (fun _ => 0))), (bc7 14, .inl (cI, 7, .inl (fun _ => 0))), (bc7 15, .inl (cI, 7, .inl (fun _ => 0))), (bc7 16, .inl (cI, 7, .inl (fun _ => 0))), (bc7 17, .inl (cI, 56, .inl (fun _ => 0))), (bc7 18, .inl (cI, 30, .inl (fun _ => 0))), (q8, oX0 b12 0 0 0 0 0 0 0 0 0 0), (b12 10, .inl (cI, 12, .inl (fun _ => 0))), (b12 11, .inl (cI, 6, .inl (fun _ => 0))), (b12 12, .inl (cI, 7, .inl (fun _ => 0))), (b12 13, .inl (cI, 7, .inl (fun _ => 0))), (b12 14, .inl (cI, 7, .inl (fun _ => 0))), (b12 15, .inl (cI, 7, .inl (fun _ => 0))), (b12 16, .inl (cI, 7, .inl (fun _ => 0))), (b12 17, .inl (cI, 56, .inl (fun _ => 0))), (b12 18, .inl (cI, 30, .inl (fun _ => 0))), (q13, .inl (cQ, 3, .inr (.inr (.inr (.inr (fun _ => none)))))), (q14, oX7 z0 0 0 0 0 0 0), (q18, oX6 b22 0 0), (b22 0, .inl (cI, 287, .inl (fun _ => 0))), (b22 1, .inl (cI, 7, .inl (fun _ => 0))), (b22 2, .inl (cI, 7, .inl (fun _ => 0))), (b22 3, .inl (cJ, 7, .inr (.inl (fun _ => 0)))), (b22 4, .inl (cI, 7, .inl (fun _ => 0))), (b22 5, .inl (cI, 6, .inl (fun _ => 0))), (b22 6, .inl (cI, 78, .inl (fun _ => 0))), (b22 7, .inl (cJ, 13, .inr (.inl (fun _ => 0)))), (b22 8, .inl (cJ, 13, .inr (.inl (fun _ => 0)))), (b22 9, .inl (cJ, 13, .inr (.inl (fun _ => 0))))]) hP hD hS hA [37] [0, 1, 2, 3, 4, 5, 6, 7, 8, 9, 10, 11, 12, 13, 14, 15, 16, 17, 18, 19, 20, 21, 22, 23, 24, 25, 26, 27, 28, 29, 30, 31, 32, 33, 34, 35, 36] rfl rfl rfl (by decide) (va_runIN (As := []) (rest := [.ref q23, .ref h0]) ⟨hx, hb, hml, hown, hts⟩ (f_X6_init l G cI cJ cZ cB cQ _ q23) ⟨va_cnB (host := "WidowRoads") 0 hts (gW w_231) rfl rfl rfl (nz_nw hZ nw_229 rfl) (hts _ w_6) hd_X6_init ⟨Nat.le_of_ble_eq_true rfl, Nat.le_of_ble_eq_true rfl⟩, rfl, (hts _ w_230)⟩ (mS hK hZ hP hD [37] rfl rfl [.ref q23]) rfl rfl hl.1 rfl (lv_room (Nat.le_of_ble_eq_true rfl)) dX9_init_61 ⟨Nat.le_of_ble_eq_true rfl, Nat.le_of_ble_eq_true rfl⟩) (fun u25 H locs hw26 hP hD hS => ?_)
  obtain ⟨b27, rfl⟩ : ∃ z, z = u25 := ⟨_, rfl⟩
  have hP : va_P G vwCl [(h0, .inr (9, [.ref q1, .ref q8, .ref q13, .ref q14, .ref q18, .null, .null, .null, .null, .null, .null])), (q1, oX4 b5 0 (-1) 0 0 0), (b5 2, oX8 bt6 0), (bt6 0, .inl (cB, 900, .inl (fun _ => 0))), (b5 3, oX0 bc7 0 0 0 0 0 0 0 0 0 0), (bc7 10, .inl (cI, 12, .inl (fun _ => 0))), (bc7 11, .inl (cI, 6, .inl (fun _ => 0))), (bc7 12, .inl (cI, 7, .inl (fun _ => 0))), (bc7 13, .inl (cI, 7, .inl (fun _ => 0))), (bc7 14, .inl (cI, 7, .inl (fun _ => 0))), (bc7 15, .inl (cI, 7, .inl (fun _ => 0))), (bc7 16, .inl (cI, 7, .inl (fun _ => 0))), (bc7 17, .inl (cI, 56, .inl (fun _ => 0))), (bc7 18, .inl (cI, 30, .inl (fun _ => 0))), (q8, oX0 b12 0 0 0 0 0 0 0 0 0 0), (b12 10, .inl (cI, 12, .inl (fun _ => 0))), (b12 11, .inl (cI, 6, .inl (fun _ => 0))), (b12 12, .inl (cI, 7, .inl (fun _ => 0))), (b12 13, .inl (cI, 7, .inl (fun _ => 0))), (b12 14, .inl (cI, 7, .inl (fun _ => 0))), (b12 15, .inl (cI, 7, .inl (fun _ => 0))), (b12 16, .inl (cI, 7, .inl (fun _ => 0))), (b12 17, .inl (cI, 56, .inl (fun _ => 0))), (b12 18, .inl (cI, 30, .inl (fun _ => 0))), (q13, .inl (cQ, 3, .inr (.inr (.inr (.inr (fun _ => none)))))), (q14, oX7 z0 0 0 0 0 0 0), (q18, oX6 b22 0 0), (b22 0, .inl (cI, 287, .inl (fun _ => 0))), (b22 1, .inl (cI, 7, .inl (fun _ => 0))), (b22 2, .inl (cI, 7, .inl (fun _ => 0))), (b22 3, .inl (cJ, 7, .inr (.inl (fun _ => 0)))), (b22 4, .inl (cI, 7, .inl (fun _ => 0))), (b22 5, .inl (cI, 6, .inl (fun _ => 0))), (b22 6, .inl (cI, 78, .inl (fun _ => 0))), (b22 7, .inl (cJ, 13, .inr (.inl (fun _ => 0)))), (b22 8, .inl (cJ, 13, .inr (.inl (fun _ => 0)))), (b22 9, .inl (cJ, 13, .inr (.inl (fun _ => 0)))), (q23, oX6 b27 0 0), (b27 0, .inl (cI, 287, .inl (fun _ => 0))), (b27 1, .inl (cI, 7, .inl (fun _ => 0))), (b27 2, .inl (cI, 7, .inl (fun _ => 0))), (b27 3, .inl (cJ, 7, .inr (.inl (fun _ => 0)))), (b27 4, .inl (cI, 7, .inl (fun _ => 0))), (b27 5, .inl (cI, 6, .inl (fun _ => 0))), (b27 6, .inl (cI, 78, .inl (fun _ => 0))), (b27 7, .inl (cJ, 13, .inr (.inl (fun _ => 0)))), (b27 8, .inl (cJ, 13, .inr (.inl (fun _ => 0)))), (b27 9, .inl (cJ, 13, .inr (.inl (fun _ => 0))))] H := hP
  have hD : va_D A [(h0, .inr (9, [.ref q1, .ref q8, .ref q13, .ref q14, .ref q18, .null, .null, .null, .null, .null, .null])), (q1, oX4 b5 0 (-1) 0 0 0), (b5 2, oX8 bt6 0), (bt6 0, .inl (cB, 900, .inl (fun _ => 0))), (b5 3, oX0 bc7 0 0 0 0 0 0 0 0 0 0), (bc7 10, .inl (cI, 12, .inl (fun _ => 0))), (bc7 11, .inl (cI, 6, .inl (fun _ => 0))), (bc7 12, .inl (cI, 7, .inl (fun _ => 0))), (bc7 13, .inl (cI, 7, .inl (fun _ => 0))), (bc7 14, .inl (cI, 7, .inl (fun _ => 0))), (bc7 15, .inl (cI, 7, .inl (fun _ => 0))), (bc7 16, .inl (cI, 7, .inl (fun _ => 0))), (bc7 17, .inl (cI, 56, .inl (fun _ => 0))), (bc7 18, .inl (cI, 30, .inl (fun _ => 0))), (q8, oX0 b12 0 0 0 0 0 0 0 0 0 0), (b12 10, .inl (cI, 12, .inl (fun _ => 0))), (b12 11, .inl (cI, 6, .inl (fun _ => 0))), (b12 12, .inl (cI, 7, .inl (fun _ => 0))), (b12 13, .inl (cI, 7, .inl (fun _ => 0))), (b12 14, .inl (cI, 7, .inl (fun _ => 0))), (b12 15, .inl (cI, 7, .inl (fun _ => 0))), (b12 16, .inl (cI, 7, .inl (fun _ => 0))), (b12 17, .inl (cI, 56, .inl (fun _ => 0))), (b12 18, .inl (cI, 30, .inl (fun _ => 0))), (q13, .inl (cQ, 3, .inr (.inr (.inr (.inr (fun _ => none)))))), (q14, oX7 z0 0 0 0 0 0 0), (q18, oX6 b22 0 0), (b22 0, .inl (cI, 287, .inl (fun _ => 0))), (b22 1, .inl (cI, 7, .inl (fun _ => 0))), (b22 2, .inl (cI, 7, .inl (fun _ => 0))), (b22 3, .inl (cJ, 7, .inr (.inl (fun _ => 0)))), (b22 4, .inl (cI, 7, .inl (fun _ => 0))), (b22 5, .inl (cI, 6, .inl (fun _ => 0))), (b22 6, .inl (cI, 78, .inl (fun _ => 0))), (b22 7, .inl (cJ, 13, .inr (.inl (fun _ => 0)))), (b22 8, .inl (cJ, 13, .inr (.inl (fun _ => 0)))), (b22 9, .inl (cJ, 13, .inr (.inl (fun _ => 0)))), (q23, oX6 b27 0 0), (b27 0, .inl (cI, 287, .inl (fun _ => 0))), (b27 1, .inl (cI, 7, .inl (fun _ => 0))), (b27 2, .inl (cI, 7, .inl (fun _ => 0))), (b27 3, .inl (cJ, 7, .inr (.inl (fun _ => 0)))), (b27 4, .inl (cI, 7, .inl (fun _ => 0))), (b27 5, .inl (cI, 6, .inl (fun _ => 0))), (b27 6, .inl (cI, 78, .inl (fun _ => 0))), (b27 7, .inl (cJ, 13, .inr (.inl (fun _ => 0)))), (b27 8, .inl (cJ, 13, .inr (.inl (fun _ => 0)))), (b27 9, .inl (cJ, 13, .inr (.inl (fun _ => 0))))] := hD
  refine va_putF (D := G) (ci := 9) (v := .ref q23) (ty := .object "WidowRoads$Story") (C := RX9) (T := TX9) (N := 11) hx hb hts iG_X9 tyX9 tyX9_ok nmX9 hown hK hP hD hS 0 rfl rfl 5 (by decide) (hts _ w_356) (fun _ h9 => h9) rfl hnm rfl (by decide +kernel) rfl rfl (Nat.le_of_ble_eq_true rfl) dX9_init_64 (fun H locs hP hD hS => ?_)
  have hP : va_P G vwCl [(h0, .inr (9, [.ref q1, .ref q8, .ref q13, .ref q14, .ref q18, .ref q23, .null, .null, .null, .null, .null])), (q1, oX4 b5 0 (-1) 0 0 0), (b5 2, oX8 bt6 0), (bt6 0, .inl (cB, 900, .inl (fun _ => 0))), (b5 3, oX0 bc7 0 0 0 0 0 0 0 0 0 0), (bc7 10, .inl (cI, 12, .inl (fun _ => 0))), (bc7 11, .inl (cI, 6, .inl (fun _ => 0))), (bc7 12, .inl (cI, 7, .inl (fun _ => 0))), (bc7 13, .inl (cI, 7, .inl (fun _ => 0))), (bc7 14, .inl (cI, 7, .inl (fun _ => 0))), (bc7 15, .inl (cI, 7, .inl (fun _ => 0))), (bc7 16, .inl (cI, 7, .inl (fun _ => 0))), (bc7 17, .inl (cI, 56, .inl (fun _ => 0))), (bc7 18, .inl (cI, 30, .inl (fun _ => 0))), (q8, oX0 b12 0 0 0 0 0 0 0 0 0 0), (b12 10, .inl (cI, 12, .inl (fun _ => 0))), (b12 11, .inl (cI, 6, .inl (fun _ => 0))), (b12 12, .inl (cI, 7, .inl (fun _ => 0))), (b12 13, .inl (cI, 7, .inl (fun _ => 0))), (b12 14, .inl (cI, 7, .inl (fun _ => 0))), (b12 15, .inl (cI, 7, .inl (fun _ => 0))), (b12 16, .inl (cI, 7, .inl (fun _ => 0))), (b12 17, .inl (cI, 56, .inl (fun _ => 0))), (b12 18, .inl (cI, 30, .inl (fun _ => 0))), (q13, .inl (cQ, 3, .inr (.inr (.inr (.inr (fun _ => none)))))), (q14, oX7 z0 0 0 0 0 0 0), (q18, oX6 b22 0 0), (b22 0, .inl (cI, 287, .inl (fun _ => 0))), (b22 1, .inl (cI, 7, .inl (fun _ => 0))), (b22 2, .inl (cI, 7, .inl (fun _ => 0))), (b22 3, .inl (cJ, 7, .inr (.inl (fun _ => 0)))), (b22 4, .inl (cI, 7, .inl (fun _ => 0))), (b22 5, .inl (cI, 6, .inl (fun _ => 0))), (b22 6, .inl (cI, 78, .inl (fun _ => 0))), (b22 7, .inl (cJ, 13, .inr (.inl (fun _ => 0)))), (b22 8, .inl (cJ, 13, .inr (.inl (fun _ => 0)))), (b22 9, .inl (cJ, 13, .inr (.inl (fun _ => 0)))), (q23, oX6 b27 0 0), (b27 0, .inl (cI, 287, .inl (fun _ => 0))), (b27 1, .inl (cI, 7, .inl (fun _ => 0))), (b27 2, .inl (cI, 7, .inl (fun _ => 0))), (b27 3, .inl (cJ, 7, .inr (.inl (fun _ => 0)))), (b27 4, .inl (cI, 7, .inl (fun _ => 0))), (b27 5, .inl (cI, 6, .inl (fun _ => 0))), (b27 6, .inl (cI, 78, .inl (fun _ => 0))), (b27 7, .inl (cJ, 13, .inr (.inl (fun _ => 0)))), (b27 8, .inl (cJ, 13, .inr (.inl (fun _ => 0)))), (b27 9, .inl (cJ, 13, .inr (.inl (fun _ => 0))))] H := hP
  have hD : va_D A [(h0, .inr (9, [.ref q1, .ref q8, .ref q13, .ref q14, .ref q18, .ref q23, .null, .null, .null, .null, .null])), (q1, oX4 b5 0 (-1) 0 0 0), (b5 2, oX8 bt6 0), (bt6 0, .inl (cB, 900, .inl (fun _ => 0))), (b5 3, oX0 bc7 0 0 0 0 0 0 0 0 0 0), (bc7 10, .inl (cI, 12, .inl (fun _ => 0))), (bc7 11, .inl (cI, 6, .inl (fun _ => 0))), (bc7 12, .inl (cI, 7, .inl (fun _ => 0))), (bc7 13, .inl (cI, 7, .inl (fun _ => 0))), (bc7 14, .inl (cI, 7, .inl (fun _ => 0))), (bc7 15, .inl (cI, 7, .inl (fun _ => 0))), (bc7 16, .inl (cI, 7, .inl (fun _ => 0))), (bc7 17, .inl (cI, 56, .inl (fun _ => 0))), (bc7 18, .inl (cI, 30, .inl (fun _ => 0))), (q8, oX0 b12 0 0 0 0 0 0 0 0 0 0), (b12 10, .inl (cI, 12, .inl (fun _ => 0))), (b12 11, .inl (cI, 6, .inl (fun _ => 0))), (b12 12, .inl (cI, 7, .inl (fun _ => 0))), (b12 13, .inl (cI, 7, .inl (fun _ => 0))), (b12 14, .inl (cI, 7, .inl (fun _ => 0))), (b12 15, .inl (cI, 7, .inl (fun _ => 0))), (b12 16, .inl (cI, 7, .inl (fun _ => 0))), (b12 17, .inl (cI, 56, .inl (fun _ => 0))), (b12 18, .inl (cI, 30, .inl (fun _ => 0))), (q13, .inl (cQ, 3, .inr (.inr (.inr (.inr (fun _ => none)))))), (q14, oX7 z0 0 0 0 0 0 0), (q18, oX6 b22 0 0), (b22 0, .inl (cI, 287, .inl (fun _ => 0))), (b22 1, .inl (cI, 7, .inl (fun _ => 0))), (b22 2, .inl (cI, 7, .inl (fun _ => 0))), (b22 3, .inl (cJ, 7, .inr (.inl (fun _ => 0)))), (b22 4, .inl (cI, 7, .inl (fun _ => 0))), (b22 5, .inl (cI, 6, .inl (fun _ => 0))), (b22 6, .inl (cI, 78, .inl (fun _ => 0))), (b22 7, .inl (cJ, 13, .inr (.inl (fun _ => 0)))), (b22 8, .inl (cJ, 13, .inr (.inl (fun _ => 0)))), (b22 9, .inl (cJ, 13, .inr (.inl (fun _ => 0)))), (q23, oX6 b27 0 0), (b27 0, .inl (cI, 287, .inl (fun _ => 0))), (b27 1, .inl (cI, 7, .inl (fun _ => 0))), (b27 2, .inl (cI, 7, .inl (fun _ => 0))), (b27 3, .inl (cJ, 7, .inr (.inl (fun _ => 0)))), (b27 4, .inl (cI, 7, .inl (fun _ => 0))), (b27 5, .inl (cI, 6, .inl (fun _ => 0))), (b27 6, .inl (cI, 78, .inl (fun _ => 0))), (b27 7, .inl (cJ, 13, .inr (.inl (fun _ => 0)))), (b27 8, .inl (cJ, 13, .inr (.inl (fun _ => 0)))), (b27 9, .inl (cJ, 13, .inr (.inl (fun _ => 0))))] := hD
  refine lv_aload_n hx hb dX9_init_67 rfl (lv_at hl 0 rfl) ?_
  refine va_new (ci := 1) (fs := [.null, .null, .int 0]) (C := RX1) (T := TX1) (N := 3) hx hb hts iG_X1 tyX1 tyX1_ok hown (hts _ w_282) (hts _ w_283) (hts _ w_7) hK hP hD hS hA rfl (nf_X1) (Nat.le_of_ble_eq_true rfl) (Nat.le_of_ble_eq_true rfl) dX9_init_68 (fun q28 H hP hD hS => ?_)
  have hP : va_P G vwCl [(h0, .inr (9, [.ref q1, .ref q8, .ref q13, .ref q14, .ref q18, .ref q23, .null, .null, .null, .null, .null])), (q1, oX4 b5 0 (-1) 0 0 0), (b5 2, oX8 bt6 0), (bt6 0, .inl (cB, 900, .inl (fun _ => 0))), (b5 3, oX0 bc7 0 0 0 0 0 0 0 0 0 0), (bc7 10, .inl (cI, 12, .inl (fun _ => 0))), (bc7 11, .inl (cI, 6, .inl (fun _ => 0))), (bc7 12, .inl (cI, 7, .inl (fun _ => 0))), (bc7 13, .inl (cI, 7, .inl (fun _ => 0))), (bc7 14, .inl (cI, 7, .inl (fun _ => 0))), (bc7 15, .inl (cI, 7, .inl (fun _ => 0))), (bc7 16, .inl (cI, 7, .inl (fun _ => 0))), (bc7 17, .inl (cI, 56, .inl (fun _ => 0))), (bc7 18, .inl (cI, 30, .inl (fun _ => 0))), (q8, oX0 b12 0 0 0 0 0 0 0 0 0 0), (b12 10, .inl (cI, 12, .inl (fun _ => 0))), (b12 11, .inl (cI, 6, .inl (fun _ => 0))), (b12 12, .inl (cI, 7, .inl (fun _ => 0))), (b12 13, .inl (cI, 7, .inl (fun _ => 0))), (b12 14, .inl (cI, 7, .inl (fun _ => 0))), (b12 15, .inl (cI, 7, .inl (fun _ => 0))), (b12 16, .inl (cI, 7, .inl (fun _ => 0))), (b12 17, .inl (cI, 56, .inl (fun _ => 0))), (b12 18, .inl (cI, 30, .inl (fun _ => 0))), (q13, .inl (cQ, 3, .inr (.inr (.inr (.inr (fun _ => none)))))), (q14, oX7 z0 0 0 0 0 0 0), (q18, oX6 b22 0 0), (b22 0, .inl (cI, 287, .inl (fun _ => 0))), (b22 1, .inl (cI, 7, .inl (fun _ => 0))), (b22 2, .inl (cI, 7, .inl (fun _ => 0))), (b22 3, .inl (cJ, 7, .inr (.inl (fun _ => 0)))), (b22 4, .inl (cI, 7, .inl (fun _ => 0))), (b22 5, .inl (cI, 6, .inl (fun _ => 0))), (b22 6, .inl (cI, 78, .inl (fun _ => 0))), (b22 7, .inl (cJ, 13, .inr (.inl (fun _ => 0)))), (b22 8, .inl (cJ, 13, .inr (.inl (fun _ => 0)))), (b22 9, .inl (cJ, 13, .inr (.inl (fun _ => 0)))), (q23, oX6 b27 0 0), (b27 0, .inl (cI, 287, .inl (fun _ => 0))), (b27 1, .inl (cI, 7, .inl (fun _ => 0))), (b27 2, .inl (cI, 7, .inl (fun _ => 0))), (b27 3, .inl (cJ, 7, .inr (.inl (fun _ => 0)))), (b27 4, .inl (cI, 7, .inl (fun _ => 0))), (b27 5, .inl (cI, 6, .inl (fun _ => 0))), (b27 6, .inl (cI, 78, .inl (fun _ => 0))), (b27 7, .inl (cJ, 13, .inr (.inl (fun _ => 0)))), (b27 8, .inl (cJ, 13, .inr (.inl (fun _ => 0)))), (b27 9, .inl (cJ, 13, .inr (.inl (fun _ => 0)))), (q28, .inr (1, [.null, .null, .int 0]))] H := hP
  have hD : va_D A [(h0, .inr (9, [.ref q1, .ref q8, .ref q13, .ref q14, .ref q18, .ref q23, .null, .null, .null, .null, .null])), (q1, oX4 b5 0 (-1) 0 0 0), (b5 2, oX8 bt6 0), (bt6 0, .inl (cB, 900, .inl (fun _ => 0))), (b5 3, oX0 bc7 0 0 0 0 0 0 0 0 0 0), (bc7 10, .inl (cI, 12, .inl (fun _ => 0))), (bc7 11, .inl (cI, 6, .inl (fun _ => 0))), (bc7 12, .inl (cI, 7, .inl (fun _ => 0))), (bc7 13, .inl (cI, 7, .inl (fun _ => 0))), (bc7 14, .inl (cI, 7, .inl (fun _ => 0))), (bc7 15, .inl (cI, 7, .inl (fun _ => 0))), (bc7 16, .inl (cI, 7, .inl (fun _ => 0))), (bc7 17, .inl (cI, 56, .inl (fun _ => 0))), (bc7 18, .inl (cI, 30, .inl (fun _ => 0))), (q8, oX0 b12 0 0 0 0 0 0 0 0 0 0), (b12 10, .inl (cI, 12, .inl (fun _ => 0))), (b12 11, .inl (cI, 6, .inl (fun _ => 0))), (b12 12, .inl (cI, 7, .inl (fun _ => 0))), (b12 13, .inl (cI, 7, .inl (fun _ => 0))), (b12 14, .inl (cI, 7, .inl (fun _ => 0))), (b12 15, .inl (cI, 7, .inl (fun _ => 0))), (b12 16, .inl (cI, 7, .inl (fun _ => 0))), (b12 17, .inl (cI, 56, .inl (fun _ => 0))), (b12 18, .inl (cI, 30, .inl (fun _ => 0))), (q13, .inl (cQ, 3, .inr (.inr (.inr (.inr (fun _ => none)))))), (q14, oX7 z0 0 0 0 0 0 0), (q18, oX6 b22 0 0), (b22 0, .inl (cI, 287, .inl (fun _ => 0))), (b22 1, .inl (cI, 7, .inl (fun _ => 0))), (b22 2, .inl (cI, 7, .inl (fun _ => 0))), (b22 3, .inl (cJ, 7, .inr (.inl (fun _ => 0)))), (b22 4, .inl (cI, 7, .inl (fun _ => 0))), (b22 5, .inl (cI, 6, .inl (fun _ => 0))), (b22 6, .inl (cI, 78, .inl (fun _ => 0))), (b22 7, .inl (cJ, 13, .inr (.inl (fun _ => 0)))), (b22 8, .inl (cJ, 13, .inr (.inl (fun _ => 0)))), (b22 9, .inl (cJ, 13, .inr (.inl (fun _ => 0)))), (q23, oX6 b27 0 0), (b27 0, .inl (cI, 287, .inl (fun _ => 0))), (b27 1, .inl (cI, 7, .inl (fun _ => 0))), (b27 2, .inl (cI, 7, .inl (fun _ => 0))), (b27 3, .inl (cJ, 7, .inr (.inl (fun _ => 0)))), (b27 4, .inl (cI, 7, .inl (fun _ => 0))), (b27 5, .inl (cI, 6, .inl (fun _ => 0))), (b27 6, .inl (cI, 78, .inl (fun _ => 0))), (b27 7, .inl (cJ, 13, .inr (.inl (fun _ => 0)))), (b27 8, .inl (cJ, 13, .inr (.inl (fun _ => 0)))), (b27 9, .inl (cJ, 13, .inr (.inl (fun _ => 0)))), (q28, .inr (1, [.null, .null, .int 0]))] := hD
  refine lv_dup hx hb dX9_init_71 rfl ?_
  refine k_v (wc := [(q28, .inr (1, [.null, .null, .int 0]))]) (wr := [(h0, .inr (9, [.ref q1, .ref q8, .ref q13, .ref q14, .ref q18, .ref q23, .null, .null, .null, .null, .null])), (q1, oX4 b5 0 (-1) 0 0 0), (b5 2, oX8 bt6 0), (bt6 0, .inl (cB, 900, .inl (fun _ => 0))), (b5 3, oX0 bc7 0 0 0 0 0 0 0 0 0 0), (bc7 10, .inl (cI, 12, .inl (fun _ => 0))), (bc7 11, .inl (cI, 6, .inl (fun _ => 0))), (bc7 12, .inl (cI, 7, .inl (fun _ => 0))), (bc7 13, .inl (cI, 7, .inl (fun _ => 0))), (bc7 14, .inl (cI, 7, .inl (fun _ => 0))), (bc7 15, .inl (cI, 7, .inl (fun _ => 0))), (bc7 16, .inl (cI, 7, .inl (fun _ => 0))), (bc7 17, .inl (cI, 56, .inl (fun _ => 0))), (bc7 18, .inl (cI, 30, .inl (fun _ => 0))), (q8, oX0 b12 0 0 0 0 0 0 0 0 0 0), (b12 10, .inl (cI, 12, .inl (fun _ => 0))), (b12 11, .inl (cI, 6, .inl (fun _ => 0))), (b12 12, .inl (cI, 7, .inl (fun _ => 0))), (b12 13, .inl (cI, 7, .inl (fun _ => 0))), (b12 14, .inl (cI, 7, .inl (fun _ => 0))), (b12 15, .inl (cI, 7, .inl (fun _ => 0))), (b12 16, .inl (cI, 7, .inl (fun _ => 0))), (b12 17, .inl (cI, 56, .inl (fun _ => 0))), (b12 18, .inl (cI, 30, .inl (fun _ => 0))), (q13, .inl (cQ, 3, .inr (.inr (.inr (.inr (fun _ => none)))))), (q14, oX7 z0 0 0 0 0 0 0), (q18, oX6 b22 0 0), (b22 0, .inl (cI, 287, .inl (fun _ => 0))), (b22 1, .inl (cI, 7, .inl (fun _ => 0))), (b22 2, .inl (cI, 7, .inl (fun _ => 0))), (b22 3, .inl (cJ, 7, .inr (.inl (fun _ => 0)))), (b22 4, .inl (cI, 7, .inl (fun _ => 0))), (b22 5, .inl (cI, 6, .inl (fun _ => 0))), (b22 6, .inl (cI, 78, .inl (fun _ => 0))), (b22 7, .inl (cJ, 13, .inr (.inl (fun _ => 0)))), (b22 8, .inl (cJ, 13, .inr (.inl (fun _ => 0)))), (b22 9, .inl (cJ, 13, .inr (.inl (fun _ => 0)))), (q23, oX6 b27 0 0), (b27 0, .inl (cI, 287, .inl (fun _ => 0))), (b27 1, .inl (cI, 7, .inl (fun _ => 0))), (b27 2, .inl (cI, 7, .inl (fun _ => 0))), (b27 3, .inl (cJ, 7, .inr (.inl (fun _ => 0)))), (b27 4, .inl (cI, 7, .inl (fun _ => 0))), (b27 5, .inl (cI, 6, .inl (fun _ => 0))), (b27 6, .inl (cI, 78, .inl (fun _ => 0))), (b27 7, .inl (cJ, 13, .inr (.inl (fun _ => 0)))), (b27 8, .inl (cJ, 13, .inr (.inl (fun _ => 0)))), (b27 9, .inl (cJ, 13, .inr (.inl (fun _ => 0))))]) hP hD hS hA [48] [0, 1, 2, 3, 4, 5, 6, 7, 8, 9, 10, 11, 12, 13, 14, 15, 16, 17, 18, 19, 20, 21, 22, 23, 24, 25, 26, 27, 28, 29, 30, 31, 32, 33, 34, 35, 36, 37, 38, 39, 40, 41, 42, 43, 44, 45, 46, 47] rfl rfl rfl (by decide) (va_runIN (As := []) (rest := [.ref q28, .ref h0]) ⟨hx, hb, hml, hown, hts⟩ (f_X1_init l G cI cJ cZ cB cQ _ q28) ⟨va_cnB (host := "WidowRoads") 0 hts (gW w_286) rfl rfl rfl (nz_nw hZ nw_284 rfl) (hts _ w_7) hd_X1_init ⟨Nat.le_of_ble_eq_true rfl, Nat.le_of_ble_eq_true rfl⟩, rfl, (hts _ w_285)⟩ (mS hK hZ hP hD [48] rfl rfl [.ref q28]) rfl rfl hl.1 rfl (lv_room (Nat.le_of_ble_eq_true rfl)) dX9_init_72 ⟨Nat.le_of_ble_eq_true rfl, Nat.le_of_ble_eq_true rfl⟩) (fun u30 H locs hw31 hP hD hS => ?_)
  obtain ⟨b32, rfl⟩ : ∃ z, z = u30 := ⟨_, rfl⟩
  have hP : va_P G vwCl [(h0, .inr (9, [.ref q1, .ref q8, .ref q13, .ref q14, .ref q18, .ref q23, .null, .null, .null, .null, .null])), (q1, oX4 b5 0 (-1) 0 0 0), (b5 2, oX8 bt6 0), (bt6 0, .inl (cB, 900, .inl (fun _ => 0))), (b5 3, oX0 bc7 0 0 0 0 0 0 0 0 0 0), (bc7 10, .inl (cI, 12, .inl (fun _ => 0))), (bc7 11, .inl (cI, 6, .inl (fun _ => 0))), (bc7 12, .inl (cI, 7, .inl (fun _ => 0))), (bc7 13, .inl (cI, 7, .inl (fun _ => 0))), (bc7 14, .inl (cI, 7, .inl (fun _ => 0))), (bc7 15, .inl (cI, 7, .inl (fun _ => 0))), (bc7 16, .inl (cI, 7, .inl (fun _ => 0))), (bc7 17, .inl (cI, 56, .inl (fun _ => 0))), (bc7 18, .inl (cI, 30, .inl (fun _ => 0))), (q8, oX0 b12 0 0 0 0 0 0 0 0 0 0), (b12 10, .inl (cI, 12, .inl (fun _ => 0))), (b12 11, .inl (cI, 6, .inl (fun _ => 0))), (b12 12, .inl (cI, 7, .inl (fun _ => 0))), (b12 13, .inl (cI, 7, .inl (fun _ => 0))), (b12 14, .inl (cI, 7, .inl (fun _ => 0))), (b12 15, .inl (cI, 7, .inl (fun _ => 0))), (b12 16, .inl (cI, 7, .inl (fun _ => 0))), (b12 17, .inl (cI, 56, .inl (fun _ => 0))), (b12 18, .inl (cI, 30, .inl (fun _ => 0))), (q13, .inl (cQ, 3, .inr (.inr (.inr (.inr (fun _ => none)))))), (q14, oX7 z0 0 0 0 0 0 0), (q18, oX6 b22 0 0), (b22 0, .inl (cI, 287, .inl (fun _ => 0))), (b22 1, .inl (cI, 7, .inl (fun _ => 0))), (b22 2, .inl (cI, 7, .inl (fun _ => 0))), (b22 3, .inl (cJ, 7, .inr (.inl (fun _ => 0)))), (b22 4, .inl (cI, 7, .inl (fun _ => 0))), (b22 5, .inl (cI, 6, .inl (fun _ => 0))), (b22 6, .inl (cI, 78, .inl (fun _ => 0))), (b22 7, .inl (cJ, 13, .inr (.inl (fun _ => 0)))), (b22 8, .inl (cJ, 13, .inr (.inl (fun _ => 0)))), (b22 9, .inl (cJ, 13, .inr (.inl (fun _ => 0)))), (q23, oX6 b27 0 0), (b27 0, .inl (cI, 287, .inl (fun _ => 0))), (b27 1, .inl (cI, 7, .inl (fun _ => 0))), (b27 2, .inl (cI, 7, .inl (fun _ => 0))), (b27 3, .inl (cJ, 7, .inr (.inl (fun _ => 0)))), (b27 4, .inl (cI, 7, .inl (fun _ => 0))), (b27 5, .inl (cI, 6, .inl (fun _ => 0))), (b27 6, .inl (cI, 78, .inl (fun _ => 0))), (b27 7, .inl (cJ, 13, .inr (.inl (fun _ => 0)))), (b27 8, .inl (cJ, 13, .inr (.inl (fun _ => 0)))), (b27 9, .inl (cJ, 13, .inr (.inl (fun _ => 0)))), (q28, oX1 b32 0), (b32 0, .inl (cJ, 128, .inr (.inl (fun _ => 0)))), (b32 1, .inl (cI, 128, .inl (fun _ => 0)))] H := hP
  have hD : va_D A [(h0, .inr (9, [.ref q1, .ref q8, .ref q13, .ref q14, .ref q18, .ref q23, .null, .null, .null, .null, .null])), (q1, oX4 b5 0 (-1) 0 0 0), (b5 2, oX8 bt6 0), (bt6 0, .inl (cB, 900, .inl (fun _ => 0))), (b5 3, oX0 bc7 0 0 0 0 0 0 0 0 0 0), (bc7 10, .inl (cI, 12, .inl (fun _ => 0))), (bc7 11, .inl (cI, 6, .inl (fun _ => 0))), (bc7 12, .inl (cI, 7, .inl (fun _ => 0))), (bc7 13, .inl (cI, 7, .inl (fun _ => 0))), (bc7 14, .inl (cI, 7, .inl (fun _ => 0))), (bc7 15, .inl (cI, 7, .inl (fun _ => 0))), (bc7 16, .inl (cI, 7, .inl (fun _ => 0))), (bc7 17, .inl (cI, 56, .inl (fun _ => 0))), (bc7 18, .inl (cI, 30, .inl (fun _ => 0))), (q8, oX0 b12 0 0 0 0 0 0 0 0 0 0), (b12 10, .inl (cI, 12, .inl (fun _ => 0))), (b12 11, .inl (cI, 6, .inl (fun _ => 0))), (b12 12, .inl (cI, 7, .inl (fun _ => 0))), (b12 13, .inl (cI, 7, .inl (fun _ => 0))), (b12 14, .inl (cI, 7, .inl (fun _ => 0))), (b12 15, .inl (cI, 7, .inl (fun _ => 0))), (b12 16, .inl (cI, 7, .inl (fun _ => 0))), (b12 17, .inl (cI, 56, .inl (fun _ => 0))), (b12 18, .inl (cI, 30, .inl (fun _ => 0))), (q13, .inl (cQ, 3, .inr (.inr (.inr (.inr (fun _ => none)))))), (q14, oX7 z0 0 0 0 0 0 0), (q18, oX6 b22 0 0), (b22 0, .inl (cI, 287, .inl (fun _ => 0))), (b22 1, .inl (cI, 7, .inl (fun _ => 0))), (b22 2, .inl (cI, 7, .inl (fun _ => 0))), (b22 3, .inl (cJ, 7, .inr (.inl (fun _ => 0)))), (b22 4, .inl (cI, 7, .inl (fun _ => 0))), (b22 5, .inl (cI, 6, .inl (fun _ => 0))), (b22 6, .inl (cI, 78, .inl (fun _ => 0))), (b22 7, .inl (cJ, 13, .inr (.inl (fun _ => 0)))), (b22 8, .inl (cJ, 13, .inr (.inl (fun _ => 0)))), (b22 9, .inl (cJ, 13, .inr (.inl (fun _ => 0)))), (q23, oX6 b27 0 0), (b27 0, .inl (cI, 287, .inl (fun _ => 0))), (b27 1, .inl (cI, 7, .inl (fun _ => 0))), (b27 2, .inl (cI, 7, .inl (fun _ => 0))), (b27 3, .inl (cJ, 7, .inr (.inl (fun _ => 0)))), (b27 4, .inl (cI, 7, .inl (fun _ => 0))), (b27 5, .inl (cI, 6, .inl (fun _ => 0))), (b27 6, .inl (cI, 78, .inl (fun _ => 0))), (b27 7, .inl (cJ, 13, .inr (.inl (fun _ => 0)))), (b27 8, .inl (cJ, 13, .inr (.inl (fun _ => 0)))), (b27 9, .inl (cJ, 13, .inr (.inl (fun _ => 0)))), (q28, oX1 b32 0), (b32 0, .inl (cJ, 128, .inr (.inl (fun _ => 0)))), (b32 1, .inl (cI, 128, .inl (fun _ => 0)))] := hD
  refine va_putF (D := G) (ci := 9) (v := .ref q28) (ty := .object "WidowRoads$Evenings") (C := RX9) (T := TX9) (N := 11) hx hb hts iG_X9 tyX9 tyX9_ok nmX9 hown hK hP hD hS 0 rfl rfl 6 (by decide) (hts _ w_357) (fun _ h9 => h9) rfl hnm rfl (by decide +kernel) rfl rfl (Nat.le_of_ble_eq_true rfl) dX9_init_75 (fun H locs hP hD hS => ?_)
  have hP : va_P G vwCl [(h0, .inr (9, [.ref q1, .ref q8, .ref q13, .ref q14, .ref q18, .ref q23, .ref q28, .null, .null, .null, .null])), (q1, oX4 b5 0 (-1) 0 0 0), (b5 2, oX8 bt6 0), (bt6 0, .inl (cB, 900, .inl (fun _ => 0))), (b5 3, oX0 bc7 0 0 0 0 0 0 0 0 0 0), (bc7 10, .inl (cI, 12, .inl (fun _ => 0))), (bc7 11, .inl (cI, 6, .inl (fun _ => 0))), (bc7 12, .inl (cI, 7, .inl (fun _ => 0))), (bc7 13, .inl (cI, 7, .inl (fun _ => 0))), (bc7 14, .inl (cI, 7, .inl (fun _ => 0))), (bc7 15, .inl (cI, 7, .inl (fun _ => 0))), (bc7 16, .inl (cI, 7, .inl (fun _ => 0))), (bc7 17, .inl (cI, 56, .inl (fun _ => 0))), (bc7 18, .inl (cI, 30, .inl (fun _ => 0))), (q8, oX0 b12 0 0 0 0 0 0 0 0 0 0), (b12 10, .inl (cI, 12, .inl (fun _ => 0))), (b12 11, .inl (cI, 6, .inl (fun _ => 0))), (b12 12, .inl (cI, 7, .inl (fun _ => 0))), (b12 13, .inl (cI, 7, .inl (fun _ => 0))), (b12 14, .inl (cI, 7, .inl (fun _ => 0))), (b12 15, .inl (cI, 7, .inl (fun _ => 0))), (b12 16, .inl (cI, 7, .inl (fun _ => 0))), (b12 17, .inl (cI, 56, .inl (fun _ => 0))), (b12 18, .inl (cI, 30, .inl (fun _ => 0))), (q13, .inl (cQ, 3, .inr (.inr (.inr (.inr (fun _ => none)))))), (q14, oX7 z0 0 0 0 0 0 0), (q18, oX6 b22 0 0), (b22 0, .inl (cI, 287, .inl (fun _ => 0))), (b22 1, .inl (cI, 7, .inl (fun _ => 0))), (b22 2, .inl (cI, 7, .inl (fun _ => 0))), (b22 3, .inl (cJ, 7, .inr (.inl (fun _ => 0)))), (b22 4, .inl (cI, 7, .inl (fun _ => 0))), (b22 5, .inl (cI, 6, .inl (fun _ => 0))), (b22 6, .inl (cI, 78, .inl (fun _ => 0))), (b22 7, .inl (cJ, 13, .inr (.inl (fun _ => 0)))), (b22 8, .inl (cJ, 13, .inr (.inl (fun _ => 0)))), (b22 9, .inl (cJ, 13, .inr (.inl (fun _ => 0)))), (q23, oX6 b27 0 0), (b27 0, .inl (cI, 287, .inl (fun _ => 0))), (b27 1, .inl (cI, 7, .inl (fun _ => 0))), (b27 2, .inl (cI, 7, .inl (fun _ => 0))), (b27 3, .inl (cJ, 7, .inr (.inl (fun _ => 0)))), (b27 4, .inl (cI, 7, .inl (fun _ => 0))), (b27 5, .inl (cI, 6, .inl (fun _ => 0))), (b27 6, .inl (cI, 78, .inl (fun _ => 0))), (b27 7, .inl (cJ, 13, .inr (.inl (fun _ => 0)))), (b27 8, .inl (cJ, 13, .inr (.inl (fun _ => 0)))), (b27 9, .inl (cJ, 13, .inr (.inl (fun _ => 0)))), (q28, oX1 b32 0), (b32 0, .inl (cJ, 128, .inr (.inl (fun _ => 0)))), (b32 1, .inl (cI, 128, .inl (fun _ => 0)))] H := hP
  have hD : va_D A [(h0, .inr (9, [.ref q1, .ref q8, .ref q13, .ref q14, .ref q18, .ref q23, .ref q28, .null, .null, .null, .null])), (q1, oX4 b5 0 (-1) 0 0 0), (b5 2, oX8 bt6 0), (bt6 0, .inl (cB, 900, .inl (fun _ => 0))), (b5 3, oX0 bc7 0 0 0 0 0 0 0 0 0 0), (bc7 10, .inl (cI, 12, .inl (fun _ => 0))), (bc7 11, .inl (cI, 6, .inl (fun _ => 0))), (bc7 12, .inl (cI, 7, .inl (fun _ => 0))), (bc7 13, .inl (cI, 7, .inl (fun _ => 0))), (bc7 14, .inl (cI, 7, .inl (fun _ => 0))), (bc7 15, .inl (cI, 7, .inl (fun _ => 0))), (bc7 16, .inl (cI, 7, .inl (fun _ => 0))), (bc7 17, .inl (cI, 56, .inl (fun _ => 0))), (bc7 18, .inl (cI, 30, .inl (fun _ => 0))), (q8, oX0 b12 0 0 0 0 0 0 0 0 0 0), (b12 10, .inl (cI, 12, .inl (fun _ => 0))), (b12 11, .inl (cI, 6, .inl (fun _ => 0))), (b12 12, .inl (cI, 7, .inl (fun _ => 0))), (b12 13, .inl (cI, 7, .inl (fun _ => 0))), (b12 14, .inl (cI, 7, .inl (fun _ => 0))), (b12 15, .inl (cI, 7, .inl (fun _ => 0))), (b12 16, .inl (cI, 7, .inl (fun _ => 0))), (b12 17, .inl (cI, 56, .inl (fun _ => 0))), (b12 18, .inl (cI, 30, .inl (fun _ => 0))), (q13, .inl (cQ, 3, .inr (.inr (.inr (.inr (fun _ => none)))))), (q14, oX7 z0 0 0 0 0 0 0), (q18, oX6 b22 0 0), (b22 0, .inl (cI, 287, .inl (fun _ => 0))), (b22 1, .inl (cI, 7, .inl (fun _ => 0))), (b22 2, .inl (cI, 7, .inl (fun _ => 0))), (b22 3, .inl (cJ, 7, .inr (.inl (fun _ => 0)))), (b22 4, .inl (cI, 7, .inl (fun _ => 0))), (b22 5, .inl (cI, 6, .inl (fun _ => 0))), (b22 6, .inl (cI, 78, .inl (fun _ => 0))), (b22 7, .inl (cJ, 13, .inr (.inl (fun _ => 0)))), (b22 8, .inl (cJ, 13, .inr (.inl (fun _ => 0)))), (b22 9, .inl (cJ, 13, .inr (.inl (fun _ => 0)))), (q23, oX6 b27 0 0), (b27 0, .inl (cI, 287, .inl (fun _ => 0))), (b27 1, .inl (cI, 7, .inl (fun _ => 0))), (b27 2, .inl (cI, 7, .inl (fun _ => 0))), (b27 3, .inl (cJ, 7, .inr (.inl (fun _ => 0)))), (b27 4, .inl (cI, 7, .inl (fun _ => 0))), (b27 5, .inl (cI, 6, .inl (fun _ => 0))), (b27 6, .inl (cI, 78, .inl (fun _ => 0))), (b27 7, .inl (cJ, 13, .inr (.inl (fun _ => 0)))), (b27 8, .inl (cJ, 13, .inr (.inl (fun _ => 0)))), (b27 9, .inl (cJ, 13, .inr (.inl (fun _ => 0)))), (q28, oX1 b32 0), (b32 0, .inl (cJ, 128, .inr (.inl (fun _ => 0)))), (b32 1, .inl (cI, 128, .inl (fun _ => 0)))] := hD
  refine lv_aload_n hx hb dX9_init_78 rfl (lv_at hl 0 rfl) ?_
  refine va_new (ci := 3) (fs := [.long 0, .long 0, .long 0]) (C := RX3) (T := TX3) (N := 3) hx hb hts iG_X3 tyX3 tyX3_ok hown (hts _ w_300) (hts _ w_301) (hts _ w_8) hK hP hD hS hA rfl (nf_X3) (Nat.le_of_ble_eq_true rfl) (Nat.le_of_ble_eq_true rfl) dX9_init_79 (fun q33 H hP hD hS => ?_)
  have hP : va_P G vwCl [(h0, .inr (9, [.ref q1, .ref q8, .ref q13, .ref q14, .ref q18, .ref q23, .ref q28, .null, .null, .null, .null])), (q1, oX4 b5 0 (-1) 0 0 0), (b5 2, oX8 bt6 0), (bt6 0, .inl (cB, 900, .inl (fun _ => 0))), (b5 3, oX0 bc7 0 0 0 0 0 0 0 0 0 0), (bc7 10, .inl (cI, 12, .inl (fun _ => 0))), (bc7 11, .inl (cI, 6, .inl (fun _ => 0))), (bc7 12, .inl (cI, 7, .inl (fun _ => 0))), (bc7 13, .inl (cI, 7, .inl (fun _ => 0))), (bc7 14, .inl (cI, 7, .inl (fun _ => 0))), (bc7 15, .inl (cI, 7, .inl (fun _ => 0))), (bc7 16, .inl (cI, 7, .inl (fun _ => 0))), (bc7 17, .inl (cI, 56, .inl (fun _ => 0))), (bc7 18, .inl (cI, 30, .inl (fun _ => 0))), (q8, oX0 b12 0 0 0 0 0 0 0 0 0 0), (b12 10, .inl (cI, 12, .inl (fun _ => 0))), (b12 11, .inl (cI, 6, .inl (fun _ => 0))), (b12 12, .inl (cI, 7, .inl (fun _ => 0))), (b12 13, .inl (cI, 7, .inl (fun _ => 0))), (b12 14, .inl (cI, 7, .inl (fun _ => 0))), (b12 15, .inl (cI, 7, .inl (fun _ => 0))), (b12 16, .inl (cI, 7, .inl (fun _ => 0))), (b12 17, .inl (cI, 56, .inl (fun _ => 0))), (b12 18, .inl (cI, 30, .inl (fun _ => 0))), (q13, .inl (cQ, 3, .inr (.inr (.inr (.inr (fun _ => none)))))), (q14, oX7 z0 0 0 0 0 0 0), (q18, oX6 b22 0 0), (b22 0, .inl (cI, 287, .inl (fun _ => 0))), (b22 1, .inl (cI, 7, .inl (fun _ => 0))), (b22 2, .inl (cI, 7, .inl (fun _ => 0))), (b22 3, .inl (cJ, 7, .inr (.inl (fun _ => 0)))), (b22 4, .inl (cI, 7, .inl (fun _ => 0))), (b22 5, .inl (cI, 6, .inl (fun _ => 0))), (b22 6, .inl (cI, 78, .inl (fun _ => 0))), (b22 7, .inl (cJ, 13, .inr (.inl (fun _ => 0)))), (b22 8, .inl (cJ, 13, .inr (.inl (fun _ => 0)))), (b22 9, .inl (cJ, 13, .inr (.inl (fun _ => 0)))), (q23, oX6 b27 0 0), (b27 0, .inl (cI, 287, .inl (fun _ => 0))), (b27 1, .inl (cI, 7, .inl (fun _ => 0))), (b27 2, .inl (cI, 7, .inl (fun _ => 0))), (b27 3, .inl (cJ, 7, .inr (.inl (fun _ => 0)))), (b27 4, .inl (cI, 7, .inl (fun _ => 0))), (b27 5, .inl (cI, 6, .inl (fun _ => 0))), (b27 6, .inl (cI, 78, .inl (fun _ => 0))), (b27 7, .inl (cJ, 13, .inr (.inl (fun _ => 0)))), (b27 8, .inl (cJ, 13, .inr (.inl (fun _ => 0)))), (b27 9, .inl (cJ, 13, .inr (.inl (fun _ => 0)))), (q28, oX1 b32 0), (b32 0, .inl (cJ, 128, .inr (.inl (fun _ => 0)))), (b32 1, .inl (cI, 128, .inl (fun _ => 0))), (q33, .inr (3, [.long 0, .long 0, .long 0]))] H := hP
  have hD : va_D A [(h0, .inr (9, [.ref q1, .ref q8, .ref q13, .ref q14, .ref q18, .ref q23, .ref q28, .null, .null, .null, .null])), (q1, oX4 b5 0 (-1) 0 0 0), (b5 2, oX8 bt6 0), (bt6 0, .inl (cB, 900, .inl (fun _ => 0))), (b5 3, oX0 bc7 0 0 0 0 0 0 0 0 0 0), (bc7 10, .inl (cI, 12, .inl (fun _ => 0))), (bc7 11, .inl (cI, 6, .inl (fun _ => 0))), (bc7 12, .inl (cI, 7, .inl (fun _ => 0))), (bc7 13, .inl (cI, 7, .inl (fun _ => 0))), (bc7 14, .inl (cI, 7, .inl (fun _ => 0))), (bc7 15, .inl (cI, 7, .inl (fun _ => 0))), (bc7 16, .inl (cI, 7, .inl (fun _ => 0))), (bc7 17, .inl (cI, 56, .inl (fun _ => 0))), (bc7 18, .inl (cI, 30, .inl (fun _ => 0))), (q8, oX0 b12 0 0 0 0 0 0 0 0 0 0), (b12 10, .inl (cI, 12, .inl (fun _ => 0))), (b12 11, .inl (cI, 6, .inl (fun _ => 0))), (b12 12, .inl (cI, 7, .inl (fun _ => 0))), (b12 13, .inl (cI, 7, .inl (fun _ => 0))), (b12 14, .inl (cI, 7, .inl (fun _ => 0))), (b12 15, .inl (cI, 7, .inl (fun _ => 0))), (b12 16, .inl (cI, 7, .inl (fun _ => 0))), (b12 17, .inl (cI, 56, .inl (fun _ => 0))), (b12 18, .inl (cI, 30, .inl (fun _ => 0))), (q13, .inl (cQ, 3, .inr (.inr (.inr (.inr (fun _ => none)))))), (q14, oX7 z0 0 0 0 0 0 0), (q18, oX6 b22 0 0), (b22 0, .inl (cI, 287, .inl (fun _ => 0))), (b22 1, .inl (cI, 7, .inl (fun _ => 0))), (b22 2, .inl (cI, 7, .inl (fun _ => 0))), (b22 3, .inl (cJ, 7, .inr (.inl (fun _ => 0)))), (b22 4, .inl (cI, 7, .inl (fun _ => 0))), (b22 5, .inl (cI, 6, .inl (fun _ => 0))), (b22 6, .inl (cI, 78, .inl (fun _ => 0))), (b22 7, .inl (cJ, 13, .inr (.inl (fun _ => 0)))), (b22 8, .inl (cJ, 13, .inr (.inl (fun _ => 0)))), (b22 9, .inl (cJ, 13, .inr (.inl (fun _ => 0)))), (q23, oX6 b27 0 0), (b27 0, .inl (cI, 287, .inl (fun _ => 0))), (b27 1, .inl (cI, 7, .inl (fun _ => 0))), (b27 2, .inl (cI, 7, .inl (fun _ => 0))), (b27 3, .inl (cJ, 7, .inr (.inl (fun _ => 0)))), (b27 4, .inl (cI, 7, .inl (fun _ => 0))), (b27 5, .inl (cI, 6, .inl (fun _ => 0))), (b27 6, .inl (cI, 78, .inl (fun _ => 0))), (b27 7, .inl (cJ, 13, .inr (.inl (fun _ => 0)))), (b27 8, .inl (cJ, 13, .inr (.inl (fun _ => 0)))), (b27 9, .inl (cJ, 13, .inr (.inl (fun _ => 0)))), (q28, oX1 b32 0), (b32 0, .inl (cJ, 128, .inr (.inl (fun _ => 0)))), (b32 1, .inl (cI, 128, .inl (fun _ => 0))), (q33, .inr (3, [.long 0, .long 0, .long 0]))] := hD
  refine lv_dup hx hb dX9_init_82 rfl ?_
  refine k_v (wc := [(q33, .inr (3, [.long 0, .long 0, .long 0]))]) (wr := [(h0, .inr (9, [.ref q1, .ref q8, .ref q13, .ref q14, .ref q18, .ref q23, .ref q28, .null, .null, .null, .null])), (q1, oX4 b5 0 (-1) 0 0 0), (b5 2, oX8 bt6 0), (bt6 0, .inl (cB, 900, .inl (fun _ => 0))), (b5 3, oX0 bc7 0 0 0 0 0 0 0 0 0 0), (bc7 10, .inl (cI, 12, .inl (fun _ => 0))), (bc7 11, .inl (cI, 6, .inl (fun _ => 0))), (bc7 12, .inl (cI, 7, .inl (fun _ => 0))), (bc7 13, .inl (cI, 7, .inl (fun _ => 0))), (bc7 14, .inl (cI, 7, .inl (fun _ => 0))), (bc7 15, .inl (cI, 7, .inl (fun _ => 0))), (bc7 16, .inl (cI, 7, .inl (fun _ => 0))), (bc7 17, .inl (cI, 56, .inl (fun _ => 0))), (bc7 18, .inl (cI, 30, .inl (fun _ => 0))), (q8, oX0 b12 0 0 0 0 0 0 0 0 0 0), (b12 10, .inl (cI, 12, .inl (fun _ => 0))), (b12 11, .inl (cI, 6, .inl (fun _ => 0))), (b12 12, .inl (cI, 7, .inl (fun _ => 0))), (b12 13, .inl (cI, 7, .inl (fun _ => 0))), (b12 14, .inl (cI, 7, .inl (fun _ => 0))), (b12 15, .inl (cI, 7, .inl (fun _ => 0))), (b12 16, .inl (cI, 7, .inl (fun _ => 0))), (b12 17, .inl (cI, 56, .inl (fun _ => 0))), (b12 18, .inl (cI, 30, .inl (fun _ => 0))), (q13, .inl (cQ, 3, .inr (.inr (.inr (.inr (fun _ => none)))))), (q14, oX7 z0 0 0 0 0 0 0), (q18, oX6 b22 0 0), (b22 0, .inl (cI, 287, .inl (fun _ => 0))), (b22 1, .inl (cI, 7, .inl (fun _ => 0))), (b22 2, .inl (cI, 7, .inl (fun _ => 0))), (b22 3, .inl (cJ, 7, .inr (.inl (fun _ => 0)))), (b22 4, .inl (cI, 7, .inl (fun _ => 0))), (b22 5, .inl (cI, 6, .inl (fun _ => 0))), (b22 6, .inl (cI, 78, .inl (fun _ => 0))), (b22 7, .inl (cJ, 13, .inr (.inl (fun _ => 0)))), (b22 8, .inl (cJ, 13, .inr (.inl (fun _ => 0)))), (b22 9, .inl (cJ, 13, .inr (.inl (fun _ => 0)))), (q23, oX6 b27 0 0), (b27 0, .inl (cI, 287, .inl (fun _ => 0))), (b27 1, .inl (cI, 7, .inl (fun _ => 0))), (b27 2, .inl (cI, 7, .inl (fun _ => 0))), (b27 3, .inl (cJ, 7, .inr (.inl (fun _ => 0)))), (b27 4, .inl (cI, 7, .inl (fun _ => 0))), (b27 5, .inl (cI, 6, .inl (fun _ => 0))), (b27 6, .inl (cI, 78, .inl (fun _ => 0))), (b27 7, .inl (cJ, 13, .inr (.inl (fun _ => 0)))), (b27 8, .inl (cJ, 13, .inr (.inl (fun _ => 0)))), (b27 9, .inl (cJ, 13, .inr (.inl (fun _ => 0)))), (q28, oX1 b32 0), (b32 0, .inl (cJ, 128, .inr (.inl (fun _ => 0)))), (b32 1, .inl (cI, 128, .inl (fun _ => 0)))]) hP hD hS hA [51] [0, 1, 2, 3, 4, 5, 6, 7, 8, 9, 10, 11, 12, 13, 14, 15, 16, 17, 18, 19, 20, 21, 22, 23, 24, 25, 26, 27, 28, 29, 30, 31, 32, 33, 34, 35, 36, 37, 38, 39, 40, 41, 42, 43, 44, 45, 46, 47, 48, 49, 50] rfl rfl rfl (by decide) (va_runIN (As := []) (rest := [.ref q33, .ref h0]) ⟨hx, hb, hml, hown, hts⟩ (f_X3_init l G cI cJ cZ cB cQ _ q33) ⟨va_cnB (host := "WidowRoads") 0 hts (gW w_304) rfl rfl rfl (nz_nw hZ nw_302 rfl) (hts _ w_8) hd_X3_init ⟨Nat.le_of_ble_eq_true rfl, Nat.le_of_ble_eq_true rfl⟩, rfl, (hts _ w_303)⟩ (mS hK hZ hP hD [51] rfl rfl [.ref q33]) rfl rfl hl.1 rfl (lv_room (Nat.le_of_ble_eq_true rfl)) dX9_init_83 ⟨Nat.le_of_ble_eq_true rfl, Nat.le_of_ble_eq_true rfl⟩) (fun u35 H locs hw36 hP hD hS => ?_)
  have hP : va_P G vwCl [(h0, .inr (9, [.ref q1, .ref q8, .ref q13, .ref q14, .ref q18, .ref q23, .ref q28, .null, .null, .null, .null])), (q1, oX4 b5 0 (-1) 0 0 0), (b5 2, oX8 bt6 0), (bt6 0, .inl (cB, 900, .inl (fun _ => 0))), (b5 3, oX0 bc7 0 0 0 0 0 0 0 0 0 0), (bc7 10, .inl (cI, 12, .inl (fun _ => 0))), (bc7 11, .inl (cI, 6, .inl (fun _ => 0))), (bc7 12, .inl (cI, 7, .inl (fun _ => 0))), (bc7 13, .inl (cI, 7, .inl (fun _ => 0))), (bc7 14, .inl (cI, 7, .inl (fun _ => 0))), (bc7 15, .inl (cI, 7, .inl (fun _ => 0))), (bc7 16, .inl (cI, 7, .inl (fun _ => 0))), (bc7 17, .inl (cI, 56, .inl (fun _ => 0))), (bc7 18, .inl (cI, 30, .inl (fun _ => 0))), (q8, oX0 b12 0 0 0 0 0 0 0 0 0 0), (b12 10, .inl (cI, 12, .inl (fun _ => 0))), (b12 11, .inl (cI, 6, .inl (fun _ => 0))), (b12 12, .inl (cI, 7, .inl (fun _ => 0))), (b12 13, .inl (cI, 7, .inl (fun _ => 0))), (b12 14, .inl (cI, 7, .inl (fun _ => 0))), (b12 15, .inl (cI, 7, .inl (fun _ => 0))), (b12 16, .inl (cI, 7, .inl (fun _ => 0))), (b12 17, .inl (cI, 56, .inl (fun _ => 0))), (b12 18, .inl (cI, 30, .inl (fun _ => 0))), (q13, .inl (cQ, 3, .inr (.inr (.inr (.inr (fun _ => none)))))), (q14, oX7 z0 0 0 0 0 0 0), (q18, oX6 b22 0 0), (b22 0, .inl (cI, 287, .inl (fun _ => 0))), (b22 1, .inl (cI, 7, .inl (fun _ => 0))), (b22 2, .inl (cI, 7, .inl (fun _ => 0))), (b22 3, .inl (cJ, 7, .inr (.inl (fun _ => 0)))), (b22 4, .inl (cI, 7, .inl (fun _ => 0))), (b22 5, .inl (cI, 6, .inl (fun _ => 0))), (b22 6, .inl (cI, 78, .inl (fun _ => 0))), (b22 7, .inl (cJ, 13, .inr (.inl (fun _ => 0)))), (b22 8, .inl (cJ, 13, .inr (.inl (fun _ => 0)))), (b22 9, .inl (cJ, 13, .inr (.inl (fun _ => 0)))), (q23, oX6 b27 0 0), (b27 0, .inl (cI, 287, .inl (fun _ => 0))), (b27 1, .inl (cI, 7, .inl (fun _ => 0))), (b27 2, .inl (cI, 7, .inl (fun _ => 0))), (b27 3, .inl (cJ, 7, .inr (.inl (fun _ => 0)))), (b27 4, .inl (cI, 7, .inl (fun _ => 0))), (b27 5, .inl (cI, 6, .inl (fun _ => 0))), (b27 6, .inl (cI, 78, .inl (fun _ => 0))), (b27 7, .inl (cJ, 13, .inr (.inl (fun _ => 0)))), (b27 8, .inl (cJ, 13, .inr (.inl (fun _ => 0)))), (b27 9, .inl (cJ, 13, .inr (.inl (fun _ => 0)))), (q28, oX1 b32 0), (b32 0, .inl (cJ, 128, .inr (.inl (fun _ => 0)))), (b32 1, .inl (cI, 128, .inl (fun _ => 0))), (q33, oX3 z0 0 0 0)] H := hP
  have hD : va_D A [(h0, .inr (9, [.ref q1, .ref q8, .ref q13, .ref q14, .ref q18, .ref q23, .ref q28, .null, .null, .null, .null])), (q1, oX4 b5 0 (-1) 0 0 0), (b5 2, oX8 bt6 0), (bt6 0, .inl (cB, 900, .inl (fun _ => 0))), (b5 3, oX0 bc7 0 0 0 0 0 0 0 0 0 0), (bc7 10, .inl (cI, 12, .inl (fun _ => 0))), (bc7 11, .inl (cI, 6, .inl (fun _ => 0))), (bc7 12, .inl (cI, 7, .inl (fun _ => 0))), (bc7 13, .inl (cI, 7, .inl (fun _ => 0))), (bc7 14, .inl (cI, 7, .inl (fun _ => 0))), (bc7 15, .inl (cI, 7, .inl (fun _ => 0))), (bc7 16, .inl (cI, 7, .inl (fun _ => 0))), (bc7 17, .inl (cI, 56, .inl (fun _ => 0))), (bc7 18, .inl (cI, 30, .inl (fun _ => 0))), (q8, oX0 b12 0 0 0 0 0 0 0 0 0 0), (b12 10, .inl (cI, 12, .inl (fun _ => 0))), (b12 11, .inl (cI, 6, .inl (fun _ => 0))), (b12 12, .inl (cI, 7, .inl (fun _ => 0))), (b12 13, .inl (cI, 7, .inl (fun _ => 0))), (b12 14, .inl (cI, 7, .inl (fun _ => 0))), (b12 15, .inl (cI, 7, .inl (fun _ => 0))), (b12 16, .inl (cI, 7, .inl (fun _ => 0))), (b12 17, .inl (cI, 56, .inl (fun _ => 0))), (b12 18, .inl (cI, 30, .inl (fun _ => 0))), (q13, .inl (cQ, 3, .inr (.inr (.inr (.inr (fun _ => none)))))), (q14, oX7 z0 0 0 0 0 0 0), (q18, oX6 b22 0 0), (b22 0, .inl (cI, 287, .inl (fun _ => 0))), (b22 1, .inl (cI, 7, .inl (fun _ => 0))), (b22 2, .inl (cI, 7, .inl (fun _ => 0))), (b22 3, .inl (cJ, 7, .inr (.inl (fun _ => 0)))), (b22 4, .inl (cI, 7, .inl (fun _ => 0))), (b22 5, .inl (cI, 6, .inl (fun _ => 0))), (b22 6, .inl (cI, 78, .inl (fun _ => 0))), (b22 7, .inl (cJ, 13, .inr (.inl (fun _ => 0)))), (b22 8, .inl (cJ, 13, .inr (.inl (fun _ => 0)))), (b22 9, .inl (cJ, 13, .inr (.inl (fun _ => 0)))), (q23, oX6 b27 0 0), (b27 0, .inl (cI, 287, .inl (fun _ => 0))), (b27 1, .inl (cI, 7, .inl (fun _ => 0))), (b27 2, .inl (cI, 7, .inl (fun _ => 0))), (b27 3, .inl (cJ, 7, .inr (.inl (fun _ => 0)))), (b27 4, .inl (cI, 7, .inl (fun _ => 0))), (b27 5, .inl (cI, 6, .inl (fun _ => 0))), (b27 6, .inl (cI, 78, .inl (fun _ => 0))), (b27 7, .inl (cJ, 13, .inr (.inl (fun _ => 0)))), (b27 8, .inl (cJ, 13, .inr (.inl (fun _ => 0)))), (b27 9, .inl (cJ, 13, .inr (.inl (fun _ => 0)))), (q28, oX1 b32 0), (b32 0, .inl (cJ, 128, .inr (.inl (fun _ => 0)))), (b32 1, .inl (cI, 128, .inl (fun _ => 0))), (q33, oX3 z0 0 0 0)] := hD
  refine va_putF (D := G) (ci := 9) (v := .ref q33) (ty := .object "WidowRoads$Net") (C := RX9) (T := TX9) (N := 11) hx hb hts iG_X9 tyX9 tyX9_ok nmX9 hown hK hP hD hS 0 rfl rfl 7 (by decide) (hts _ w_358) (fun _ h9 => h9) rfl hnm rfl (by decide +kernel) rfl rfl (Nat.le_of_ble_eq_true rfl) dX9_init_86 (fun H locs hP hD hS => ?_)
  have hP : va_P G vwCl [(h0, .inr (9, [.ref q1, .ref q8, .ref q13, .ref q14, .ref q18, .ref q23, .ref q28, .ref q33, .null, .null, .null])), (q1, oX4 b5 0 (-1) 0 0 0), (b5 2, oX8 bt6 0), (bt6 0, .inl (cB, 900, .inl (fun _ => 0))), (b5 3, oX0 bc7 0 0 0 0 0 0 0 0 0 0), (bc7 10, .inl (cI, 12, .inl (fun _ => 0))), (bc7 11, .inl (cI, 6, .inl (fun _ => 0))), (bc7 12, .inl (cI, 7, .inl (fun _ => 0))), (bc7 13, .inl (cI, 7, .inl (fun _ => 0))), (bc7 14, .inl (cI, 7, .inl (fun _ => 0))), (bc7 15, .inl (cI, 7, .inl (fun _ => 0))), (bc7 16, .inl (cI, 7, .inl (fun _ => 0))), (bc7 17, .inl (cI, 56, .inl (fun _ => 0))), (bc7 18, .inl (cI, 30, .inl (fun _ => 0))), (q8, oX0 b12 0 0 0 0 0 0 0 0 0 0), (b12 10, .inl (cI, 12, .inl (fun _ => 0))), (b12 11, .inl (cI, 6, .inl (fun _ => 0))), (b12 12, .inl (cI, 7, .inl (fun _ => 0))), (b12 13, .inl (cI, 7, .inl (fun _ => 0))), (b12 14, .inl (cI, 7, .inl (fun _ => 0))), (b12 15, .inl (cI, 7, .inl (fun _ => 0))), (b12 16, .inl (cI, 7, .inl (fun _ => 0))), (b12 17, .inl (cI, 56, .inl (fun _ => 0))), (b12 18, .inl (cI, 30, .inl (fun _ => 0))), (q13, .inl (cQ, 3, .inr (.inr (.inr (.inr (fun _ => none)))))), (q14, oX7 z0 0 0 0 0 0 0), (q18, oX6 b22 0 0), (b22 0, .inl (cI, 287, .inl (fun _ => 0))), (b22 1, .inl (cI, 7, .inl (fun _ => 0))), (b22 2, .inl (cI, 7, .inl (fun _ => 0))), (b22 3, .inl (cJ, 7, .inr (.inl (fun _ => 0)))), (b22 4, .inl (cI, 7, .inl (fun _ => 0))), (b22 5, .inl (cI, 6, .inl (fun _ => 0))), (b22 6, .inl (cI, 78, .inl (fun _ => 0))), (b22 7, .inl (cJ, 13, .inr (.inl (fun _ => 0)))), (b22 8, .inl (cJ, 13, .inr (.inl (fun _ => 0)))), (b22 9, .inl (cJ, 13, .inr (.inl (fun _ => 0)))), (q23, oX6 b27 0 0), (b27 0, .inl (cI, 287, .inl (fun _ => 0))), (b27 1, .inl (cI, 7, .inl (fun _ => 0))), (b27 2, .inl (cI, 7, .inl (fun _ => 0))), (b27 3, .inl (cJ, 7, .inr (.inl (fun _ => 0)))), (b27 4, .inl (cI, 7, .inl (fun _ => 0))), (b27 5, .inl (cI, 6, .inl (fun _ => 0))), (b27 6, .inl (cI, 78, .inl (fun _ => 0))), (b27 7, .inl (cJ, 13, .inr (.inl (fun _ => 0)))), (b27 8, .inl (cJ, 13, .inr (.inl (fun _ => 0)))), (b27 9, .inl (cJ, 13, .inr (.inl (fun _ => 0)))), (q28, oX1 b32 0), (b32 0, .inl (cJ, 128, .inr (.inl (fun _ => 0)))), (b32 1, .inl (cI, 128, .inl (fun _ => 0))), (q33, oX3 z0 0 0 0)] H := hP
  have hD : va_D A [(h0, .inr (9, [.ref q1, .ref q8, .ref q13, .ref q14, .ref q18, .ref q23, .ref q28, .ref q33, .null, .null, .null])), (q1, oX4 b5 0 (-1) 0 0 0), (b5 2, oX8 bt6 0), (bt6 0, .inl (cB, 900, .inl (fun _ => 0))), (b5 3, oX0 bc7 0 0 0 0 0 0 0 0 0 0), (bc7 10, .inl (cI, 12, .inl (fun _ => 0))), (bc7 11, .inl (cI, 6, .inl (fun _ => 0))), (bc7 12, .inl (cI, 7, .inl (fun _ => 0))), (bc7 13, .inl (cI, 7, .inl (fun _ => 0))), (bc7 14, .inl (cI, 7, .inl (fun _ => 0))), (bc7 15, .inl (cI, 7, .inl (fun _ => 0))), (bc7 16, .inl (cI, 7, .inl (fun _ => 0))), (bc7 17, .inl (cI, 56, .inl (fun _ => 0))), (bc7 18, .inl (cI, 30, .inl (fun _ => 0))), (q8, oX0 b12 0 0 0 0 0 0 0 0 0 0), (b12 10, .inl (cI, 12, .inl (fun _ => 0))), (b12 11, .inl (cI, 6, .inl (fun _ => 0))), (b12 12, .inl (cI, 7, .inl (fun _ => 0))), (b12 13, .inl (cI, 7, .inl (fun _ => 0))), (b12 14, .inl (cI, 7, .inl (fun _ => 0))), (b12 15, .inl (cI, 7, .inl (fun _ => 0))), (b12 16, .inl (cI, 7, .inl (fun _ => 0))), (b12 17, .inl (cI, 56, .inl (fun _ => 0))), (b12 18, .inl (cI, 30, .inl (fun _ => 0))), (q13, .inl (cQ, 3, .inr (.inr (.inr (.inr (fun _ => none)))))), (q14, oX7 z0 0 0 0 0 0 0), (q18, oX6 b22 0 0), (b22 0, .inl (cI, 287, .inl (fun _ => 0))), (b22 1, .inl (cI, 7, .inl (fun _ => 0))), (b22 2, .inl (cI, 7, .inl (fun _ => 0))), (b22 3, .inl (cJ, 7, .inr (.inl (fun _ => 0)))), (b22 4, .inl (cI, 7, .inl (fun _ => 0))), (b22 5, .inl (cI, 6, .inl (fun _ => 0))), (b22 6, .inl (cI, 78, .inl (fun _ => 0))), (b22 7, .inl (cJ, 13, .inr (.inl (fun _ => 0)))), (b22 8, .inl (cJ, 13, .inr (.inl (fun _ => 0)))), (b22 9, .inl (cJ, 13, .inr (.inl (fun _ => 0)))), (q23, oX6 b27 0 0), (b27 0, .inl (cI, 287, .inl (fun _ => 0))), (b27 1, .inl (cI, 7, .inl (fun _ => 0))), (b27 2, .inl (cI, 7, .inl (fun _ => 0))), (b27 3, .inl (cJ, 7, .inr (.inl (fun _ => 0)))), (b27 4, .inl (cI, 7, .inl (fun _ => 0))), (b27 5, .inl (cI, 6, .inl (fun _ => 0))), (b27 6, .inl (cI, 78, .inl (fun _ => 0))), (b27 7, .inl (cJ, 13, .inr (.inl (fun _ => 0)))), (b27 8, .inl (cJ, 13, .inr (.inl (fun _ => 0)))), (b27 9, .inl (cJ, 13, .inr (.inl (fun _ => 0)))), (q28, oX1 b32 0), (b32 0, .inl (cJ, 128, .inr (.inl (fun _ => 0)))), (b32 1, .inl (cI, 128, .inl (fun _ => 0))), (q33, oX3 z0 0 0 0)] := hD
  refine lv_aload_n hx hb dX9_init_89 rfl (lv_at hl 0 rfl) ?_
  refine va_new (ci := 5) (fs := [.null, .null, .null, .null]) (C := RX5) (T := TX5) (N := 4) hx hb hts iG_X5 tyX5 tyX5_ok hown (hts _ w_316) (hts _ w_317) (hts _ w_9) hK hP hD hS hA rfl (nf_X5) (Nat.le_of_ble_eq_true rfl) (Nat.le_of_ble_eq_true rfl) dX9_init_90 (fun q37 H hP hD hS => ?_)
  have hP : va_P G vwCl [(h0, .inr (9, [.ref q1, .ref q8, .ref q13, .ref q14, .ref q18, .ref q23, .ref q28, .ref q33, .null, .null, .null])), (q1, oX4 b5 0 (-1) 0 0 0), (b5 2, oX8 bt6 0), (bt6 0, .inl (cB, 900, .inl (fun _ => 0))), (b5 3, oX0 bc7 0 0 0 0 0 0 0 0 0 0), (bc7 10, .inl (cI, 12, .inl (fun _ => 0))), (bc7 11, .inl (cI, 6, .inl (fun _ => 0))), (bc7 12, .inl (cI, 7, .inl (fun _ => 0))), (bc7 13, .inl (cI, 7, .inl (fun _ => 0))), (bc7 14, .inl (cI, 7, .inl (fun _ => 0))), (bc7 15, .inl (cI, 7, .inl (fun _ => 0))), (bc7 16, .inl (cI, 7, .inl (fun _ => 0))), (bc7 17, .inl (cI, 56, .inl (fun _ => 0))), (bc7 18, .inl (cI, 30, .inl (fun _ => 0))), (q8, oX0 b12 0 0 0 0 0 0 0 0 0 0), (b12 10, .inl (cI, 12, .inl (fun _ => 0))), (b12 11, .inl (cI, 6, .inl (fun _ => 0))), (b12 12, .inl (cI, 7, .inl (fun _ => 0))), (b12 13, .inl (cI, 7, .inl (fun _ => 0))), (b12 14, .inl (cI, 7, .inl (fun _ => 0))), (b12 15, .inl (cI, 7, .inl (fun _ => 0))), (b12 16, .inl (cI, 7, .inl (fun _ => 0))), (b12 17, .inl (cI, 56, .inl (fun _ => 0))), (b12 18, .inl (cI, 30, .inl (fun _ => 0))), (q13, .inl (cQ, 3, .inr (.inr (.inr (.inr (fun _ => none)))))), (q14, oX7 z0 0 0 0 0 0 0), (q18, oX6 b22 0 0), (b22 0, .inl (cI, 287, .inl (fun _ => 0))), (b22 1, .inl (cI, 7, .inl (fun _ => 0))), (b22 2, .inl (cI, 7, .inl (fun _ => 0))), (b22 3, .inl (cJ, 7, .inr (.inl (fun _ => 0)))), (b22 4, .inl (cI, 7, .inl (fun _ => 0))), (b22 5, .inl (cI, 6, .inl (fun _ => 0))), (b22 6, .inl (cI, 78, .inl (fun _ => 0))), (b22 7, .inl (cJ, 13, .inr (.inl (fun _ => 0)))), (b22 8, .inl (cJ, 13, .inr (.inl (fun _ => 0)))), (b22 9, .inl (cJ, 13, .inr (.inl (fun _ => 0)))), (q23, oX6 b27 0 0), (b27 0, .inl (cI, 287, .inl (fun _ => 0))), (b27 1, .inl (cI, 7, .inl (fun _ => 0))), (b27 2, .inl (cI, 7, .inl (fun _ => 0))), (b27 3, .inl (cJ, 7, .inr (.inl (fun _ => 0)))), (b27 4, .inl (cI, 7, .inl (fun _ => 0))), (b27 5, .inl (cI, 6, .inl (fun _ => 0))), (b27 6, .inl (cI, 78, .inl (fun _ => 0))), (b27 7, .inl (cJ, 13, .inr (.inl (fun _ => 0)))), (b27 8, .inl (cJ, 13, .inr (.inl (fun _ => 0)))), (b27 9, .inl (cJ, 13, .inr (.inl (fun _ => 0)))), (q28, oX1 b32 0), (b32 0, .inl (cJ, 128, .inr (.inl (fun _ => 0)))), (b32 1, .inl (cI, 128, .inl (fun _ => 0))), (q33, oX3 z0 0 0 0), (q37, .inr (5, [.null, .null, .null, .null]))] H := hP
  have hD : va_D A [(h0, .inr (9, [.ref q1, .ref q8, .ref q13, .ref q14, .ref q18, .ref q23, .ref q28, .ref q33, .null, .null, .null])), (q1, oX4 b5 0 (-1) 0 0 0), (b5 2, oX8 bt6 0), (bt6 0, .inl (cB, 900, .inl (fun _ => 0))), (b5 3, oX0 bc7 0 0 0 0 0 0 0 0 0 0), (bc7 10, .inl (cI, 12, .inl (fun _ => 0))), (bc7 11, .inl (cI, 6, .inl (fun _ => 0))), (bc7 12, .inl (cI, 7, .inl (fun _ => 0))), (bc7 13, .inl (cI, 7, .inl (fun _ => 0))), (bc7 14, .inl (cI, 7, .inl (fun _ => 0))), (bc7 15, .inl (cI, 7, .inl (fun _ => 0))), (bc7 16, .inl (cI, 7, .inl (fun _ => 0))), (bc7 17, .inl (cI, 56, .inl (fun _ => 0))), (bc7 18, .inl (cI, 30, .inl (fun _ => 0))), (q8, oX0 b12 0 0 0 0 0 0 0 0 0 0), (b12 10, .inl (cI, 12, .inl (fun _ => 0))), (b12 11, .inl (cI, 6, .inl (fun _ => 0))), (b12 12, .inl (cI, 7, .inl (fun _ => 0))), (b12 13, .inl (cI, 7, .inl (fun _ => 0))), (b12 14, .inl (cI, 7, .inl (fun _ => 0))), (b12 15, .inl (cI, 7, .inl (fun _ => 0))), (b12 16, .inl (cI, 7, .inl (fun _ => 0))), (b12 17, .inl (cI, 56, .inl (fun _ => 0))), (b12 18, .inl (cI, 30, .inl (fun _ => 0))), (q13, .inl (cQ, 3, .inr (.inr (.inr (.inr (fun _ => none)))))), (q14, oX7 z0 0 0 0 0 0 0), (q18, oX6 b22 0 0), (b22 0, .inl (cI, 287, .inl (fun _ => 0))), (b22 1, .inl (cI, 7, .inl (fun _ => 0))), (b22 2, .inl (cI, 7, .inl (fun _ => 0))), (b22 3, .inl (cJ, 7, .inr (.inl (fun _ => 0)))), (b22 4, .inl (cI, 7, .inl (fun _ => 0))), (b22 5, .inl (cI, 6, .inl (fun _ => 0))), (b22 6, .inl (cI, 78, .inl (fun _ => 0))), (b22 7, .inl (cJ, 13, .inr (.inl (fun _ => 0)))), (b22 8, .inl (cJ, 13, .inr (.inl (fun _ => 0)))), (b22 9, .inl (cJ, 13, .inr (.inl (fun _ => 0)))), (q23, oX6 b27 0 0), (b27 0, .inl (cI, 287, .inl (fun _ => 0))), (b27 1, .inl (cI, 7, .inl (fun _ => 0))), (b27 2, .inl (cI, 7, .inl (fun _ => 0))), (b27 3, .inl (cJ, 7, .inr (.inl (fun _ => 0)))), (b27 4, .inl (cI, 7, .inl (fun _ => 0))), (b27 5, .inl (cI, 6, .inl (fun _ => 0))), (b27 6, .inl (cI, 78, .inl (fun _ => 0))), (b27 7, .inl (cJ, 13, .inr (.inl (fun _ => 0)))), (b27 8, .inl (cJ, 13, .inr (.inl (fun _ => 0)))), (b27 9, .inl (cJ, 13, .inr (.inl (fun _ => 0)))), (q28, oX1 b32 0), (b32 0, .inl (cJ, 128, .inr (.inl (fun _ => 0)))), (b32 1, .inl (cI, 128, .inl (fun _ => 0))), (q33, oX3 z0 0 0 0), (q37, .inr (5, [.null, .null, .null, .null]))] := hD
  refine lv_dup hx hb dX9_init_93 rfl ?_
  refine k_v (wc := [(q37, .inr (5, [.null, .null, .null, .null]))]) (wr := [(h0, .inr (9, [.ref q1, .ref q8, .ref q13, .ref q14, .ref q18, .ref q23, .ref q28, .ref q33, .null, .null, .null])), (q1, oX4 b5 0 (-1) 0 0 0), (b5 2, oX8 bt6 0), (bt6 0, .inl (cB, 900, .inl (fun _ => 0))), (b5 3, oX0 bc7 0 0 0 0 0 0 0 0 0 0), (bc7 10, .inl (cI, 12, .inl (fun _ => 0))), (bc7 11, .inl (cI, 6, .inl (fun _ => 0))), (bc7 12, .inl (cI, 7, .inl (fun _ => 0))), (bc7 13, .inl (cI, 7, .inl (fun _ => 0))), (bc7 14, .inl (cI, 7, .inl (fun _ => 0))), (bc7 15, .inl (cI, 7, .inl (fun _ => 0))), (bc7 16, .inl (cI, 7, .inl (fun _ => 0))), (bc7 17, .inl (cI, 56, .inl (fun _ => 0))), (bc7 18, .inl (cI, 30, .inl (fun _ => 0))), (q8, oX0 b12 0 0 0 0 0 0 0 0 0 0), (b12 10, .inl (cI, 12, .inl (fun _ => 0))), (b12 11, .inl (cI, 6, .inl (fun _ => 0))), (b12 12, .inl (cI, 7, .inl (fun _ => 0))), (b12 13, .inl (cI, 7, .inl (fun _ => 0))), (b12 14, .inl (cI, 7, .inl (fun _ => 0))), (b12 15, .inl (cI, 7, .inl (fun _ => 0))), (b12 16, .inl (cI, 7, .inl (fun _ => 0))), (b12 17, .inl (cI, 56, .inl (fun _ => 0))), (b12 18, .inl (cI, 30, .inl (fun _ => 0))), (q13, .inl (cQ, 3, .inr (.inr (.inr (.inr (fun _ => none)))))), (q14, oX7 z0 0 0 0 0 0 0), (q18, oX6 b22 0 0), (b22 0, .inl (cI, 287, .inl (fun _ => 0))), (b22 1, .inl (cI, 7, .inl (fun _ => 0))), (b22 2, .inl (cI, 7, .inl (fun _ => 0))), (b22 3, .inl (cJ, 7, .inr (.inl (fun _ => 0)))), (b22 4, .inl (cI, 7, .inl (fun _ => 0))), (b22 5, .inl (cI, 6, .inl (fun _ => 0))), (b22 6, .inl (cI, 78, .inl (fun _ => 0))), (b22 7, .inl (cJ, 13, .inr (.inl (fun _ => 0)))), (b22 8, .inl (cJ, 13, .inr (.inl (fun _ => 0)))), (b22 9, .inl (cJ, 13, .inr (.inl (fun _ => 0)))), (q23, oX6 b27 0 0), (b27 0, .inl (cI, 287, .inl (fun _ => 0))), (b27 1, .inl (cI, 7, .inl (fun _ => 0))), (b27 2, .inl (cI, 7, .inl (fun _ => 0))), (b27 3, .inl (cJ, 7, .inr (.inl (fun _ => 0)))), (b27 4, .inl (cI, 7, .inl (fun _ => 0))), (b27 5, .inl (cI, 6, .inl (fun _ => 0))), (b27 6, .inl (cI, 78, .inl (fun _ => 0))), (b27 7, .inl (cJ, 13, .inr (.inl (fun _ => 0)))), (b27 8, .inl (cJ, 13, .inr (.inl (fun _ => 0)))), (b27 9, .inl (cJ, 13, .inr (.inl (fun _ => 0)))), (q28, oX1 b32 0), (b32 0, .inl (cJ, 128, .inr (.inl (fun _ => 0)))), (b32 1, .inl (cI, 128, .inl (fun _ => 0))), (q33, oX3 z0 0 0 0)]) hP hD hS hA [52] [0, 1, 2, 3, 4, 5, 6, 7, 8, 9, 10, 11, 12, 13, 14, 15, 16, 17, 18, 19, 20, 21, 22, 23, 24, 25, 26, 27, 28, 29, 30, 31, 32, 33, 34, 35, 36, 37, 38, 39, 40, 41, 42, 43, 44, 45, 46, 47, 48, 49, 50, 51] rfl rfl rfl (by decide) (va_runIN (As := []) (rest := [.ref q37, .ref h0]) ⟨hx, hb, hml, hown, hts⟩ (f_X5_init l G cI cJ cZ cB cQ _ q37) ⟨va_cnB (host := "WidowRoads") 0 hts (gW w_320) rfl rfl rfl (nz_nw hZ nw_318 rfl) (hts _ w_9) hd_X5_init ⟨Nat.le_of_ble_eq_true rfl, Nat.le_of_ble_eq_true rfl⟩, rfl, (hts _ w_319)⟩ (mS hK hZ hP hD [52] rfl rfl [.ref q37]) rfl rfl hl.1 rfl (lv_room (Nat.le_of_ble_eq_true rfl)) dX9_init_94 ⟨Nat.le_of_ble_eq_true rfl, Nat.le_of_ble_eq_true rfl⟩) (fun u39 H locs hw40 hP hD hS => ?_)
  obtain ⟨b41, rfl⟩ : ∃ z, z = u39 := ⟨_, rfl⟩
  have hP : va_P G vwCl [(h0, .inr (9, [.ref q1, .ref q8, .ref q13, .ref q14, .ref q18, .ref q23, .ref q28, .ref q33, .null, .null, .null])), (q1, oX4 b5 0 (-1) 0 0 0), (b5 2, oX8 bt6 0), (bt6 0, .inl (cB, 900, .inl (fun _ => 0))), (b5 3, oX0 bc7 0 0 0 0 0 0 0 0 0 0), (bc7 10, .inl (cI, 12, .inl (fun _ => 0))), (bc7 11, .inl (cI, 6, .inl (fun _ => 0))), (bc7 12, .inl (cI, 7, .inl (fun _ => 0))), (bc7 13, .inl (cI, 7, .inl (fun _ => 0))), (bc7 14, .inl (cI, 7, .inl (fun _ => 0))), (bc7 15, .inl (cI, 7, .inl (fun _ => 0))), (bc7 16, .inl (cI, 7, .inl (fun _ => 0))), (bc7 17, .inl (cI, 56, .inl (fun _ => 0))), (bc7 18, .inl (cI, 30, .inl (fun _ => 0))), (q8, oX0 b12 0 0 0 0 0 0 0 0 0 0), (b12 10, .inl (cI, 12, .inl (fun _ => 0))), (b12 11, .inl (cI, 6, .inl (fun _ => 0))), (b12 12, .inl (cI, 7, .inl (fun _ => 0))), (b12 13, .inl (cI, 7, .inl (fun _ => 0))), (b12 14, .inl (cI, 7, .inl (fun _ => 0))), (b12 15, .inl (cI, 7, .inl (fun _ => 0))), (b12 16, .inl (cI, 7, .inl (fun _ => 0))), (b12 17, .inl (cI, 56, .inl (fun _ => 0))), (b12 18, .inl (cI, 30, .inl (fun _ => 0))), (q13, .inl (cQ, 3, .inr (.inr (.inr (.inr (fun _ => none)))))), (q14, oX7 z0 0 0 0 0 0 0), (q18, oX6 b22 0 0), (b22 0, .inl (cI, 287, .inl (fun _ => 0))), (b22 1, .inl (cI, 7, .inl (fun _ => 0))), (b22 2, .inl (cI, 7, .inl (fun _ => 0))), (b22 3, .inl (cJ, 7, .inr (.inl (fun _ => 0)))), (b22 4, .inl (cI, 7, .inl (fun _ => 0))), (b22 5, .inl (cI, 6, .inl (fun _ => 0))), (b22 6, .inl (cI, 78, .inl (fun _ => 0))), (b22 7, .inl (cJ, 13, .inr (.inl (fun _ => 0)))), (b22 8, .inl (cJ, 13, .inr (.inl (fun _ => 0)))), (b22 9, .inl (cJ, 13, .inr (.inl (fun _ => 0)))), (q23, oX6 b27 0 0), (b27 0, .inl (cI, 287, .inl (fun _ => 0))), (b27 1, .inl (cI, 7, .inl (fun _ => 0))), (b27 2, .inl (cI, 7, .inl (fun _ => 0))), (b27 3, .inl (cJ, 7, .inr (.inl (fun _ => 0)))), (b27 4, .inl (cI, 7, .inl (fun _ => 0))), (b27 5, .inl (cI, 6, .inl (fun _ => 0))), (b27 6, .inl (cI, 78, .inl (fun _ => 0))), (b27 7, .inl (cJ, 13, .inr (.inl (fun _ => 0)))), (b27 8, .inl (cJ, 13, .inr (.inl (fun _ => 0)))), (b27 9, .inl (cJ, 13, .inr (.inl (fun _ => 0)))), (q28, oX1 b32 0), (b32 0, .inl (cJ, 128, .inr (.inl (fun _ => 0)))), (b32 1, .inl (cI, 128, .inl (fun _ => 0))), (q33, oX3 z0 0 0 0), (q37, oX5 b41), (b41 0, .inl (cJ, 240, .inr (.inl (fun _ => 0)))), (b41 1, .inl (cZ, 4, .inl (fun _ => 0))), (b41 2, .inl (cI, 4, .inl (fun _ => 0))), (b41 3, .inl (cI, 4, .inl (fun _ => 0)))] H := hP
  have hD : va_D A [(h0, .inr (9, [.ref q1, .ref q8, .ref q13, .ref q14, .ref q18, .ref q23, .ref q28, .ref q33, .null, .null, .null])), (q1, oX4 b5 0 (-1) 0 0 0), (b5 2, oX8 bt6 0), (bt6 0, .inl (cB, 900, .inl (fun _ => 0))), (b5 3, oX0 bc7 0 0 0 0 0 0 0 0 0 0), (bc7 10, .inl (cI, 12, .inl (fun _ => 0))), (bc7 11, .inl (cI, 6, .inl (fun _ => 0))), (bc7 12, .inl (cI, 7, .inl (fun _ => 0))), (bc7 13, .inl (cI, 7, .inl (fun _ => 0))), (bc7 14, .inl (cI, 7, .inl (fun _ => 0))), (bc7 15, .inl (cI, 7, .inl (fun _ => 0))), (bc7 16, .inl (cI, 7, .inl (fun _ => 0))), (bc7 17, .inl (cI, 56, .inl (fun _ => 0))), (bc7 18, .inl (cI, 30, .inl (fun _ => 0))), (q8, oX0 b12 0 0 0 0 0 0 0 0 0 0), (b12 10, .inl (cI, 12, .inl (fun _ => 0))), (b12 11, .inl (cI, 6, .inl (fun _ => 0))), (b12 12, .inl (cI, 7, .inl (fun _ => 0))), (b12 13, .inl (cI, 7, .inl (fun _ => 0))), (b12 14, .inl (cI, 7, .inl (fun _ => 0))), (b12 15, .inl (cI, 7, .inl (fun _ => 0))), (b12 16, .inl (cI, 7, .inl (fun _ => 0))), (b12 17, .inl (cI, 56, .inl (fun _ => 0))), (b12 18, .inl (cI, 30, .inl (fun _ => 0))), (q13, .inl (cQ, 3, .inr (.inr (.inr (.inr (fun _ => none)))))), (q14, oX7 z0 0 0 0 0 0 0), (q18, oX6 b22 0 0), (b22 0, .inl (cI, 287, .inl (fun _ => 0))), (b22 1, .inl (cI, 7, .inl (fun _ => 0))), (b22 2, .inl (cI, 7, .inl (fun _ => 0))), (b22 3, .inl (cJ, 7, .inr (.inl (fun _ => 0)))), (b22 4, .inl (cI, 7, .inl (fun _ => 0))), (b22 5, .inl (cI, 6, .inl (fun _ => 0))), (b22 6, .inl (cI, 78, .inl (fun _ => 0))), (b22 7, .inl (cJ, 13, .inr (.inl (fun _ => 0)))), (b22 8, .inl (cJ, 13, .inr (.inl (fun _ => 0)))), (b22 9, .inl (cJ, 13, .inr (.inl (fun _ => 0)))), (q23, oX6 b27 0 0), (b27 0, .inl (cI, 287, .inl (fun _ => 0))), (b27 1, .inl (cI, 7, .inl (fun _ => 0))), (b27 2, .inl (cI, 7, .inl (fun _ => 0))), (b27 3, .inl (cJ, 7, .inr (.inl (fun _ => 0)))), (b27 4, .inl (cI, 7, .inl (fun _ => 0))), (b27 5, .inl (cI, 6, .inl (fun _ => 0))), (b27 6, .inl (cI, 78, .inl (fun _ => 0))), (b27 7, .inl (cJ, 13, .inr (.inl (fun _ => 0)))), (b27 8, .inl (cJ, 13, .inr (.inl (fun _ => 0)))), (b27 9, .inl (cJ, 13, .inr (.inl (fun _ => 0)))), (q28, oX1 b32 0), (b32 0, .inl (cJ, 128, .inr (.inl (fun _ => 0)))), (b32 1, .inl (cI, 128, .inl (fun _ => 0))), (q33, oX3 z0 0 0 0), (q37, oX5 b41), (b41 0, .inl (cJ, 240, .inr (.inl (fun _ => 0)))), (b41 1, .inl (cZ, 4, .inl (fun _ => 0))), (b41 2, .inl (cI, 4, .inl (fun _ => 0))), (b41 3, .inl (cI, 4, .inl (fun _ => 0)))] := hD
  refine va_putF (D := G) (ci := 9) (v := .ref q37) (ty := .object "WidowRoads$Rows") (C := RX9) (T := TX9) (N := 11) hx hb hts iG_X9 tyX9 tyX9_ok nmX9 hown hK hP hD hS 0 rfl rfl 8 (by decide) (hts _ w_359) (fun _ h9 => h9) rfl hnm rfl (by decide +kernel) rfl rfl (Nat.le_of_ble_eq_true rfl) dX9_init_97 (fun H locs hP hD hS => ?_)
  have hP : va_P G vwCl [(h0, .inr (9, [.ref q1, .ref q8, .ref q13, .ref q14, .ref q18, .ref q23, .ref q28, .ref q33, .ref q37, .null, .null])), (q1, oX4 b5 0 (-1) 0 0 0), (b5 2, oX8 bt6 0), (bt6 0, .inl (cB, 900, .inl (fun _ => 0))), (b5 3, oX0 bc7 0 0 0 0 0 0 0 0 0 0), (bc7 10, .inl (cI, 12, .inl (fun _ => 0))), (bc7 11, .inl (cI, 6, .inl (fun _ => 0))), (bc7 12, .inl (cI, 7, .inl (fun _ => 0))), (bc7 13, .inl (cI, 7, .inl (fun _ => 0))), (bc7 14, .inl (cI, 7, .inl (fun _ => 0))), (bc7 15, .inl (cI, 7, .inl (fun _ => 0))), (bc7 16, .inl (cI, 7, .inl (fun _ => 0))), (bc7 17, .inl (cI, 56, .inl (fun _ => 0))), (bc7 18, .inl (cI, 30, .inl (fun _ => 0))), (q8, oX0 b12 0 0 0 0 0 0 0 0 0 0), (b12 10, .inl (cI, 12, .inl (fun _ => 0))), (b12 11, .inl (cI, 6, .inl (fun _ => 0))), (b12 12, .inl (cI, 7, .inl (fun _ => 0))), (b12 13, .inl (cI, 7, .inl (fun _ => 0))), (b12 14, .inl (cI, 7, .inl (fun _ => 0))), (b12 15, .inl (cI, 7, .inl (fun _ => 0))), (b12 16, .inl (cI, 7, .inl (fun _ => 0))), (b12 17, .inl (cI, 56, .inl (fun _ => 0))), (b12 18, .inl (cI, 30, .inl (fun _ => 0))), (q13, .inl (cQ, 3, .inr (.inr (.inr (.inr (fun _ => none)))))), (q14, oX7 z0 0 0 0 0 0 0), (q18, oX6 b22 0 0), (b22 0, .inl (cI, 287, .inl (fun _ => 0))), (b22 1, .inl (cI, 7, .inl (fun _ => 0))), (b22 2, .inl (cI, 7, .inl (fun _ => 0))), (b22 3, .inl (cJ, 7, .inr (.inl (fun _ => 0)))), (b22 4, .inl (cI, 7, .inl (fun _ => 0))), (b22 5, .inl (cI, 6, .inl (fun _ => 0))), (b22 6, .inl (cI, 78, .inl (fun _ => 0))), (b22 7, .inl (cJ, 13, .inr (.inl (fun _ => 0)))), (b22 8, .inl (cJ, 13, .inr (.inl (fun _ => 0)))), (b22 9, .inl (cJ, 13, .inr (.inl (fun _ => 0)))), (q23, oX6 b27 0 0), (b27 0, .inl (cI, 287, .inl (fun _ => 0))), (b27 1, .inl (cI, 7, .inl (fun _ => 0))), (b27 2, .inl (cI, 7, .inl (fun _ => 0))), (b27 3, .inl (cJ, 7, .inr (.inl (fun _ => 0)))), (b27 4, .inl (cI, 7, .inl (fun _ => 0))), (b27 5, .inl (cI, 6, .inl (fun _ => 0))), (b27 6, .inl (cI, 78, .inl (fun _ => 0))), (b27 7, .inl (cJ, 13, .inr (.inl (fun _ => 0)))), (b27 8, .inl (cJ, 13, .inr (.inl (fun _ => 0)))), (b27 9, .inl (cJ, 13, .inr (.inl (fun _ => 0)))), (q28, oX1 b32 0), (b32 0, .inl (cJ, 128, .inr (.inl (fun _ => 0)))), (b32 1, .inl (cI, 128, .inl (fun _ => 0))), (q33, oX3 z0 0 0 0), (q37, oX5 b41), (b41 0, .inl (cJ, 240, .inr (.inl (fun _ => 0)))), (b41 1, .inl (cZ, 4, .inl (fun _ => 0))), (b41 2, .inl (cI, 4, .inl (fun _ => 0))), (b41 3, .inl (cI, 4, .inl (fun _ => 0)))] H := hP
  have hD : va_D A [(h0, .inr (9, [.ref q1, .ref q8, .ref q13, .ref q14, .ref q18, .ref q23, .ref q28, .ref q33, .ref q37, .null, .null])), (q1, oX4 b5 0 (-1) 0 0 0), (b5 2, oX8 bt6 0), (bt6 0, .inl (cB, 900, .inl (fun _ => 0))), (b5 3, oX0 bc7 0 0 0 0 0 0 0 0 0 0), (bc7 10, .inl (cI, 12, .inl (fun _ => 0))), (bc7 11, .inl (cI, 6, .inl (fun _ => 0))), (bc7 12, .inl (cI, 7, .inl (fun _ => 0))), (bc7 13, .inl (cI, 7, .inl (fun _ => 0))), (bc7 14, .inl (cI, 7, .inl (fun _ => 0))), (bc7 15, .inl (cI, 7, .inl (fun _ => 0))), (bc7 16, .inl (cI, 7, .inl (fun _ => 0))), (bc7 17, .inl (cI, 56, .inl (fun _ => 0))), (bc7 18, .inl (cI, 30, .inl (fun _ => 0))), (q8, oX0 b12 0 0 0 0 0 0 0 0 0 0), (b12 10, .inl (cI, 12, .inl (fun _ => 0))), (b12 11, .inl (cI, 6, .inl (fun _ => 0))), (b12 12, .inl (cI, 7, .inl (fun _ => 0))), (b12 13, .inl (cI, 7, .inl (fun _ => 0))), (b12 14, .inl (cI, 7, .inl (fun _ => 0))), (b12 15, .inl (cI, 7, .inl (fun _ => 0))), (b12 16, .inl (cI, 7, .inl (fun _ => 0))), (b12 17, .inl (cI, 56, .inl (fun _ => 0))), (b12 18, .inl (cI, 30, .inl (fun _ => 0))), (q13, .inl (cQ, 3, .inr (.inr (.inr (.inr (fun _ => none)))))), (q14, oX7 z0 0 0 0 0 0 0), (q18, oX6 b22 0 0), (b22 0, .inl (cI, 287, .inl (fun _ => 0))), (b22 1, .inl (cI, 7, .inl (fun _ => 0))), (b22 2, .inl (cI, 7, .inl (fun _ => 0))), (b22 3, .inl (cJ, 7, .inr (.inl (fun _ => 0)))), (b22 4, .inl (cI, 7, .inl (fun _ => 0))), (b22 5, .inl (cI, 6, .inl (fun _ => 0))), (b22 6, .inl (cI, 78, .inl (fun _ => 0))), (b22 7, .inl (cJ, 13, .inr (.inl (fun _ => 0)))), (b22 8, .inl (cJ, 13, .inr (.inl (fun _ => 0)))), (b22 9, .inl (cJ, 13, .inr (.inl (fun _ => 0)))), (q23, oX6 b27 0 0), (b27 0, .inl (cI, 287, .inl (fun _ => 0))), (b27 1, .inl (cI, 7, .inl (fun _ => 0))), (b27 2, .inl (cI, 7, .inl (fun _ => 0))), (b27 3, .inl (cJ, 7, .inr (.inl (fun _ => 0)))), (b27 4, .inl (cI, 7, .inl (fun _ => 0))), (b27 5, .inl (cI, 6, .inl (fun _ => 0))), (b27 6, .inl (cI, 78, .inl (fun _ => 0))), (b27 7, .inl (cJ, 13, .inr (.inl (fun _ => 0)))), (b27 8, .inl (cJ, 13, .inr (.inl (fun _ => 0)))), (b27 9, .inl (cJ, 13, .inr (.inl (fun _ => 0)))), (q28, oX1 b32 0), (b32 0, .inl (cJ, 128, .inr (.inl (fun _ => 0)))), (b32 1, .inl (cI, 128, .inl (fun _ => 0))), (q33, oX3 z0 0 0 0), (q37, oX5 b41), (b41 0, .inl (cJ, 240, .inr (.inl (fun _ => 0)))), (b41 1, .inl (cZ, 4, .inl (fun _ => 0))), (b41 2, .inl (cI, 4, .inl (fun _ => 0))), (b41 3, .inl (cI, 4, .inl (fun _ => 0)))] := hD
  refine lv_aload_n hx hb dX9_init_100 rfl (lv_at hl 0 rfl) ?_
  refine va_new (ci := 2) (fs := [.long 0, .long 0]) (C := RX2) (T := TX2) (N := 2) hx hb hts iG_X2 tyX2 tyX2_ok hown (hts _ w_338) (hts _ w_339) (hts _ w_10) hK hP hD hS hA rfl (nf_X2) (Nat.le_of_ble_eq_true rfl) (Nat.le_of_ble_eq_true rfl) dX9_init_101 (fun q42 H hP hD hS => ?_)
  have hP : va_P G vwCl [(h0, .inr (9, [.ref q1, .ref q8, .ref q13, .ref q14, .ref q18, .ref q23, .ref q28, .ref q33, .ref q37, .null, .null])), (q1, oX4 b5 0 (-1) 0 0 0), (b5 2, oX8 bt6 0), (bt6 0, .inl (cB, 900, .inl (fun _ => 0))), (b5 3, oX0 bc7 0 0 0 0 0 0 0 0 0 0), (bc7 10, .inl (cI, 12, .inl (fun _ => 0))), (bc7 11, .inl (cI, 6, .inl (fun _ => 0))), (bc7 12, .inl (cI, 7, .inl (fun _ => 0))), (bc7 13, .inl (cI, 7, .inl (fun _ => 0))), (bc7 14, .inl (cI, 7, .inl (fun _ => 0))), (bc7 15, .inl (cI, 7, .inl (fun _ => 0))), (bc7 16, .inl (cI, 7, .inl (fun _ => 0))), (bc7 17, .inl (cI, 56, .inl (fun _ => 0))), (bc7 18, .inl (cI, 30, .inl (fun _ => 0))), (q8, oX0 b12 0 0 0 0 0 0 0 0 0 0), (b12 10, .inl (cI, 12, .inl (fun _ => 0))), (b12 11, .inl (cI, 6, .inl (fun _ => 0))), (b12 12, .inl (cI, 7, .inl (fun _ => 0))), (b12 13, .inl (cI, 7, .inl (fun _ => 0))), (b12 14, .inl (cI, 7, .inl (fun _ => 0))), (b12 15, .inl (cI, 7, .inl (fun _ => 0))), (b12 16, .inl (cI, 7, .inl (fun _ => 0))), (b12 17, .inl (cI, 56, .inl (fun _ => 0))), (b12 18, .inl (cI, 30, .inl (fun _ => 0))), (q13, .inl (cQ, 3, .inr (.inr (.inr (.inr (fun _ => none)))))), (q14, oX7 z0 0 0 0 0 0 0), (q18, oX6 b22 0 0), (b22 0, .inl (cI, 287, .inl (fun _ => 0))), (b22 1, .inl (cI, 7, .inl (fun _ => 0))), (b22 2, .inl (cI, 7, .inl (fun _ => 0))), (b22 3, .inl (cJ, 7, .inr (.inl (fun _ => 0)))), (b22 4, .inl (cI, 7, .inl (fun _ => 0))), (b22 5, .inl (cI, 6, .inl (fun _ => 0))), (b22 6, .inl (cI, 78, .inl (fun _ => 0))), (b22 7, .inl (cJ, 13, .inr (.inl (fun _ => 0)))), (b22 8, .inl (cJ, 13, .inr (.inl (fun _ => 0)))), (b22 9, .inl (cJ, 13, .inr (.inl (fun _ => 0)))), (q23, oX6 b27 0 0), (b27 0, .inl (cI, 287, .inl (fun _ => 0))), (b27 1, .inl (cI, 7, .inl (fun _ => 0))), (b27 2, .inl (cI, 7, .inl (fun _ => 0))), (b27 3, .inl (cJ, 7, .inr (.inl (fun _ => 0)))), (b27 4, .inl (cI, 7, .inl (fun _ => 0))), (b27 5, .inl (cI, 6, .inl (fun _ => 0))), (b27 6, .inl (cI, 78, .inl (fun _ => 0))), (b27 7, .inl (cJ, 13, .inr (.inl (fun _ => 0)))), (b27 8, .inl (cJ, 13, .inr (.inl (fun _ => 0)))), (b27 9, .inl (cJ, 13, .inr (.inl (fun _ => 0)))), (q28, oX1 b32 0), (b32 0, .inl (cJ, 128, .inr (.inl (fun _ => 0)))), (b32 1, .inl (cI, 128, .inl (fun _ => 0))), (q33, oX3 z0 0 0 0), (q37, oX5 b41), (b41 0, .inl (cJ, 240, .inr (.inl (fun _ => 0)))), (b41 1, .inl (cZ, 4, .inl (fun _ => 0))), (b41 2, .inl (cI, 4, .inl (fun _ => 0))), (b41 3, .inl (cI, 4, .inl (fun _ => 0))), (q42, .inr (2, [.long 0, .long 0]))] H := hP
  have hD : va_D A [(h0, .inr (9, [.ref q1, .ref q8, .ref q13, .ref q14, .ref q18, .ref q23, .ref q28, .ref q33, .ref q37, .null, .null])), (q1, oX4 b5 0 (-1) 0 0 0), (b5 2, oX8 bt6 0), (bt6 0, .inl (cB, 900, .inl (fun _ => 0))), (b5 3, oX0 bc7 0 0 0 0 0 0 0 0 0 0), (bc7 10, .inl (cI, 12, .inl (fun _ => 0))), (bc7 11, .inl (cI, 6, .inl (fun _ => 0))), (bc7 12, .inl (cI, 7, .inl (fun _ => 0))), (bc7 13, .inl (cI, 7, .inl (fun _ => 0))), (bc7 14, .inl (cI, 7, .inl (fun _ => 0))), (bc7 15, .inl (cI, 7, .inl (fun _ => 0))), (bc7 16, .inl (cI, 7, .inl (fun _ => 0))), (bc7 17, .inl (cI, 56, .inl (fun _ => 0))), (bc7 18, .inl (cI, 30, .inl (fun _ => 0))), (q8, oX0 b12 0 0 0 0 0 0 0 0 0 0), (b12 10, .inl (cI, 12, .inl (fun _ => 0))), (b12 11, .inl (cI, 6, .inl (fun _ => 0))), (b12 12, .inl (cI, 7, .inl (fun _ => 0))), (b12 13, .inl (cI, 7, .inl (fun _ => 0))), (b12 14, .inl (cI, 7, .inl (fun _ => 0))), (b12 15, .inl (cI, 7, .inl (fun _ => 0))), (b12 16, .inl (cI, 7, .inl (fun _ => 0))), (b12 17, .inl (cI, 56, .inl (fun _ => 0))), (b12 18, .inl (cI, 30, .inl (fun _ => 0))), (q13, .inl (cQ, 3, .inr (.inr (.inr (.inr (fun _ => none)))))), (q14, oX7 z0 0 0 0 0 0 0), (q18, oX6 b22 0 0), (b22 0, .inl (cI, 287, .inl (fun _ => 0))), (b22 1, .inl (cI, 7, .inl (fun _ => 0))), (b22 2, .inl (cI, 7, .inl (fun _ => 0))), (b22 3, .inl (cJ, 7, .inr (.inl (fun _ => 0)))), (b22 4, .inl (cI, 7, .inl (fun _ => 0))), (b22 5, .inl (cI, 6, .inl (fun _ => 0))), (b22 6, .inl (cI, 78, .inl (fun _ => 0))), (b22 7, .inl (cJ, 13, .inr (.inl (fun _ => 0)))), (b22 8, .inl (cJ, 13, .inr (.inl (fun _ => 0)))), (b22 9, .inl (cJ, 13, .inr (.inl (fun _ => 0)))), (q23, oX6 b27 0 0), (b27 0, .inl (cI, 287, .inl (fun _ => 0))), (b27 1, .inl (cI, 7, .inl (fun _ => 0))), (b27 2, .inl (cI, 7, .inl (fun _ => 0))), (b27 3, .inl (cJ, 7, .inr (.inl (fun _ => 0)))), (b27 4, .inl (cI, 7, .inl (fun _ => 0))), (b27 5, .inl (cI, 6, .inl (fun _ => 0))), (b27 6, .inl (cI, 78, .inl (fun _ => 0))), (b27 7, .inl (cJ, 13, .inr (.inl (fun _ => 0)))), (b27 8, .inl (cJ, 13, .inr (.inl (fun _ => 0)))), (b27 9, .inl (cJ, 13, .inr (.inl (fun _ => 0)))), (q28, oX1 b32 0), (b32 0, .inl (cJ, 128, .inr (.inl (fun _ => 0)))), (b32 1, .inl (cI, 128, .inl (fun _ => 0))), (q33, oX3 z0 0 0 0), (q37, oX5 b41), (b41 0, .inl (cJ, 240, .inr (.inl (fun _ => 0)))), (b41 1, .inl (cZ, 4, .inl (fun _ => 0))), (b41 2, .inl (cI, 4, .inl (fun _ => 0))), (b41 3, .inl (cI, 4, .inl (fun _ => 0))), (q42, .inr (2, [.long 0, .long 0]))] := hD
  refine lv_dup hx hb dX9_init_104 rfl ?_
  refine k_v (wc := [(q42, .inr (2, [.long 0, .long 0]))]) (wr := [(h0, .inr (9, [.ref q1, .ref q8, .ref q13, .ref q14, .ref q18, .ref q23, .ref q28, .ref q33, .ref q37, .null, .null])), (q1, oX4 b5 0 (-1) 0 0 0), (b5 2, oX8 bt6 0), (bt6 0, .inl (cB, 900, .inl (fun _ => 0))), (b5 3, oX0 bc7 0 0 0 0 0 0 0 0 0 0), (bc7 10, .inl (cI, 12, .inl (fun _ => 0))), (bc7 11, .inl (cI, 6, .inl (fun _ => 0))), (bc7 12, .inl (cI, 7, .inl (fun _ => 0))), (bc7 13, .inl (cI, 7, .inl (fun _ => 0))), (bc7 14, .inl (cI, 7, .inl (fun _ => 0))), (bc7 15, .inl (cI, 7, .inl (fun _ => 0))), (bc7 16, .inl (cI, 7, .inl (fun _ => 0))), (bc7 17, .inl (cI, 56, .inl (fun _ => 0))), (bc7 18, .inl (cI, 30, .inl (fun _ => 0))), (q8, oX0 b12 0 0 0 0 0 0 0 0 0 0), (b12 10, .inl (cI, 12, .inl (fun _ => 0))), (b12 11, .inl (cI, 6, .inl (fun _ => 0))), (b12 12, .inl (cI, 7, .inl (fun _ => 0))), (b12 13, .inl (cI, 7, .inl (fun _ => 0))), (b12 14, .inl (cI, 7, .inl (fun _ => 0))), (b12 15, .inl (cI, 7, .inl (fun _ => 0))), (b12 16, .inl (cI, 7, .inl (fun _ => 0))), (b12 17, .inl (cI, 56, .inl (fun _ => 0))), (b12 18, .inl (cI, 30, .inl (fun _ => 0))), (q13, .inl (cQ, 3, .inr (.inr (.inr (.inr (fun _ => none)))))), (q14, oX7 z0 0 0 0 0 0 0), (q18, oX6 b22 0 0), (b22 0, .inl (cI, 287, .inl (fun _ => 0))), (b22 1, .inl (cI, 7, .inl (fun _ => 0))), (b22 2, .inl (cI, 7, .inl (fun _ => 0))), (b22 3, .inl (cJ, 7, .inr (.inl (fun _ => 0)))), (b22 4, .inl (cI, 7, .inl (fun _ => 0))), (b22 5, .inl (cI, 6, .inl (fun _ => 0))), (b22 6, .inl (cI, 78, .inl (fun _ => 0))), (b22 7, .inl (cJ, 13, .inr (.inl (fun _ => 0)))), (b22 8, .inl (cJ, 13, .inr (.inl (fun _ => 0)))), (b22 9, .inl (cJ, 13, .inr (.inl (fun _ => 0)))), (q23, oX6 b27 0 0), (b27 0, .inl (cI, 287, .inl (fun _ => 0))), (b27 1, .inl (cI, 7, .inl (fun _ => 0))), (b27 2, .inl (cI, 7, .inl (fun _ => 0))), (b27 3, .inl (cJ, 7, .inr (.inl (fun _ => 0)))), (b27 4, .inl (cI, 7, .inl (fun _ => 0))), (b27 5, .inl (cI, 6, .inl (fun _ => 0))), (b27 6, .inl (cI, 78, .inl (fun _ => 0))), (b27 7, .inl (cJ, 13, .inr (.inl (fun _ => 0)))), (b27 8, .inl (cJ, 13, .inr (.inl (fun _ => 0)))), (b27 9, .inl (cJ, 13, .inr (.inl (fun _ => 0)))), (q28, oX1 b32 0), (b32 0, .inl (cJ, 128, .inr (.inl (fun _ => 0)))), (b32 1, .inl (cI, 128, .inl (fun _ => 0))), (q33, oX3 z0 0 0 0), (q37, oX5 b41), (b41 0, .inl (cJ, 240, .inr (.inl (fun _ => 0)))), (b41 1, .inl (cZ, 4, .inl (fun _ => 0))), (b41 2, .inl (cI, 4, .inl (fun _ => 0))), (b41 3, .inl (cI, 4, .inl (fun _ => 0)))]) hP hD hS hA [57] [0, 1, 2, 3, 4, 5, 6, 7, 8, 9, 10, 11, 12, 13, 14, 15, 16, 17, 18, 19, 20, 21, 22, 23, 24, 25, 26, 27, 28, 29, 30, 31, 32, 33, 34, 35, 36, 37, 38, 39, 40, 41, 42, 43, 44, 45, 46, 47, 48, 49, 50, 51, 52, 53, 54, 55, 56] rfl rfl rfl (by decide) (va_runIN (As := []) (rest := [.ref q42, .ref h0]) ⟨hx, hb, hml, hown, hts⟩ (f_X2_init l G cI cJ cZ cB cQ _ q42) ⟨va_cnB (host := "WidowRoads") 0 hts (gW w_342) rfl rfl rfl (nz_nw hZ nw_340 rfl) (hts _ w_10) hd_X2_init ⟨Nat.le_of_ble_eq_true rfl, Nat.le_of_ble_eq_true rfl⟩, rfl, (hts _ w_341)⟩ (mS hK hZ hP hD [57] rfl rfl [.ref q42]) rfl rfl hl.1 rfl (lv_room (Nat.le_of_ble_eq_true rfl)) dX9_init_105 ⟨Nat.le_of_ble_eq_true rfl, Nat.le_of_ble_eq_true rfl⟩) (fun u44 H locs hw45 hP hD hS => ?_)
  have hP : va_P G vwCl [(h0, .inr (9, [.ref q1, .ref q8, .ref q13, .ref q14, .ref q18, .ref q23, .ref q28, .ref q33, .ref q37, .null, .null])), (q1, oX4 b5 0 (-1) 0 0 0), (b5 2, oX8 bt6 0), (bt6 0, .inl (cB, 900, .inl (fun _ => 0))), (b5 3, oX0 bc7 0 0 0 0 0 0 0 0 0 0), (bc7 10, .inl (cI, 12, .inl (fun _ => 0))), (bc7 11, .inl (cI, 6, .inl (fun _ => 0))), (bc7 12, .inl (cI, 7, .inl (fun _ => 0))), (bc7 13, .inl (cI, 7, .inl (fun _ => 0))), (bc7 14, .inl (cI, 7, .inl (fun _ => 0))), (bc7 15, .inl (cI, 7, .inl (fun _ => 0))), (bc7 16, .inl (cI, 7, .inl (fun _ => 0))), (bc7 17, .inl (cI, 56, .inl (fun _ => 0))), (bc7 18, .inl (cI, 30, .inl (fun _ => 0))), (q8, oX0 b12 0 0 0 0 0 0 0 0 0 0), (b12 10, .inl (cI, 12, .inl (fun _ => 0))), (b12 11, .inl (cI, 6, .inl (fun _ => 0))), (b12 12, .inl (cI, 7, .inl (fun _ => 0))), (b12 13, .inl (cI, 7, .inl (fun _ => 0))), (b12 14, .inl (cI, 7, .inl (fun _ => 0))), (b12 15, .inl (cI, 7, .inl (fun _ => 0))), (b12 16, .inl (cI, 7, .inl (fun _ => 0))), (b12 17, .inl (cI, 56, .inl (fun _ => 0))), (b12 18, .inl (cI, 30, .inl (fun _ => 0))), (q13, .inl (cQ, 3, .inr (.inr (.inr (.inr (fun _ => none)))))), (q14, oX7 z0 0 0 0 0 0 0), (q18, oX6 b22 0 0), (b22 0, .inl (cI, 287, .inl (fun _ => 0))), (b22 1, .inl (cI, 7, .inl (fun _ => 0))), (b22 2, .inl (cI, 7, .inl (fun _ => 0))), (b22 3, .inl (cJ, 7, .inr (.inl (fun _ => 0)))), (b22 4, .inl (cI, 7, .inl (fun _ => 0))), (b22 5, .inl (cI, 6, .inl (fun _ => 0))), (b22 6, .inl (cI, 78, .inl (fun _ => 0))), (b22 7, .inl (cJ, 13, .inr (.inl (fun _ => 0)))), (b22 8, .inl (cJ, 13, .inr (.inl (fun _ => 0)))), (b22 9, .inl (cJ, 13, .inr (.inl (fun _ => 0)))), (q23, oX6 b27 0 0), (b27 0, .inl (cI, 287, .inl (fun _ => 0))), (b27 1, .inl (cI, 7, .inl (fun _ => 0))), (b27 2, .inl (cI, 7, .inl (fun _ => 0))), (b27 3, .inl (cJ, 7, .inr (.inl (fun _ => 0)))), (b27 4, .inl (cI, 7, .inl (fun _ => 0))), (b27 5, .inl (cI, 6, .inl (fun _ => 0))), (b27 6, .inl (cI, 78, .inl (fun _ => 0))), (b27 7, .inl (cJ, 13, .inr (.inl (fun _ => 0)))), (b27 8, .inl (cJ, 13, .inr (.inl (fun _ => 0)))), (b27 9, .inl (cJ, 13, .inr (.inl (fun _ => 0)))), (q28, oX1 b32 0), (b32 0, .inl (cJ, 128, .inr (.inl (fun _ => 0)))), (b32 1, .inl (cI, 128, .inl (fun _ => 0))), (q33, oX3 z0 0 0 0), (q37, oX5 b41), (b41 0, .inl (cJ, 240, .inr (.inl (fun _ => 0)))), (b41 1, .inl (cZ, 4, .inl (fun _ => 0))), (b41 2, .inl (cI, 4, .inl (fun _ => 0))), (b41 3, .inl (cI, 4, .inl (fun _ => 0))), (q42, oX2 z0 0 1)] H := hP
  have hD : va_D A [(h0, .inr (9, [.ref q1, .ref q8, .ref q13, .ref q14, .ref q18, .ref q23, .ref q28, .ref q33, .ref q37, .null, .null])), (q1, oX4 b5 0 (-1) 0 0 0), (b5 2, oX8 bt6 0), (bt6 0, .inl (cB, 900, .inl (fun _ => 0))), (b5 3, oX0 bc7 0 0 0 0 0 0 0 0 0 0), (bc7 10, .inl (cI, 12, .inl (fun _ => 0))), (bc7 11, .inl (cI, 6, .inl (fun _ => 0))), (bc7 12, .inl (cI, 7, .inl (fun _ => 0))), (bc7 13, .inl (cI, 7, .inl (fun _ => 0))), (bc7 14, .inl (cI, 7, .inl (fun _ => 0))), (bc7 15, .inl (cI, 7, .inl (fun _ => 0))), (bc7 16, .inl (cI, 7, .inl (fun _ => 0))), (bc7 17, .inl (cI, 56, .inl (fun _ => 0))), (bc7 18, .inl (cI, 30, .inl (fun _ => 0))), (q8, oX0 b12 0 0 0 0 0 0 0 0 0 0), (b12 10, .inl (cI, 12, .inl (fun _ => 0))), (b12 11, .inl (cI, 6, .inl (fun _ => 0))), (b12 12, .inl (cI, 7, .inl (fun _ => 0))), (b12 13, .inl (cI, 7, .inl (fun _ => 0))), (b12 14, .inl (cI, 7, .inl (fun _ => 0))), (b12 15, .inl (cI, 7, .inl (fun _ => 0))), (b12 16, .inl (cI, 7, .inl (fun _ => 0))), (b12 17, .inl (cI, 56, .inl (fun _ => 0))), (b12 18, .inl (cI, 30, .inl (fun _ => 0))), (q13, .inl (cQ, 3, .inr (.inr (.inr (.inr (fun _ => none)))))), (q14, oX7 z0 0 0 0 0 0 0), (q18, oX6 b22 0 0), (b22 0, .inl (cI, 287, .inl (fun _ => 0))), (b22 1, .inl (cI, 7, .inl (fun _ => 0))), (b22 2, .inl (cI, 7, .inl (fun _ => 0))), (b22 3, .inl (cJ, 7, .inr (.inl (fun _ => 0)))), (b22 4, .inl (cI, 7, .inl (fun _ => 0))), (b22 5, .inl (cI, 6, .inl (fun _ => 0))), (b22 6, .inl (cI, 78, .inl (fun _ => 0))), (b22 7, .inl (cJ, 13, .inr (.inl (fun _ => 0)))), (b22 8, .inl (cJ, 13, .inr (.inl (fun _ => 0)))), (b22 9, .inl (cJ, 13, .inr (.inl (fun _ => 0)))), (q23, oX6 b27 0 0), (b27 0, .inl (cI, 287, .inl (fun _ => 0))), (b27 1, .inl (cI, 7, .inl (fun _ => 0))), (b27 2, .inl (cI, 7, .inl (fun _ => 0))), (b27 3, .inl (cJ, 7, .inr (.inl (fun _ => 0)))), (b27 4, .inl (cI, 7, .inl (fun _ => 0))), (b27 5, .inl (cI, 6, .inl (fun _ => 0))), (b27 6, .inl (cI, 78, .inl (fun _ => 0))), (b27 7, .inl (cJ, 13, .inr (.inl (fun _ => 0)))), (b27 8, .inl (cJ, 13, .inr (.inl (fun _ => 0)))), (b27 9, .inl (cJ, 13, .inr (.inl (fun _ => 0)))), (q28, oX1 b32 0), (b32 0, .inl (cJ, 128, .inr (.inl (fun _ => 0)))), (b32 1, .inl (cI, 128, .inl (fun _ => 0))), (q33, oX3 z0 0 0 0), (q37, oX5 b41), (b41 0, .inl (cJ, 240, .inr (.inl (fun _ => 0)))), (b41 1, .inl (cZ, 4, .inl (fun _ => 0))), (b41 2, .inl (cI, 4, .inl (fun _ => 0))), (b41 3, .inl (cI, 4, .inl (fun _ => 0))), (q42, oX2 z0 0 1)] := hD
  refine va_putF (D := G) (ci := 9) (v := .ref q42) (ty := .object "WidowRoads$Fraction") (C := RX9) (T := TX9) (N := 11) hx hb hts iG_X9 tyX9 tyX9_ok nmX9 hown hK hP hD hS 0 rfl rfl 9 (by decide) (hts _ w_360) (fun _ h9 => h9) rfl hnm rfl (by decide +kernel) rfl rfl (Nat.le_of_ble_eq_true rfl) dX9_init_108 (fun H locs hP hD hS => ?_)
  have hP : va_P G vwCl [(h0, .inr (9, [.ref q1, .ref q8, .ref q13, .ref q14, .ref q18, .ref q23, .ref q28, .ref q33, .ref q37, .ref q42, .null])), (q1, oX4 b5 0 (-1) 0 0 0), (b5 2, oX8 bt6 0), (bt6 0, .inl (cB, 900, .inl (fun _ => 0))), (b5 3, oX0 bc7 0 0 0 0 0 0 0 0 0 0), (bc7 10, .inl (cI, 12, .inl (fun _ => 0))), (bc7 11, .inl (cI, 6, .inl (fun _ => 0))), (bc7 12, .inl (cI, 7, .inl (fun _ => 0))), (bc7 13, .inl (cI, 7, .inl (fun _ => 0))), (bc7 14, .inl (cI, 7, .inl (fun _ => 0))), (bc7 15, .inl (cI, 7, .inl (fun _ => 0))), (bc7 16, .inl (cI, 7, .inl (fun _ => 0))), (bc7 17, .inl (cI, 56, .inl (fun _ => 0))), (bc7 18, .inl (cI, 30, .inl (fun _ => 0))), (q8, oX0 b12 0 0 0 0 0 0 0 0 0 0), (b12 10, .inl (cI, 12, .inl (fun _ => 0))), (b12 11, .inl (cI, 6, .inl (fun _ => 0))), (b12 12, .inl (cI, 7, .inl (fun _ => 0))), (b12 13, .inl (cI, 7, .inl (fun _ => 0))), (b12 14, .inl (cI, 7, .inl (fun _ => 0))), (b12 15, .inl (cI, 7, .inl (fun _ => 0))), (b12 16, .inl (cI, 7, .inl (fun _ => 0))), (b12 17, .inl (cI, 56, .inl (fun _ => 0))), (b12 18, .inl (cI, 30, .inl (fun _ => 0))), (q13, .inl (cQ, 3, .inr (.inr (.inr (.inr (fun _ => none)))))), (q14, oX7 z0 0 0 0 0 0 0), (q18, oX6 b22 0 0), (b22 0, .inl (cI, 287, .inl (fun _ => 0))), (b22 1, .inl (cI, 7, .inl (fun _ => 0))), (b22 2, .inl (cI, 7, .inl (fun _ => 0))), (b22 3, .inl (cJ, 7, .inr (.inl (fun _ => 0)))), (b22 4, .inl (cI, 7, .inl (fun _ => 0))), (b22 5, .inl (cI, 6, .inl (fun _ => 0))), (b22 6, .inl (cI, 78, .inl (fun _ => 0))), (b22 7, .inl (cJ, 13, .inr (.inl (fun _ => 0)))), (b22 8, .inl (cJ, 13, .inr (.inl (fun _ => 0)))), (b22 9, .inl (cJ, 13, .inr (.inl (fun _ => 0)))), (q23, oX6 b27 0 0), (b27 0, .inl (cI, 287, .inl (fun _ => 0))), (b27 1, .inl (cI, 7, .inl (fun _ => 0))), (b27 2, .inl (cI, 7, .inl (fun _ => 0))), (b27 3, .inl (cJ, 7, .inr (.inl (fun _ => 0)))), (b27 4, .inl (cI, 7, .inl (fun _ => 0))), (b27 5, .inl (cI, 6, .inl (fun _ => 0))), (b27 6, .inl (cI, 78, .inl (fun _ => 0))), (b27 7, .inl (cJ, 13, .inr (.inl (fun _ => 0)))), (b27 8, .inl (cJ, 13, .inr (.inl (fun _ => 0)))), (b27 9, .inl (cJ, 13, .inr (.inl (fun _ => 0)))), (q28, oX1 b32 0), (b32 0, .inl (cJ, 128, .inr (.inl (fun _ => 0)))), (b32 1, .inl (cI, 128, .inl (fun _ => 0))), (q33, oX3 z0 0 0 0), (q37, oX5 b41), (b41 0, .inl (cJ, 240, .inr (.inl (fun _ => 0)))), (b41 1, .inl (cZ, 4, .inl (fun _ => 0))), (b41 2, .inl (cI, 4, .inl (fun _ => 0))), (b41 3, .inl (cI, 4, .inl (fun _ => 0))), (q42, oX2 z0 0 1)] H := hP
  have hD : va_D A [(h0, .inr (9, [.ref q1, .ref q8, .ref q13, .ref q14, .ref q18, .ref q23, .ref q28, .ref q33, .ref q37, .ref q42, .null])), (q1, oX4 b5 0 (-1) 0 0 0), (b5 2, oX8 bt6 0), (bt6 0, .inl (cB, 900, .inl (fun _ => 0))), (b5 3, oX0 bc7 0 0 0 0 0 0 0 0 0 0), (bc7 10, .inl (cI, 12, .inl (fun _ => 0))), (bc7 11, .inl (cI, 6, .inl (fun _ => 0))), (bc7 12, .inl (cI, 7, .inl (fun _ => 0))), (bc7 13, .inl (cI, 7, .inl (fun _ => 0))), (bc7 14, .inl (cI, 7, .inl (fun _ => 0))), (bc7 15, .inl (cI, 7, .inl (fun _ => 0))), (bc7 16, .inl (cI, 7, .inl (fun _ => 0))), (bc7 17, .inl (cI, 56, .inl (fun _ => 0))), (bc7 18, .inl (cI, 30, .inl (fun _ => 0))), (q8, oX0 b12 0 0 0 0 0 0 0 0 0 0), (b12 10, .inl (cI, 12, .inl (fun _ => 0))), (b12 11, .inl (cI, 6, .inl (fun _ => 0))), (b12 12, .inl (cI, 7, .inl (fun _ => 0))), (b12 13, .inl (cI, 7, .inl (fun _ => 0))), (b12 14, .inl (cI, 7, .inl (fun _ => 0))), (b12 15, .inl (cI, 7, .inl (fun _ => 0))), (b12 16, .inl (cI, 7, .inl (fun _ => 0))), (b12 17, .inl (cI, 56, .inl (fun _ => 0))), (b12 18, .inl (cI, 30, .inl (fun _ => 0))), (q13, .inl (cQ, 3, .inr (.inr (.inr (.inr (fun _ => none)))))), (q14, oX7 z0 0 0 0 0 0 0), (q18, oX6 b22 0 0), (b22 0, .inl (cI, 287, .inl (fun _ => 0))), (b22 1, .inl (cI, 7, .inl (fun _ => 0))), (b22 2, .inl (cI, 7, .inl (fun _ => 0))), (b22 3, .inl (cJ, 7, .inr (.inl (fun _ => 0)))), (b22 4, .inl (cI, 7, .inl (fun _ => 0))), (b22 5, .inl (cI, 6, .inl (fun _ => 0))), (b22 6, .inl (cI, 78, .inl (fun _ => 0))), (b22 7, .inl (cJ, 13, .inr (.inl (fun _ => 0)))), (b22 8, .inl (cJ, 13, .inr (.inl (fun _ => 0)))), (b22 9, .inl (cJ, 13, .inr (.inl (fun _ => 0)))), (q23, oX6 b27 0 0), (b27 0, .inl (cI, 287, .inl (fun _ => 0))), (b27 1, .inl (cI, 7, .inl (fun _ => 0))), (b27 2, .inl (cI, 7, .inl (fun _ => 0))), (b27 3, .inl (cJ, 7, .inr (.inl (fun _ => 0)))), (b27 4, .inl (cI, 7, .inl (fun _ => 0))), (b27 5, .inl (cI, 6, .inl (fun _ => 0))), (b27 6, .inl (cI, 78, .inl (fun _ => 0))), (b27 7, .inl (cJ, 13, .inr (.inl (fun _ => 0)))), (b27 8, .inl (cJ, 13, .inr (.inl (fun _ => 0)))), (b27 9, .inl (cJ, 13, .inr (.inl (fun _ => 0)))), (q28, oX1 b32 0), (b32 0, .inl (cJ, 128, .inr (.inl (fun _ => 0)))), (b32 1, .inl (cI, 128, .inl (fun _ => 0))), (q33, oX3 z0 0 0 0), (q37, oX5 b41), (b41 0, .inl (cJ, 240, .inr (.inl (fun _ => 0)))), (b41 1, .inl (cZ, 4, .inl (fun _ => 0))), (b41 2, .inl (cI, 4, .inl (fun _ => 0))), (b41 3, .inl (cI, 4, .inl (fun _ => 0))), (q42, oX2 z0 0 1)] := hD
  refine lv_aload_n hx hb dX9_init_111 rfl (lv_at hl 0 rfl) ?_
  refine lv_sipush (v := 164) hx hb dX9_init_112 (by decide) ?_
  refine m_newa (atype := .int) (n := 164) (N' := 164) (a0 := (164, .inl (fun _ => 0))) hx hb (hts _ w_162) rfl rfl hK 0 rfl hP hD hS hA (fun _ => rfl) (by decide) (by decide) (Nat.le_of_ble_eq_true rfl) (Nat.le_of_ble_eq_true rfl) (Nat.le_of_ble_eq_true rfl) dX9_init_115 (fun q46 H hP hD hS => ?_)
  have hP : va_P G vwCl [(h0, .inr (9, [.ref q1, .ref q8, .ref q13, .ref q14, .ref q18, .ref q23, .ref q28, .ref q33, .ref q37, .ref q42, .null])), (q1, oX4 b5 0 (-1) 0 0 0), (b5 2, oX8 bt6 0), (bt6 0, .inl (cB, 900, .inl (fun _ => 0))), (b5 3, oX0 bc7 0 0 0 0 0 0 0 0 0 0), (bc7 10, .inl (cI, 12, .inl (fun _ => 0))), (bc7 11, .inl (cI, 6, .inl (fun _ => 0))), (bc7 12, .inl (cI, 7, .inl (fun _ => 0))), (bc7 13, .inl (cI, 7, .inl (fun _ => 0))), (bc7 14, .inl (cI, 7, .inl (fun _ => 0))), (bc7 15, .inl (cI, 7, .inl (fun _ => 0))), (bc7 16, .inl (cI, 7, .inl (fun _ => 0))), (bc7 17, .inl (cI, 56, .inl (fun _ => 0))), (bc7 18, .inl (cI, 30, .inl (fun _ => 0))), (q8, oX0 b12 0 0 0 0 0 0 0 0 0 0), (b12 10, .inl (cI, 12, .inl (fun _ => 0))), (b12 11, .inl (cI, 6, .inl (fun _ => 0))), (b12 12, .inl (cI, 7, .inl (fun _ => 0))), (b12 13, .inl (cI, 7, .inl (fun _ => 0))), (b12 14, .inl (cI, 7, .inl (fun _ => 0))), (b12 15, .inl (cI, 7, .inl (fun _ => 0))), (b12 16, .inl (cI, 7, .inl (fun _ => 0))), (b12 17, .inl (cI, 56, .inl (fun _ => 0))), (b12 18, .inl (cI, 30, .inl (fun _ => 0))), (q13, .inl (cQ, 3, .inr (.inr (.inr (.inr (fun _ => none)))))), (q14, oX7 z0 0 0 0 0 0 0), (q18, oX6 b22 0 0), (b22 0, .inl (cI, 287, .inl (fun _ => 0))), (b22 1, .inl (cI, 7, .inl (fun _ => 0))), (b22 2, .inl (cI, 7, .inl (fun _ => 0))), (b22 3, .inl (cJ, 7, .inr (.inl (fun _ => 0)))), (b22 4, .inl (cI, 7, .inl (fun _ => 0))), (b22 5, .inl (cI, 6, .inl (fun _ => 0))), (b22 6, .inl (cI, 78, .inl (fun _ => 0))), (b22 7, .inl (cJ, 13, .inr (.inl (fun _ => 0)))), (b22 8, .inl (cJ, 13, .inr (.inl (fun _ => 0)))), (b22 9, .inl (cJ, 13, .inr (.inl (fun _ => 0)))), (q23, oX6 b27 0 0), (b27 0, .inl (cI, 287, .inl (fun _ => 0))), (b27 1, .inl (cI, 7, .inl (fun _ => 0))), (b27 2, .inl (cI, 7, .inl (fun _ => 0))), (b27 3, .inl (cJ, 7, .inr (.inl (fun _ => 0)))), (b27 4, .inl (cI, 7, .inl (fun _ => 0))), (b27 5, .inl (cI, 6, .inl (fun _ => 0))), (b27 6, .inl (cI, 78, .inl (fun _ => 0))), (b27 7, .inl (cJ, 13, .inr (.inl (fun _ => 0)))), (b27 8, .inl (cJ, 13, .inr (.inl (fun _ => 0)))), (b27 9, .inl (cJ, 13, .inr (.inl (fun _ => 0)))), (q28, oX1 b32 0), (b32 0, .inl (cJ, 128, .inr (.inl (fun _ => 0)))), (b32 1, .inl (cI, 128, .inl (fun _ => 0))), (q33, oX3 z0 0 0 0), (q37, oX5 b41), (b41 0, .inl (cJ, 240, .inr (.inl (fun _ => 0)))), (b41 1, .inl (cZ, 4, .inl (fun _ => 0))), (b41 2, .inl (cI, 4, .inl (fun _ => 0))), (b41 3, .inl (cI, 4, .inl (fun _ => 0))), (q42, oX2 z0 0 1), (q46, .inl (cI, 164, .inl (fun _ => 0)))] H := hP
  have hD : va_D A [(h0, .inr (9, [.ref q1, .ref q8, .ref q13, .ref q14, .ref q18, .ref q23, .ref q28, .ref q33, .ref q37, .ref q42, .null])), (q1, oX4 b5 0 (-1) 0 0 0), (b5 2, oX8 bt6 0), (bt6 0, .inl (cB, 900, .inl (fun _ => 0))), (b5 3, oX0 bc7 0 0 0 0 0 0 0 0 0 0), (bc7 10, .inl (cI, 12, .inl (fun _ => 0))), (bc7 11, .inl (cI, 6, .inl (fun _ => 0))), (bc7 12, .inl (cI, 7, .inl (fun _ => 0))), (bc7 13, .inl (cI, 7, .inl (fun _ => 0))), (bc7 14, .inl (cI, 7, .inl (fun _ => 0))), (bc7 15, .inl (cI, 7, .inl (fun _ => 0))), (bc7 16, .inl (cI, 7, .inl (fun _ => 0))), (bc7 17, .inl (cI, 56, .inl (fun _ => 0))), (bc7 18, .inl (cI, 30, .inl (fun _ => 0))), (q8, oX0 b12 0 0 0 0 0 0 0 0 0 0), (b12 10, .inl (cI, 12, .inl (fun _ => 0))), (b12 11, .inl (cI, 6, .inl (fun _ => 0))), (b12 12, .inl (cI, 7, .inl (fun _ => 0))), (b12 13, .inl (cI, 7, .inl (fun _ => 0))), (b12 14, .inl (cI, 7, .inl (fun _ => 0))), (b12 15, .inl (cI, 7, .inl (fun _ => 0))), (b12 16, .inl (cI, 7, .inl (fun _ => 0))), (b12 17, .inl (cI, 56, .inl (fun _ => 0))), (b12 18, .inl (cI, 30, .inl (fun _ => 0))), (q13, .inl (cQ, 3, .inr (.inr (.inr (.inr (fun _ => none)))))), (q14, oX7 z0 0 0 0 0 0 0), (q18, oX6 b22 0 0), (b22 0, .inl (cI, 287, .inl (fun _ => 0))), (b22 1, .inl (cI, 7, .inl (fun _ => 0))), (b22 2, .inl (cI, 7, .inl (fun _ => 0))), (b22 3, .inl (cJ, 7, .inr (.inl (fun _ => 0)))), (b22 4, .inl (cI, 7, .inl (fun _ => 0))), (b22 5, .inl (cI, 6, .inl (fun _ => 0))), (b22 6, .inl (cI, 78, .inl (fun _ => 0))), (b22 7, .inl (cJ, 13, .inr (.inl (fun _ => 0)))), (b22 8, .inl (cJ, 13, .inr (.inl (fun _ => 0)))), (b22 9, .inl (cJ, 13, .inr (.inl (fun _ => 0)))), (q23, oX6 b27 0 0), (b27 0, .inl (cI, 287, .inl (fun _ => 0))), (b27 1, .inl (cI, 7, .inl (fun _ => 0))), (b27 2, .inl (cI, 7, .inl (fun _ => 0))), (b27 3, .inl (cJ, 7, .inr (.inl (fun _ => 0)))), (b27 4, .inl (cI, 7, .inl (fun _ => 0))), (b27 5, .inl (cI, 6, .inl (fun _ => 0))), (b27 6, .inl (cI, 78, .inl (fun _ => 0))), (b27 7, .inl (cJ, 13, .inr (.inl (fun _ => 0)))), (b27 8, .inl (cJ, 13, .inr (.inl (fun _ => 0)))), (b27 9, .inl (cJ, 13, .inr (.inl (fun _ => 0)))), (q28, oX1 b32 0), (b32 0, .inl (cJ, 128, .inr (.inl (fun _ => 0)))), (b32 1, .inl (cI, 128, .inl (fun _ => 0))), (q33, oX3 z0 0 0 0), (q37, oX5 b41), (b41 0, .inl (cJ, 240, .inr (.inl (fun _ => 0)))), (b41 1, .inl (cZ, 4, .inl (fun _ => 0))), (b41 2, .inl (cI, 4, .inl (fun _ => 0))), (b41 3, .inl (cI, 4, .inl (fun _ => 0))), (q42, oX2 z0 0 1), (q46, .inl (cI, 164, .inl (fun _ => 0)))] := hD
  refine va_putF (D := G) (ci := 9) (v := .ref q46) (ty := .array .int) (C := RX9) (T := TX9) (N := 11) hx hb hts iG_X9 tyX9 tyX9_ok nmX9 hown hK hP hD hS 0 rfl rfl 10 (by decide) (hts _ w_361) (fun _ h9 => h9) rfl hnm rfl (by decide +kernel) rfl rfl (Nat.le_of_ble_eq_true rfl) dX9_init_117 (fun H locs hP hD hS => ?_)
  have hP : va_P G vwCl [(h0, .inr (9, [.ref q1, .ref q8, .ref q13, .ref q14, .ref q18, .ref q23, .ref q28, .ref q33, .ref q37, .ref q42, .ref q46])), (q1, oX4 b5 0 (-1) 0 0 0), (b5 2, oX8 bt6 0), (bt6 0, .inl (cB, 900, .inl (fun _ => 0))), (b5 3, oX0 bc7 0 0 0 0 0 0 0 0 0 0), (bc7 10, .inl (cI, 12, .inl (fun _ => 0))), (bc7 11, .inl (cI, 6, .inl (fun _ => 0))), (bc7 12, .inl (cI, 7, .inl (fun _ => 0))), (bc7 13, .inl (cI, 7, .inl (fun _ => 0))), (bc7 14, .inl (cI, 7, .inl (fun _ => 0))), (bc7 15, .inl (cI, 7, .inl (fun _ => 0))), (bc7 16, .inl (cI, 7, .inl (fun _ => 0))), (bc7 17, .inl (cI, 56, .inl (fun _ => 0))), (bc7 18, .inl (cI, 30, .inl (fun _ => 0))), (q8, oX0 b12 0 0 0 0 0 0 0 0 0 0), (b12 10, .inl (cI, 12, .inl (fun _ => 0))), (b12 11, .inl (cI, 6, .inl (fun _ => 0))), (b12 12, .inl (cI, 7, .inl (fun _ => 0))), (b12 13, .inl (cI, 7, .inl (fun _ => 0))), (b12 14, .inl (cI, 7, .inl (fun _ => 0))), (b12 15, .inl (cI, 7, .inl (fun _ => 0))), (b12 16, .inl (cI, 7, .inl (fun _ => 0))), (b12 17, .inl (cI, 56, .inl (fun _ => 0))), (b12 18, .inl (cI, 30, .inl (fun _ => 0))), (q13, .inl (cQ, 3, .inr (.inr (.inr (.inr (fun _ => none)))))), (q14, oX7 z0 0 0 0 0 0 0), (q18, oX6 b22 0 0), (b22 0, .inl (cI, 287, .inl (fun _ => 0))), (b22 1, .inl (cI, 7, .inl (fun _ => 0))), (b22 2, .inl (cI, 7, .inl (fun _ => 0))), (b22 3, .inl (cJ, 7, .inr (.inl (fun _ => 0)))), (b22 4, .inl (cI, 7, .inl (fun _ => 0))), (b22 5, .inl (cI, 6, .inl (fun _ => 0))), (b22 6, .inl (cI, 78, .inl (fun _ => 0))), (b22 7, .inl (cJ, 13, .inr (.inl (fun _ => 0)))), (b22 8, .inl (cJ, 13, .inr (.inl (fun _ => 0)))), (b22 9, .inl (cJ, 13, .inr (.inl (fun _ => 0)))), (q23, oX6 b27 0 0), (b27 0, .inl (cI, 287, .inl (fun _ => 0))), (b27 1, .inl (cI, 7, .inl (fun _ => 0))), (b27 2, .inl (cI, 7, .inl (fun _ => 0))), (b27 3, .inl (cJ, 7, .inr (.inl (fun _ => 0)))), (b27 4, .inl (cI, 7, .inl (fun _ => 0))), (b27 5, .inl (cI, 6, .inl (fun _ => 0))), (b27 6, .inl (cI, 78, .inl (fun _ => 0))), (b27 7, .inl (cJ, 13, .inr (.inl (fun _ => 0)))), (b27 8, .inl (cJ, 13, .inr (.inl (fun _ => 0)))), (b27 9, .inl (cJ, 13, .inr (.inl (fun _ => 0)))), (q28, oX1 b32 0), (b32 0, .inl (cJ, 128, .inr (.inl (fun _ => 0)))), (b32 1, .inl (cI, 128, .inl (fun _ => 0))), (q33, oX3 z0 0 0 0), (q37, oX5 b41), (b41 0, .inl (cJ, 240, .inr (.inl (fun _ => 0)))), (b41 1, .inl (cZ, 4, .inl (fun _ => 0))), (b41 2, .inl (cI, 4, .inl (fun _ => 0))), (b41 3, .inl (cI, 4, .inl (fun _ => 0))), (q42, oX2 z0 0 1), (q46, .inl (cI, 164, .inl (fun _ => 0)))] H := hP
  have hD : va_D A [(h0, .inr (9, [.ref q1, .ref q8, .ref q13, .ref q14, .ref q18, .ref q23, .ref q28, .ref q33, .ref q37, .ref q42, .ref q46])), (q1, oX4 b5 0 (-1) 0 0 0), (b5 2, oX8 bt6 0), (bt6 0, .inl (cB, 900, .inl (fun _ => 0))), (b5 3, oX0 bc7 0 0 0 0 0 0 0 0 0 0), (bc7 10, .inl (cI, 12, .inl (fun _ => 0))), (bc7 11, .inl (cI, 6, .inl (fun _ => 0))), (bc7 12, .inl (cI, 7, .inl (fun _ => 0))), (bc7 13, .inl (cI, 7, .inl (fun _ => 0))), (bc7 14, .inl (cI, 7, .inl (fun _ => 0))), (bc7 15, .inl (cI, 7, .inl (fun _ => 0))), (bc7 16, .inl (cI, 7, .inl (fun _ => 0))), (bc7 17, .inl (cI, 56, .inl (fun _ => 0))), (bc7 18, .inl (cI, 30, .inl (fun _ => 0))), (q8, oX0 b12 0 0 0 0 0 0 0 0 0 0), (b12 10, .inl (cI, 12, .inl (fun _ => 0))), (b12 11, .inl (cI, 6, .inl (fun _ => 0))), (b12 12, .inl (cI, 7, .inl (fun _ => 0))), (b12 13, .inl (cI, 7, .inl (fun _ => 0))), (b12 14, .inl (cI, 7, .inl (fun _ => 0))), (b12 15, .inl (cI, 7, .inl (fun _ => 0))), (b12 16, .inl (cI, 7, .inl (fun _ => 0))), (b12 17, .inl (cI, 56, .inl (fun _ => 0))), (b12 18, .inl (cI, 30, .inl (fun _ => 0))), (q13, .inl (cQ, 3, .inr (.inr (.inr (.inr (fun _ => none)))))), (q14, oX7 z0 0 0 0 0 0 0), (q18, oX6 b22 0 0), (b22 0, .inl (cI, 287, .inl (fun _ => 0))), (b22 1, .inl (cI, 7, .inl (fun _ => 0))), (b22 2, .inl (cI, 7, .inl (fun _ => 0))), (b22 3, .inl (cJ, 7, .inr (.inl (fun _ => 0)))), (b22 4, .inl (cI, 7, .inl (fun _ => 0))), (b22 5, .inl (cI, 6, .inl (fun _ => 0))), (b22 6, .inl (cI, 78, .inl (fun _ => 0))), (b22 7, .inl (cJ, 13, .inr (.inl (fun _ => 0)))), (b22 8, .inl (cJ, 13, .inr (.inl (fun _ => 0)))), (b22 9, .inl (cJ, 13, .inr (.inl (fun _ => 0)))), (q23, oX6 b27 0 0), (b27 0, .inl (cI, 287, .inl (fun _ => 0))), (b27 1, .inl (cI, 7, .inl (fun _ => 0))), (b27 2, .inl (cI, 7, .inl (fun _ => 0))), (b27 3, .inl (cJ, 7, .inr (.inl (fun _ => 0)))), (b27 4, .inl (cI, 7, .inl (fun _ => 0))), (b27 5, .inl (cI, 6, .inl (fun _ => 0))), (b27 6, .inl (cI, 78, .inl (fun _ => 0))), (b27 7, .inl (cJ, 13, .inr (.inl (fun _ => 0)))), (b27 8, .inl (cJ, 13, .inr (.inl (fun _ => 0)))), (b27 9, .inl (cJ, 13, .inr (.inl (fun _ => 0)))), (q28, oX1 b32 0), (b32 0, .inl (cJ, 128, .inr (.inl (fun _ => 0)))), (b32 1, .inl (cI, 128, .inl (fun _ => 0))), (q33, oX3 z0 0 0 0), (q37, oX5 b41), (b41 0, .inl (cJ, 240, .inr (.inl (fun _ => 0)))), (b41 1, .inl (cZ, 4, .inl (fun _ => 0))), (b41 2, .inl (cI, 4, .inl (fun _ => 0))), (b41 3, .inl (cI, 4, .inl (fun _ => 0))), (q42, oX2 z0 0 1), (q46, .inl (cI, 164, .inl (fun _ => 0)))] := hD
  exact hret _ _ _ _ ((fun k => ([q1, q8, q13, q14, q18, q23, q28, q33, q37, q42, q46] : List Nat).getD k 0), b5, bt6, bc7, b12, b22, b27, b32, b41) hP hD hS dX9_init_120 trivial
end
section
theorem dX0_become_0 : decode cX0_become 0 = .ok (.aload_n 0, 1) := by decide +kernel
theorem dX0_become_1 : decode cX0_become 1 = .ok (.aload_n 1, 1) := by decide +kernel
theorem dX0_become_2 : decode cX0_become 2 = .ok (.getfield 39, 3) := by decide +kernel
theorem dX0_become_5 : decode cX0_become 5 = .ok (.putfield 39, 3) := by decide +kernel
theorem dX0_become_8 : decode cX0_become 8 = .ok (.aload_n 0, 1) := by decide +kernel
theorem dX0_become_9 : decode cX0_become 9 = .ok (.aload_n 1, 1) := by decide +kernel
theorem dX0_become_10 : decode cX0_become 10 = .ok (.getfield 43, 3) := by decide +kernel
theorem dX0_become_13 : decode cX0_become 13 = .ok (.putfield 43, 3) := by decide +kernel
theorem dX0_become_16 : decode cX0_become 16 = .ok (.aload_n 0, 1) := by decide +kernel
theorem dX0_become_17 : decode cX0_become 17 = .ok (.aload_n 1, 1) := by decide +kernel
theorem dX0_become_18 : decode cX0_become 18 = .ok (.getfield 46, 3) := by decide +kernel
theorem dX0_become_21 : decode cX0_become 21 = .ok (.putfield 46, 3) := by decide +kernel
theorem dX0_become_24 : decode cX0_become 24 = .ok (.aload_n 0, 1) := by decide +kernel
theorem dX0_become_25 : decode cX0_become 25 = .ok (.aload_n 1, 1) := by decide +kernel
theorem dX0_become_26 : decode cX0_become 26 = .ok (.getfield 49, 3) := by decide +kernel
theorem dX0_become_29 : decode cX0_become 29 = .ok (.putfield 49, 3) := by decide +kernel
theorem dX0_become_32 : decode cX0_become 32 = .ok (.aload_n 0, 1) := by decide +kernel
theorem dX0_become_33 : decode cX0_become 33 = .ok (.aload_n 1, 1) := by decide +kernel
theorem dX0_become_34 : decode cX0_become 34 = .ok (.getfield 52, 3) := by decide +kernel
theorem dX0_become_37 : decode cX0_become 37 = .ok (.putfield 52, 3) := by decide +kernel
theorem dX0_become_40 : decode cX0_become 40 = .ok (.aload_n 0, 1) := by decide +kernel
theorem dX0_become_41 : decode cX0_become 41 = .ok (.aload_n 1, 1) := by decide +kernel
theorem dX0_become_42 : decode cX0_become 42 = .ok (.getfield 55, 3) := by decide +kernel
theorem dX0_become_45 : decode cX0_become 45 = .ok (.putfield 55, 3) := by decide +kernel
theorem dX0_become_48 : decode cX0_become 48 = .ok (.aload_n 0, 1) := by decide +kernel
theorem dX0_become_49 : decode cX0_become 49 = .ok (.aload_n 1, 1) := by decide +kernel
theorem dX0_become_50 : decode cX0_become 50 = .ok (.getfield 58, 3) := by decide +kernel
theorem dX0_become_53 : decode cX0_become 53 = .ok (.putfield 58, 3) := by decide +kernel
theorem dX0_become_56 : decode cX0_become 56 = .ok (.aload_n 0, 1) := by decide +kernel
theorem dX0_become_57 : decode cX0_become 57 = .ok (.aload_n 1, 1) := by decide +kernel
theorem dX0_become_58 : decode cX0_become 58 = .ok (.getfield 61, 3) := by decide +kernel
theorem dX0_become_61 : decode cX0_become 61 = .ok (.putfield 61, 3) := by decide +kernel
theorem dX0_become_64 : decode cX0_become 64 = .ok (.aload_n 0, 1) := by decide +kernel
theorem dX0_become_65 : decode cX0_become 65 = .ok (.aload_n 1, 1) := by decide +kernel
theorem dX0_become_66 : decode cX0_become 66 = .ok (.getfield 64, 3) := by decide +kernel
theorem dX0_become_69 : decode cX0_become 69 = .ok (.putfield 64, 3) := by decide +kernel
theorem dX0_become_72 : decode cX0_become 72 = .ok (.aload_n 0, 1) := by decide +kernel
theorem dX0_become_73 : decode cX0_become 73 = .ok (.aload_n 1, 1) := by decide +kernel
theorem dX0_become_74 : decode cX0_become 74 = .ok (.getfield 67, 3) := by decide +kernel
theorem dX0_become_77 : decode cX0_become 77 = .ok (.putfield 67, 3) := by decide +kernel
theorem dX0_become_80 : decode cX0_become 80 = .ok (.aload_n 1, 1) := by decide +kernel
theorem dX0_become_81 : decode cX0_become 81 = .ok (.getfield 9, 3) := by decide +kernel
theorem dX0_become_84 : decode cX0_become 84 = .ok (.iconst 0, 1) := by decide +kernel
theorem dX0_become_85 : decode cX0_become 85 = .ok (.aload_n 0, 1) := by decide +kernel
theorem dX0_become_86 : decode cX0_become 86 = .ok (.getfield 9, 3) := by decide +kernel
theorem dX0_become_89 : decode cX0_become 89 = .ok (.iconst 0, 1) := by decide +kernel
theorem dX0_become_90 : decode cX0_become 90 = .ok (.bipush 12, 2) := by decide +kernel
theorem dX0_become_92 : decode cX0_become 92 = .ok (.invokestatic 70, 3) := by decide +kernel
theorem dX0_become_95 : decode cX0_become 95 = .ok (.aload_n 1, 1) := by decide +kernel
theorem dX0_become_96 : decode cX0_become 96 = .ok (.getfield 15, 3) := by decide +kernel
theorem dX0_become_99 : decode cX0_become 99 = .ok (.iconst 0, 1) := by decide +kernel
theorem dX0_become_100 : decode cX0_become 100 = .ok (.aload_n 0, 1) := by decide +kernel
theorem dX0_become_101 : decode cX0_become 101 = .ok (.getfield 15, 3) := by decide +kernel
theorem dX0_become_104 : decode cX0_become 104 = .ok (.iconst 0, 1) := by decide +kernel
theorem dX0_become_105 : decode cX0_become 105 = .ok (.bipush 6, 2) := by decide +kernel
theorem dX0_become_107 : decode cX0_become 107 = .ok (.invokestatic 70, 3) := by decide +kernel
theorem dX0_become_110 : decode cX0_become 110 = .ok (.aload_n 1, 1) := by decide +kernel
theorem dX0_become_111 : decode cX0_become 111 = .ok (.getfield 18, 3) := by decide +kernel
theorem dX0_become_114 : decode cX0_become 114 = .ok (.iconst 0, 1) := by decide +kernel
theorem dX0_become_115 : decode cX0_become 115 = .ok (.aload_n 0, 1) := by decide +kernel
theorem dX0_become_116 : decode cX0_become 116 = .ok (.getfield 18, 3) := by decide +kernel
theorem dX0_become_119 : decode cX0_become 119 = .ok (.iconst 0, 1) := by decide +kernel
theorem dX0_become_120 : decode cX0_become 120 = .ok (.bipush 7, 2) := by decide +kernel
theorem dX0_become_122 : decode cX0_become 122 = .ok (.invokestatic 70, 3) := by decide +kernel
theorem dX0_become_125 : decode cX0_become 125 = .ok (.aload_n 1, 1) := by decide +kernel
theorem dX0_become_126 : decode cX0_become 126 = .ok (.getfield 21, 3) := by decide +kernel
theorem dX0_become_129 : decode cX0_become 129 = .ok (.iconst 0, 1) := by decide +kernel
theorem dX0_become_130 : decode cX0_become 130 = .ok (.aload_n 0, 1) := by decide +kernel
theorem dX0_become_131 : decode cX0_become 131 = .ok (.getfield 21, 3) := by decide +kernel
theorem dX0_become_134 : decode cX0_become 134 = .ok (.iconst 0, 1) := by decide +kernel
theorem dX0_become_135 : decode cX0_become 135 = .ok (.bipush 7, 2) := by decide +kernel
theorem dX0_become_137 : decode cX0_become 137 = .ok (.invokestatic 70, 3) := by decide +kernel
theorem dX0_become_140 : decode cX0_become 140 = .ok (.aload_n 1, 1) := by decide +kernel
theorem dX0_become_141 : decode cX0_become 141 = .ok (.getfield 24, 3) := by decide +kernel
theorem dX0_become_144 : decode cX0_become 144 = .ok (.iconst 0, 1) := by decide +kernel
theorem dX0_become_145 : decode cX0_become 145 = .ok (.aload_n 0, 1) := by decide +kernel
theorem dX0_become_146 : decode cX0_become 146 = .ok (.getfield 24, 3) := by decide +kernel
theorem dX0_become_149 : decode cX0_become 149 = .ok (.iconst 0, 1) := by decide +kernel
theorem dX0_become_150 : decode cX0_become 150 = .ok (.bipush 7, 2) := by decide +kernel
theorem dX0_become_152 : decode cX0_become 152 = .ok (.invokestatic 70, 3) := by decide +kernel
theorem dX0_become_155 : decode cX0_become 155 = .ok (.aload_n 1, 1) := by decide +kernel
theorem dX0_become_156 : decode cX0_become 156 = .ok (.getfield 27, 3) := by decide +kernel
theorem dX0_become_159 : decode cX0_become 159 = .ok (.iconst 0, 1) := by decide +kernel
theorem dX0_become_160 : decode cX0_become 160 = .ok (.aload_n 0, 1) := by decide +kernel
theorem dX0_become_161 : decode cX0_become 161 = .ok (.getfield 27, 3) := by decide +kernel
theorem dX0_become_164 : decode cX0_become 164 = .ok (.iconst 0, 1) := by decide +kernel
theorem dX0_become_165 : decode cX0_become 165 = .ok (.bipush 7, 2) := by decide +kernel
theorem dX0_become_167 : decode cX0_become 167 = .ok (.invokestatic 70, 3) := by decide +kernel
theorem dX0_become_170 : decode cX0_become 170 = .ok (.aload_n 1, 1) := by decide +kernel
theorem dX0_become_171 : decode cX0_become 171 = .ok (.getfield 30, 3) := by decide +kernel
theorem dX0_become_174 : decode cX0_become 174 = .ok (.iconst 0, 1) := by decide +kernel
theorem dX0_become_175 : decode cX0_become 175 = .ok (.aload_n 0, 1) := by decide +kernel
theorem dX0_become_176 : decode cX0_become 176 = .ok (.getfield 30, 3) := by decide +kernel
theorem dX0_become_179 : decode cX0_become 179 = .ok (.iconst 0, 1) := by decide +kernel
theorem dX0_become_180 : decode cX0_become 180 = .ok (.bipush 7, 2) := by decide +kernel
theorem dX0_become_182 : decode cX0_become 182 = .ok (.invokestatic 70, 3) := by decide +kernel
theorem dX0_become_185 : decode cX0_become 185 = .ok (.aload_n 1, 1) := by decide +kernel
theorem dX0_become_186 : decode cX0_become 186 = .ok (.getfield 33, 3) := by decide +kernel
theorem dX0_become_189 : decode cX0_become 189 = .ok (.iconst 0, 1) := by decide +kernel
theorem dX0_become_190 : decode cX0_become 190 = .ok (.aload_n 0, 1) := by decide +kernel
theorem dX0_become_191 : decode cX0_become 191 = .ok (.getfield 33, 3) := by decide +kernel
theorem dX0_become_194 : decode cX0_become 194 = .ok (.iconst 0, 1) := by decide +kernel
theorem dX0_become_195 : decode cX0_become 195 = .ok (.bipush 56, 2) := by decide +kernel
theorem dX0_become_197 : decode cX0_become 197 = .ok (.invokestatic 70, 3) := by decide +kernel
theorem dX0_become_200 : decode cX0_become 200 = .ok (.aload_n 1, 1) := by decide +kernel
theorem dX0_become_201 : decode cX0_become 201 = .ok (.getfield 36, 3) := by decide +kernel
theorem dX0_become_204 : decode cX0_become 204 = .ok (.iconst 0, 1) := by decide +kernel
theorem dX0_become_205 : decode cX0_become 205 = .ok (.aload_n 0, 1) := by decide +kernel
theorem dX0_become_206 : decode cX0_become 206 = .ok (.getfield 36, 3) := by decide +kernel
theorem dX0_become_209 : decode cX0_become 209 = .ok (.iconst 0, 1) := by decide +kernel
theorem dX0_become_210 : decode cX0_become 210 = .ok (.bipush 30, 2) := by decide +kernel
theorem dX0_become_212 : decode cX0_become 212 = .ok (.invokestatic 70, 3) := by decide +kernel
theorem dX0_become_215 : decode cX0_become 215 = .ok (.return_, 1) := by decide +kernel
theorem dX0_clear_0 : decode cX0_clear 0 = .ok (.aload_n 0, 1) := by decide +kernel
theorem dX0_clear_1 : decode cX0_clear 1 = .ok (.iconst 0, 1) := by decide +kernel
theorem dX0_clear_2 : decode cX0_clear 2 = .ok (.putfield 39, 3) := by decide +kernel
theorem dX0_clear_5 : decode cX0_clear 5 = .ok (.aload_n 0, 1) := by decide +kernel
theorem dX0_clear_6 : decode cX0_clear 6 = .ok (.iconst 0, 1) := by decide +kernel
theorem dX0_clear_7 : decode cX0_clear 7 = .ok (.putfield 43, 3) := by decide +kernel
theorem dX0_clear_10 : decode cX0_clear 10 = .ok (.aload_n 0, 1) := by decide +kernel
theorem dX0_clear_11 : decode cX0_clear 11 = .ok (.iconst 0, 1) := by decide +kernel
theorem dX0_clear_12 : decode cX0_clear 12 = .ok (.putfield 46, 3) := by decide +kernel
theorem dX0_clear_15 : decode cX0_clear 15 = .ok (.aload_n 0, 1) := by decide +kernel
theorem dX0_clear_16 : decode cX0_clear 16 = .ok (.iconst 0, 1) := by decide +kernel
theorem dX0_clear_17 : decode cX0_clear 17 = .ok (.putfield 49, 3) := by decide +kernel
theorem dX0_clear_20 : decode cX0_clear 20 = .ok (.aload_n 0, 1) := by decide +kernel
theorem dX0_clear_21 : decode cX0_clear 21 = .ok (.iconst 0, 1) := by decide +kernel
theorem dX0_clear_22 : decode cX0_clear 22 = .ok (.putfield 52, 3) := by decide +kernel
theorem dX0_clear_25 : decode cX0_clear 25 = .ok (.aload_n 0, 1) := by decide +kernel
theorem dX0_clear_26 : decode cX0_clear 26 = .ok (.iconst 0, 1) := by decide +kernel
theorem dX0_clear_27 : decode cX0_clear 27 = .ok (.putfield 55, 3) := by decide +kernel
theorem dX0_clear_30 : decode cX0_clear 30 = .ok (.aload_n 0, 1) := by decide +kernel
theorem dX0_clear_31 : decode cX0_clear 31 = .ok (.iconst 0, 1) := by decide +kernel
theorem dX0_clear_32 : decode cX0_clear 32 = .ok (.putfield 58, 3) := by decide +kernel
theorem dX0_clear_35 : decode cX0_clear 35 = .ok (.aload_n 0, 1) := by decide +kernel
theorem dX0_clear_36 : decode cX0_clear 36 = .ok (.iconst 0, 1) := by decide +kernel
theorem dX0_clear_37 : decode cX0_clear 37 = .ok (.putfield 61, 3) := by decide +kernel
theorem dX0_clear_40 : decode cX0_clear 40 = .ok (.aload_n 0, 1) := by decide +kernel
theorem dX0_clear_41 : decode cX0_clear 41 = .ok (.iconst 0, 1) := by decide +kernel
theorem dX0_clear_42 : decode cX0_clear 42 = .ok (.putfield 64, 3) := by decide +kernel
theorem dX0_clear_45 : decode cX0_clear 45 = .ok (.aload_n 0, 1) := by decide +kernel
theorem dX0_clear_46 : decode cX0_clear 46 = .ok (.iconst 0, 1) := by decide +kernel
theorem dX0_clear_47 : decode cX0_clear 47 = .ok (.putfield 67, 3) := by decide +kernel
theorem dX0_clear_50 : decode cX0_clear 50 = .ok (.return_, 1) := by decide +kernel
theorem dX0_creekBits_0 : decode cX0_creekBits 0 = .ok (.lconst 0, 1) := by decide +kernel
theorem dX0_creekBits_1 : decode cX0_creekBits 1 = .ok (.lstore_n 1, 1) := by decide +kernel
theorem dX0_creekBits_2 : decode cX0_creekBits 2 = .ok (.iconst 0, 1) := by decide +kernel
theorem dX0_creekBits_3 : decode cX0_creekBits 3 = .ok (.istore_n 3, 1) := by decide +kernel
theorem dX0_creekBits_4 : decode cX0_creekBits 4 = .ok (.iload_n 3, 1) := by decide +kernel
theorem dX0_creekBits_5 : decode cX0_creekBits 5 = .ok (.aload_n 0, 1) := by decide +kernel
theorem dX0_creekBits_6 : decode cX0_creekBits 6 = .ok (.getfield 58, 3) := by decide +kernel
theorem dX0_creekBits_9 : decode cX0_creekBits 9 = .ok (.if_icmp .ge 21, 3) := by decide +kernel
theorem dX0_creekBits_30 : decode cX0_creekBits 30 = .ok (.iconst 0, 1) := by decide +kernel
theorem dX0_creekBits_31 : decode cX0_creekBits 31 = .ok (.istore_n 3, 1) := by decide +kernel
theorem dX0_creekBits_32 : decode cX0_creekBits 32 = .ok (.iload_n 3, 1) := by decide +kernel
theorem dX0_creekBits_33 : decode cX0_creekBits 33 = .ok (.aload_n 0, 1) := by decide +kernel
theorem dX0_creekBits_34 : decode cX0_creekBits 34 = .ok (.getfield 67, 3) := by decide +kernel
theorem dX0_creekBits_37 : decode cX0_creekBits 37 = .ok (.if_icmp .ge 36, 3) := by decide +kernel
theorem dX0_creekBits_73 : decode cX0_creekBits 73 = .ok (.lload_n 1, 1) := by decide +kernel
theorem dX0_creekBits_74 : decode cX0_creekBits 74 = .ok (.lreturn, 1) := by decide +kernel
theorem dX0_field_0 : decode cX0_field 0 = .ok (.lconst 0, 1) := by decide +kernel
theorem dX0_field_1 : decode cX0_field 1 = .ok (.lstore_n 1, 1) := by decide +kernel
theorem dX0_field_2 : decode cX0_field 2 = .ok (.iconst 0, 1) := by decide +kernel
theorem dX0_field_3 : decode cX0_field 3 = .ok (.istore_n 3, 1) := by decide +kernel
theorem dX0_field_4 : decode cX0_field 4 = .ok (.iload_n 3, 1) := by decide +kernel
theorem dX0_field_5 : decode cX0_field 5 = .ok (.aload_n 0, 1) := by decide +kernel
theorem dX0_field_6 : decode cX0_field 6 = .ok (.getfield 52, 3) := by decide +kernel
theorem dX0_field_9 : decode cX0_field 9 = .ok (.if_icmp .ge 25, 3) := by decide +kernel
theorem dX0_field_34 : decode cX0_field 34 = .ok (.lload_n 1, 1) := by decide +kernel
theorem dX0_field_35 : decode cX0_field 35 = .ok (.lreturn, 1) := by decide +kernel
theorem dX0_hasHouse_0 : decode cX0_hasHouse 0 = .ok (.iload_n 1, 1) := by decide +kernel
theorem dX0_hasHouse_1 : decode cX0_hasHouse 1 = .ok (.ifCond .lt 15, 3) := by decide +kernel
theorem dX0_hasHouse_4 : decode cX0_hasHouse 4 = .ok (.iload_n 1, 1) := by decide +kernel
theorem dX0_hasHouse_5 : decode cX0_hasHouse 5 = .ok (.aload_n 0, 1) := by decide +kernel
theorem dX0_hasHouse_6 : decode cX0_hasHouse 6 = .ok (.getfield 61, 3) := by decide +kernel
theorem dX0_hasHouse_9 : decode cX0_hasHouse 9 = .ok (.if_icmp .ge 7, 3) := by decide +kernel
theorem dX0_hasHouse_16 : decode cX0_hasHouse 16 = .ok (.iconst 0, 1) := by decide +kernel
theorem dX0_hasHouse_17 : decode cX0_hasHouse 17 = .ok (.ireturn, 1) := by decide +kernel
theorem dX0_hasWidow_0 : decode cX0_hasWidow 0 = .ok (.lload_n 1, 1) := by decide +kernel
theorem dX0_hasWidow_1 : decode cX0_hasWidow 1 = .ok (.lconst 0, 1) := by decide +kernel
theorem dX0_hasWidow_2 : decode cX0_hasWidow 2 = .ok (.lcmp, 1) := by decide +kernel
theorem dX0_hasWidow_3 : decode cX0_hasWidow 3 = .ok (.ifCond .lt 17, 3) := by decide +kernel
theorem dX0_hasWidow_6 : decode cX0_hasWidow 6 = .ok (.lload_n 1, 1) := by decide +kernel
theorem dX0_hasWidow_7 : decode cX0_hasWidow 7 = .ok (.aload_n 0, 1) := by decide +kernel
theorem dX0_hasWidow_8 : decode cX0_hasWidow 8 = .ok (.getfield 64, 3) := by decide +kernel
theorem dX0_hasWidow_11 : decode cX0_hasWidow 11 = .ok (.i2l, 1) := by decide +kernel
theorem dX0_hasWidow_12 : decode cX0_hasWidow 12 = .ok (.lcmp, 1) := by decide +kernel
theorem dX0_hasWidow_13 : decode cX0_hasWidow 13 = .ok (.ifCond .ge 7, 3) := by decide +kernel
theorem dX0_hasWidow_20 : decode cX0_hasWidow 20 = .ok (.iconst 0, 1) := by decide +kernel
theorem dX0_hasWidow_21 : decode cX0_hasWidow 21 = .ok (.ireturn, 1) := by decide +kernel
theorem dX0_hasYear_0 : decode cX0_hasYear 0 = .ok (.aload_n 0, 1) := by decide +kernel
theorem dX0_hasYear_1 : decode cX0_hasYear 1 = .ok (.getfield 39, 3) := by decide +kernel
theorem dX0_hasYear_4 : decode cX0_hasYear 4 = .ok (.ifCond .le 19, 3) := by decide +kernel
theorem dX0_hasYear_23 : decode cX0_hasYear 23 = .ok (.iconst 0, 1) := by decide +kernel
theorem dX0_hasYear_24 : decode cX0_hasYear 24 = .ok (.ireturn, 1) := by decide +kernel
theorem dX0_spotOf_0 : decode cX0_spotOf 0 = .ok (.lload_n 1, 1) := by decide +kernel
theorem dX0_spotOf_1 : decode cX0_spotOf 1 = .ok (.lconst 0, 1) := by decide +kernel
theorem dX0_spotOf_2 : decode cX0_spotOf 2 = .ok (.lcmp, 1) := by decide +kernel
theorem dX0_spotOf_3 : decode cX0_spotOf 3 = .ok (.ifCond .lt 31, 3) := by decide +kernel
theorem dX0_spotOf_6 : decode cX0_spotOf 6 = .ok (.lload_n 1, 1) := by decide +kernel
theorem dX0_spotOf_7 : decode cX0_spotOf 7 = .ok (.ldc2_w 76, 3) := by decide +kernel
theorem dX0_spotOf_10 : decode cX0_spotOf 10 = .ok (.ldiv, 1) := by decide +kernel
theorem dX0_spotOf_11 : decode cX0_spotOf 11 = .ok (.aload_n 0, 1) := by decide +kernel
theorem dX0_spotOf_12 : decode cX0_spotOf 12 = .ok (.getfield 52, 3) := by decide +kernel
theorem dX0_spotOf_15 : decode cX0_spotOf 15 = .ok (.i2l, 1) := by decide +kernel
theorem dX0_spotOf_16 : decode cX0_spotOf 16 = .ok (.lcmp, 1) := by decide +kernel
theorem dX0_spotOf_17 : decode cX0_spotOf 17 = .ok (.ifCond .ge 17, 3) := by decide +kernel
theorem dX0_spotOf_34 : decode cX0_spotOf 34 = .ok (.iconst (-1), 1) := by decide +kernel
theorem dX0_spotOf_35 : decode cX0_spotOf 35 = .ok (.ireturn, 1) := by decide +kernel
theorem dX0_walkerBits_0 : decode cX0_walkerBits 0 = .ok (.iconst 1, 1) := by decide +kernel
theorem dX0_walkerBits_1 : decode cX0_walkerBits 1 = .ok (.aload_n 0, 1) := by decide +kernel
theorem dX0_walkerBits_2 : decode cX0_walkerBits 2 = .ok (.getfield 64, 3) := by decide +kernel
theorem dX0_walkerBits_5 : decode cX0_walkerBits 5 = .ok (.ishl, 1) := by decide +kernel
theorem dX0_walkerBits_6 : decode cX0_walkerBits 6 = .ok (.iconst 1, 1) := by decide +kernel
theorem dX0_walkerBits_7 : decode cX0_walkerBits 7 = .ok (.isub, 1) := by decide +kernel
theorem dX0_walkerBits_8 : decode cX0_walkerBits 8 = .ok (.istore_n 1, 1) := by decide +kernel
theorem dX0_walkerBits_9 : decode cX0_walkerBits 9 = .ok (.iconst 0, 1) := by decide +kernel
theorem dX0_walkerBits_10 : decode cX0_walkerBits 10 = .ok (.istore_n 2, 1) := by decide +kernel
theorem dX0_walkerBits_11 : decode cX0_walkerBits 11 = .ok (.iload_n 2, 1) := by decide +kernel
theorem dX0_walkerBits_12 : decode cX0_walkerBits 12 = .ok (.aload_n 0, 1) := by decide +kernel
theorem dX0_walkerBits_13 : decode cX0_walkerBits 13 = .ok (.getfield 67, 3) := by decide +kernel
theorem dX0_walkerBits_16 : decode cX0_walkerBits 16 = .ok (.if_icmp .ge 36, 3) := by decide +kernel
theorem dX0_walkerBits_52 : decode cX0_walkerBits 52 = .ok (.iload_n 1, 1) := by decide +kernel
theorem dX0_walkerBits_53 : decode cX0_walkerBits 53 = .ok (.ireturn, 1) := by decide +kernel
theorem dX4_isBlank_0 : decode cX4_isBlank 0 = .ok (.iload_n 0, 1) := by decide +kernel
theorem dX4_isBlank_1 : decode cX4_isBlank 1 = .ok (.bipush 32, 2) := by decide +kernel
theorem dX4_isBlank_3 : decode cX4_isBlank 3 = .ok (.if_icmp .eq 9, 3) := by decide +kernel
theorem dX4_isBlank_6 : decode cX4_isBlank 6 = .ok (.iload_n 0, 1) := by decide +kernel
theorem dX4_isBlank_7 : decode cX4_isBlank 7 = .ok (.bipush 10, 2) := by decide +kernel
theorem dX4_isBlank_9 : decode cX4_isBlank 9 = .ok (.if_icmp .ne 7, 3) := by decide +kernel
theorem dX4_isBlank_16 : decode cX4_isBlank 16 = .ok (.iconst 0, 1) := by decide +kernel
theorem dX4_isBlank_17 : decode cX4_isBlank 17 = .ok (.ireturn, 1) := by decide +kernel
theorem dX4_next_0 : decode cX4_next 0 = .ok (.aload_n 0, 1) := by decide +kernel
theorem dX4_next_1 : decode cX4_next 1 = .ok (.aload_n 0, 1) := by decide +kernel
theorem dX4_next_2 : decode cX4_next 2 = .ok (.getfield 35, 3) := by decide +kernel
theorem dX4_next_5 : decode cX4_next 5 = .ok (.putfield 69, 3) := by decide +kernel
theorem dX4_next_8 : decode cX4_next 8 = .ok (.aload_n 0, 1) := by decide +kernel
theorem dX4_next_9 : decode cX4_next 9 = .ok (.getfield 69, 3) := by decide +kernel
theorem dX4_next_12 : decode cX4_next 12 = .ok (.sipush 900, 3) := by decide +kernel
theorem dX4_next_15 : decode cX4_next 15 = .ok (.if_icmp .ge 33, 3) := by decide +kernel
theorem dX4_next_18 : decode cX4_next 18 = .ok (.aload_n 0, 1) := by decide +kernel
theorem dX4_next_19 : decode cX4_next 19 = .ok (.getfield 18, 3) := by decide +kernel
theorem dX4_next_22 : decode cX4_next 22 = .ok (.aload_n 0, 1) := by decide +kernel
theorem dX4_next_23 : decode cX4_next 23 = .ok (.getfield 69, 3) := by decide +kernel
theorem dX4_next_26 : decode cX4_next 26 = .ok (.invokevirtual 79, 3) := by decide +kernel
theorem dX4_next_29 : decode cX4_next 29 = .ok (.invokestatic 83, 3) := by decide +kernel
theorem dX4_next_32 : decode cX4_next 32 = .ok (.ifCond .eq 16, 3) := by decide +kernel
theorem dX4_next_48 : decode cX4_next 48 = .ok (.aload_n 0, 1) := by decide +kernel
theorem dX4_next_49 : decode cX4_next 49 = .ok (.getfield 18, 3) := by decide +kernel
theorem dX4_next_52 : decode cX4_next 52 = .ok (.aload_n 0, 1) := by decide +kernel
theorem dX4_next_53 : decode cX4_next 53 = .ok (.getfield 69, 3) := by decide +kernel
theorem dX4_next_56 : decode cX4_next 56 = .ok (.invokevirtual 79, 3) := by decide +kernel
theorem dX4_next_59 : decode cX4_next 59 = .ok (.istore_n 1, 1) := by decide +kernel
theorem dX4_next_60 : decode cX4_next 60 = .ok (.aload_n 0, 1) := by decide +kernel
theorem dX4_next_61 : decode cX4_next 61 = .ok (.aload_n 0, 1) := by decide +kernel
theorem dX4_next_62 : decode cX4_next 62 = .ok (.getfield 69, 3) := by decide +kernel
theorem dX4_next_65 : decode cX4_next 65 = .ok (.iconst 1, 1) := by decide +kernel
theorem dX4_next_66 : decode cX4_next 66 = .ok (.iadd, 1) := by decide +kernel
theorem dX4_next_67 : decode cX4_next 67 = .ok (.putfield 35, 3) := by decide +kernel
theorem dX4_next_70 : decode cX4_next 70 = .ok (.iload_n 1, 1) := by decide +kernel
theorem dX4_next_71 : decode cX4_next 71 = .ok (.iconst (-1), 1) := by decide +kernel
theorem dX4_next_72 : decode cX4_next 72 = .ok (.if_icmp .ne 11, 3) := by decide +kernel
theorem dX4_next_75 : decode cX4_next 75 = .ok (.aload_n 0, 1) := by decide +kernel
theorem dX4_next_76 : decode cX4_next 76 = .ok (.iconst 0, 1) := by decide +kernel
theorem dX4_next_77 : decode cX4_next 77 = .ok (.putfield 41, 3) := by decide +kernel
theorem dX4_next_80 : decode cX4_next 80 = .ok (.goto 122, 3) := by decide +kernel
theorem dX4_next_202 : decode cX4_next 202 = .ok (.return_, 1) := by decide +kernel
theorem dX4_read_0 : decode cX4_read 0 = .ok (.aload_n 0, 1) := by decide +kernel
theorem dX4_read_1 : decode cX4_read 1 = .ok (.getfield 25, 3) := by decide +kernel
theorem dX4_read_4 : decode cX4_read 4 = .ok (.invokevirtual 29, 3) := by decide +kernel
theorem dX4_read_7 : decode cX4_read 7 = .ok (.aload_n 0, 1) := by decide +kernel
theorem dX4_read_8 : decode cX4_read 8 = .ok (.iconst 0, 1) := by decide +kernel
theorem dX4_read_9 : decode cX4_read 9 = .ok (.putfield 32, 3) := by decide +kernel
theorem dX4_read_12 : decode cX4_read 12 = .ok (.aload_n 0, 1) := by decide +kernel
theorem dX4_read_13 : decode cX4_read 13 = .ok (.iconst (-1), 1) := by decide +kernel
theorem dX4_read_14 : decode cX4_read 14 = .ok (.putfield 9, 3) := by decide +kernel
theorem dX4_read_17 : decode cX4_read 17 = .ok (.aload_n 0, 1) := by decide +kernel
theorem dX4_read_18 : decode cX4_read 18 = .ok (.iconst 0, 1) := by decide +kernel
theorem dX4_read_19 : decode cX4_read 19 = .ok (.putfield 35, 3) := by decide +kernel
theorem dX4_read_22 : decode cX4_read 22 = .ok (.aload_n 0, 1) := by decide +kernel
theorem dX4_read_23 : decode cX4_read 23 = .ok (.invokevirtual 38, 3) := by decide +kernel
theorem dX4_read_26 : decode cX4_read 26 = .ok (.iconst 0, 1) := by decide +kernel
theorem dX4_read_27 : decode cX4_read 27 = .ok (.istore_n 1, 1) := by decide +kernel
theorem dX4_read_28 : decode cX4_read 28 = .ok (.iload_n 1, 1) := by decide +kernel
theorem dX4_read_29 : decode cX4_read 29 = .ok (.sipush 900, 3) := by decide +kernel
theorem dX4_read_32 : decode cX4_read 32 = .ok (.if_icmp .gt 101, 3) := by decide +kernel
theorem dX4_read_35 : decode cX4_read 35 = .ok (.aload_n 0, 1) := by decide +kernel
theorem dX4_read_36 : decode cX4_read 36 = .ok (.getfield 32, 3) := by decide +kernel
theorem dX4_read_39 : decode cX4_read 39 = .ok (.ifCond .ne 94, 3) := by decide +kernel
theorem dX4_read_42 : decode cX4_read 42 = .ok (.aload_n 0, 1) := by decide +kernel
theorem dX4_read_43 : decode cX4_read 43 = .ok (.getfield 41, 3) := by decide +kernel
theorem dX4_read_46 : decode cX4_read 46 = .ok (.ifCond .eq 87, 3) := by decide +kernel
theorem dX4_read_133 : decode cX4_read 133 = .ok (.return_, 1) := by decide +kernel
theorem dX5_clear_0 : decode cX5_clear 0 = .ok (.aload_n 0, 1) := by decide +kernel
theorem dX5_clear_1 : decode cX5_clear 1 = .ok (.getfield 15, 3) := by decide +kernel
theorem dX5_clear_4 : decode cX5_clear 4 = .ok (.iload_n 1, 1) := by decide +kernel
theorem dX5_clear_5 : decode cX5_clear 5 = .ok (.iconst 1, 1) := by decide +kernel
theorem dX5_clear_6 : decode cX5_clear 6 = .ok (.bastore, 1) := by decide +kernel
theorem dX5_clear_7 : decode cX5_clear 7 = .ok (.aload_n 0, 1) := by decide +kernel
theorem dX5_clear_8 : decode cX5_clear 8 = .ok (.getfield 19, 3) := by decide +kernel
theorem dX5_clear_11 : decode cX5_clear 11 = .ok (.iload_n 1, 1) := by decide +kernel
theorem dX5_clear_12 : decode cX5_clear 12 = .ok (.iload_n 2, 1) := by decide +kernel
theorem dX5_clear_13 : decode cX5_clear 13 = .ok (.iastore, 1) := by decide +kernel
theorem dX5_clear_14 : decode cX5_clear 14 = .ok (.aload_n 0, 1) := by decide +kernel
theorem dX5_clear_15 : decode cX5_clear 15 = .ok (.getfield 23, 3) := by decide +kernel
theorem dX5_clear_18 : decode cX5_clear 18 = .ok (.iload_n 1, 1) := by decide +kernel
theorem dX5_clear_19 : decode cX5_clear 19 = .ok (.iload_n 3, 1) := by decide +kernel
theorem dX5_clear_20 : decode cX5_clear 20 = .ok (.iastore, 1) := by decide +kernel
theorem dX5_clear_21 : decode cX5_clear 21 = .ok (.iconst 0, 1) := by decide +kernel
theorem dX5_clear_22 : decode cX5_clear 22 = .ok (.istore 4, 2) := by decide +kernel
theorem dX5_clear_24 : decode cX5_clear 24 = .ok (.iload 4, 2) := by decide +kernel
theorem dX5_clear_26 : decode cX5_clear 26 = .ok (.bipush 60, 2) := by decide +kernel
theorem dX5_clear_28 : decode cX5_clear 28 = .ok (.if_icmp .ge 22, 3) := by decide +kernel
theorem dX5_clear_31 : decode cX5_clear 31 = .ok (.aload_n 0, 1) := by decide +kernel
theorem dX5_clear_32 : decode cX5_clear 32 = .ok (.getfield 9, 3) := by decide +kernel
theorem dX5_clear_35 : decode cX5_clear 35 = .ok (.iload_n 1, 1) := by decide +kernel
theorem dX5_clear_36 : decode cX5_clear 36 = .ok (.bipush 60, 2) := by decide +kernel
theorem dX5_clear_38 : decode cX5_clear 38 = .ok (.imul, 1) := by decide +kernel
theorem dX5_clear_39 : decode cX5_clear 39 = .ok (.iload 4, 2) := by decide +kernel
theorem dX5_clear_41 : decode cX5_clear 41 = .ok (.iadd, 1) := by decide +kernel
theorem dX5_clear_42 : decode cX5_clear 42 = .ok (.lconst 0, 1) := by decide +kernel
theorem dX5_clear_43 : decode cX5_clear 43 = .ok (.lastore, 1) := by decide +kernel
theorem dX5_clear_44 : decode cX5_clear 44 = .ok (.iinc 4 1, 3) := by decide +kernel
theorem dX5_clear_47 : decode cX5_clear 47 = .ok (.goto (-23), 3) := by decide +kernel
theorem dX5_clear_50 : decode cX5_clear 50 = .ok (.return_, 1) := by decide +kernel
theorem dX5_empty_0 : decode cX5_empty 0 = .ok (.aload_n 0, 1) := by decide +kernel
theorem dX5_empty_1 : decode cX5_empty 1 = .ok (.getfield 15, 3) := by decide +kernel
theorem dX5_empty_4 : decode cX5_empty 4 = .ok (.iload_n 1, 1) := by decide +kernel
theorem dX5_empty_5 : decode cX5_empty 5 = .ok (.baload, 1) := by decide +kernel
theorem dX5_empty_6 : decode cX5_empty 6 = .ok (.ifCond .ne 7, 3) := by decide +kernel
theorem dX5_empty_9 : decode cX5_empty 9 = .ok (.iconst 1, 1) := by decide +kernel
theorem dX5_empty_10 : decode cX5_empty 10 = .ok (.goto 4, 3) := by decide +kernel
theorem dX5_empty_14 : decode cX5_empty 14 = .ok (.ireturn, 1) := by decide +kernel
theorem dX5_many_0 : decode cX5_many 0 = .ok (.iconst 0, 1) := by decide +kernel
theorem dX5_many_1 : decode cX5_many 1 = .ok (.istore_n 1, 1) := by decide +kernel
theorem dX5_many_2 : decode cX5_many 2 = .ok (.iconst 0, 1) := by decide +kernel
theorem dX5_many_3 : decode cX5_many 3 = .ok (.istore_n 2, 1) := by decide +kernel
theorem dX5_many_4 : decode cX5_many 4 = .ok (.iload_n 2, 1) := by decide +kernel
theorem dX5_many_5 : decode cX5_many 5 = .ok (.iconst 4, 1) := by decide +kernel
theorem dX5_many_6 : decode cX5_many 6 = .ok (.if_icmp .ge 21, 3) := by decide +kernel
theorem dX5_many_9 : decode cX5_many 9 = .ok (.iload_n 1, 1) := by decide +kernel
theorem dX5_many_10 : decode cX5_many 10 = .ok (.aload_n 0, 1) := by decide +kernel
theorem dX5_many_11 : decode cX5_many 11 = .ok (.getfield 15, 3) := by decide +kernel
theorem dX5_many_14 : decode cX5_many 14 = .ok (.iload_n 2, 1) := by decide +kernel
theorem dX5_many_15 : decode cX5_many 15 = .ok (.baload, 1) := by decide +kernel
theorem dX5_many_16 : decode cX5_many 16 = .ok (.invokestatic 26, 3) := by decide +kernel
theorem dX5_many_19 : decode cX5_many 19 = .ok (.iadd, 1) := by decide +kernel
theorem dX5_many_20 : decode cX5_many 20 = .ok (.istore_n 1, 1) := by decide +kernel
theorem dX5_many_21 : decode cX5_many 21 = .ok (.iinc 2 1, 3) := by decide +kernel
theorem dX5_many_24 : decode cX5_many 24 = .ok (.goto (-20), 3) := by decide +kernel
theorem dX5_many_27 : decode cX5_many 27 = .ok (.iload_n 1, 1) := by decide +kernel
theorem dX5_many_28 : decode cX5_many 28 = .ok (.ireturn, 1) := by decide +kernel
theorem dX6_begin_0 : decode cX6_begin 0 = .ok (.aload_n 0, 1) := by decide +kernel
theorem dX6_begin_1 : decode cX6_begin 1 = .ok (.aload_n 1, 1) := by decide +kernel
theorem dX6_begin_2 : decode cX6_begin 2 = .ok (.invokevirtual 76, 3) := by decide +kernel
theorem dX6_begin_5 : decode cX6_begin 5 = .ok (.putfield 80, 3) := by decide +kernel
theorem dX6_begin_8 : decode cX6_begin 8 = .ok (.aload_n 0, 1) := by decide +kernel
theorem dX6_begin_9 : decode cX6_begin 9 = .ok (.aload_n 1, 1) := by decide +kernel
theorem dX6_begin_10 : decode cX6_begin 10 = .ok (.getfield 83, 3) := by decide +kernel
theorem dX6_begin_13 : decode cX6_begin 13 = .ok (.putfield 86, 3) := by decide +kernel
theorem dX6_begin_16 : decode cX6_begin 16 = .ok (.aload_n 0, 1) := by decide +kernel
theorem dX6_begin_17 : decode cX6_begin 17 = .ok (.getfield 34, 3) := by decide +kernel
theorem dX6_begin_20 : decode cX6_begin 20 = .ok (.iconst 0, 1) := by decide +kernel
theorem dX6_begin_21 : decode cX6_begin 21 = .ok (.lconst 0, 1) := by decide +kernel
theorem dX6_begin_22 : decode cX6_begin 22 = .ok (.lastore, 1) := by decide +kernel
theorem dX6_begin_23 : decode cX6_begin 23 = .ok (.aload_n 0, 1) := by decide +kernel
theorem dX6_begin_24 : decode cX6_begin 24 = .ok (.getfield 37, 3) := by decide +kernel
theorem dX6_begin_27 : decode cX6_begin 27 = .ok (.iconst 0, 1) := by decide +kernel
theorem dX6_begin_28 : decode cX6_begin 28 = .ok (.lconst 0, 1) := by decide +kernel
theorem dX6_begin_29 : decode cX6_begin 29 = .ok (.lastore, 1) := by decide +kernel
theorem dX6_begin_30 : decode cX6_begin 30 = .ok (.aload_n 0, 1) := by decide +kernel
theorem dX6_begin_31 : decode cX6_begin 31 = .ok (.getfield 40, 3) := by decide +kernel
theorem dX6_begin_34 : decode cX6_begin 34 = .ok (.iconst 0, 1) := by decide +kernel
theorem dX6_begin_35 : decode cX6_begin 35 = .ok (.lconst 0, 1) := by decide +kernel
theorem dX6_begin_36 : decode cX6_begin 36 = .ok (.lastore, 1) := by decide +kernel
theorem dX6_begin_37 : decode cX6_begin 37 = .ok (.iconst 0, 1) := by decide +kernel
theorem dX6_begin_38 : decode cX6_begin 38 = .ok (.istore_n 2, 1) := by decide +kernel
theorem dX6_begin_39 : decode cX6_begin 39 = .ok (.iload_n 2, 1) := by decide +kernel
theorem dX6_begin_40 : decode cX6_begin 40 = .ok (.bipush 7, 2) := by decide +kernel
theorem dX6_begin_42 : decode cX6_begin 42 = .ok (.if_icmp .ge 37, 3) := by decide +kernel
theorem dX6_begin_45 : decode cX6_begin 45 = .ok (.aload_n 0, 1) := by decide +kernel
theorem dX6_begin_46 : decode cX6_begin 46 = .ok (.getfield 15, 3) := by decide +kernel
theorem dX6_begin_49 : decode cX6_begin 49 = .ok (.iload_n 2, 1) := by decide +kernel
theorem dX6_begin_50 : decode cX6_begin 50 = .ok (.iconst (-1), 1) := by decide +kernel
theorem dX6_begin_51 : decode cX6_begin 51 = .ok (.iastore, 1) := by decide +kernel
theorem dX6_begin_52 : decode cX6_begin 52 = .ok (.aload_n 0, 1) := by decide +kernel
theorem dX6_begin_53 : decode cX6_begin 53 = .ok (.getfield 18, 3) := by decide +kernel
theorem dX6_begin_56 : decode cX6_begin 56 = .ok (.iload_n 2, 1) := by decide +kernel
theorem dX6_begin_57 : decode cX6_begin 57 = .ok (.iconst 0, 1) := by decide +kernel
theorem dX6_begin_58 : decode cX6_begin 58 = .ok (.iastore, 1) := by decide +kernel
theorem dX6_begin_59 : decode cX6_begin 59 = .ok (.aload_n 0, 1) := by decide +kernel
theorem dX6_begin_60 : decode cX6_begin 60 = .ok (.getfield 21, 3) := by decide +kernel
theorem dX6_begin_63 : decode cX6_begin 63 = .ok (.iload_n 2, 1) := by decide +kernel
theorem dX6_begin_64 : decode cX6_begin 64 = .ok (.lconst 0, 1) := by decide +kernel
theorem dX6_begin_65 : decode cX6_begin 65 = .ok (.lastore, 1) := by decide +kernel
theorem dX6_begin_66 : decode cX6_begin 66 = .ok (.aload_n 0, 1) := by decide +kernel
theorem dX6_begin_67 : decode cX6_begin 67 = .ok (.getfield 25, 3) := by decide +kernel
theorem dX6_begin_70 : decode cX6_begin 70 = .ok (.iload_n 2, 1) := by decide +kernel
theorem dX6_begin_71 : decode cX6_begin 71 = .ok (.iconst 0, 1) := by decide +kernel
theorem dX6_begin_72 : decode cX6_begin 72 = .ok (.iastore, 1) := by decide +kernel
theorem dX6_begin_73 : decode cX6_begin 73 = .ok (.iinc 2 1, 3) := by decide +kernel
theorem dX6_begin_76 : decode cX6_begin 76 = .ok (.goto (-37), 3) := by decide +kernel
theorem dX6_begin_79 : decode cX6_begin 79 = .ok (.iconst 0, 1) := by decide +kernel
theorem dX6_begin_80 : decode cX6_begin 80 = .ok (.istore_n 2, 1) := by decide +kernel
theorem dX6_begin_81 : decode cX6_begin 81 = .ok (.iload_n 2, 1) := by decide +kernel
theorem dX6_begin_82 : decode cX6_begin 82 = .ok (.bipush 6, 2) := by decide +kernel
theorem dX6_begin_84 : decode cX6_begin 84 = .ok (.if_icmp .ge 40, 3) := by decide +kernel
theorem dX6_begin_87 : decode cX6_begin 87 = .ok (.aload_n 0, 1) := by decide +kernel
theorem dX6_begin_88 : decode cX6_begin 88 = .ok (.getfield 31, 3) := by decide +kernel
theorem dX6_begin_91 : decode cX6_begin 91 = .ok (.iload_n 2, 1) := by decide +kernel
theorem dX6_begin_92 : decode cX6_begin 92 = .ok (.iload_n 2, 1) := by decide +kernel
theorem dX6_begin_93 : decode cX6_begin 93 = .ok (.aload_n 0, 1) := by decide +kernel
theorem dX6_begin_94 : decode cX6_begin 94 = .ok (.getfield 86, 3) := by decide +kernel
theorem dX6_begin_97 : decode cX6_begin 97 = .ok (.if_icmp .ge 12, 3) := by decide +kernel
theorem dX6_begin_109 : decode cX6_begin 109 = .ok (.iconst (-1), 1) := by decide +kernel
theorem dX6_begin_110 : decode cX6_begin 110 = .ok (.iastore, 1) := by decide +kernel
theorem dX6_begin_111 : decode cX6_begin 111 = .ok (.aload_n 0, 1) := by decide +kernel
theorem dX6_begin_112 : decode cX6_begin 112 = .ok (.getfield 28, 3) := by decide +kernel
theorem dX6_begin_115 : decode cX6_begin 115 = .ok (.iload_n 2, 1) := by decide +kernel
theorem dX6_begin_116 : decode cX6_begin 116 = .ok (.iconst 0, 1) := by decide +kernel
theorem dX6_begin_117 : decode cX6_begin 117 = .ok (.iastore, 1) := by decide +kernel
theorem dX6_begin_118 : decode cX6_begin 118 = .ok (.iinc 2 1, 3) := by decide +kernel
theorem dX6_begin_121 : decode cX6_begin 121 = .ok (.goto (-40), 3) := by decide +kernel
theorem dX6_begin_124 : decode cX6_begin 124 = .ok (.return_, 1) := by decide +kernel
theorem dX6_tell_0 : decode cX6_tell 0 = .ok (.aload_n 0, 1) := by decide +kernel
theorem dX6_tell_1 : decode cX6_tell 1 = .ok (.aload_n 1, 1) := by decide +kernel
theorem dX6_tell_2 : decode cX6_tell 2 = .ok (.invokevirtual 43, 3) := by decide +kernel
theorem dX6_tell_5 : decode cX6_tell 5 = .ok (.iconst 0, 1) := by decide +kernel
theorem dX6_tell_6 : decode cX6_tell 6 = .ok (.istore_n 3, 1) := by decide +kernel
theorem dX6_tell_7 : decode cX6_tell 7 = .ok (.iload_n 3, 1) := by decide +kernel
theorem dX6_tell_8 : decode cX6_tell 8 = .ok (.aload_n 1, 1) := by decide +kernel
theorem dX6_tell_9 : decode cX6_tell 9 = .ok (.getfield 47, 3) := by decide +kernel
theorem dX6_tell_12 : decode cX6_tell 12 = .ok (.if_icmp .ge 77, 3) := by decide +kernel
theorem dX6_tell_89 : decode cX6_tell 89 = .ok (.return_, 1) := by decide +kernel
theorem dX7_asNow_0 : decode cX7_asNow 0 = .ok (.aload_n 0, 1) := by decide +kernel
theorem dX7_asNow_1 : decode cX7_asNow 1 = .ok (.aload_n 1, 1) := by decide +kernel
theorem dX7_asNow_2 : decode cX7_asNow 2 = .ok (.getfield 9, 3) := by decide +kernel
theorem dX7_asNow_5 : decode cX7_asNow 5 = .ok (.putfield 15, 3) := by decide +kernel
theorem dX7_asNow_8 : decode cX7_asNow 8 = .ok (.aload_n 0, 1) := by decide +kernel
theorem dX7_asNow_9 : decode cX7_asNow 9 = .ok (.aload_n 1, 1) := by decide +kernel
theorem dX7_asNow_10 : decode cX7_asNow 10 = .ok (.invokevirtual 18, 3) := by decide +kernel
theorem dX7_asNow_13 : decode cX7_asNow 13 = .ok (.putfield 22, 3) := by decide +kernel
theorem dX7_asNow_16 : decode cX7_asNow 16 = .ok (.aload_n 0, 1) := by decide +kernel
theorem dX7_asNow_17 : decode cX7_asNow 17 = .ok (.aload_n 1, 1) := by decide +kernel
theorem dX7_asNow_18 : decode cX7_asNow 18 = .ok (.invokevirtual 25, 3) := by decide +kernel
theorem dX7_asNow_21 : decode cX7_asNow 21 = .ok (.putfield 29, 3) := by decide +kernel
theorem dX7_asNow_24 : decode cX7_asNow 24 = .ok (.aload_n 0, 1) := by decide +kernel
theorem dX7_asNow_25 : decode cX7_asNow 25 = .ok (.iconst (-1), 1) := by decide +kernel
theorem dX7_asNow_26 : decode cX7_asNow 26 = .ok (.putfield 33, 3) := by decide +kernel
theorem dX7_asNow_29 : decode cX7_asNow 29 = .ok (.aload_n 0, 1) := by decide +kernel
theorem dX7_asNow_30 : decode cX7_asNow 30 = .ok (.iconst (-1), 1) := by decide +kernel
theorem dX7_asNow_31 : decode cX7_asNow 31 = .ok (.putfield 36, 3) := by decide +kernel
theorem dX7_asNow_34 : decode cX7_asNow 34 = .ok (.aload_n 0, 1) := by decide +kernel
theorem dX7_asNow_35 : decode cX7_asNow 35 = .ok (.iconst (-1), 1) := by decide +kernel
theorem dX7_asNow_36 : decode cX7_asNow 36 = .ok (.putfield 39, 3) := by decide +kernel
theorem dX7_asNow_39 : decode cX7_asNow 39 = .ok (.return_, 1) := by decide +kernel
theorem dX8_byteAt_0 : decode cX8_byteAt 0 = .ok (.iload_n 1, 1) := by decide +kernel
theorem dX8_byteAt_1 : decode cX8_byteAt 1 = .ok (.ifCond .lt 24, 3) := by decide +kernel
theorem dX8_byteAt_4 : decode cX8_byteAt 4 = .ok (.iload_n 1, 1) := by decide +kernel
theorem dX8_byteAt_5 : decode cX8_byteAt 5 = .ok (.aload_n 0, 1) := by decide +kernel
theorem dX8_byteAt_6 : decode cX8_byteAt 6 = .ok (.getfield 15, 3) := by decide +kernel
theorem dX8_byteAt_9 : decode cX8_byteAt 9 = .ok (.if_icmp .ge 16, 3) := by decide +kernel
theorem dX8_byteAt_25 : decode cX8_byteAt 25 = .ok (.iconst (-1), 1) := by decide +kernel
theorem dX8_byteAt_26 : decode cX8_byteAt 26 = .ok (.ireturn, 1) := by decide +kernel
theorem dX8_put_0 : decode cX8_put 0 = .ok (.bipush 24, 2) := by decide +kernel
theorem dX8_put_2 : decode cX8_put 2 = .ok (.istore_n 2, 1) := by decide +kernel
theorem dX8_put_3 : decode cX8_put 3 = .ok (.iload_n 2, 1) := by decide +kernel
theorem dX8_put_4 : decode cX8_put 4 = .ok (.ifCond .lt 42, 3) := by decide +kernel
theorem dX8_put_7 : decode cX8_put 7 = .ok (.aload_n 0, 1) := by decide +kernel
theorem dX8_put_8 : decode cX8_put 8 = .ok (.getfield 15, 3) := by decide +kernel
theorem dX8_put_11 : decode cX8_put 11 = .ok (.sipush 900, 3) := by decide +kernel
theorem dX8_put_14 : decode cX8_put 14 = .ok (.if_icmp .ge 32, 3) := by decide +kernel
theorem dX8_put_17 : decode cX8_put 17 = .ok (.aload_n 0, 1) := by decide +kernel
theorem dX8_put_18 : decode cX8_put 18 = .ok (.getfield 9, 3) := by decide +kernel
theorem dX8_put_21 : decode cX8_put 21 = .ok (.aload_n 0, 1) := by decide +kernel
theorem dX8_put_22 : decode cX8_put 22 = .ok (.getfield 15, 3) := by decide +kernel
theorem dX8_put_25 : decode cX8_put 25 = .ok (.iload_n 1, 1) := by decide +kernel
theorem dX8_put_26 : decode cX8_put 26 = .ok (.iload_n 2, 1) := by decide +kernel
theorem dX8_put_27 : decode cX8_put 27 = .ok (.ishr, 1) := by decide +kernel
theorem dX8_put_28 : decode cX8_put 28 = .ok (.i2b, 1) := by decide +kernel
theorem dX8_put_29 : decode cX8_put 29 = .ok (.bastore, 1) := by decide +kernel
theorem dX8_put_30 : decode cX8_put 30 = .ok (.aload_n 0, 1) := by decide +kernel
theorem dX8_put_31 : decode cX8_put 31 = .ok (.dup, 1) := by decide +kernel
theorem dX8_put_32 : decode cX8_put 32 = .ok (.getfield 15, 3) := by decide +kernel
theorem dX8_put_35 : decode cX8_put 35 = .ok (.iconst 1, 1) := by decide +kernel
theorem dX8_put_36 : decode cX8_put 36 = .ok (.iadd, 1) := by decide +kernel
theorem dX8_put_37 : decode cX8_put 37 = .ok (.putfield 15, 3) := by decide +kernel
theorem dX8_put_40 : decode cX8_put 40 = .ok (.iinc 2 (-8), 3) := by decide +kernel
theorem dX8_put_43 : decode cX8_put 43 = .ok (.goto (-40), 3) := by decide +kernel
theorem dX8_put_46 : decode cX8_put 46 = .ok (.return_, 1) := by decide +kernel
theorem dX9_oneIf_0 : decode cX9_oneIf 0 = .ok (.iload_n 0, 1) := by decide +kernel
theorem dX9_oneIf_1 : decode cX9_oneIf 1 = .ok (.ifCond .eq 7, 3) := by decide +kernel
theorem dX9_oneIf_8 : decode cX9_oneIf 8 = .ok (.iconst 0, 1) := by decide +kernel
theorem dX9_oneIf_9 : decode cX9_oneIf 9 = .ok (.ireturn, 1) := by decide +kernel
set_option maxHeartbeats 4000000 in
set_option maxRecDepth 100000 in
theorem f_X0_hasWidow (l : Launch) (G : va_G) (cI cJ cZ cB cQ : ClassId) (sz : Nat) (h0 : Nat) (b : Nat → Nat) (p0 : Int64) : CI l yX0_hasWidow (wl_ yX0_hasWidow cX0_hasWidow 3 (some .boolean)) ({ frames := 0, cells := 0, slots := 0, locals := 0 } : Room) G (TY cI cJ cZ cB cQ) [.ref h0, .long p0] [(h0, oX0 b 0 0 0 0 0 0 0 0 0 0)] sz (fun (r : Int32) (u : Unit) => r = 0) (fun _ : Unit => [(h0, oX0 b 0 0 0 0 0 0 0 0 0 0)]) 0 0 := by
  refine CI.goz (cc := cX0_hasWidow) (maxL := 3) (ret := (some .boolean)) (by decide) rfl (Nat.le_of_ble_eq_true rfl) ?_
  intro p e s m below meth c A ls Q hBd hret
  obtain ⟨hx, hb, hr, hml, hts, hown, hlk, hnm, hP, hK, hD, hA, hZ, hl⟩ := hBd
  have hown : s.vm.findClass RX0 = some m.cls := hown
  have hl : lv_has ls 3 [(0, .ref h0), (1, .long p0)] := hl
  have hS : va_S A s.heap s.heap [] := va_S.rf
  refine lv_lload_n hx hb dX0_hasWidow_0 rfl (lv_at hl 1 rfl) ?_
  refine lv_lconst (v := 0) hx hb dX0_hasWidow_1 (by decide) ?_
  refine W.lcmp hx hb dX0_hasWidow_2 ?_
  refine lv_if_lt (tgt := 20) hx hb dX0_hasWidow_3 (by decide) (fun c1 => ?_) (fun c1 => ?_)
  · have c1 := c_lt rfl kl_0 c1
    refine lv_iconst (v := 0) hx hb dX0_hasWidow_20 (by decide) ?_
    exact hret _ _ _ _ 0 () hP hD hS dX0_hasWidow_21 rfl rfl
  · have c1 := c_nlt rfl kl_0 c1
    refine lv_lload_n hx hb dX0_hasWidow_6 rfl (lv_at hl 1 rfl) ?_
    refine lv_aload_n hx hb dX0_hasWidow_7 rfl (lv_at hl 0 rfl) ?_
    refine va_get (D := G) (ci := 0) (v := .int 0) (C := RX0) (T := TX0) (N := 19) hx hb hts iG_X0 hown hK hP 0 rfl rfl 8 (by decide) (hts _ w_86) (fun _ h9 => h9) rfl dX0_hasWidow_8 ?_
    refine lv_i2l (v := 0) hx hb dX0_hasWidow_11 (by decide) ?_
    refine W.lcmp hx hb dX0_hasWidow_12 ?_
    refine lv_if_ge (tgt := 20) hx hb dX0_hasWidow_13 (by decide) (fun c3 => ?_) (fun c3 => absurd (c_nge rfl kl_0 c3) (by omega))
    have c3 := c_ge rfl kl_0 c3
    refine lv_iconst (v := 0) hx hb dX0_hasWidow_20 (by decide) ?_
    exact hret _ _ _ _ 0 () hP hD hS dX0_hasWidow_21 rfl rfl
set_option maxHeartbeats 4000000 in
set_option maxRecDepth 100000 in
theorem f_X0_hasHouse (l : Launch) (G : va_G) (cI cJ cZ cB cQ : ClassId) (sz : Nat) (h0 : Nat) (b : Nat → Nat) (p0 : Int32) : CI l yX0_hasHouse (wl_ yX0_hasHouse cX0_hasHouse 2 (some .boolean)) ({ frames := 0, cells := 0, slots := 0, locals := 0 } : Room) G (TY cI cJ cZ cB cQ) [.ref h0, .int p0] [(h0, oX0 b 0 0 0 0 0 0 0 0 0 0)] sz (fun (r : Int32) (u : Unit) => r = 0) (fun _ : Unit => [(h0, oX0 b 0 0 0 0 0 0 0 0 0 0)]) 0 0 := by
  refine CI.goz (cc := cX0_hasHouse) (maxL := 2) (ret := (some .boolean)) (by decide) rfl (Nat.le_of_ble_eq_true rfl) ?_
  intro p e s m below meth c A ls Q hBd hret
  obtain ⟨hx, hb, hr, hml, hts, hown, hlk, hnm, hP, hK, hD, hA, hZ, hl⟩ := hBd
  have hown : s.vm.findClass RX0 = some m.cls := hown
  have hl : lv_has ls 2 [(0, .ref h0), (1, .int p0)] := hl
  have hS : va_S A s.heap s.heap [] := va_S.rf
  refine lv_iload_n hx hb dX0_hasHouse_0 rfl (lv_at hl 1 rfl) ?_
  refine lv_if_lt (tgt := 16) hx hb dX0_hasHouse_1 (by decide) (fun c1 => ?_) (fun c1 => ?_)
  · have c1 := i_lt rfl ki_0 c1
    refine lv_iconst (v := 0) hx hb dX0_hasHouse_16 (by decide) ?_
    exact hret _ _ _ _ 0 () hP hD hS dX0_hasHouse_17 rfl rfl
  · have c1 := i_nlt rfl ki_0 c1
    refine lv_iload_n hx hb dX0_hasHouse_4 rfl (lv_at hl 1 rfl) ?_
    refine lv_aload_n hx hb dX0_hasHouse_5 rfl (lv_at hl 0 rfl) ?_
    refine va_get (D := G) (ci := 0) (v := .int 0) (C := RX0) (T := TX0) (N := 19) hx hb hts iG_X0 hown hK hP 0 rfl rfl 7 (by decide) (hts _ w_80) (fun _ h9 => h9) rfl dX0_hasHouse_6 ?_
    refine lv_icmp_ge (tgt := 16) hx hb dX0_hasHouse_9 (by decide) (fun c2 => ?_) (fun c2 => absurd (i_nle ki_0 rfl c2) (by omega))
    have c2 := i_le ki_0 rfl c2
    refine lv_iconst (v := 0) hx hb dX0_hasHouse_16 (by decide) ?_
    exact hret _ _ _ _ 0 () hP hD hS dX0_hasHouse_17 rfl rfl
set_option maxHeartbeats 4000000 in
set_option maxRecDepth 100000 in
theorem f_X0_hasYear (l : Launch) (G : va_G) (cI cJ cZ cB cQ : ClassId) (sz : Nat) (h0 : Nat) (b : Nat → Nat) (p0 : Int32) : CI l yX0_hasYear (wl_ yX0_hasYear cX0_hasYear 2 (some .boolean)) ({ frames := 0, cells := 0, slots := 0, locals := 0 } : Room) G (TY cI cJ cZ cB cQ) [.ref h0, .int p0] [(h0, oX0 b 0 0 0 0 0 0 0 0 0 0)] sz (fun (r : Int32) (u : Unit) => r = 0) (fun _ : Unit => [(h0, oX0 b 0 0 0 0 0 0 0 0 0 0)]) 0 0 := by
  refine CI.goz (cc := cX0_hasYear) (maxL := 2) (ret := (some .boolean)) (by decide) rfl (Nat.le_of_ble_eq_true rfl) ?_
  intro p e s m below meth c A ls Q hBd hret
  obtain ⟨hx, hb, hr, hml, hts, hown, hlk, hnm, hP, hK, hD, hA, hZ, hl⟩ := hBd
  have hown : s.vm.findClass RX0 = some m.cls := hown
  have hl : lv_has ls 2 [(0, .ref h0), (1, .int p0)] := hl
  have hS : va_S A s.heap s.heap [] := va_S.rf
  refine lv_aload_n hx hb dX0_hasYear_0 rfl (lv_at hl 0 rfl) ?_
  refine va_get (D := G) (ci := 0) (v := .int 0) (C := RX0) (T := TX0) (N := 19) hx hb hts iG_X0 hown hK hP 0 rfl rfl 0 (by decide) (hts _ w_55) (fun _ h9 => h9) rfl dX0_hasYear_1 ?_
  refine lv_if_le (tgt := 23) hx hb dX0_hasYear_4 (by decide) (fun c1 => ?_) (fun c1 => absurd (by decide) c1)
  refine lv_iconst (v := 0) hx hb dX0_hasYear_23 (by decide) ?_
  exact hret _ _ _ _ 0 () hP hD hS dX0_hasYear_24 rfl rfl
set_option maxHeartbeats 4000000 in
set_option maxRecDepth 100000 in
theorem f_X0_spotOf (l : Launch) (G : va_G) (cI cJ cZ cB cQ : ClassId) (sz : Nat) (h0 : Nat) (b : Nat → Nat) (p0 : Int64) : CI l yX0_spotOf (wl_ yX0_spotOf cX0_spotOf 3 (some .int)) ({ frames := 0, cells := 0, slots := 0, locals := 0 } : Room) G (TY cI cJ cZ cB cQ) [.ref h0, .long p0] [(h0, oX0 b 0 0 0 0 0 0 0 0 0 0)] sz (fun (r : Int32) (u : Unit) => r = (-1)) (fun _ : Unit => [(h0, oX0 b 0 0 0 0 0 0 0 0 0 0)]) 0 0 := by
  refine CI.go (cc := cX0_spotOf) (maxL := 3) (ret := (some .int)) (by decide) rfl (Nat.le_of_ble_eq_true rfl) ?_
  intro p e s m below meth c A ls Q hBd hret
  obtain ⟨hx, hb, hr, hml, hts, hown, hlk, hnm, hP, hK, hD, hA, hZ, hl⟩ := hBd
  have hown : s.vm.findClass RX0 = some m.cls := hown
  have hl : lv_has ls 3 [(0, .ref h0), (1, .long p0)] := hl
  have hS : va_S A s.heap s.heap [] := va_S.rf
  refine lv_lload_n hx hb dX0_spotOf_0 rfl (lv_at hl 1 rfl) ?_
  refine lv_lconst (v := 0) hx hb dX0_spotOf_1 (by decide) ?_
  refine W.lcmp hx hb dX0_spotOf_2 ?_
  refine lv_if_lt (tgt := 34) hx hb dX0_spotOf_3 (by decide) (fun c1 => ?_) (fun c1 => ?_)
  · have c1 := c_lt rfl kl_0 c1
    refine lv_iconst (v := (-1)) hx hb dX0_spotOf_34 (by decide) ?_
    exact hret _ _ _ _ (-1) () hP hD hS dX0_spotOf_35 rfl
  · have c1 := c_nlt rfl kl_0 c1
    refine lv_lload_n hx hb dX0_spotOf_6 rfl (lv_at hl 1 rfl) ?_
    refine lv_ldc2 (v := 10) hx hb hown (hts _ w_657) dX0_spotOf_7 ?_
    refine lv_ldiv hx hb dX0_spotOf_10 (by decide) ?_
    refine lv_topl (fun v2 ev2 => ?_)
    have tv2 : v2.toInt = p0.toInt / 10 := tl_div rfl (by omega) (by decide) kl_10 ev2
    refine lv_aload_n hx hb dX0_spotOf_11 rfl (lv_at hl 0 rfl) ?_
    refine va_get (D := G) (ci := 0) (v := .int 0) (C := RX0) (T := TX0) (N := 19) hx hb hts iG_X0 hown hK hP 0 rfl rfl 4 (by decide) (hts _ w_71) (fun _ h9 => h9) rfl dX0_spotOf_12 ?_
    refine lv_i2l (v := 0) hx hb dX0_spotOf_15 (by decide) ?_
    refine W.lcmp hx hb dX0_spotOf_16 ?_
    refine lv_if_ge (tgt := 34) hx hb dX0_spotOf_17 (by decide) (fun c4 => ?_) (fun c4 => absurd (c_nge tv2 kl_0 c4) (by omega))
    have c4 := c_ge tv2 kl_0 c4
    refine lv_iconst (v := (-1)) hx hb dX0_spotOf_34 (by decide) ?_
    exact hret _ _ _ _ (-1) () hP hD hS dX0_spotOf_35 rfl
set_option maxHeartbeats 4000000 in
set_option maxRecDepth 100000 in
theorem f_X0_field (l : Launch) (G : va_G) (cI cJ cZ cB cQ : ClassId) (sz : Nat) (h0 : Nat) (b : Nat → Nat) : CL l yX0_field (wl_ yX0_field cX0_field 4 (some .long)) ({ frames := 0, cells := 0, slots := 0, locals := 0 } : Room) G (TY cI cJ cZ cB cQ) [.ref h0] [(h0, oX0 b 0 0 0 0 0 0 0 0 0 0)] sz (fun (r : Int64) (u : Unit) => r = 0) (fun _ : Unit => [(h0, oX0 b 0 0 0 0 0 0 0 0 0 0)]) 0 0 := by
  refine CL.go (cc := cX0_field) (maxL := 4) (ret := (some .long)) (by decide) rfl (Nat.le_of_ble_eq_true rfl) ?_
  intro p e s m below meth c A ls Q hBd hret
  obtain ⟨hx, hb, hr, hml, hts, hown, hlk, hnm, hP, hK, hD, hA, hZ, hl⟩ := hBd
  have hown : s.vm.findClass RX0 = some m.cls := hown
  have hl : lv_has ls 4 [(0, .ref h0)] := hl
  have hS : va_S A s.heap s.heap [] := va_S.rf
  refine lv_lconst (v := 0) hx hb dX0_field_0 (by decide) ?_
  refine lv_lstore_n (lv' := [(1, .long 0), (0, .ref h0)]) hx hb dX0_field_1 rfl hl (by decide) rfl (fun ls hl => ?_)
  refine lv_iconst (v := 0) hx hb dX0_field_2 (by decide) ?_
  refine lv_istore_n (lv' := [(3, .int 0), (1, .long 0), (0, .ref h0)]) hx hb dX0_field_3 rfl hl (by decide) rfl (fun ls hl => ?_)
  refine lv_iload_n hx hb dX0_field_4 rfl (lv_at hl 0 rfl) ?_
  refine lv_aload_n hx hb dX0_field_5 rfl (lv_at hl 2 rfl) ?_
  refine va_get (D := G) (ci := 0) (v := .int 0) (C := RX0) (T := TX0) (N := 19) hx hb hts iG_X0 hown hK hP 0 rfl rfl 4 (by decide) (hts _ w_71) (fun _ h9 => h9) rfl dX0_field_6 ?_
  refine lv_icmp_ge (tgt := 34) hx hb dX0_field_9 (by decide) (fun c1 => ?_) (fun c1 => absurd (by decide) c1)
  refine lv_lload_n hx hb dX0_field_34 rfl (lv_at hl 1 rfl) ?_
  exact hret _ _ _ _ 0 () hP hD hS dX0_field_35 rfl
set_option maxHeartbeats 4000000 in
set_option maxRecDepth 100000 in
theorem f_X0_creekBits (l : Launch) (G : va_G) (cI cJ cZ cB cQ : ClassId) (sz : Nat) (h0 : Nat) (b : Nat → Nat) : CL l yX0_creekBits (wl_ yX0_creekBits cX0_creekBits 4 (some .long)) ({ frames := 0, cells := 0, slots := 0, locals := 0 } : Room) G (TY cI cJ cZ cB cQ) [.ref h0] [(h0, oX0 b 0 0 0 0 0 0 0 0 0 0)] sz (fun (r : Int64) (u : Unit) => r = 0) (fun _ : Unit => [(h0, oX0 b 0 0 0 0 0 0 0 0 0 0)]) 0 0 := by
  refine CL.go (cc := cX0_creekBits) (maxL := 4) (ret := (some .long)) (by decide) rfl (Nat.le_of_ble_eq_true rfl) ?_
  intro p e s m below meth c A ls Q hBd hret
  obtain ⟨hx, hb, hr, hml, hts, hown, hlk, hnm, hP, hK, hD, hA, hZ, hl⟩ := hBd
  have hown : s.vm.findClass RX0 = some m.cls := hown
  have hl : lv_has ls 4 [(0, .ref h0)] := hl
  have hS : va_S A s.heap s.heap [] := va_S.rf
  refine lv_lconst (v := 0) hx hb dX0_creekBits_0 (by decide) ?_
  refine lv_lstore_n (lv' := [(1, .long 0), (0, .ref h0)]) hx hb dX0_creekBits_1 rfl hl (by decide) rfl (fun ls hl => ?_)
  refine lv_iconst (v := 0) hx hb dX0_creekBits_2 (by decide) ?_
  refine lv_istore_n (lv' := [(3, .int 0), (1, .long 0), (0, .ref h0)]) hx hb dX0_creekBits_3 rfl hl (by decide) rfl (fun ls hl => ?_)
  refine lv_iload_n hx hb dX0_creekBits_4 rfl (lv_at hl 0 rfl) ?_
  refine lv_aload_n hx hb dX0_creekBits_5 rfl (lv_at hl 2 rfl) ?_
  refine va_get (D := G) (ci := 0) (v := .int 0) (C := RX0) (T := TX0) (N := 19) hx hb hts iG_X0 hown hK hP 0 rfl rfl 6 (by decide) (hts _ w_77) (fun _ h9 => h9) rfl dX0_creekBits_6 ?_
  refine lv_icmp_ge (tgt := 30) hx hb dX0_creekBits_9 (by decide) (fun c1 => ?_) (fun c1 => absurd (by decide) c1)
  refine lv_iconst (v := 0) hx hb dX0_creekBits_30 (by decide) ?_
  refine lv_istore_n (lv' := [(3, .int 0), (1, .long 0), (0, .ref h0)]) hx hb dX0_creekBits_31 rfl hl (by decide) rfl (fun ls hl => ?_)
  refine lv_iload_n hx hb dX0_creekBits_32 rfl (lv_at hl 0 rfl) ?_
  refine lv_aload_n hx hb dX0_creekBits_33 rfl (lv_at hl 2 rfl) ?_
  refine va_get (D := G) (ci := 0) (v := .int 0) (C := RX0) (T := TX0) (N := 19) hx hb hts iG_X0 hown hK hP 0 rfl rfl 9 (by decide) (hts _ w_89) (fun _ h9 => h9) rfl dX0_creekBits_34 ?_
  refine lv_icmp_ge (tgt := 73) hx hb dX0_creekBits_37 (by decide) (fun c2 => ?_) (fun c2 => absurd (by decide) c2)
  refine lv_lload_n hx hb dX0_creekBits_73 rfl (lv_at hl 1 rfl) ?_
  exact hret _ _ _ _ 0 () hP hD hS dX0_creekBits_74 rfl
set_option maxHeartbeats 4000000 in
set_option maxRecDepth 100000 in
theorem f_X0_walkerBits (l : Launch) (G : va_G) (cI cJ cZ cB cQ : ClassId) (sz : Nat) (h0 : Nat) (b : Nat → Nat) : CI l yX0_walkerBits (wl_ yX0_walkerBits cX0_walkerBits 3 (some .int)) ({ frames := 0, cells := 0, slots := 0, locals := 0 } : Room) G (TY cI cJ cZ cB cQ) [.ref h0] [(h0, oX0 b 0 0 0 0 0 0 0 0 0 0)] sz (fun (r : Int32) (u : Unit) => r = 0) (fun _ : Unit => [(h0, oX0 b 0 0 0 0 0 0 0 0 0 0)]) 0 0 := by
  refine CI.go (cc := cX0_walkerBits) (maxL := 3) (ret := (some .int)) (by decide) rfl (Nat.le_of_ble_eq_true rfl) ?_
  intro p e s m below meth c A ls Q hBd hret
  obtain ⟨hx, hb, hr, hml, hts, hown, hlk, hnm, hP, hK, hD, hA, hZ, hl⟩ := hBd
  have hown : s.vm.findClass RX0 = some m.cls := hown
  have hl : lv_has ls 3 [(0, .ref h0)] := hl
  have hS : va_S A s.heap s.heap [] := va_S.rf
  refine lv_iconst (v := 1) hx hb dX0_walkerBits_0 (by decide) ?_
  refine lv_aload_n hx hb dX0_walkerBits_1 rfl (lv_at hl 0 rfl) ?_
  refine va_get (D := G) (ci := 0) (v := .int 0) (C := RX0) (T := TX0) (N := 19) hx hb hts iG_X0 hown hK hP 0 rfl rfl 8 (by decide) (hts _ w_86) (fun _ h9 => h9) rfl dX0_walkerBits_2 ?_
  refine lv_ishl hx hb dX0_walkerBits_5 ?_
  refine lv_topi (fun v1 ev1 => ?_)
  obtain rfl : v1 = 1 := ev1.trans (by decide)
  refine lv_iconst (v := 1) hx hb dX0_walkerBits_6 (by decide) ?_
  refine lv_isub hx hb dX0_walkerBits_7 ?_
  refine lv_topi (fun v2 ev2 => ?_)
  obtain rfl : v2 = 0 := ev2.trans (by decide)
  refine lv_istore_n (lv' := [(1, .int 0), (0, .ref h0)]) hx hb dX0_walkerBits_8 rfl hl (by decide) rfl (fun ls hl => ?_)
  refine lv_iconst (v := 0) hx hb dX0_walkerBits_9 (by decide) ?_
  refine lv_istore_n (lv' := [(2, .int 0), (1, .int 0), (0, .ref h0)]) hx hb dX0_walkerBits_10 rfl hl (by decide) rfl (fun ls hl => ?_)
  refine lv_iload_n hx hb dX0_walkerBits_11 rfl (lv_at hl 0 rfl) ?_
  refine lv_aload_n hx hb dX0_walkerBits_12 rfl (lv_at hl 2 rfl) ?_
  refine va_get (D := G) (ci := 0) (v := .int 0) (C := RX0) (T := TX0) (N := 19) hx hb hts iG_X0 hown hK hP 0 rfl rfl 9 (by decide) (hts _ w_89) (fun _ h9 => h9) rfl dX0_walkerBits_13 ?_
  refine lv_icmp_ge (tgt := 52) hx hb dX0_walkerBits_16 (by decide) (fun c3 => ?_) (fun c3 => absurd (by decide) c3)
  refine lv_iload_n hx hb dX0_walkerBits_52 rfl (lv_at hl 1 rfl) ?_
  exact hret _ _ _ _ 0 () hP hD hS dX0_walkerBits_53 rfl
set_option maxHeartbeats 4000000 in
set_option maxRecDepth 100000 in
theorem f_X0_clear (l : Launch) (G : va_G) (cI cJ cZ cB cQ : ClassId) (sz : Nat) (h0 : Nat) (b : Nat → Nat) : CV l yX0_clear (wl_ yX0_clear cX0_clear 1 none) ({ frames := 0, cells := 0, slots := 0, locals := 0 } : Room) G (TY cI cJ cZ cB cQ) [.ref h0] [(h0, oX0 b 0 0 0 0 0 0 0 0 0 0)] sz (fun (u : Unit) => True) (fun _ : Unit => [(h0, oX0 b 0 0 0 0 0 0 0 0 0 0)]) 0 0 := by
  refine CV.go (cc := cX0_clear) (maxL := 1) (ret := none) (by decide) rfl (Nat.le_of_ble_eq_true rfl) ?_
  intro p e s m below meth c A ls Q hBd hret
  obtain ⟨hx, hb, hr, hml, hts, hown, hlk, hnm, hP, hK, hD, hA, hZ, hl⟩ := hBd
  have hown : s.vm.findClass RX0 = some m.cls := hown
  have hl : lv_has ls 1 [(0, .ref h0)] := hl
  have hS : va_S A s.heap s.heap [] := va_S.rf
  refine lv_aload_n hx hb dX0_clear_0 rfl (lv_at hl 0 rfl) ?_
  refine lv_iconst (v := 0) hx hb dX0_clear_1 (by decide) ?_
  refine va_put (D := G) (ci := 0) (v := .int 0) (ty := .int) (C := RX0) (T := TX0) (N := 19) hx hb hts iG_X0 tyX0 tyX0_ok nmX0 hown hK hP hD hS 0 rfl rfl 0 (by decide) (hts _ w_55) (fun _ h9 => h9) rfl (by decide +kernel) rfl rfl (Nat.le_of_ble_eq_true rfl) dX0_clear_2 (fun H locs hP hD hS => ?_)
  have hP : va_P G vwCl [(h0, oX0 b 0 0 0 0 0 0 0 0 0 0)] H := hP
  have hD : va_D A [(h0, oX0 b 0 0 0 0 0 0 0 0 0 0)] := hD
  refine lv_aload_n hx hb dX0_clear_5 rfl (lv_at hl 0 rfl) ?_
  refine lv_iconst (v := 0) hx hb dX0_clear_6 (by decide) ?_
  refine va_put (D := G) (ci := 0) (v := .int 0) (ty := .int) (C := RX0) (T := TX0) (N := 19) hx hb hts iG_X0 tyX0 tyX0_ok nmX0 hown hK hP hD hS 0 rfl rfl 1 (by decide) (hts _ w_58) (fun _ h9 => h9) rfl (by decide +kernel) rfl rfl (Nat.le_of_ble_eq_true rfl) dX0_clear_7 (fun H locs hP hD hS => ?_)
  have hP : va_P G vwCl [(h0, oX0 b 0 0 0 0 0 0 0 0 0 0)] H := hP
  have hD : va_D A [(h0, oX0 b 0 0 0 0 0 0 0 0 0 0)] := hD
  refine lv_aload_n hx hb dX0_clear_10 rfl (lv_at hl 0 rfl) ?_
  refine lv_iconst (v := 0) hx hb dX0_clear_11 (by decide) ?_
  refine va_put (D := G) (ci := 0) (v := .int 0) (ty := .int) (C := RX0) (T := TX0) (N := 19) hx hb hts iG_X0 tyX0 tyX0_ok nmX0 hown hK hP hD hS 0 rfl rfl 2 (by decide) (hts _ w_64) (fun _ h9 => h9) rfl (by decide +kernel) rfl rfl (Nat.le_of_ble_eq_true rfl) dX0_clear_12 (fun H locs hP hD hS => ?_)
  have hP : va_P G vwCl [(h0, oX0 b 0 0 0 0 0 0 0 0 0 0)] H := hP
  have hD : va_D A [(h0, oX0 b 0 0 0 0 0 0 0 0 0 0)] := hD
  refine lv_aload_n hx hb dX0_clear_15 rfl (lv_at hl 0 rfl) ?_
  refine lv_iconst (v := 0) hx hb dX0_clear_16 (by decide) ?_
  refine va_put (D := G) (ci := 0) (v := .int 0) (ty := .int) (C := RX0) (T := TX0) (N := 19) hx hb hts iG_X0 tyX0 tyX0_ok nmX0 hown hK hP hD hS 0 rfl rfl 3 (by decide) (hts _ w_67) (fun _ h9 => h9) rfl (by decide +kernel) rfl rfl (Nat.le_of_ble_eq_true rfl) dX0_clear_17 (fun H locs hP hD hS => ?_)
  have hP : va_P G vwCl [(h0, oX0 b 0 0 0 0 0 0 0 0 0 0)] H := hP
  have hD : va_D A [(h0, oX0 b 0 0 0 0 0 0 0 0 0 0)] := hD
  refine lv_aload_n hx hb dX0_clear_20 rfl (lv_at hl 0 rfl) ?_
  refine lv_iconst (v := 0) hx hb dX0_clear_21 (by decide) ?_
  refine va_put (D := G) (ci := 0) (v := .int 0) (ty := .int) (C := RX0) (T := TX0) (N := 19) hx hb hts iG_X0 tyX0 tyX0_ok nmX0 hown hK hP hD hS 0 rfl rfl 4 (by decide) (hts _ w_71) (fun _ h9 => h9) rfl (by decide +kernel) rfl rfl (Nat.le_of_ble_eq_true rfl) dX0_clear_22 (fun H locs hP hD hS => ?_)
  have hP : va_P G vwCl [(h0, oX0 b 0 0 0 0 0 0 0 0 0 0)] H := hP
  have hD : va_D A [(h0, oX0 b 0 0 0 0 0 0 0 0 0 0)] := hD
  refine lv_aload_n hx hb dX0_clear_25 rfl (lv_at hl 0 rfl) ?_
  refine lv_iconst (v := 0) hx hb dX0_clear_26 (by decide) ?_
  refine va_put (D := G) (ci := 0) (v := .int 0) (ty := .int) (C := RX0) (T := TX0) (N := 19) hx hb hts iG_X0 tyX0 tyX0_ok nmX0 hown hK hP hD hS 0 rfl rfl 5 (by decide) (hts _ w_74) (fun _ h9 => h9) rfl (by decide +kernel) rfl rfl (Nat.le_of_ble_eq_true rfl) dX0_clear_27 (fun H locs hP hD hS => ?_)
  have hP : va_P G vwCl [(h0, oX0 b 0 0 0 0 0 0 0 0 0 0)] H := hP
  have hD : va_D A [(h0, oX0 b 0 0 0 0 0 0 0 0 0 0)] := hD
  refine lv_aload_n hx hb dX0_clear_30 rfl (lv_at hl 0 rfl) ?_
  refine lv_iconst (v := 0) hx hb dX0_clear_31 (by decide) ?_
  refine va_put (D := G) (ci := 0) (v := .int 0) (ty := .int) (C := RX0) (T := TX0) (N := 19) hx hb hts iG_X0 tyX0 tyX0_ok nmX0 hown hK hP hD hS 0 rfl rfl 6 (by decide) (hts _ w_77) (fun _ h9 => h9) rfl (by decide +kernel) rfl rfl (Nat.le_of_ble_eq_true rfl) dX0_clear_32 (fun H locs hP hD hS => ?_)
  have hP : va_P G vwCl [(h0, oX0 b 0 0 0 0 0 0 0 0 0 0)] H := hP
  have hD : va_D A [(h0, oX0 b 0 0 0 0 0 0 0 0 0 0)] := hD
  refine lv_aload_n hx hb dX0_clear_35 rfl (lv_at hl 0 rfl) ?_
  refine lv_iconst (v := 0) hx hb dX0_clear_36 (by decide) ?_
  refine va_put (D := G) (ci := 0) (v := .int 0) (ty := .int) (C := RX0) (T := TX0) (N := 19) hx hb hts iG_X0 tyX0 tyX0_ok nmX0 hown hK hP hD hS 0 rfl rfl 7 (by decide) (hts _ w_80) (fun _ h9 => h9) rfl (by decide +kernel) rfl rfl (Nat.le_of_ble_eq_true rfl) dX0_clear_37 (fun H locs hP hD hS => ?_)
  have hP : va_P G vwCl [(h0, oX0 b 0 0 0 0 0 0 0 0 0 0)] H := hP
  have hD : va_D A [(h0, oX0 b 0 0 0 0 0 0 0 0 0 0)] := hD
  refine lv_aload_n hx hb dX0_clear_40 rfl (lv_at hl 0 rfl) ?_
  refine lv_iconst (v := 0) hx hb dX0_clear_41 (by decide) ?_
  refine va_put (D := G) (ci := 0) (v := .int 0) (ty := .int) (C := RX0) (T := TX0) (N := 19) hx hb hts iG_X0 tyX0 tyX0_ok nmX0 hown hK hP hD hS 0 rfl rfl 8 (by decide) (hts _ w_86) (fun _ h9 => h9) rfl (by decide +kernel) rfl rfl (Nat.le_of_ble_eq_true rfl) dX0_clear_42 (fun H locs hP hD hS => ?_)
  have hP : va_P G vwCl [(h0, oX0 b 0 0 0 0 0 0 0 0 0 0)] H := hP
  have hD : va_D A [(h0, oX0 b 0 0 0 0 0 0 0 0 0 0)] := hD
  refine lv_aload_n hx hb dX0_clear_45 rfl (lv_at hl 0 rfl) ?_
  refine lv_iconst (v := 0) hx hb dX0_clear_46 (by decide) ?_
  refine va_put (D := G) (ci := 0) (v := .int 0) (ty := .int) (C := RX0) (T := TX0) (N := 19) hx hb hts iG_X0 tyX0 tyX0_ok nmX0 hown hK hP hD hS 0 rfl rfl 9 (by decide) (hts _ w_89) (fun _ h9 => h9) rfl (by decide +kernel) rfl rfl (Nat.le_of_ble_eq_true rfl) dX0_clear_47 (fun H locs hP hD hS => ?_)
  have hP : va_P G vwCl [(h0, oX0 b 0 0 0 0 0 0 0 0 0 0)] H := hP
  have hD : va_D A [(h0, oX0 b 0 0 0 0 0 0 0 0 0 0)] := hD
  exact hret _ _ _ _ () hP hD hS dX0_clear_50 trivial
set_option maxHeartbeats 4000000 in
set_option maxRecDepth 100000 in
theorem f_X0_become (l : Launch) (G : va_G) (cI cJ cZ cB cQ : ClassId) (sz : Nat) (h0 : Nat) (b : Nat → Nat) (h1 : Nat) (b1 : Nat → Nat) : CV l yX0_become (wl_ yX0_become cX0_become 2 none) ({ frames := 1, cells := 0, slots := 0, locals := 40 } : Room) G (TY cI cJ cZ cB cQ) [.ref h0, .ref h1] [(h0, oX0 b 0 0 0 0 0 0 0 0 0 0), (b 10, .inl (cI, 12, .inl (fun _ => 0))), (b 11, .inl (cI, 6, .inl (fun _ => 0))), (b 12, .inl (cI, 7, .inl (fun _ => 0))), (b 13, .inl (cI, 7, .inl (fun _ => 0))), (b 14, .inl (cI, 7, .inl (fun _ => 0))), (b 15, .inl (cI, 7, .inl (fun _ => 0))), (b 16, .inl (cI, 7, .inl (fun _ => 0))), (b 17, .inl (cI, 56, .inl (fun _ => 0))), (b 18, .inl (cI, 30, .inl (fun _ => 0))), (h1, oX0 b1 0 0 0 0 0 0 0 0 0 0), (b1 10, .inl (cI, 12, .inl (fun _ => 0))), (b1 11, .inl (cI, 6, .inl (fun _ => 0))), (b1 12, .inl (cI, 7, .inl (fun _ => 0))), (b1 13, .inl (cI, 7, .inl (fun _ => 0))), (b1 14, .inl (cI, 7, .inl (fun _ => 0))), (b1 15, .inl (cI, 7, .inl (fun _ => 0))), (b1 16, .inl (cI, 7, .inl (fun _ => 0))), (b1 17, .inl (cI, 56, .inl (fun _ => 0))), (b1 18, .inl (cI, 30, .inl (fun _ => 0)))] sz (fun (u : Unit) => True) (fun _ : Unit => [(h0, oX0 b 0 0 0 0 0 0 0 0 0 0), (b 10, .inl (cI, 12, .inl (fun _ => 0))), (b 11, .inl (cI, 6, .inl (fun _ => 0))), (b 12, .inl (cI, 7, .inl (fun _ => 0))), (b 13, .inl (cI, 7, .inl (fun _ => 0))), (b 14, .inl (cI, 7, .inl (fun _ => 0))), (b 15, .inl (cI, 7, .inl (fun _ => 0))), (b 16, .inl (cI, 7, .inl (fun _ => 0))), (b 17, .inl (cI, 56, .inl (fun _ => 0))), (b 18, .inl (cI, 30, .inl (fun _ => 0))), (h1, oX0 b1 0 0 0 0 0 0 0 0 0 0), (b1 10, .inl (cI, 12, .inl (fun _ => 0))), (b1 11, .inl (cI, 6, .inl (fun _ => 0))), (b1 12, .inl (cI, 7, .inl (fun _ => 0))), (b1 13, .inl (cI, 7, .inl (fun _ => 0))), (b1 14, .inl (cI, 7, .inl (fun _ => 0))), (b1 15, .inl (cI, 7, .inl (fun _ => 0))), (b1 16, .inl (cI, 7, .inl (fun _ => 0))), (b1 17, .inl (cI, 56, .inl (fun _ => 0))), (b1 18, .inl (cI, 30, .inl (fun _ => 0)))]) 0 0 := by
  refine CV.go (cc := cX0_become) (maxL := 2) (ret := none) (by decide) rfl (Nat.le_of_ble_eq_true rfl) ?_
  intro p e s m below meth c A ls Q hBd hret
  obtain ⟨hx, hb, hr, hml, hts, hown, hlk, hnm, hP, hK, hD, hA, hZ, hl⟩ := hBd
  have hown : s.vm.findClass RX0 = some m.cls := hown
  have hl : lv_has ls 2 [(0, .ref h0), (1, .ref h1)] := hl
  have hS : va_S A s.heap s.heap [] := va_S.rf
  refine lv_aload_n hx hb dX0_become_0 rfl (lv_at hl 0 rfl) ?_
  refine lv_aload_n hx hb dX0_become_1 rfl (lv_at hl 1 rfl) ?_
  refine va_get (D := G) (ci := 0) (v := .int 0) (C := RX0) (T := TX0) (N := 19) hx hb hts iG_X0 hown hK hP 10 rfl rfl 0 (by decide) (hts _ w_55) (fun _ h9 => h9) rfl dX0_become_2 ?_
  refine va_put (D := G) (ci := 0) (v := .int 0) (ty := .int) (C := RX0) (T := TX0) (N := 19) hx hb hts iG_X0 tyX0 tyX0_ok nmX0 hown hK hP hD hS 0 rfl rfl 0 (by decide) (hts _ w_55) (fun _ h9 => h9) rfl (by decide +kernel) rfl rfl (Nat.le_of_ble_eq_true rfl) dX0_become_5 (fun H locs hP hD hS => ?_)
  have hP : va_P G vwCl [(h0, oX0 b 0 0 0 0 0 0 0 0 0 0), (b 10, .inl (cI, 12, .inl (fun _ => 0))), (b 11, .inl (cI, 6, .inl (fun _ => 0))), (b 12, .inl (cI, 7, .inl (fun _ => 0))), (b 13, .inl (cI, 7, .inl (fun _ => 0))), (b 14, .inl (cI, 7, .inl (fun _ => 0))), (b 15, .inl (cI, 7, .inl (fun _ => 0))), (b 16, .inl (cI, 7, .inl (fun _ => 0))), (b 17, .inl (cI, 56, .inl (fun _ => 0))), (b 18, .inl (cI, 30, .inl (fun _ => 0))), (h1, oX0 b1 0 0 0 0 0 0 0 0 0 0), (b1 10, .inl (cI, 12, .inl (fun _ => 0))), (b1 11, .inl (cI, 6, .inl (fun _ => 0))), (b1 12, .inl (cI, 7, .inl (fun _ => 0))), (b1 13, .inl (cI, 7, .inl (fun _ => 0))), (b1 14, .inl (cI, 7, .inl (fun _ => 0))), (b1 15, .inl (cI, 7, .inl (fun _ => 0))), (b1 16, .inl (cI, 7, .inl (fun _ => 0))), (b1 17, .inl (cI, 56, .inl (fun _ => 0))), (b1 18, .inl (cI, 30, .inl (fun _ => 0)))] H := hP
  have hD : va_D A [(h0, oX0 b 0 0 0 0 0 0 0 0 0 0), (b 10, .inl (cI, 12, .inl (fun _ => 0))), (b 11, .inl (cI, 6, .inl (fun _ => 0))), (b 12, .inl (cI, 7, .inl (fun _ => 0))), (b 13, .inl (cI, 7, .inl (fun _ => 0))), (b 14, .inl (cI, 7, .inl (fun _ => 0))), (b 15, .inl (cI, 7, .inl (fun _ => 0))), (b 16, .inl (cI, 7, .inl (fun _ => 0))), (b 17, .inl (cI, 56, .inl (fun _ => 0))), (b 18, .inl (cI, 30, .inl (fun _ => 0))), (h1, oX0 b1 0 0 0 0 0 0 0 0 0 0), (b1 10, .inl (cI, 12, .inl (fun _ => 0))), (b1 11, .inl (cI, 6, .inl (fun _ => 0))), (b1 12, .inl (cI, 7, .inl (fun _ => 0))), (b1 13, .inl (cI, 7, .inl (fun _ => 0))), (b1 14, .inl (cI, 7, .inl (fun _ => 0))), (b1 15, .inl (cI, 7, .inl (fun _ => 0))), (b1 16, .inl (cI, 7, .inl (fun _ => 0))), (b1 17, .inl (cI, 56, .inl (fun _ => 0))), (b1 18, .inl (cI, 30, .inl (fun _ => 0)))] := hD
  refine lv_aload_n hx hb dX0_become_8 rfl (lv_at hl 0 rfl) ?_
  refine lv_aload_n hx hb dX0_become_9 rfl (lv_at hl 1 rfl) ?_
  refine va_get (D := G) (ci := 0) (v := .int 0) (C := RX0) (T := TX0) (N := 19) hx hb hts iG_X0 hown hK hP 10 rfl rfl 1 (by decide) (hts _ w_58) (fun _ h9 => h9) rfl dX0_become_10 ?_
  refine va_put (D := G) (ci := 0) (v := .int 0) (ty := .int) (C := RX0) (T := TX0) (N := 19) hx hb hts iG_X0 tyX0 tyX0_ok nmX0 hown hK hP hD hS 0 rfl rfl 1 (by decide) (hts _ w_58) (fun _ h9 => h9) rfl (by decide +kernel) rfl rfl (Nat.le_of_ble_eq_true rfl) dX0_become_13 (fun H locs hP hD hS => ?_)
  have hP : va_P G vwCl [(h0, oX0 b 0 0 0 0 0 0 0 0 0 0), (b 10, .inl (cI, 12, .inl (fun _ => 0))), (b 11, .inl (cI, 6, .inl (fun _ => 0))), (b 12, .inl (cI, 7, .inl (fun _ => 0))), (b 13, .inl (cI, 7, .inl (fun _ => 0))), (b 14, .inl (cI, 7, .inl (fun _ => 0))), (b 15, .inl (cI, 7, .inl (fun _ => 0))), (b 16, .inl (cI, 7, .inl (fun _ => 0))), (b 17, .inl (cI, 56, .inl (fun _ => 0))), (b 18, .inl (cI, 30, .inl (fun _ => 0))), (h1, oX0 b1 0 0 0 0 0 0 0 0 0 0), (b1 10, .inl (cI, 12, .inl (fun _ => 0))), (b1 11, .inl (cI, 6, .inl (fun _ => 0))), (b1 12, .inl (cI, 7, .inl (fun _ => 0))), (b1 13, .inl (cI, 7, .inl (fun _ => 0))), (b1 14, .inl (cI, 7, .inl (fun _ => 0))), (b1 15, .inl (cI, 7, .inl (fun _ => 0))), (b1 16, .inl (cI, 7, .inl (fun _ => 0))), (b1 17, .inl (cI, 56, .inl (fun _ => 0))), (b1 18, .inl (cI, 30, .inl (fun _ => 0)))] H := hP
  have hD : va_D A [(h0, oX0 b 0 0 0 0 0 0 0 0 0 0), (b 10, .inl (cI, 12, .inl (fun _ => 0))), (b 11, .inl (cI, 6, .inl (fun _ => 0))), (b 12, .inl (cI, 7, .inl (fun _ => 0))), (b 13, .inl (cI, 7, .inl (fun _ => 0))), (b 14, .inl (cI, 7, .inl (fun _ => 0))), (b 15, .inl (cI, 7, .inl (fun _ => 0))), (b 16, .inl (cI, 7, .inl (fun _ => 0))), (b 17, .inl (cI, 56, .inl (fun _ => 0))), (b 18, .inl (cI, 30, .inl (fun _ => 0))), (h1, oX0 b1 0 0 0 0 0 0 0 0 0 0), (b1 10, .inl (cI, 12, .inl (fun _ => 0))), (b1 11, .inl (cI, 6, .inl (fun _ => 0))), (b1 12, .inl (cI, 7, .inl (fun _ => 0))), (b1 13, .inl (cI, 7, .inl (fun _ => 0))), (b1 14, .inl (cI, 7, .inl (fun _ => 0))), (b1 15, .inl (cI, 7, .inl (fun _ => 0))), (b1 16, .inl (cI, 7, .inl (fun _ => 0))), (b1 17, .inl (cI, 56, .inl (fun _ => 0))), (b1 18, .inl (cI, 30, .inl (fun _ => 0)))] := hD
  refine lv_aload_n hx hb dX0_become_16 rfl (lv_at hl 0 rfl) ?_
  refine lv_aload_n hx hb dX0_become_17 rfl (lv_at hl 1 rfl) ?_
  refine va_get (D := G) (ci := 0) (v := .int 0) (C := RX0) (T := TX0) (N := 19) hx hb hts iG_X0 hown hK hP 10 rfl rfl 2 (by decide) (hts _ w_64) (fun _ h9 => h9) rfl dX0_become_18 ?_
  refine va_put (D := G) (ci := 0) (v := .int 0) (ty := .int) (C := RX0) (T := TX0) (N := 19) hx hb hts iG_X0 tyX0 tyX0_ok nmX0 hown hK hP hD hS 0 rfl rfl 2 (by decide) (hts _ w_64) (fun _ h9 => h9) rfl (by decide +kernel) rfl rfl (Nat.le_of_ble_eq_true rfl) dX0_become_21 (fun H locs hP hD hS => ?_)
  have hP : va_P G vwCl [(h0, oX0 b 0 0 0 0 0 0 0 0 0 0), (b 10, .inl (cI, 12, .inl (fun _ => 0))), (b 11, .inl (cI, 6, .inl (fun _ => 0))), (b 12, .inl (cI, 7, .inl (fun _ => 0))), (b 13, .inl (cI, 7, .inl (fun _ => 0))), (b 14, .inl (cI, 7, .inl (fun _ => 0))), (b 15, .inl (cI, 7, .inl (fun _ => 0))), (b 16, .inl (cI, 7, .inl (fun _ => 0))), (b 17, .inl (cI, 56, .inl (fun _ => 0))), (b 18, .inl (cI, 30, .inl (fun _ => 0))), (h1, oX0 b1 0 0 0 0 0 0 0 0 0 0), (b1 10, .inl (cI, 12, .inl (fun _ => 0))), (b1 11, .inl (cI, 6, .inl (fun _ => 0))), (b1 12, .inl (cI, 7, .inl (fun _ => 0))), (b1 13, .inl (cI, 7, .inl (fun _ => 0))), (b1 14, .inl (cI, 7, .inl (fun _ => 0))), (b1 15, .inl (cI, 7, .inl (fun _ => 0))), (b1 16, .inl (cI, 7, .inl (fun _ => 0))), (b1 17, .inl (cI, 56, .inl (fun _ => 0))), (b1 18, .inl (cI, 30, .inl (fun _ => 0)))] H := hP
  have hD : va_D A [(h0, oX0 b 0 0 0 0 0 0 0 0 0 0), (b 10, .inl (cI, 12, .inl (fun _ => 0))), (b 11, .inl (cI, 6, .inl (fun _ => 0))), (b 12, .inl (cI, 7, .inl (fun _ => 0))), (b 13, .inl (cI, 7, .inl (fun _ => 0))), (b 14, .inl (cI, 7, .inl (fun _ => 0))), (b 15, .inl (cI, 7, .inl (fun _ => 0))), (b 16, .inl (cI, 7, .inl (fun _ => 0))), (b 17, .inl (cI, 56, .inl (fun _ => 0))), (b 18, .inl (cI, 30, .inl (fun _ => 0))), (h1, oX0 b1 0 0 0 0 0 0 0 0 0 0), (b1 10, .inl (cI, 12, .inl (fun _ => 0))), (b1 11, .inl (cI, 6, .inl (fun _ => 0))), (b1 12, .inl (cI, 7, .inl (fun _ => 0))), (b1 13, .inl (cI, 7, .inl (fun _ => 0))), (b1 14, .inl (cI, 7, .inl (fun _ => 0))), (b1 15, .inl (cI, 7, .inl (fun _ => 0))), (b1 16, .inl (cI, 7, .inl (fun _ => 0))), (b1 17, .inl (cI, 56, .inl (fun _ => 0))), (b1 18, .inl (cI, 30, .inl (fun _ => 0)))] := hD
  refine lv_aload_n hx hb dX0_become_24 rfl (lv_at hl 0 rfl) ?_
  refine lv_aload_n hx hb dX0_become_25 rfl (lv_at hl 1 rfl) ?_
  refine va_get (D := G) (ci := 0) (v := .int 0) (C := RX0) (T := TX0) (N := 19) hx hb hts iG_X0 hown hK hP 10 rfl rfl 3 (by decide) (hts _ w_67) (fun _ h9 => h9) rfl dX0_become_26 ?_
  refine va_put (D := G) (ci := 0) (v := .int 0) (ty := .int) (C := RX0) (T := TX0) (N := 19) hx hb hts iG_X0 tyX0 tyX0_ok nmX0 hown hK hP hD hS 0 rfl rfl 3 (by decide) (hts _ w_67) (fun _ h9 => h9) rfl (by decide +kernel) rfl rfl (Nat.le_of_ble_eq_true rfl) dX0_become_29 (fun H locs hP hD hS => ?_)
  have hP : va_P G vwCl [(h0, oX0 b 0 0 0 0 0 0 0 0 0 0), (b 10, .inl (cI, 12, .inl (fun _ => 0))), (b 11, .inl (cI, 6, .inl (fun _ => 0))), (b 12, .inl (cI, 7, .inl (fun _ => 0))), (b 13, .inl (cI, 7, .inl (fun _ => 0))), (b 14, .inl (cI, 7, .inl (fun _ => 0))), (b 15, .inl (cI, 7, .inl (fun _ => 0))), (b 16, .inl (cI, 7, .inl (fun _ => 0))), (b 17, .inl (cI, 56, .inl (fun _ => 0))), (b 18, .inl (cI, 30, .inl (fun _ => 0))), (h1, oX0 b1 0 0 0 0 0 0 0 0 0 0), (b1 10, .inl (cI, 12, .inl (fun _ => 0))), (b1 11, .inl (cI, 6, .inl (fun _ => 0))), (b1 12, .inl (cI, 7, .inl (fun _ => 0))), (b1 13, .inl (cI, 7, .inl (fun _ => 0))), (b1 14, .inl (cI, 7, .inl (fun _ => 0))), (b1 15, .inl (cI, 7, .inl (fun _ => 0))), (b1 16, .inl (cI, 7, .inl (fun _ => 0))), (b1 17, .inl (cI, 56, .inl (fun _ => 0))), (b1 18, .inl (cI, 30, .inl (fun _ => 0)))] H := hP
  have hD : va_D A [(h0, oX0 b 0 0 0 0 0 0 0 0 0 0), (b 10, .inl (cI, 12, .inl (fun _ => 0))), (b 11, .inl (cI, 6, .inl (fun _ => 0))), (b 12, .inl (cI, 7, .inl (fun _ => 0))), (b 13, .inl (cI, 7, .inl (fun _ => 0))), (b 14, .inl (cI, 7, .inl (fun _ => 0))), (b 15, .inl (cI, 7, .inl (fun _ => 0))), (b 16, .inl (cI, 7, .inl (fun _ => 0))), (b 17, .inl (cI, 56, .inl (fun _ => 0))), (b 18, .inl (cI, 30, .inl (fun _ => 0))), (h1, oX0 b1 0 0 0 0 0 0 0 0 0 0), (b1 10, .inl (cI, 12, .inl (fun _ => 0))), (b1 11, .inl (cI, 6, .inl (fun _ => 0))), (b1 12, .inl (cI, 7, .inl (fun _ => 0))), (b1 13, .inl (cI, 7, .inl (fun _ => 0))), (b1 14, .inl (cI, 7, .inl (fun _ => 0))), (b1 15, .inl (cI, 7, .inl (fun _ => 0))), (b1 16, .inl (cI, 7, .inl (fun _ => 0))), (b1 17, .inl (cI, 56, .inl (fun _ => 0))), (b1 18, .inl (cI, 30, .inl (fun _ => 0)))] := hD
  refine lv_aload_n hx hb dX0_become_32 rfl (lv_at hl 0 rfl) ?_
  refine lv_aload_n hx hb dX0_become_33 rfl (lv_at hl 1 rfl) ?_
  refine va_get (D := G) (ci := 0) (v := .int 0) (C := RX0) (T := TX0) (N := 19) hx hb hts iG_X0 hown hK hP 10 rfl rfl 4 (by decide) (hts _ w_71) (fun _ h9 => h9) rfl dX0_become_34 ?_
  refine va_put (D := G) (ci := 0) (v := .int 0) (ty := .int) (C := RX0) (T := TX0) (N := 19) hx hb hts iG_X0 tyX0 tyX0_ok nmX0 hown hK hP hD hS 0 rfl rfl 4 (by decide) (hts _ w_71) (fun _ h9 => h9) rfl (by decide +kernel) rfl rfl (Nat.le_of_ble_eq_true rfl) dX0_become_37 (fun H locs hP hD hS => ?_)
  have hP : va_P G vwCl [(h0, oX0 b 0 0 0 0 0 0 0 0 0 0), (b 10, .inl (cI, 12, .inl (fun _ => 0))), (b 11, .inl (cI, 6, .inl (fun _ => 0))), (b 12, .inl (cI, 7, .inl (fun _ => 0))), (b 13, .inl (cI, 7, .inl (fun _ => 0))), (b 14, .inl (cI, 7, .inl (fun _ => 0))), (b 15, .inl (cI, 7, .inl (fun _ => 0))), (b 16, .inl (cI, 7, .inl (fun _ => 0))), (b 17, .inl (cI, 56, .inl (fun _ => 0))), (b 18, .inl (cI, 30, .inl (fun _ => 0))), (h1, oX0 b1 0 0 0 0 0 0 0 0 0 0), (b1 10, .inl (cI, 12, .inl (fun _ => 0))), (b1 11, .inl (cI, 6, .inl (fun _ => 0))), (b1 12, .inl (cI, 7, .inl (fun _ => 0))), (b1 13, .inl (cI, 7, .inl (fun _ => 0))), (b1 14, .inl (cI, 7, .inl (fun _ => 0))), (b1 15, .inl (cI, 7, .inl (fun _ => 0))), (b1 16, .inl (cI, 7, .inl (fun _ => 0))), (b1 17, .inl (cI, 56, .inl (fun _ => 0))), (b1 18, .inl (cI, 30, .inl (fun _ => 0)))] H := hP
  have hD : va_D A [(h0, oX0 b 0 0 0 0 0 0 0 0 0 0), (b 10, .inl (cI, 12, .inl (fun _ => 0))), (b 11, .inl (cI, 6, .inl (fun _ => 0))), (b 12, .inl (cI, 7, .inl (fun _ => 0))), (b 13, .inl (cI, 7, .inl (fun _ => 0))), (b 14, .inl (cI, 7, .inl (fun _ => 0))), (b 15, .inl (cI, 7, .inl (fun _ => 0))), (b 16, .inl (cI, 7, .inl (fun _ => 0))), (b 17, .inl (cI, 56, .inl (fun _ => 0))), (b 18, .inl (cI, 30, .inl (fun _ => 0))), (h1, oX0 b1 0 0 0 0 0 0 0 0 0 0), (b1 10, .inl (cI, 12, .inl (fun _ => 0))), (b1 11, .inl (cI, 6, .inl (fun _ => 0))), (b1 12, .inl (cI, 7, .inl (fun _ => 0))), (b1 13, .inl (cI, 7, .inl (fun _ => 0))), (b1 14, .inl (cI, 7, .inl (fun _ => 0))), (b1 15, .inl (cI, 7, .inl (fun _ => 0))), (b1 16, .inl (cI, 7, .inl (fun _ => 0))), (b1 17, .inl (cI, 56, .inl (fun _ => 0))), (b1 18, .inl (cI, 30, .inl (fun _ => 0)))] := hD
  refine lv_aload_n hx hb dX0_become_40 rfl (lv_at hl 0 rfl) ?_
  refine lv_aload_n hx hb dX0_become_41 rfl (lv_at hl 1 rfl) ?_
  refine va_get (D := G) (ci := 0) (v := .int 0) (C := RX0) (T := TX0) (N := 19) hx hb hts iG_X0 hown hK hP 10 rfl rfl 5 (by decide) (hts _ w_74) (fun _ h9 => h9) rfl dX0_become_42 ?_
  refine va_put (D := G) (ci := 0) (v := .int 0) (ty := .int) (C := RX0) (T := TX0) (N := 19) hx hb hts iG_X0 tyX0 tyX0_ok nmX0 hown hK hP hD hS 0 rfl rfl 5 (by decide) (hts _ w_74) (fun _ h9 => h9) rfl (by decide +kernel) rfl rfl (Nat.le_of_ble_eq_true rfl) dX0_become_45 (fun H locs hP hD hS => ?_)
  have hP : va_P G vwCl [(h0, oX0 b 0 0 0 0 0 0 0 0 0 0), (b 10, .inl (cI, 12, .inl (fun _ => 0))), (b 11, .inl (cI, 6, .inl (fun _ => 0))), (b 12, .inl (cI, 7, .inl (fun _ => 0))), (b 13, .inl (cI, 7, .inl (fun _ => 0))), (b 14, .inl (cI, 7, .inl (fun _ => 0))), (b 15, .inl (cI, 7, .inl (fun _ => 0))), (b 16, .inl (cI, 7, .inl (fun _ => 0))), (b 17, .inl (cI, 56, .inl (fun _ => 0))), (b 18, .inl (cI, 30, .inl (fun _ => 0))), (h1, oX0 b1 0 0 0 0 0 0 0 0 0 0), (b1 10, .inl (cI, 12, .inl (fun _ => 0))), (b1 11, .inl (cI, 6, .inl (fun _ => 0))), (b1 12, .inl (cI, 7, .inl (fun _ => 0))), (b1 13, .inl (cI, 7, .inl (fun _ => 0))), (b1 14, .inl (cI, 7, .inl (fun _ => 0))), (b1 15, .inl (cI, 7, .inl (fun _ => 0))), (b1 16, .inl (cI, 7, .inl (fun _ => 0))), (b1 17, .inl (cI, 56, .inl (fun _ => 0))), (b1 18, .inl (cI, 30, .inl (fun _ => 0)))] H := hP
  have hD : va_D A [(h0, oX0 b 0 0 0 0 0 0 0 0 0 0), (b 10, .inl (cI, 12, .inl (fun _ => 0))), (b 11, .inl (cI, 6, .inl (fun _ => 0))), (b 12, .inl (cI, 7, .inl (fun _ => 0))), (b 13, .inl (cI, 7, .inl (fun _ => 0))), (b 14, .inl (cI, 7, .inl (fun _ => 0))), (b 15, .inl (cI, 7, .inl (fun _ => 0))), (b 16, .inl (cI, 7, .inl (fun _ => 0))), (b 17, .inl (cI, 56, .inl (fun _ => 0))), (b 18, .inl (cI, 30, .inl (fun _ => 0))), (h1, oX0 b1 0 0 0 0 0 0 0 0 0 0), (b1 10, .inl (cI, 12, .inl (fun _ => 0))), (b1 11, .inl (cI, 6, .inl (fun _ => 0))), (b1 12, .inl (cI, 7, .inl (fun _ => 0))), (b1 13, .inl (cI, 7, .inl (fun _ => 0))), (b1 14, .inl (cI, 7, .inl (fun _ => 0))), (b1 15, .inl (cI, 7, .inl (fun _ => 0))), (b1 16, .inl (cI, 7, .inl (fun _ => 0))), (b1 17, .inl (cI, 56, .inl (fun _ => 0))), (b1 18, .inl (cI, 30, .inl (fun _ => 0)))] := hD
  refine lv_aload_n hx hb dX0_become_48 rfl (lv_at hl 0 rfl) ?_
  refine lv_aload_n hx hb dX0_become_49 rfl (lv_at hl 1 rfl) ?_
  refine va_get (D := G) (ci := 0) (v := .int 0) (C := RX0) (T := TX0) (N := 19) hx hb hts iG_X0 hown hK hP 10 rfl rfl 6 (by decide) (hts _ w_77) (fun _ h9 => h9) rfl dX0_become_50 ?_
  refine va_put (D := G) (ci := 0) (v := .int 0) (ty := .int) (C := RX0) (T := TX0) (N := 19) hx hb hts iG_X0 tyX0 tyX0_ok nmX0 hown hK hP hD hS 0 rfl rfl 6 (by decide) (hts _ w_77) (fun _ h9 => h9) rfl (by decide +kernel) rfl rfl (Nat.le_of_ble_eq_true rfl) dX0_become_53 (fun H locs hP hD hS => ?_)
  have hP : va_P G vwCl [(h0, oX0 b 0 0 0 0 0 0 0 0 0 0), (b 10, .inl (cI, 12, .inl (fun _ => 0))), (b 11, .inl (cI, 6, .inl (fun _ => 0))), (b 12, .inl (cI, 7, .inl (fun _ => 0))), (b 13, .inl (cI, 7, .inl (fun _ => 0))), (b 14, .inl (cI, 7, .inl (fun _ => 0))), (b 15, .inl (cI, 7, .inl (fun _ => 0))), (b 16, .inl (cI, 7, .inl (fun _ => 0))), (b 17, .inl (cI, 56, .inl (fun _ => 0))), (b 18, .inl (cI, 30, .inl (fun _ => 0))), (h1, oX0 b1 0 0 0 0 0 0 0 0 0 0), (b1 10, .inl (cI, 12, .inl (fun _ => 0))), (b1 11, .inl (cI, 6, .inl (fun _ => 0))), (b1 12, .inl (cI, 7, .inl (fun _ => 0))), (b1 13, .inl (cI, 7, .inl (fun _ => 0))), (b1 14, .inl (cI, 7, .inl (fun _ => 0))), (b1 15, .inl (cI, 7, .inl (fun _ => 0))), (b1 16, .inl (cI, 7, .inl (fun _ => 0))), (b1 17, .inl (cI, 56, .inl (fun _ => 0))), (b1 18, .inl (cI, 30, .inl (fun _ => 0)))] H := hP
  have hD : va_D A [(h0, oX0 b 0 0 0 0 0 0 0 0 0 0), (b 10, .inl (cI, 12, .inl (fun _ => 0))), (b 11, .inl (cI, 6, .inl (fun _ => 0))), (b 12, .inl (cI, 7, .inl (fun _ => 0))), (b 13, .inl (cI, 7, .inl (fun _ => 0))), (b 14, .inl (cI, 7, .inl (fun _ => 0))), (b 15, .inl (cI, 7, .inl (fun _ => 0))), (b 16, .inl (cI, 7, .inl (fun _ => 0))), (b 17, .inl (cI, 56, .inl (fun _ => 0))), (b 18, .inl (cI, 30, .inl (fun _ => 0))), (h1, oX0 b1 0 0 0 0 0 0 0 0 0 0), (b1 10, .inl (cI, 12, .inl (fun _ => 0))), (b1 11, .inl (cI, 6, .inl (fun _ => 0))), (b1 12, .inl (cI, 7, .inl (fun _ => 0))), (b1 13, .inl (cI, 7, .inl (fun _ => 0))), (b1 14, .inl (cI, 7, .inl (fun _ => 0))), (b1 15, .inl (cI, 7, .inl (fun _ => 0))), (b1 16, .inl (cI, 7, .inl (fun _ => 0))), (b1 17, .inl (cI, 56, .inl (fun _ => 0))), (b1 18, .inl (cI, 30, .inl (fun _ => 0)))] := hD
  refine lv_aload_n hx hb dX0_become_56 rfl (lv_at hl 0 rfl) ?_
  refine lv_aload_n hx hb dX0_become_57 rfl (lv_at hl 1 rfl) ?_
  refine va_get (D := G) (ci := 0) (v := .int 0) (C := RX0) (T := TX0) (N := 19) hx hb hts iG_X0 hown hK hP 10 rfl rfl 7 (by decide) (hts _ w_80) (fun _ h9 => h9) rfl dX0_become_58 ?_
  refine va_put (D := G) (ci := 0) (v := .int 0) (ty := .int) (C := RX0) (T := TX0) (N := 19) hx hb hts iG_X0 tyX0 tyX0_ok nmX0 hown hK hP hD hS 0 rfl rfl 7 (by decide) (hts _ w_80) (fun _ h9 => h9) rfl (by decide +kernel) rfl rfl (Nat.le_of_ble_eq_true rfl) dX0_become_61 (fun H locs hP hD hS => ?_)
  have hP : va_P G vwCl [(h0, oX0 b 0 0 0 0 0 0 0 0 0 0), (b 10, .inl (cI, 12, .inl (fun _ => 0))), (b 11, .inl (cI, 6, .inl (fun _ => 0))), (b 12, .inl (cI, 7, .inl (fun _ => 0))), (b 13, .inl (cI, 7, .inl (fun _ => 0))), (b 14, .inl (cI, 7, .inl (fun _ => 0))), (b 15, .inl (cI, 7, .inl (fun _ => 0))), (b 16, .inl (cI, 7, .inl (fun _ => 0))), (b 17, .inl (cI, 56, .inl (fun _ => 0))), (b 18, .inl (cI, 30, .inl (fun _ => 0))), (h1, oX0 b1 0 0 0 0 0 0 0 0 0 0), (b1 10, .inl (cI, 12, .inl (fun _ => 0))), (b1 11, .inl (cI, 6, .inl (fun _ => 0))), (b1 12, .inl (cI, 7, .inl (fun _ => 0))), (b1 13, .inl (cI, 7, .inl (fun _ => 0))), (b1 14, .inl (cI, 7, .inl (fun _ => 0))), (b1 15, .inl (cI, 7, .inl (fun _ => 0))), (b1 16, .inl (cI, 7, .inl (fun _ => 0))), (b1 17, .inl (cI, 56, .inl (fun _ => 0))), (b1 18, .inl (cI, 30, .inl (fun _ => 0)))] H := hP
  have hD : va_D A [(h0, oX0 b 0 0 0 0 0 0 0 0 0 0), (b 10, .inl (cI, 12, .inl (fun _ => 0))), (b 11, .inl (cI, 6, .inl (fun _ => 0))), (b 12, .inl (cI, 7, .inl (fun _ => 0))), (b 13, .inl (cI, 7, .inl (fun _ => 0))), (b 14, .inl (cI, 7, .inl (fun _ => 0))), (b 15, .inl (cI, 7, .inl (fun _ => 0))), (b 16, .inl (cI, 7, .inl (fun _ => 0))), (b 17, .inl (cI, 56, .inl (fun _ => 0))), (b 18, .inl (cI, 30, .inl (fun _ => 0))), (h1, oX0 b1 0 0 0 0 0 0 0 0 0 0), (b1 10, .inl (cI, 12, .inl (fun _ => 0))), (b1 11, .inl (cI, 6, .inl (fun _ => 0))), (b1 12, .inl (cI, 7, .inl (fun _ => 0))), (b1 13, .inl (cI, 7, .inl (fun _ => 0))), (b1 14, .inl (cI, 7, .inl (fun _ => 0))), (b1 15, .inl (cI, 7, .inl (fun _ => 0))), (b1 16, .inl (cI, 7, .inl (fun _ => 0))), (b1 17, .inl (cI, 56, .inl (fun _ => 0))), (b1 18, .inl (cI, 30, .inl (fun _ => 0)))] := hD
  refine lv_aload_n hx hb dX0_become_64 rfl (lv_at hl 0 rfl) ?_
  refine lv_aload_n hx hb dX0_become_65 rfl (lv_at hl 1 rfl) ?_
  refine va_get (D := G) (ci := 0) (v := .int 0) (C := RX0) (T := TX0) (N := 19) hx hb hts iG_X0 hown hK hP 10 rfl rfl 8 (by decide) (hts _ w_86) (fun _ h9 => h9) rfl dX0_become_66 ?_
  refine va_put (D := G) (ci := 0) (v := .int 0) (ty := .int) (C := RX0) (T := TX0) (N := 19) hx hb hts iG_X0 tyX0 tyX0_ok nmX0 hown hK hP hD hS 0 rfl rfl 8 (by decide) (hts _ w_86) (fun _ h9 => h9) rfl (by decide +kernel) rfl rfl (Nat.le_of_ble_eq_true rfl) dX0_become_69 (fun H locs hP hD hS => ?_)
  have hP : va_P G vwCl [(h0, oX0 b 0 0 0 0 0 0 0 0 0 0), (b 10, .inl (cI, 12, .inl (fun _ => 0))), (b 11, .inl (cI, 6, .inl (fun _ => 0))), (b 12, .inl (cI, 7, .inl (fun _ => 0))), (b 13, .inl (cI, 7, .inl (fun _ => 0))), (b 14, .inl (cI, 7, .inl (fun _ => 0))), (b 15, .inl (cI, 7, .inl (fun _ => 0))), (b 16, .inl (cI, 7, .inl (fun _ => 0))), (b 17, .inl (cI, 56, .inl (fun _ => 0))), (b 18, .inl (cI, 30, .inl (fun _ => 0))), (h1, oX0 b1 0 0 0 0 0 0 0 0 0 0), (b1 10, .inl (cI, 12, .inl (fun _ => 0))), (b1 11, .inl (cI, 6, .inl (fun _ => 0))), (b1 12, .inl (cI, 7, .inl (fun _ => 0))), (b1 13, .inl (cI, 7, .inl (fun _ => 0))), (b1 14, .inl (cI, 7, .inl (fun _ => 0))), (b1 15, .inl (cI, 7, .inl (fun _ => 0))), (b1 16, .inl (cI, 7, .inl (fun _ => 0))), (b1 17, .inl (cI, 56, .inl (fun _ => 0))), (b1 18, .inl (cI, 30, .inl (fun _ => 0)))] H := hP
  have hD : va_D A [(h0, oX0 b 0 0 0 0 0 0 0 0 0 0), (b 10, .inl (cI, 12, .inl (fun _ => 0))), (b 11, .inl (cI, 6, .inl (fun _ => 0))), (b 12, .inl (cI, 7, .inl (fun _ => 0))), (b 13, .inl (cI, 7, .inl (fun _ => 0))), (b 14, .inl (cI, 7, .inl (fun _ => 0))), (b 15, .inl (cI, 7, .inl (fun _ => 0))), (b 16, .inl (cI, 7, .inl (fun _ => 0))), (b 17, .inl (cI, 56, .inl (fun _ => 0))), (b 18, .inl (cI, 30, .inl (fun _ => 0))), (h1, oX0 b1 0 0 0 0 0 0 0 0 0 0), (b1 10, .inl (cI, 12, .inl (fun _ => 0))), (b1 11, .inl (cI, 6, .inl (fun _ => 0))), (b1 12, .inl (cI, 7, .inl (fun _ => 0))), (b1 13, .inl (cI, 7, .inl (fun _ => 0))), (b1 14, .inl (cI, 7, .inl (fun _ => 0))), (b1 15, .inl (cI, 7, .inl (fun _ => 0))), (b1 16, .inl (cI, 7, .inl (fun _ => 0))), (b1 17, .inl (cI, 56, .inl (fun _ => 0))), (b1 18, .inl (cI, 30, .inl (fun _ => 0)))] := hD
  refine lv_aload_n hx hb dX0_become_72 rfl (lv_at hl 0 rfl) ?_
  refine lv_aload_n hx hb dX0_become_73 rfl (lv_at hl 1 rfl) ?_
  refine va_get (D := G) (ci := 0) (v := .int 0) (C := RX0) (T := TX0) (N := 19) hx hb hts iG_X0 hown hK hP 10 rfl rfl 9 (by decide) (hts _ w_89) (fun _ h9 => h9) rfl dX0_become_74 ?_
  refine va_put (D := G) (ci := 0) (v := .int 0) (ty := .int) (C := RX0) (T := TX0) (N := 19) hx hb hts iG_X0 tyX0 tyX0_ok nmX0 hown hK hP hD hS 0 rfl rfl 9 (by decide) (hts _ w_89) (fun _ h9 => h9) rfl (by decide +kernel) rfl rfl (Nat.le_of_ble_eq_true rfl) dX0_become_77 (fun H locs hP hD hS => ?_)
  have hP : va_P G vwCl [(h0, oX0 b 0 0 0 0 0 0 0 0 0 0), (b 10, .inl (cI, 12, .inl (fun _ => 0))), (b 11, .inl (cI, 6, .inl (fun _ => 0))), (b 12, .inl (cI, 7, .inl (fun _ => 0))), (b 13, .inl (cI, 7, .inl (fun _ => 0))), (b 14, .inl (cI, 7, .inl (fun _ => 0))), (b 15, .inl (cI, 7, .inl (fun _ => 0))), (b 16, .inl (cI, 7, .inl (fun _ => 0))), (b 17, .inl (cI, 56, .inl (fun _ => 0))), (b 18, .inl (cI, 30, .inl (fun _ => 0))), (h1, oX0 b1 0 0 0 0 0 0 0 0 0 0), (b1 10, .inl (cI, 12, .inl (fun _ => 0))), (b1 11, .inl (cI, 6, .inl (fun _ => 0))), (b1 12, .inl (cI, 7, .inl (fun _ => 0))), (b1 13, .inl (cI, 7, .inl (fun _ => 0))), (b1 14, .inl (cI, 7, .inl (fun _ => 0))), (b1 15, .inl (cI, 7, .inl (fun _ => 0))), (b1 16, .inl (cI, 7, .inl (fun _ => 0))), (b1 17, .inl (cI, 56, .inl (fun _ => 0))), (b1 18, .inl (cI, 30, .inl (fun _ => 0)))] H := hP
  have hD : va_D A [(h0, oX0 b 0 0 0 0 0 0 0 0 0 0), (b 10, .inl (cI, 12, .inl (fun _ => 0))), (b 11, .inl (cI, 6, .inl (fun _ => 0))), (b 12, .inl (cI, 7, .inl (fun _ => 0))), (b 13, .inl (cI, 7, .inl (fun _ => 0))), (b 14, .inl (cI, 7, .inl (fun _ => 0))), (b 15, .inl (cI, 7, .inl (fun _ => 0))), (b 16, .inl (cI, 7, .inl (fun _ => 0))), (b 17, .inl (cI, 56, .inl (fun _ => 0))), (b 18, .inl (cI, 30, .inl (fun _ => 0))), (h1, oX0 b1 0 0 0 0 0 0 0 0 0 0), (b1 10, .inl (cI, 12, .inl (fun _ => 0))), (b1 11, .inl (cI, 6, .inl (fun _ => 0))), (b1 12, .inl (cI, 7, .inl (fun _ => 0))), (b1 13, .inl (cI, 7, .inl (fun _ => 0))), (b1 14, .inl (cI, 7, .inl (fun _ => 0))), (b1 15, .inl (cI, 7, .inl (fun _ => 0))), (b1 16, .inl (cI, 7, .inl (fun _ => 0))), (b1 17, .inl (cI, 56, .inl (fun _ => 0))), (b1 18, .inl (cI, 30, .inl (fun _ => 0)))] := hD
  refine lv_aload_n hx hb dX0_become_80 rfl (lv_at hl 1 rfl) ?_
  refine va_get (D := G) (ci := 0) (v := .ref (b1 10)) (C := RX0) (T := TX0) (N := 19) hx hb hts iG_X0 hown hK hP 10 rfl rfl 10 (by decide) (hts _ w_91) (fun _ h9 => h9) rfl dX0_become_81 ?_
  refine lv_iconst (v := 0) hx hb dX0_become_84 (by decide) ?_
  refine lv_aload_n hx hb dX0_become_85 rfl (lv_at hl 0 rfl) ?_
  refine va_get (D := G) (ci := 0) (v := .ref (b 10)) (C := RX0) (T := TX0) (N := 19) hx hb hts iG_X0 hown hK hP 0 rfl rfl 10 (by decide) (hts _ w_91) (fun _ h9 => h9) rfl dX0_become_86 ?_
  refine lv_iconst (v := 0) hx hb dX0_become_89 (by decide) ?_
  refine lv_bipush (v := 12) hx hb dX0_become_90 (by decide) ?_
  refine va_copyi hx hb (by rw [hml]; exact hl.1.symm) hown (hts _ w_566) (hts _ w_568) (hts _ w_567) (hts _ w_17) hK hP hD hS 11 1 0 0 rfl rfl rfl rfl rfl (by decide) (by decide) (by decide) (Nat.le_of_ble_eq_true rfl) (Nat.le_of_ble_eq_true rfl) (fun _ _ => rfl) (Nat.le_of_ble_eq_true rfl) (Nat.le_of_ble_eq_true rfl) dX0_become_92 (fun H locs hP hD hS => ?_)
  rw [cpy_z] at hP hD
  have hP : va_P G vwCl [(h0, oX0 b 0 0 0 0 0 0 0 0 0 0), (b 10, .inl (cI, 12, .inl (fun _ => 0))), (b 11, .inl (cI, 6, .inl (fun _ => 0))), (b 12, .inl (cI, 7, .inl (fun _ => 0))), (b 13, .inl (cI, 7, .inl (fun _ => 0))), (b 14, .inl (cI, 7, .inl (fun _ => 0))), (b 15, .inl (cI, 7, .inl (fun _ => 0))), (b 16, .inl (cI, 7, .inl (fun _ => 0))), (b 17, .inl (cI, 56, .inl (fun _ => 0))), (b 18, .inl (cI, 30, .inl (fun _ => 0))), (h1, oX0 b1 0 0 0 0 0 0 0 0 0 0), (b1 10, .inl (cI, 12, .inl (fun _ => 0))), (b1 11, .inl (cI, 6, .inl (fun _ => 0))), (b1 12, .inl (cI, 7, .inl (fun _ => 0))), (b1 13, .inl (cI, 7, .inl (fun _ => 0))), (b1 14, .inl (cI, 7, .inl (fun _ => 0))), (b1 15, .inl (cI, 7, .inl (fun _ => 0))), (b1 16, .inl (cI, 7, .inl (fun _ => 0))), (b1 17, .inl (cI, 56, .inl (fun _ => 0))), (b1 18, .inl (cI, 30, .inl (fun _ => 0)))] H := hP
  have hD : va_D A [(h0, oX0 b 0 0 0 0 0 0 0 0 0 0), (b 10, .inl (cI, 12, .inl (fun _ => 0))), (b 11, .inl (cI, 6, .inl (fun _ => 0))), (b 12, .inl (cI, 7, .inl (fun _ => 0))), (b 13, .inl (cI, 7, .inl (fun _ => 0))), (b 14, .inl (cI, 7, .inl (fun _ => 0))), (b 15, .inl (cI, 7, .inl (fun _ => 0))), (b 16, .inl (cI, 7, .inl (fun _ => 0))), (b 17, .inl (cI, 56, .inl (fun _ => 0))), (b 18, .inl (cI, 30, .inl (fun _ => 0))), (h1, oX0 b1 0 0 0 0 0 0 0 0 0 0), (b1 10, .inl (cI, 12, .inl (fun _ => 0))), (b1 11, .inl (cI, 6, .inl (fun _ => 0))), (b1 12, .inl (cI, 7, .inl (fun _ => 0))), (b1 13, .inl (cI, 7, .inl (fun _ => 0))), (b1 14, .inl (cI, 7, .inl (fun _ => 0))), (b1 15, .inl (cI, 7, .inl (fun _ => 0))), (b1 16, .inl (cI, 7, .inl (fun _ => 0))), (b1 17, .inl (cI, 56, .inl (fun _ => 0))), (b1 18, .inl (cI, 30, .inl (fun _ => 0)))] := hD
  refine lv_aload_n hx hb dX0_become_95 rfl (lv_at hl 1 rfl) ?_
  refine va_get (D := G) (ci := 0) (v := .ref (b1 11)) (C := RX0) (T := TX0) (N := 19) hx hb hts iG_X0 hown hK hP 10 rfl rfl 11 (by decide) (hts _ w_94) (fun _ h9 => h9) rfl dX0_become_96 ?_
  refine lv_iconst (v := 0) hx hb dX0_become_99 (by decide) ?_
  refine lv_aload_n hx hb dX0_become_100 rfl (lv_at hl 0 rfl) ?_
  refine va_get (D := G) (ci := 0) (v := .ref (b 11)) (C := RX0) (T := TX0) (N := 19) hx hb hts iG_X0 hown hK hP 0 rfl rfl 11 (by decide) (hts _ w_94) (fun _ h9 => h9) rfl dX0_become_101 ?_
  refine lv_iconst (v := 0) hx hb dX0_become_104 (by decide) ?_
  refine lv_bipush (v := 6) hx hb dX0_become_105 (by decide) ?_
  refine va_copyi hx hb (by rw [hml]; exact hl.1.symm) hown (hts _ w_566) (hts _ w_568) (hts _ w_567) (hts _ w_17) hK hP hD hS 12 2 0 0 rfl rfl rfl rfl rfl (by decide) (by decide) (by decide) (Nat.le_of_ble_eq_true rfl) (Nat.le_of_ble_eq_true rfl) (fun _ _ => rfl) (Nat.le_of_ble_eq_true rfl) (Nat.le_of_ble_eq_true rfl) dX0_become_107 (fun H locs hP hD hS => ?_)
  rw [cpy_z] at hP hD
  have hP : va_P G vwCl [(h0, oX0 b 0 0 0 0 0 0 0 0 0 0), (b 10, .inl (cI, 12, .inl (fun _ => 0))), (b 11, .inl (cI, 6, .inl (fun _ => 0))), (b 12, .inl (cI, 7, .inl (fun _ => 0))), (b 13, .inl (cI, 7, .inl (fun _ => 0))), (b 14, .inl (cI, 7, .inl (fun _ => 0))), (b 15, .inl (cI, 7, .inl (fun _ => 0))), (b 16, .inl (cI, 7, .inl (fun _ => 0))), (b 17, .inl (cI, 56, .inl (fun _ => 0))), (b 18, .inl (cI, 30, .inl (fun _ => 0))), (h1, oX0 b1 0 0 0 0 0 0 0 0 0 0), (b1 10, .inl (cI, 12, .inl (fun _ => 0))), (b1 11, .inl (cI, 6, .inl (fun _ => 0))), (b1 12, .inl (cI, 7, .inl (fun _ => 0))), (b1 13, .inl (cI, 7, .inl (fun _ => 0))), (b1 14, .inl (cI, 7, .inl (fun _ => 0))), (b1 15, .inl (cI, 7, .inl (fun _ => 0))), (b1 16, .inl (cI, 7, .inl (fun _ => 0))), (b1 17, .inl (cI, 56, .inl (fun _ => 0))), (b1 18, .inl (cI, 30, .inl (fun _ => 0)))] H := hP
  have hD : va_D A [(h0, oX0 b 0 0 0 0 0 0 0 0 0 0), (b 10, .inl (cI, 12, .inl (fun _ => 0))), (b 11, .inl (cI, 6, .inl (fun _ => 0))), (b 12, .inl (cI, 7, .inl (fun _ => 0))), (b 13, .inl (cI, 7, .inl (fun _ => 0))), (b 14, .inl (cI, 7, .inl (fun _ => 0))), (b 15, .inl (cI, 7, .inl (fun _ => 0))), (b 16, .inl (cI, 7, .inl (fun _ => 0))), (b 17, .inl (cI, 56, .inl (fun _ => 0))), (b 18, .inl (cI, 30, .inl (fun _ => 0))), (h1, oX0 b1 0 0 0 0 0 0 0 0 0 0), (b1 10, .inl (cI, 12, .inl (fun _ => 0))), (b1 11, .inl (cI, 6, .inl (fun _ => 0))), (b1 12, .inl (cI, 7, .inl (fun _ => 0))), (b1 13, .inl (cI, 7, .inl (fun _ => 0))), (b1 14, .inl (cI, 7, .inl (fun _ => 0))), (b1 15, .inl (cI, 7, .inl (fun _ => 0))), (b1 16, .inl (cI, 7, .inl (fun _ => 0))), (b1 17, .inl (cI, 56, .inl (fun _ => 0))), (b1 18, .inl (cI, 30, .inl (fun _ => 0)))] := hD
  refine lv_aload_n hx hb dX0_become_110 rfl (lv_at hl 1 rfl) ?_
  refine va_get (D := G) (ci := 0) (v := .ref (b1 12)) (C := RX0) (T := TX0) (N := 19) hx hb hts iG_X0 hown hK hP 10 rfl rfl 12 (by decide) (hts _ w_97) (fun _ h9 => h9) rfl dX0_become_111 ?_
  refine lv_iconst (v := 0) hx hb dX0_become_114 (by decide) ?_
  refine lv_aload_n hx hb dX0_become_115 rfl (lv_at hl 0 rfl) ?_
  refine va_get (D := G) (ci := 0) (v := .ref (b 12)) (C := RX0) (T := TX0) (N := 19) hx hb hts iG_X0 hown hK hP 0 rfl rfl 12 (by decide) (hts _ w_97) (fun _ h9 => h9) rfl dX0_become_116 ?_
  refine lv_iconst (v := 0) hx hb dX0_become_119 (by decide) ?_
  refine lv_bipush (v := 7) hx hb dX0_become_120 (by decide) ?_
  refine va_copyi hx hb (by rw [hml]; exact hl.1.symm) hown (hts _ w_566) (hts _ w_568) (hts _ w_567) (hts _ w_17) hK hP hD hS 13 3 0 0 rfl rfl rfl rfl rfl (by decide) (by decide) (by decide) (Nat.le_of_ble_eq_true rfl) (Nat.le_of_ble_eq_true rfl) (fun _ _ => rfl) (Nat.le_of_ble_eq_true rfl) (Nat.le_of_ble_eq_true rfl) dX0_become_122 (fun H locs hP hD hS => ?_)
  rw [cpy_z] at hP hD
  have hP : va_P G vwCl [(h0, oX0 b 0 0 0 0 0 0 0 0 0 0), (b 10, .inl (cI, 12, .inl (fun _ => 0))), (b 11, .inl (cI, 6, .inl (fun _ => 0))), (b 12, .inl (cI, 7, .inl (fun _ => 0))), (b 13, .inl (cI, 7, .inl (fun _ => 0))), (b 14, .inl (cI, 7, .inl (fun _ => 0))), (b 15, .inl (cI, 7, .inl (fun _ => 0))), (b 16, .inl (cI, 7, .inl (fun _ => 0))), (b 17, .inl (cI, 56, .inl (fun _ => 0))), (b 18, .inl (cI, 30, .inl (fun _ => 0))), (h1, oX0 b1 0 0 0 0 0 0 0 0 0 0), (b1 10, .inl (cI, 12, .inl (fun _ => 0))), (b1 11, .inl (cI, 6, .inl (fun _ => 0))), (b1 12, .inl (cI, 7, .inl (fun _ => 0))), (b1 13, .inl (cI, 7, .inl (fun _ => 0))), (b1 14, .inl (cI, 7, .inl (fun _ => 0))), (b1 15, .inl (cI, 7, .inl (fun _ => 0))), (b1 16, .inl (cI, 7, .inl (fun _ => 0))), (b1 17, .inl (cI, 56, .inl (fun _ => 0))), (b1 18, .inl (cI, 30, .inl (fun _ => 0)))] H := hP
  have hD : va_D A [(h0, oX0 b 0 0 0 0 0 0 0 0 0 0), (b 10, .inl (cI, 12, .inl (fun _ => 0))), (b 11, .inl (cI, 6, .inl (fun _ => 0))), (b 12, .inl (cI, 7, .inl (fun _ => 0))), (b 13, .inl (cI, 7, .inl (fun _ => 0))), (b 14, .inl (cI, 7, .inl (fun _ => 0))), (b 15, .inl (cI, 7, .inl (fun _ => 0))), (b 16, .inl (cI, 7, .inl (fun _ => 0))), (b 17, .inl (cI, 56, .inl (fun _ => 0))), (b 18, .inl (cI, 30, .inl (fun _ => 0))), (h1, oX0 b1 0 0 0 0 0 0 0 0 0 0), (b1 10, .inl (cI, 12, .inl (fun _ => 0))), (b1 11, .inl (cI, 6, .inl (fun _ => 0))), (b1 12, .inl (cI, 7, .inl (fun _ => 0))), (b1 13, .inl (cI, 7, .inl (fun _ => 0))), (b1 14, .inl (cI, 7, .inl (fun _ => 0))), (b1 15, .inl (cI, 7, .inl (fun _ => 0))), (b1 16, .inl (cI, 7, .inl (fun _ => 0))), (b1 17, .inl (cI, 56, .inl (fun _ => 0))), (b1 18, .inl (cI, 30, .inl (fun _ => 0)))] := hD
  refine lv_aload_n hx hb dX0_become_125 rfl (lv_at hl 1 rfl) ?_
  refine va_get (D := G) (ci := 0) (v := .ref (b1 13)) (C := RX0) (T := TX0) (N := 19) hx hb hts iG_X0 hown hK hP 10 rfl rfl 13 (by decide) (hts _ w_101) (fun _ h9 => h9) rfl dX0_become_126 ?_
  refine lv_iconst (v := 0) hx hb dX0_become_129 (by decide) ?_
  refine lv_aload_n hx hb dX0_become_130 rfl (lv_at hl 0 rfl) ?_
  refine va_get (D := G) (ci := 0) (v := .ref (b 13)) (C := RX0) (T := TX0) (N := 19) hx hb hts iG_X0 hown hK hP 0 rfl rfl 13 (by decide) (hts _ w_101) (fun _ h9 => h9) rfl dX0_become_131 ?_
  refine lv_iconst (v := 0) hx hb dX0_become_134 (by decide) ?_
  refine lv_bipush (v := 7) hx hb dX0_become_135 (by decide) ?_
  refine va_copyi hx hb (by rw [hml]; exact hl.1.symm) hown (hts _ w_566) (hts _ w_568) (hts _ w_567) (hts _ w_17) hK hP hD hS 14 4 0 0 rfl rfl rfl rfl rfl (by decide) (by decide) (by decide) (Nat.le_of_ble_eq_true rfl) (Nat.le_of_ble_eq_true rfl) (fun _ _ => rfl) (Nat.le_of_ble_eq_true rfl) (Nat.le_of_ble_eq_true rfl) dX0_become_137 (fun H locs hP hD hS => ?_)
  rw [cpy_z] at hP hD
  have hP : va_P G vwCl [(h0, oX0 b 0 0 0 0 0 0 0 0 0 0), (b 10, .inl (cI, 12, .inl (fun _ => 0))), (b 11, .inl (cI, 6, .inl (fun _ => 0))), (b 12, .inl (cI, 7, .inl (fun _ => 0))), (b 13, .inl (cI, 7, .inl (fun _ => 0))), (b 14, .inl (cI, 7, .inl (fun _ => 0))), (b 15, .inl (cI, 7, .inl (fun _ => 0))), (b 16, .inl (cI, 7, .inl (fun _ => 0))), (b 17, .inl (cI, 56, .inl (fun _ => 0))), (b 18, .inl (cI, 30, .inl (fun _ => 0))), (h1, oX0 b1 0 0 0 0 0 0 0 0 0 0), (b1 10, .inl (cI, 12, .inl (fun _ => 0))), (b1 11, .inl (cI, 6, .inl (fun _ => 0))), (b1 12, .inl (cI, 7, .inl (fun _ => 0))), (b1 13, .inl (cI, 7, .inl (fun _ => 0))), (b1 14, .inl (cI, 7, .inl (fun _ => 0))), (b1 15, .inl (cI, 7, .inl (fun _ => 0))), (b1 16, .inl (cI, 7, .inl (fun _ => 0))), (b1 17, .inl (cI, 56, .inl (fun _ => 0))), (b1 18, .inl (cI, 30, .inl (fun _ => 0)))] H := hP
  have hD : va_D A [(h0, oX0 b 0 0 0 0 0 0 0 0 0 0), (b 10, .inl (cI, 12, .inl (fun _ => 0))), (b 11, .inl (cI, 6, .inl (fun _ => 0))), (b 12, .inl (cI, 7, .inl (fun _ => 0))), (b 13, .inl (cI, 7, .inl (fun _ => 0))), (b 14, .inl (cI, 7, .inl (fun _ => 0))), (b 15, .inl (cI, 7, .inl (fun _ => 0))), (b 16, .inl (cI, 7, .inl (fun _ => 0))), (b 17, .inl (cI, 56, .inl (fun _ => 0))), (b 18, .inl (cI, 30, .inl (fun _ => 0))), (h1, oX0 b1 0 0 0 0 0 0 0 0 0 0), (b1 10, .inl (cI, 12, .inl (fun _ => 0))), (b1 11, .inl (cI, 6, .inl (fun _ => 0))), (b1 12, .inl (cI, 7, .inl (fun _ => 0))), (b1 13, .inl (cI, 7, .inl (fun _ => 0))), (b1 14, .inl (cI, 7, .inl (fun _ => 0))), (b1 15, .inl (cI, 7, .inl (fun _ => 0))), (b1 16, .inl (cI, 7, .inl (fun _ => 0))), (b1 17, .inl (cI, 56, .inl (fun _ => 0))), (b1 18, .inl (cI, 30, .inl (fun _ => 0)))] := hD
  refine lv_aload_n hx hb dX0_become_140 rfl (lv_at hl 1 rfl) ?_
  refine va_get (D := G) (ci := 0) (v := .ref (b1 14)) (C := RX0) (T := TX0) (N := 19) hx hb hts iG_X0 hown hK hP 10 rfl rfl 14 (by decide) (hts _ w_105) (fun _ h9 => h9) rfl dX0_become_141 ?_
  refine lv_iconst (v := 0) hx hb dX0_become_144 (by decide) ?_
  refine lv_aload_n hx hb dX0_become_145 rfl (lv_at hl 0 rfl) ?_
  refine va_get (D := G) (ci := 0) (v := .ref (b 14)) (C := RX0) (T := TX0) (N := 19) hx hb hts iG_X0 hown hK hP 0 rfl rfl 14 (by decide) (hts _ w_105) (fun _ h9 => h9) rfl dX0_become_146 ?_
  refine lv_iconst (v := 0) hx hb dX0_become_149 (by decide) ?_
  refine lv_bipush (v := 7) hx hb dX0_become_150 (by decide) ?_
  refine va_copyi hx hb (by rw [hml]; exact hl.1.symm) hown (hts _ w_566) (hts _ w_568) (hts _ w_567) (hts _ w_17) hK hP hD hS 15 5 0 0 rfl rfl rfl rfl rfl (by decide) (by decide) (by decide) (Nat.le_of_ble_eq_true rfl) (Nat.le_of_ble_eq_true rfl) (fun _ _ => rfl) (Nat.le_of_ble_eq_true rfl) (Nat.le_of_ble_eq_true rfl) dX0_become_152 (fun H locs hP hD hS => ?_)
  rw [cpy_z] at hP hD
  have hP : va_P G vwCl [(h0, oX0 b 0 0 0 0 0 0 0 0 0 0), (b 10, .inl (cI, 12, .inl (fun _ => 0))), (b 11, .inl (cI, 6, .inl (fun _ => 0))), (b 12, .inl (cI, 7, .inl (fun _ => 0))), (b 13, .inl (cI, 7, .inl (fun _ => 0))), (b 14, .inl (cI, 7, .inl (fun _ => 0))), (b 15, .inl (cI, 7, .inl (fun _ => 0))), (b 16, .inl (cI, 7, .inl (fun _ => 0))), (b 17, .inl (cI, 56, .inl (fun _ => 0))), (b 18, .inl (cI, 30, .inl (fun _ => 0))), (h1, oX0 b1 0 0 0 0 0 0 0 0 0 0), (b1 10, .inl (cI, 12, .inl (fun _ => 0))), (b1 11, .inl (cI, 6, .inl (fun _ => 0))), (b1 12, .inl (cI, 7, .inl (fun _ => 0))), (b1 13, .inl (cI, 7, .inl (fun _ => 0))), (b1 14, .inl (cI, 7, .inl (fun _ => 0))), (b1 15, .inl (cI, 7, .inl (fun _ => 0))), (b1 16, .inl (cI, 7, .inl (fun _ => 0))), (b1 17, .inl (cI, 56, .inl (fun _ => 0))), (b1 18, .inl (cI, 30, .inl (fun _ => 0)))] H := hP
  have hD : va_D A [(h0, oX0 b 0 0 0 0 0 0 0 0 0 0), (b 10, .inl (cI, 12, .inl (fun _ => 0))), (b 11, .inl (cI, 6, .inl (fun _ => 0))), (b 12, .inl (cI, 7, .inl (fun _ => 0))), (b 13, .inl (cI, 7, .inl (fun _ => 0))), (b 14, .inl (cI, 7, .inl (fun _ => 0))), (b 15, .inl (cI, 7, .inl (fun _ => 0))), (b 16, .inl (cI, 7, .inl (fun _ => 0))), (b 17, .inl (cI, 56, .inl (fun _ => 0))), (b 18, .inl (cI, 30, .inl (fun _ => 0))), (h1, oX0 b1 0 0 0 0 0 0 0 0 0 0), (b1 10, .inl (cI, 12, .inl (fun _ => 0))), (b1 11, .inl (cI, 6, .inl (fun _ => 0))), (b1 12, .inl (cI, 7, .inl (fun _ => 0))), (b1 13, .inl (cI, 7, .inl (fun _ => 0))), (b1 14, .inl (cI, 7, .inl (fun _ => 0))), (b1 15, .inl (cI, 7, .inl (fun _ => 0))), (b1 16, .inl (cI, 7, .inl (fun _ => 0))), (b1 17, .inl (cI, 56, .inl (fun _ => 0))), (b1 18, .inl (cI, 30, .inl (fun _ => 0)))] := hD
  refine lv_aload_n hx hb dX0_become_155 rfl (lv_at hl 1 rfl) ?_
  refine va_get (D := G) (ci := 0) (v := .ref (b1 15)) (C := RX0) (T := TX0) (N := 19) hx hb hts iG_X0 hown hK hP 10 rfl rfl 15 (by decide) (hts _ w_109) (fun _ h9 => h9) rfl dX0_become_156 ?_
  refine lv_iconst (v := 0) hx hb dX0_become_159 (by decide) ?_
  refine lv_aload_n hx hb dX0_become_160 rfl (lv_at hl 0 rfl) ?_
  refine va_get (D := G) (ci := 0) (v := .ref (b 15)) (C := RX0) (T := TX0) (N := 19) hx hb hts iG_X0 hown hK hP 0 rfl rfl 15 (by decide) (hts _ w_109) (fun _ h9 => h9) rfl dX0_become_161 ?_
  refine lv_iconst (v := 0) hx hb dX0_become_164 (by decide) ?_
  refine lv_bipush (v := 7) hx hb dX0_become_165 (by decide) ?_
  refine va_copyi hx hb (by rw [hml]; exact hl.1.symm) hown (hts _ w_566) (hts _ w_568) (hts _ w_567) (hts _ w_17) hK hP hD hS 16 6 0 0 rfl rfl rfl rfl rfl (by decide) (by decide) (by decide) (Nat.le_of_ble_eq_true rfl) (Nat.le_of_ble_eq_true rfl) (fun _ _ => rfl) (Nat.le_of_ble_eq_true rfl) (Nat.le_of_ble_eq_true rfl) dX0_become_167 (fun H locs hP hD hS => ?_)
  rw [cpy_z] at hP hD
  have hP : va_P G vwCl [(h0, oX0 b 0 0 0 0 0 0 0 0 0 0), (b 10, .inl (cI, 12, .inl (fun _ => 0))), (b 11, .inl (cI, 6, .inl (fun _ => 0))), (b 12, .inl (cI, 7, .inl (fun _ => 0))), (b 13, .inl (cI, 7, .inl (fun _ => 0))), (b 14, .inl (cI, 7, .inl (fun _ => 0))), (b 15, .inl (cI, 7, .inl (fun _ => 0))), (b 16, .inl (cI, 7, .inl (fun _ => 0))), (b 17, .inl (cI, 56, .inl (fun _ => 0))), (b 18, .inl (cI, 30, .inl (fun _ => 0))), (h1, oX0 b1 0 0 0 0 0 0 0 0 0 0), (b1 10, .inl (cI, 12, .inl (fun _ => 0))), (b1 11, .inl (cI, 6, .inl (fun _ => 0))), (b1 12, .inl (cI, 7, .inl (fun _ => 0))), (b1 13, .inl (cI, 7, .inl (fun _ => 0))), (b1 14, .inl (cI, 7, .inl (fun _ => 0))), (b1 15, .inl (cI, 7, .inl (fun _ => 0))), (b1 16, .inl (cI, 7, .inl (fun _ => 0))), (b1 17, .inl (cI, 56, .inl (fun _ => 0))), (b1 18, .inl (cI, 30, .inl (fun _ => 0)))] H := hP
  have hD : va_D A [(h0, oX0 b 0 0 0 0 0 0 0 0 0 0), (b 10, .inl (cI, 12, .inl (fun _ => 0))), (b 11, .inl (cI, 6, .inl (fun _ => 0))), (b 12, .inl (cI, 7, .inl (fun _ => 0))), (b 13, .inl (cI, 7, .inl (fun _ => 0))), (b 14, .inl (cI, 7, .inl (fun _ => 0))), (b 15, .inl (cI, 7, .inl (fun _ => 0))), (b 16, .inl (cI, 7, .inl (fun _ => 0))), (b 17, .inl (cI, 56, .inl (fun _ => 0))), (b 18, .inl (cI, 30, .inl (fun _ => 0))), (h1, oX0 b1 0 0 0 0 0 0 0 0 0 0), (b1 10, .inl (cI, 12, .inl (fun _ => 0))), (b1 11, .inl (cI, 6, .inl (fun _ => 0))), (b1 12, .inl (cI, 7, .inl (fun _ => 0))), (b1 13, .inl (cI, 7, .inl (fun _ => 0))), (b1 14, .inl (cI, 7, .inl (fun _ => 0))), (b1 15, .inl (cI, 7, .inl (fun _ => 0))), (b1 16, .inl (cI, 7, .inl (fun _ => 0))), (b1 17, .inl (cI, 56, .inl (fun _ => 0))), (b1 18, .inl (cI, 30, .inl (fun _ => 0)))] := hD
  refine lv_aload_n hx hb dX0_become_170 rfl (lv_at hl 1 rfl) ?_
  refine va_get (D := G) (ci := 0) (v := .ref (b1 16)) (C := RX0) (T := TX0) (N := 19) hx hb hts iG_X0 hown hK hP 10 rfl rfl 16 (by decide) (hts _ w_113) (fun _ h9 => h9) rfl dX0_become_171 ?_
  refine lv_iconst (v := 0) hx hb dX0_become_174 (by decide) ?_
  refine lv_aload_n hx hb dX0_become_175 rfl (lv_at hl 0 rfl) ?_
  refine va_get (D := G) (ci := 0) (v := .ref (b 16)) (C := RX0) (T := TX0) (N := 19) hx hb hts iG_X0 hown hK hP 0 rfl rfl 16 (by decide) (hts _ w_113) (fun _ h9 => h9) rfl dX0_become_176 ?_
  refine lv_iconst (v := 0) hx hb dX0_become_179 (by decide) ?_
  refine lv_bipush (v := 7) hx hb dX0_become_180 (by decide) ?_
  refine va_copyi hx hb (by rw [hml]; exact hl.1.symm) hown (hts _ w_566) (hts _ w_568) (hts _ w_567) (hts _ w_17) hK hP hD hS 17 7 0 0 rfl rfl rfl rfl rfl (by decide) (by decide) (by decide) (Nat.le_of_ble_eq_true rfl) (Nat.le_of_ble_eq_true rfl) (fun _ _ => rfl) (Nat.le_of_ble_eq_true rfl) (Nat.le_of_ble_eq_true rfl) dX0_become_182 (fun H locs hP hD hS => ?_)
  rw [cpy_z] at hP hD
  have hP : va_P G vwCl [(h0, oX0 b 0 0 0 0 0 0 0 0 0 0), (b 10, .inl (cI, 12, .inl (fun _ => 0))), (b 11, .inl (cI, 6, .inl (fun _ => 0))), (b 12, .inl (cI, 7, .inl (fun _ => 0))), (b 13, .inl (cI, 7, .inl (fun _ => 0))), (b 14, .inl (cI, 7, .inl (fun _ => 0))), (b 15, .inl (cI, 7, .inl (fun _ => 0))), (b 16, .inl (cI, 7, .inl (fun _ => 0))), (b 17, .inl (cI, 56, .inl (fun _ => 0))), (b 18, .inl (cI, 30, .inl (fun _ => 0))), (h1, oX0 b1 0 0 0 0 0 0 0 0 0 0), (b1 10, .inl (cI, 12, .inl (fun _ => 0))), (b1 11, .inl (cI, 6, .inl (fun _ => 0))), (b1 12, .inl (cI, 7, .inl (fun _ => 0))), (b1 13, .inl (cI, 7, .inl (fun _ => 0))), (b1 14, .inl (cI, 7, .inl (fun _ => 0))), (b1 15, .inl (cI, 7, .inl (fun _ => 0))), (b1 16, .inl (cI, 7, .inl (fun _ => 0))), (b1 17, .inl (cI, 56, .inl (fun _ => 0))), (b1 18, .inl (cI, 30, .inl (fun _ => 0)))] H := hP
  have hD : va_D A [(h0, oX0 b 0 0 0 0 0 0 0 0 0 0), (b 10, .inl (cI, 12, .inl (fun _ => 0))), (b 11, .inl (cI, 6, .inl (fun _ => 0))), (b 12, .inl (cI, 7, .inl (fun _ => 0))), (b 13, .inl (cI, 7, .inl (fun _ => 0))), (b 14, .inl (cI, 7, .inl (fun _ => 0))), (b 15, .inl (cI, 7, .inl (fun _ => 0))), (b 16, .inl (cI, 7, .inl (fun _ => 0))), (b 17, .inl (cI, 56, .inl (fun _ => 0))), (b 18, .inl (cI, 30, .inl (fun _ => 0))), (h1, oX0 b1 0 0 0 0 0 0 0 0 0 0), (b1 10, .inl (cI, 12, .inl (fun _ => 0))), (b1 11, .inl (cI, 6, .inl (fun _ => 0))), (b1 12, .inl (cI, 7, .inl (fun _ => 0))), (b1 13, .inl (cI, 7, .inl (fun _ => 0))), (b1 14, .inl (cI, 7, .inl (fun _ => 0))), (b1 15, .inl (cI, 7, .inl (fun _ => 0))), (b1 16, .inl (cI, 7, .inl (fun _ => 0))), (b1 17, .inl (cI, 56, .inl (fun _ => 0))), (b1 18, .inl (cI, 30, .inl (fun _ => 0)))] := hD
  refine lv_aload_n hx hb dX0_become_185 rfl (lv_at hl 1 rfl) ?_
  refine va_get (D := G) (ci := 0) (v := .ref (b1 17)) (C := RX0) (T := TX0) (N := 19) hx hb hts iG_X0 hown hK hP 10 rfl rfl 17 (by decide) (hts _ w_117) (fun _ h9 => h9) rfl dX0_become_186 ?_
  refine lv_iconst (v := 0) hx hb dX0_become_189 (by decide) ?_
  refine lv_aload_n hx hb dX0_become_190 rfl (lv_at hl 0 rfl) ?_
  refine va_get (D := G) (ci := 0) (v := .ref (b 17)) (C := RX0) (T := TX0) (N := 19) hx hb hts iG_X0 hown hK hP 0 rfl rfl 17 (by decide) (hts _ w_117) (fun _ h9 => h9) rfl dX0_become_191 ?_
  refine lv_iconst (v := 0) hx hb dX0_become_194 (by decide) ?_
  refine lv_bipush (v := 56) hx hb dX0_become_195 (by decide) ?_
  refine va_copyi hx hb (by rw [hml]; exact hl.1.symm) hown (hts _ w_566) (hts _ w_568) (hts _ w_567) (hts _ w_17) hK hP hD hS 18 8 0 0 rfl rfl rfl rfl rfl (by decide) (by decide) (by decide) (Nat.le_of_ble_eq_true rfl) (Nat.le_of_ble_eq_true rfl) (fun _ _ => rfl) (Nat.le_of_ble_eq_true rfl) (Nat.le_of_ble_eq_true rfl) dX0_become_197 (fun H locs hP hD hS => ?_)
  rw [cpy_z] at hP hD
  have hP : va_P G vwCl [(h0, oX0 b 0 0 0 0 0 0 0 0 0 0), (b 10, .inl (cI, 12, .inl (fun _ => 0))), (b 11, .inl (cI, 6, .inl (fun _ => 0))), (b 12, .inl (cI, 7, .inl (fun _ => 0))), (b 13, .inl (cI, 7, .inl (fun _ => 0))), (b 14, .inl (cI, 7, .inl (fun _ => 0))), (b 15, .inl (cI, 7, .inl (fun _ => 0))), (b 16, .inl (cI, 7, .inl (fun _ => 0))), (b 17, .inl (cI, 56, .inl (fun _ => 0))), (b 18, .inl (cI, 30, .inl (fun _ => 0))), (h1, oX0 b1 0 0 0 0 0 0 0 0 0 0), (b1 10, .inl (cI, 12, .inl (fun _ => 0))), (b1 11, .inl (cI, 6, .inl (fun _ => 0))), (b1 12, .inl (cI, 7, .inl (fun _ => 0))), (b1 13, .inl (cI, 7, .inl (fun _ => 0))), (b1 14, .inl (cI, 7, .inl (fun _ => 0))), (b1 15, .inl (cI, 7, .inl (fun _ => 0))), (b1 16, .inl (cI, 7, .inl (fun _ => 0))), (b1 17, .inl (cI, 56, .inl (fun _ => 0))), (b1 18, .inl (cI, 30, .inl (fun _ => 0)))] H := hP
  have hD : va_D A [(h0, oX0 b 0 0 0 0 0 0 0 0 0 0), (b 10, .inl (cI, 12, .inl (fun _ => 0))), (b 11, .inl (cI, 6, .inl (fun _ => 0))), (b 12, .inl (cI, 7, .inl (fun _ => 0))), (b 13, .inl (cI, 7, .inl (fun _ => 0))), (b 14, .inl (cI, 7, .inl (fun _ => 0))), (b 15, .inl (cI, 7, .inl (fun _ => 0))), (b 16, .inl (cI, 7, .inl (fun _ => 0))), (b 17, .inl (cI, 56, .inl (fun _ => 0))), (b 18, .inl (cI, 30, .inl (fun _ => 0))), (h1, oX0 b1 0 0 0 0 0 0 0 0 0 0), (b1 10, .inl (cI, 12, .inl (fun _ => 0))), (b1 11, .inl (cI, 6, .inl (fun _ => 0))), (b1 12, .inl (cI, 7, .inl (fun _ => 0))), (b1 13, .inl (cI, 7, .inl (fun _ => 0))), (b1 14, .inl (cI, 7, .inl (fun _ => 0))), (b1 15, .inl (cI, 7, .inl (fun _ => 0))), (b1 16, .inl (cI, 7, .inl (fun _ => 0))), (b1 17, .inl (cI, 56, .inl (fun _ => 0))), (b1 18, .inl (cI, 30, .inl (fun _ => 0)))] := hD
  refine lv_aload_n hx hb dX0_become_200 rfl (lv_at hl 1 rfl) ?_
  refine va_get (D := G) (ci := 0) (v := .ref (b1 18)) (C := RX0) (T := TX0) (N := 19) hx hb hts iG_X0 hown hK hP 10 rfl rfl 18 (by decide) (hts _ w_121) (fun _ h9 => h9) rfl dX0_become_201 ?_
  refine lv_iconst (v := 0) hx hb dX0_become_204 (by decide) ?_
  refine lv_aload_n hx hb dX0_become_205 rfl (lv_at hl 0 rfl) ?_
  refine va_get (D := G) (ci := 0) (v := .ref (b 18)) (C := RX0) (T := TX0) (N := 19) hx hb hts iG_X0 hown hK hP 0 rfl rfl 18 (by decide) (hts _ w_121) (fun _ h9 => h9) rfl dX0_become_206 ?_
  refine lv_iconst (v := 0) hx hb dX0_become_209 (by decide) ?_
  refine lv_bipush (v := 30) hx hb dX0_become_210 (by decide) ?_
  refine va_copyi hx hb (by rw [hml]; exact hl.1.symm) hown (hts _ w_566) (hts _ w_568) (hts _ w_567) (hts _ w_17) hK hP hD hS 19 9 0 0 rfl rfl rfl rfl rfl (by decide) (by decide) (by decide) (Nat.le_of_ble_eq_true rfl) (Nat.le_of_ble_eq_true rfl) (fun _ _ => rfl) (Nat.le_of_ble_eq_true rfl) (Nat.le_of_ble_eq_true rfl) dX0_become_212 (fun H locs hP hD hS => ?_)
  rw [cpy_z] at hP hD
  have hP : va_P G vwCl [(h0, oX0 b 0 0 0 0 0 0 0 0 0 0), (b 10, .inl (cI, 12, .inl (fun _ => 0))), (b 11, .inl (cI, 6, .inl (fun _ => 0))), (b 12, .inl (cI, 7, .inl (fun _ => 0))), (b 13, .inl (cI, 7, .inl (fun _ => 0))), (b 14, .inl (cI, 7, .inl (fun _ => 0))), (b 15, .inl (cI, 7, .inl (fun _ => 0))), (b 16, .inl (cI, 7, .inl (fun _ => 0))), (b 17, .inl (cI, 56, .inl (fun _ => 0))), (b 18, .inl (cI, 30, .inl (fun _ => 0))), (h1, oX0 b1 0 0 0 0 0 0 0 0 0 0), (b1 10, .inl (cI, 12, .inl (fun _ => 0))), (b1 11, .inl (cI, 6, .inl (fun _ => 0))), (b1 12, .inl (cI, 7, .inl (fun _ => 0))), (b1 13, .inl (cI, 7, .inl (fun _ => 0))), (b1 14, .inl (cI, 7, .inl (fun _ => 0))), (b1 15, .inl (cI, 7, .inl (fun _ => 0))), (b1 16, .inl (cI, 7, .inl (fun _ => 0))), (b1 17, .inl (cI, 56, .inl (fun _ => 0))), (b1 18, .inl (cI, 30, .inl (fun _ => 0)))] H := hP
  have hD : va_D A [(h0, oX0 b 0 0 0 0 0 0 0 0 0 0), (b 10, .inl (cI, 12, .inl (fun _ => 0))), (b 11, .inl (cI, 6, .inl (fun _ => 0))), (b 12, .inl (cI, 7, .inl (fun _ => 0))), (b 13, .inl (cI, 7, .inl (fun _ => 0))), (b 14, .inl (cI, 7, .inl (fun _ => 0))), (b 15, .inl (cI, 7, .inl (fun _ => 0))), (b 16, .inl (cI, 7, .inl (fun _ => 0))), (b 17, .inl (cI, 56, .inl (fun _ => 0))), (b 18, .inl (cI, 30, .inl (fun _ => 0))), (h1, oX0 b1 0 0 0 0 0 0 0 0 0 0), (b1 10, .inl (cI, 12, .inl (fun _ => 0))), (b1 11, .inl (cI, 6, .inl (fun _ => 0))), (b1 12, .inl (cI, 7, .inl (fun _ => 0))), (b1 13, .inl (cI, 7, .inl (fun _ => 0))), (b1 14, .inl (cI, 7, .inl (fun _ => 0))), (b1 15, .inl (cI, 7, .inl (fun _ => 0))), (b1 16, .inl (cI, 7, .inl (fun _ => 0))), (b1 17, .inl (cI, 56, .inl (fun _ => 0))), (b1 18, .inl (cI, 30, .inl (fun _ => 0)))] := hD
  exact hret _ _ _ _ () hP hD hS dX0_become_215 trivial
set_option maxHeartbeats 4000000 in
set_option maxRecDepth 100000 in
theorem f_X7_asNow (l : Launch) (G : va_G) (cI cJ cZ cB cQ : ClassId) (sz : Nat) (h0 : Nat) (h1 : Nat) (b1 : Nat → Nat) : CV l yX7_asNow (wl_ yX7_asNow cX7_asNow 2 none) ({ frames := 1, cells := 0, slots := 0, locals := 23 } : Room) G (TY cI cJ cZ cB cQ) [.ref h0, .ref h1] [(h0, oX7 z0 0 0 0 0 0 0), (h1, oX0 b1 0 0 0 0 0 0 0 0 0 0)] sz (fun (u : Unit) => True) (fun _ : Unit => [(h0, oX7 z0 0 0 0 (-1) (-1) (-1)), (h1, oX0 b1 0 0 0 0 0 0 0 0 0 0)]) 0 0 := by
  refine CV.go (cc := cX7_asNow) (maxL := 2) (ret := none) (by decide) rfl (Nat.le_of_ble_eq_true rfl) ?_
  intro p e s m below meth c A ls Q hBd hret
  obtain ⟨hx, hb, hr, hml, hts, hown, hlk, hnm, hP, hK, hD, hA, hZ, hl⟩ := hBd
  have hown : s.vm.findClass RX7 = some m.cls := hown
  have hl : lv_has ls 2 [(0, .ref h0), (1, .ref h1)] := hl
  have hS : va_S A s.heap s.heap [] := va_S.rf
  refine lv_aload_n hx hb dX7_asNow_0 rfl (lv_at hl 0 rfl) ?_
  refine lv_aload_n hx hb dX7_asNow_1 rfl (lv_at hl 1 rfl) ?_
  refine va_getN (D := G) (ci := 0) (v := .int 0) (C := RX0) (T := TX0) (N := 19) hx hb hts iG_X0 hown hK hP 1 rfl rfl 2 (by decide) (nz_use hZ nw_63 rfl) (fun _ h9 => h9) rfl dX7_asNow_2 ?_
  refine va_put (D := G) (ci := 7) (v := .int 0) (ty := .int) (C := RX7) (T := TX7) (N := 6) hx hb hts iG_X7 tyX7 tyX7_ok nmX7 hown hK hP hD hS 0 rfl rfl 0 (by decide) (hts _ w_198) (fun _ h9 => h9) rfl (by decide +kernel) rfl rfl (Nat.le_of_ble_eq_true rfl) dX7_asNow_5 (fun H locs hP hD hS => ?_)
  have hP : va_P G vwCl [(h0, oX7 z0 0 0 0 0 0 0), (h1, oX0 b1 0 0 0 0 0 0 0 0 0 0)] H := hP
  have hD : va_D A [(h0, oX7 z0 0 0 0 0 0 0), (h1, oX0 b1 0 0 0 0 0 0 0 0 0 0)] := hD
  refine lv_aload_n hx hb dX7_asNow_8 rfl (lv_at hl 0 rfl) ?_
  refine lv_aload_n hx hb dX7_asNow_9 rfl (lv_at hl 1 rfl) ?_
  refine k_i (wc := [(h1, oX0 b1 0 0 0 0 0 0 0 0 0 0)]) (wr := [(h0, oX7 z0 0 0 0 0 0 0)]) hP hD hS hA [1] [0] rfl rfl rfl (by decide) (va_runVN (As := []) (rest := [.ref h0]) ⟨hx, hb, hml, hown, hts⟩ (f_X0_walkerBits l G cI cJ cZ cB cQ _ h1 b1) ⟨va_cnB (host := "WidowRoads") 0 hts (gW w_580) rfl rfl rfl (nz_nw hZ nw_577 rfl) (hts _ w_4) hd_X0_walkerBits ⟨Nat.le_of_ble_eq_true rfl, Nat.le_of_ble_eq_true rfl⟩, (hts _ w_579), (hts _ wp_23)⟩ (mV hK hZ hP hD [1] rfl rfl [] 1 0 rfl rfl) rfl rfl hl.1 rfl (lv_room (Nat.le_of_ble_eq_true rfl)) dX7_asNow_10 ⟨Nat.le_of_ble_eq_true rfl, Nat.le_of_ble_eq_true rfl⟩) (fun r1 u2 H locs hw3 hP hD hS => ?_)
  try dsimp only at hw3
  have hP : va_P G vwCl [(h0, oX7 z0 0 0 0 0 0 0), (h1, oX0 b1 0 0 0 0 0 0 0 0 0 0)] H := hP
  have hD : va_D A [(h0, oX7 z0 0 0 0 0 0 0), (h1, oX0 b1 0 0 0 0 0 0 0 0 0 0)] := hD
  obtain rfl : r1 = 0 := hw3
  refine va_put (D := G) (ci := 7) (v := .int 0) (ty := .int) (C := RX7) (T := TX7) (N := 6) hx hb hts iG_X7 tyX7 tyX7_ok nmX7 hown hK hP hD hS 0 rfl rfl 1 (by decide) (hts _ w_201) (fun _ h9 => h9) rfl (by decide +kernel) rfl rfl (Nat.le_of_ble_eq_true rfl) dX7_asNow_13 (fun H locs hP hD hS => ?_)
  have hP : va_P G vwCl [(h0, oX7 z0 0 0 0 0 0 0), (h1, oX0 b1 0 0 0 0 0 0 0 0 0 0)] H := hP
  have hD : va_D A [(h0, oX7 z0 0 0 0 0 0 0), (h1, oX0 b1 0 0 0 0 0 0 0 0 0 0)] := hD
  refine lv_aload_n hx hb dX7_asNow_16 rfl (lv_at hl 0 rfl) ?_
  refine lv_aload_n hx hb dX7_asNow_17 rfl (lv_at hl 1 rfl) ?_
  refine k_l (wc := [(h1, oX0 b1 0 0 0 0 0 0 0 0 0 0)]) (wr := [(h0, oX7 z0 0 0 0 0 0 0)]) hP hD hS hA [1] [0] rfl rfl rfl (by decide) (va_runVN (As := []) (rest := [.ref h0]) ⟨hx, hb, hml, hown, hts⟩ (f_X0_creekBits l G cI cJ cZ cB cQ _ h1 b1) ⟨va_cnB (host := "WidowRoads") 0 hts (gW w_516) rfl rfl rfl (nz_nw hZ nw_581 rfl) (hts _ w_4) hd_X0_creekBits ⟨Nat.le_of_ble_eq_true rfl, Nat.le_of_ble_eq_true rfl⟩, (hts _ w_515), (hts _ wp_12)⟩ (mV hK hZ hP hD [1] rfl rfl [] 1 0 rfl rfl) rfl rfl hl.1 rfl (lv_room (Nat.le_of_ble_eq_true rfl)) dX7_asNow_18 ⟨Nat.le_of_ble_eq_true rfl, Nat.le_of_ble_eq_true rfl⟩) (fun r4 u5 H locs hw6 hP hD hS => ?_)
  try dsimp only at hw6
  have hP : va_P G vwCl [(h0, oX7 z0 0 0 0 0 0 0), (h1, oX0 b1 0 0 0 0 0 0 0 0 0 0)] H := hP
  have hD : va_D A [(h0, oX7 z0 0 0 0 0 0 0), (h1, oX0 b1 0 0 0 0 0 0 0 0 0 0)] := hD
  obtain rfl : r4 = 0 := hw6
  refine va_put (D := G) (ci := 7) (v := .long 0) (ty := .long) (C := RX7) (T := TX7) (N := 6) hx hb hts iG_X7 tyX7 tyX7_ok nmX7 hown hK hP hD hS 0 rfl rfl 2 (by decide) (hts _ w_205) (fun _ h9 => h9) rfl (by decide +kernel) rfl rfl (Nat.le_of_ble_eq_true rfl) dX7_asNow_21 (fun H locs hP hD hS => ?_)
  have hP : va_P G vwCl [(h0, oX7 z0 0 0 0 0 0 0), (h1, oX0 b1 0 0 0 0 0 0 0 0 0 0)] H := hP
  have hD : va_D A [(h0, oX7 z0 0 0 0 0 0 0), (h1, oX0 b1 0 0 0 0 0 0 0 0 0 0)] := hD
  refine lv_aload_n hx hb dX7_asNow_24 rfl (lv_at hl 0 rfl) ?_
  refine lv_iconst (v := (-1)) hx hb dX7_asNow_25 (by decide) ?_
  refine va_put (D := G) (ci := 7) (v := .int (-1)) (ty := .int) (C := RX7) (T := TX7) (N := 6) hx hb hts iG_X7 tyX7 tyX7_ok nmX7 hown hK hP hD hS 0 rfl rfl 3 (by decide) (hts _ w_208) (fun _ h9 => h9) rfl (by decide +kernel) rfl rfl (Nat.le_of_ble_eq_true rfl) dX7_asNow_26 (fun H locs hP hD hS => ?_)
  have hP : va_P G vwCl [(h0, oX7 z0 0 0 0 (-1) 0 0), (h1, oX0 b1 0 0 0 0 0 0 0 0 0 0)] H := hP
  have hD : va_D A [(h0, oX7 z0 0 0 0 (-1) 0 0), (h1, oX0 b1 0 0 0 0 0 0 0 0 0 0)] := hD
  refine lv_aload_n hx hb dX7_asNow_29 rfl (lv_at hl 0 rfl) ?_
  refine lv_iconst (v := (-1)) hx hb dX7_asNow_30 (by decide) ?_
  refine va_put (D := G) (ci := 7) (v := .int (-1)) (ty := .int) (C := RX7) (T := TX7) (N := 6) hx hb hts iG_X7 tyX7 tyX7_ok nmX7 hown hK hP hD hS 0 rfl rfl 4 (by decide) (hts _ w_210) (fun _ h9 => h9) rfl (by decide +kernel) rfl rfl (Nat.le_of_ble_eq_true rfl) dX7_asNow_31 (fun H locs hP hD hS => ?_)
  have hP : va_P G vwCl [(h0, oX7 z0 0 0 0 (-1) (-1) 0), (h1, oX0 b1 0 0 0 0 0 0 0 0 0 0)] H := hP
  have hD : va_D A [(h0, oX7 z0 0 0 0 (-1) (-1) 0), (h1, oX0 b1 0 0 0 0 0 0 0 0 0 0)] := hD
  refine lv_aload_n hx hb dX7_asNow_34 rfl (lv_at hl 0 rfl) ?_
  refine lv_iconst (v := (-1)) hx hb dX7_asNow_35 (by decide) ?_
  refine va_put (D := G) (ci := 7) (v := .int (-1)) (ty := .int) (C := RX7) (T := TX7) (N := 6) hx hb hts iG_X7 tyX7 tyX7_ok nmX7 hown hK hP hD hS 0 rfl rfl 5 (by decide) (hts _ w_212) (fun _ h9 => h9) rfl (by decide +kernel) rfl rfl (Nat.le_of_ble_eq_true rfl) dX7_asNow_36 (fun H locs hP hD hS => ?_)
  have hP : va_P G vwCl [(h0, oX7 z0 0 0 0 (-1) (-1) (-1)), (h1, oX0 b1 0 0 0 0 0 0 0 0 0 0)] H := hP
  have hD : va_D A [(h0, oX7 z0 0 0 0 (-1) (-1) (-1)), (h1, oX0 b1 0 0 0 0 0 0 0 0 0 0)] := hD
  exact hret _ _ _ _ () hP hD hS dX7_asNow_39 trivial
set_option maxHeartbeats 4000000 in
set_option maxRecDepth 100000 in
theorem f_X6_begin (l : Launch) (G : va_G) (cI cJ cZ cB cQ : ClassId) (sz : Nat) (h0 : Nat) (b : Nat → Nat) (h1 : Nat) (b1 : Nat → Nat) : CV l yX6_begin (wl_ yX6_begin cX6_begin 3 none) ({ frames := 1, cells := 0, slots := 0, locals := 23 } : Room) G (TY cI cJ cZ cB cQ) [.ref h0, .ref h1] [(h0, oX6 b 0 0), (b 1, .inl (cI, 7, .inl (fun _ => 0))), (b 2, .inl (cI, 7, .inl (fun _ => 0))), (b 3, .inl (cJ, 7, .inr (.inl (fun _ => 0)))), (b 4, .inl (cI, 7, .inl (fun _ => 0))), (b 5, .inl (cI, 6, .inl (fun _ => 0))), (b 6, .inl (cI, 78, .inl (fun _ => 0))), (b 7, .inl (cJ, 13, .inr (.inl (fun _ => 0)))), (b 8, .inl (cJ, 13, .inr (.inl (fun _ => 0)))), (b 9, .inl (cJ, 13, .inr (.inl (fun _ => 0)))), (h1, oX0 b1 0 0 0 0 0 0 0 0 0 0)] sz (fun (u : (Nat → Int32) × (Nat → Int32)) => True) (fun u : (Nat → Int32) × (Nat → Int32) => [(h0, oX6 b 0 0), (b 1, .inl (cI, 7, .inl u.1)), (b 2, .inl (cI, 7, .inl (fun _ => 0))), (b 3, .inl (cJ, 7, .inr (.inl (fun _ => 0)))), (b 4, .inl (cI, 7, .inl (fun _ => 0))), (b 5, .inl (cI, 6, .inl (fun _ => 0))), (b 6, .inl (cI, 78, .inl u.2)), (b 7, .inl (cJ, 13, .inr (.inl (fun _ => 0)))), (b 8, .inl (cJ, 13, .inr (.inl (fun _ => 0)))), (b 9, .inl (cJ, 13, .inr (.inl (fun _ => 0)))), (h1, oX0 b1 0 0 0 0 0 0 0 0 0 0)]) 0 0 := by
  refine CV.go (cc := cX6_begin) (maxL := 3) (ret := none) (by decide) rfl (Nat.le_of_ble_eq_true rfl) ?_
  intro p e s m below meth c A ls Q hBd hret
  obtain ⟨hx, hb, hr, hml, hts, hown, hlk, hnm, hP, hK, hD, hA, hZ, hl⟩ := hBd
  have hown : s.vm.findClass RX6 = some m.cls := hown
  have hl : lv_has ls 3 [(0, .ref h0), (1, .ref h1)] := hl
  have hS : va_S A s.heap s.heap [] := va_S.rf
  refine lv_aload_n hx hb dX6_begin_0 rfl (lv_at hl 0 rfl) ?_
  refine lv_aload_n hx hb dX6_begin_1 rfl (lv_at hl 1 rfl) ?_
  refine k_l (wc := [(h1, oX0 b1 0 0 0 0 0 0 0 0 0 0)]) (wr := [(h0, oX6 b 0 0), (b 1, .inl (cI, 7, .inl (fun _ => 0))), (b 2, .inl (cI, 7, .inl (fun _ => 0))), (b 3, .inl (cJ, 7, .inr (.inl (fun _ => 0)))), (b 4, .inl (cI, 7, .inl (fun _ => 0))), (b 5, .inl (cI, 6, .inl (fun _ => 0))), (b 6, .inl (cI, 78, .inl (fun _ => 0))), (b 7, .inl (cJ, 13, .inr (.inl (fun _ => 0)))), (b 8, .inl (cJ, 13, .inr (.inl (fun _ => 0)))), (b 9, .inl (cJ, 13, .inr (.inl (fun _ => 0))))]) hP hD hS hA [10] [0, 1, 2, 3, 4, 5, 6, 7, 8, 9] rfl rfl rfl (by decide) (va_runVN (As := []) (rest := [.ref h0]) ⟨hx, hb, hml, hown, hts⟩ (f_X0_field l G cI cJ cZ cB cQ _ h1 b1) ⟨va_cnB (host := "WidowRoads") 0 hts (gW w_593) rfl rfl rfl (nz_nw hZ nw_590 rfl) (hts _ w_4) hd_X0_field ⟨Nat.le_of_ble_eq_true rfl, Nat.le_of_ble_eq_true rfl⟩, (hts _ w_592), (hts _ wp_26)⟩ (mV hK hZ hP hD [10] rfl rfl [] 10 0 rfl rfl) rfl rfl hl.1 rfl (lv_room (Nat.le_of_ble_eq_true rfl)) dX6_begin_2 ⟨Nat.le_of_ble_eq_true rfl, Nat.le_of_ble_eq_true rfl⟩) (fun r1 u2 H locs hw3 hP hD hS => ?_)
  try dsimp only at hw3
  have hP : va_P G vwCl [(h0, oX6 b 0 0), (b 1, .inl (cI, 7, .inl (fun _ => 0))), (b 2, .inl (cI, 7, .inl (fun _ => 0))), (b 3, .inl (cJ, 7, .inr (.inl (fun _ => 0)))), (b 4, .inl (cI, 7, .inl (fun _ => 0))), (b 5, .inl (cI, 6, .inl (fun _ => 0))), (b 6, .inl (cI, 78, .inl (fun _ => 0))), (b 7, .inl (cJ, 13, .inr (.inl (fun _ => 0)))), (b 8, .inl (cJ, 13, .inr (.inl (fun _ => 0)))), (b 9, .inl (cJ, 13, .inr (.inl (fun _ => 0)))), (h1, oX0 b1 0 0 0 0 0 0 0 0 0 0)] H := hP
  have hD : va_D A [(h0, oX6 b 0 0), (b 1, .inl (cI, 7, .inl (fun _ => 0))), (b 2, .inl (cI, 7, .inl (fun _ => 0))), (b 3, .inl (cJ, 7, .inr (.inl (fun _ => 0)))), (b 4, .inl (cI, 7, .inl (fun _ => 0))), (b 5, .inl (cI, 6, .inl (fun _ => 0))), (b 6, .inl (cI, 78, .inl (fun _ => 0))), (b 7, .inl (cJ, 13, .inr (.inl (fun _ => 0)))), (b 8, .inl (cJ, 13, .inr (.inl (fun _ => 0)))), (b 9, .inl (cJ, 13, .inr (.inl (fun _ => 0)))), (h1, oX0 b1 0 0 0 0 0 0 0 0 0 0)] := hD
  obtain rfl : r1 = 0 := hw3
  refine va_put (D := G) (ci := 6) (v := .long 0) (ty := .long) (C := RX6) (T := TX6) (N := 12) hx hb hts iG_X6 tyX6 tyX6_ok nmX6 hown hK hP hD hS 0 rfl rfl 10 (by decide) (hts _ w_254) (fun _ h9 => h9) rfl (by decide +kernel) rfl rfl (Nat.le_of_ble_eq_true rfl) dX6_begin_5 (fun H locs hP hD hS => ?_)
  have hP : va_P G vwCl [(h0, oX6 b 0 0), (b 1, .inl (cI, 7, .inl (fun _ => 0))), (b 2, .inl (cI, 7, .inl (fun _ => 0))), (b 3, .inl (cJ, 7, .inr (.inl (fun _ => 0)))), (b 4, .inl (cI, 7, .inl (fun _ => 0))), (b 5, .inl (cI, 6, .inl (fun _ => 0))), (b 6, .inl (cI, 78, .inl (fun _ => 0))), (b 7, .inl (cJ, 13, .inr (.inl (fun _ => 0)))), (b 8, .inl (cJ, 13, .inr (.inl (fun _ => 0)))), (b 9, .inl (cJ, 13, .inr (.inl (fun _ => 0)))), (h1, oX0 b1 0 0 0 0 0 0 0 0 0 0)] H := hP
  have hD : va_D A [(h0, oX6 b 0 0), (b 1, .inl (cI, 7, .inl (fun _ => 0))), (b 2, .inl (cI, 7, .inl (fun _ => 0))), (b 3, .inl (cJ, 7, .inr (.inl (fun _ => 0)))), (b 4, .inl (cI, 7, .inl (fun _ => 0))), (b 5, .inl (cI, 6, .inl (fun _ => 0))), (b 6, .inl (cI, 78, .inl (fun _ => 0))), (b 7, .inl (cJ, 13, .inr (.inl (fun _ => 0)))), (b 8, .inl (cJ, 13, .inr (.inl (fun _ => 0)))), (b 9, .inl (cJ, 13, .inr (.inl (fun _ => 0)))), (h1, oX0 b1 0 0 0 0 0 0 0 0 0 0)] := hD
  refine lv_aload_n hx hb dX6_begin_8 rfl (lv_at hl 0 rfl) ?_
  refine lv_aload_n hx hb dX6_begin_9 rfl (lv_at hl 1 rfl) ?_
  refine va_getN (D := G) (ci := 0) (v := .int 0) (C := RX0) (T := TX0) (N := 19) hx hb hts iG_X0 hown hK hP 10 rfl rfl 7 (by decide) (nz_use hZ nw_81 rfl) (fun _ h9 => h9) rfl dX6_begin_10 ?_
  refine va_put (D := G) (ci := 6) (v := .int 0) (ty := .int) (C := RX6) (T := TX6) (N := 12) hx hb hts iG_X6 tyX6 tyX6_ok nmX6 hown hK hP hD hS 0 rfl rfl 11 (by decide) (hts _ w_255) (fun _ h9 => h9) rfl (by decide +kernel) rfl rfl (Nat.le_of_ble_eq_true rfl) dX6_begin_13 (fun H locs hP hD hS => ?_)
  have hP : va_P G vwCl [(h0, oX6 b 0 0), (b 1, .inl (cI, 7, .inl (fun _ => 0))), (b 2, .inl (cI, 7, .inl (fun _ => 0))), (b 3, .inl (cJ, 7, .inr (.inl (fun _ => 0)))), (b 4, .inl (cI, 7, .inl (fun _ => 0))), (b 5, .inl (cI, 6, .inl (fun _ => 0))), (b 6, .inl (cI, 78, .inl (fun _ => 0))), (b 7, .inl (cJ, 13, .inr (.inl (fun _ => 0)))), (b 8, .inl (cJ, 13, .inr (.inl (fun _ => 0)))), (b 9, .inl (cJ, 13, .inr (.inl (fun _ => 0)))), (h1, oX0 b1 0 0 0 0 0 0 0 0 0 0)] H := hP
  have hD : va_D A [(h0, oX6 b 0 0), (b 1, .inl (cI, 7, .inl (fun _ => 0))), (b 2, .inl (cI, 7, .inl (fun _ => 0))), (b 3, .inl (cJ, 7, .inr (.inl (fun _ => 0)))), (b 4, .inl (cI, 7, .inl (fun _ => 0))), (b 5, .inl (cI, 6, .inl (fun _ => 0))), (b 6, .inl (cI, 78, .inl (fun _ => 0))), (b 7, .inl (cJ, 13, .inr (.inl (fun _ => 0)))), (b 8, .inl (cJ, 13, .inr (.inl (fun _ => 0)))), (b 9, .inl (cJ, 13, .inr (.inl (fun _ => 0)))), (h1, oX0 b1 0 0 0 0 0 0 0 0 0 0)] := hD
  refine lv_aload_n hx hb dX6_begin_16 rfl (lv_at hl 0 rfl) ?_
  refine va_get (D := G) (ci := 6) (v := .ref (b 7)) (C := RX6) (T := TX6) (N := 12) hx hb hts iG_X6 hown hK hP 0 rfl rfl 7 (by decide) (hts _ w_246) (fun _ h9 => h9) rfl dX6_begin_17 ?_
  refine lv_iconst (v := 0) hx hb dX6_begin_20 (by decide) ?_
  refine lv_lconst (v := 0) hx hb dX6_begin_21 (by decide) ?_
  refine va_last hx hb hK hP hD hS 7 1 rfl rfl (ix_in ki_0 (by omega) (by omega)) dX6_begin_22 (fun H locs hP hD hS => ?_)
  rw [updL_z] at hP hD
  have hP : va_P G vwCl [(h0, oX6 b 0 0), (b 1, .inl (cI, 7, .inl (fun _ => 0))), (b 2, .inl (cI, 7, .inl (fun _ => 0))), (b 3, .inl (cJ, 7, .inr (.inl (fun _ => 0)))), (b 4, .inl (cI, 7, .inl (fun _ => 0))), (b 5, .inl (cI, 6, .inl (fun _ => 0))), (b 6, .inl (cI, 78, .inl (fun _ => 0))), (b 7, .inl (cJ, 13, .inr (.inl (fun _ => 0)))), (b 8, .inl (cJ, 13, .inr (.inl (fun _ => 0)))), (b 9, .inl (cJ, 13, .inr (.inl (fun _ => 0)))), (h1, oX0 b1 0 0 0 0 0 0 0 0 0 0)] H := hP
  have hD : va_D A [(h0, oX6 b 0 0), (b 1, .inl (cI, 7, .inl (fun _ => 0))), (b 2, .inl (cI, 7, .inl (fun _ => 0))), (b 3, .inl (cJ, 7, .inr (.inl (fun _ => 0)))), (b 4, .inl (cI, 7, .inl (fun _ => 0))), (b 5, .inl (cI, 6, .inl (fun _ => 0))), (b 6, .inl (cI, 78, .inl (fun _ => 0))), (b 7, .inl (cJ, 13, .inr (.inl (fun _ => 0)))), (b 8, .inl (cJ, 13, .inr (.inl (fun _ => 0)))), (b 9, .inl (cJ, 13, .inr (.inl (fun _ => 0)))), (h1, oX0 b1 0 0 0 0 0 0 0 0 0 0)] := hD
  refine lv_aload_n hx hb dX6_begin_23 rfl (lv_at hl 0 rfl) ?_
  refine va_get (D := G) (ci := 6) (v := .ref (b 8)) (C := RX6) (T := TX6) (N := 12) hx hb hts iG_X6 hown hK hP 0 rfl rfl 8 (by decide) (hts _ w_250) (fun _ h9 => h9) rfl dX6_begin_24 ?_
  refine lv_iconst (v := 0) hx hb dX6_begin_27 (by decide) ?_
  refine lv_lconst (v := 0) hx hb dX6_begin_28 (by decide) ?_
  refine va_last hx hb hK hP hD hS 8 1 rfl rfl (ix_in ki_0 (by omega) (by omega)) dX6_begin_29 (fun H locs hP hD hS => ?_)
  rw [updL_z] at hP hD
  have hP : va_P G vwCl [(h0, oX6 b 0 0), (b 1, .inl (cI, 7, .inl (fun _ => 0))), (b 2, .inl (cI, 7, .inl (fun _ => 0))), (b 3, .inl (cJ, 7, .inr (.inl (fun _ => 0)))), (b 4, .inl (cI, 7, .inl (fun _ => 0))), (b 5, .inl (cI, 6, .inl (fun _ => 0))), (b 6, .inl (cI, 78, .inl (fun _ => 0))), (b 7, .inl (cJ, 13, .inr (.inl (fun _ => 0)))), (b 8, .inl (cJ, 13, .inr (.inl (fun _ => 0)))), (b 9, .inl (cJ, 13, .inr (.inl (fun _ => 0)))), (h1, oX0 b1 0 0 0 0 0 0 0 0 0 0)] H := hP
  have hD : va_D A [(h0, oX6 b 0 0), (b 1, .inl (cI, 7, .inl (fun _ => 0))), (b 2, .inl (cI, 7, .inl (fun _ => 0))), (b 3, .inl (cJ, 7, .inr (.inl (fun _ => 0)))), (b 4, .inl (cI, 7, .inl (fun _ => 0))), (b 5, .inl (cI, 6, .inl (fun _ => 0))), (b 6, .inl (cI, 78, .inl (fun _ => 0))), (b 7, .inl (cJ, 13, .inr (.inl (fun _ => 0)))), (b 8, .inl (cJ, 13, .inr (.inl (fun _ => 0)))), (b 9, .inl (cJ, 13, .inr (.inl (fun _ => 0)))), (h1, oX0 b1 0 0 0 0 0 0 0 0 0 0)] := hD
  refine lv_aload_n hx hb dX6_begin_30 rfl (lv_at hl 0 rfl) ?_
  refine va_get (D := G) (ci := 6) (v := .ref (b 9)) (C := RX6) (T := TX6) (N := 12) hx hb hts iG_X6 hown hK hP 0 rfl rfl 9 (by decide) (hts _ w_252) (fun _ h9 => h9) rfl dX6_begin_31 ?_
  refine lv_iconst (v := 0) hx hb dX6_begin_34 (by decide) ?_
  refine lv_lconst (v := 0) hx hb dX6_begin_35 (by decide) ?_
  refine va_last hx hb hK hP hD hS 9 1 rfl rfl (ix_in ki_0 (by omega) (by omega)) dX6_begin_36 (fun H locs hP hD hS => ?_)
  rw [updL_z] at hP hD
  have hP : va_P G vwCl [(h0, oX6 b 0 0), (b 1, .inl (cI, 7, .inl (fun _ => 0))), (b 2, .inl (cI, 7, .inl (fun _ => 0))), (b 3, .inl (cJ, 7, .inr (.inl (fun _ => 0)))), (b 4, .inl (cI, 7, .inl (fun _ => 0))), (b 5, .inl (cI, 6, .inl (fun _ => 0))), (b 6, .inl (cI, 78, .inl (fun _ => 0))), (b 7, .inl (cJ, 13, .inr (.inl (fun _ => 0)))), (b 8, .inl (cJ, 13, .inr (.inl (fun _ => 0)))), (b 9, .inl (cJ, 13, .inr (.inl (fun _ => 0)))), (h1, oX0 b1 0 0 0 0 0 0 0 0 0 0)] H := hP
  have hD : va_D A [(h0, oX6 b 0 0), (b 1, .inl (cI, 7, .inl (fun _ => 0))), (b 2, .inl (cI, 7, .inl (fun _ => 0))), (b 3, .inl (cJ, 7, .inr (.inl (fun _ => 0)))), (b 4, .inl (cI, 7, .inl (fun _ => 0))), (b 5, .inl (cI, 6, .inl (fun _ => 0))), (b 6, .inl (cI, 78, .inl (fun _ => 0))), (b 7, .inl (cJ, 13, .inr (.inl (fun _ => 0)))), (b 8, .inl (cJ, 13, .inr (.inl (fun _ => 0)))), (b 9, .inl (cJ, 13, .inr (.inl (fun _ => 0)))), (h1, oX0 b1 0 0 0 0 0 0 0 0 0 0)] := hD
  refine lv_iconst (v := 0) hx hb dX6_begin_37 (by decide) ?_
  refine lv_istore_n (lv' := [(2, .int 0), (0, .ref h0), (1, .ref h1)]) hx hb dX6_begin_38 rfl hl (by decide) rfl (fun ls hl => ?_)
  have lp4 : ∀ (n5 : Nat) (x6 : Int32) (f7 : Nat → Int32), 0 ≤ x6.toInt → x6.toInt ≤ 7 → 7 - x6.toInt < (n5 : Int) → ∀ (H : Heap) (locs : List Loc), va_P G vwCl [(h0, oX6 b 0 0), (b 1, .inl (cI, 7, .inl f7)), (b 2, .inl (cI, 7, .inl (fun _ => 0))), (b 3, .inl (cJ, 7, .inr (.inl (fun _ => 0)))), (b 4, .inl (cI, 7, .inl (fun _ => 0))), (b 5, .inl (cI, 6, .inl (fun _ => 0))), (b 6, .inl (cI, 78, .inl (fun _ => 0))), (b 7, .inl (cJ, 13, .inr (.inl (fun _ => 0)))), (b 8, .inl (cJ, 13, .inr (.inl (fun _ => 0)))), (b 9, .inl (cJ, 13, .inr (.inl (fun _ => 0)))), (h1, oX0 b1 0 0 0 0 0 0 0 0 0 0)] H → va_D A [(h0, oX6 b 0 0), (b 1, .inl (cI, 7, .inl f7)), (b 2, .inl (cI, 7, .inl (fun _ => 0))), (b 3, .inl (cJ, 7, .inr (.inl (fun _ => 0)))), (b 4, .inl (cI, 7, .inl (fun _ => 0))), (b 5, .inl (cI, 6, .inl (fun _ => 0))), (b 6, .inl (cI, 78, .inl (fun _ => 0))), (b 7, .inl (cJ, 13, .inr (.inl (fun _ => 0)))), (b 8, .inl (cJ, 13, .inr (.inl (fun _ => 0)))), (b 9, .inl (cJ, 13, .inr (.inl (fun _ => 0)))), (h1, oX0 b1 0 0 0 0 0 0 0 0 0 0)] → va_S A s.heap H locs → ∀ (ls : Array Slot), lv_has ls 3 [(2, .int x6), (0, .ref h0), (1, .ref h1)] → W p l e ({ frames := 1, cells := 0, slots := 0, locals := 23 } : Room) s m ([.ref h0, .ref h1] : List Value).toArray below meth c H locs 0 0 Q (F0 m 39 ls []) := by
    intro n5
    induction n5 with
    | zero =>
      intro x6 f7 f7_0 f7_1 f7_2
      exact absurd f7_2 (by omega)
    | succ n5 ih8 =>
      intro x6 f7 f7_0 f7_1 f7_2 H locs hP hD hS ls hl
      refine lv_iload_n hx hb dX6_begin_39 rfl (lv_at hl 0 rfl) ?_
      refine lv_bipush (v := 7) hx hb dX6_begin_40 (by decide) ?_
      refine lv_icmp_ge (tgt := 79) hx hb dX6_begin_42 (by decide) (fun c9 => ?_) (fun c9 => ?_)
      · have c9 := i_le ki_7 rfl c9
        refine lv_iconst (v := 0) hx hb dX6_begin_79 (by decide) ?_
        refine lv_istore_n (lv' := [(2, .int 0), (0, .ref h0), (1, .ref h1)]) hx hb dX6_begin_80 rfl hl (by decide) rfl (fun ls hl => ?_)
        have lp10 : ∀ (n11 : Nat) (x12 : Int32) (f13 : Nat → Int32), 0 ≤ x12.toInt → x12.toInt ≤ 6 → 6 - x12.toInt < (n11 : Int) → ∀ (H : Heap) (locs : List Loc), va_P G vwCl [(h0, oX6 b 0 0), (b 1, .inl (cI, 7, .inl f7)), (b 2, .inl (cI, 7, .inl (fun _ => 0))), (b 3, .inl (cJ, 7, .inr (.inl (fun _ => 0)))), (b 4, .inl (cI, 7, .inl (fun _ => 0))), (b 5, .inl (cI, 6, .inl (fun _ => 0))), (b 6, .inl (cI, 78, .inl f13)), (b 7, .inl (cJ, 13, .inr (.inl (fun _ => 0)))), (b 8, .inl (cJ, 13, .inr (.inl (fun _ => 0)))), (b 9, .inl (cJ, 13, .inr (.inl (fun _ => 0)))), (h1, oX0 b1 0 0 0 0 0 0 0 0 0 0)] H → va_D A [(h0, oX6 b 0 0), (b 1, .inl (cI, 7, .inl f7)), (b 2, .inl (cI, 7, .inl (fun _ => 0))), (b 3, .inl (cJ, 7, .inr (.inl (fun _ => 0)))), (b 4, .inl (cI, 7, .inl (fun _ => 0))), (b 5, .inl (cI, 6, .inl (fun _ => 0))), (b 6, .inl (cI, 78, .inl f13)), (b 7, .inl (cJ, 13, .inr (.inl (fun _ => 0)))), (b 8, .inl (cJ, 13, .inr (.inl (fun _ => 0)))), (b 9, .inl (cJ, 13, .inr (.inl (fun _ => 0)))), (h1, oX0 b1 0 0 0 0 0 0 0 0 0 0)] → va_S A s.heap H locs → ∀ (ls : Array Slot), lv_has ls 3 [(2, .int x12), (0, .ref h0), (1, .ref h1)] → W p l e ({ frames := 1, cells := 0, slots := 0, locals := 23 } : Room) s m ([.ref h0, .ref h1] : List Value).toArray below meth c H locs 0 0 Q (F0 m 81 ls []) := by
          intro n11
          induction n11 with
          | zero =>
            intro x12 f13 f13_0 f13_1 f13_2
            exact absurd f13_2 (by omega)
          | succ n11 ih14 =>
            intro x12 f13 f13_0 f13_1 f13_2 H locs hP hD hS ls hl
            refine lv_iload_n hx hb dX6_begin_81 rfl (lv_at hl 0 rfl) ?_
            refine lv_bipush (v := 6) hx hb dX6_begin_82 (by decide) ?_
            refine lv_icmp_ge (tgt := 124) hx hb dX6_begin_84 (by decide) (fun c15 => ?_) (fun c15 => ?_)
            · have c15 := i_le ki_6 rfl c15
              exact hret _ _ _ _ (f7, f13) hP hD hS dX6_begin_124 trivial
            · have c15 := i_nle ki_6 rfl c15
              refine lv_aload_n hx hb dX6_begin_87 rfl (lv_at hl 1 rfl) ?_
              refine va_get (D := G) (ci := 6) (v := .ref (b 6)) (C := RX6) (T := TX6) (N := 12) hx hb hts iG_X6 hown hK hP 0 rfl rfl 6 (by decide) (hts _ w_244) (fun _ h9 => h9) rfl dX6_begin_88 ?_
              refine lv_iload_n hx hb dX6_begin_91 rfl (lv_at hl 0 rfl) ?_
              refine lv_iload_n hx hb dX6_begin_92 rfl (lv_at hl 0 rfl) ?_
              refine lv_aload_n hx hb dX6_begin_93 rfl (lv_at hl 1 rfl) ?_
              refine va_get (D := G) (ci := 6) (v := .int 0) (C := RX6) (T := TX6) (N := 12) hx hb hts iG_X6 hown hK hP 0 rfl rfl 11 (by decide) (hts _ w_255) (fun _ h9 => h9) rfl dX6_begin_94 ?_
              refine lv_icmp_ge (tgt := 109) hx hb dX6_begin_97 (by decide) (fun c16 => ?_) (fun c16 => absurd (i_nle ki_0 rfl c16) (by omega))
              have c16 := i_le ki_0 rfl c16
              refine lv_iconst (v := (-1)) hx hb dX6_begin_109 (by decide) ?_
              refine va_iast hx hb hK hP hD hS 6 0 rfl rfl (ix_in rfl (by omega) (by omega)) dX6_begin_110 (fun H locs hP hD hS => ?_)
              generalize upd f13 x12.toNatClampNeg (-1) = f17 at hP hD
              have hP : va_P G vwCl [(h0, oX6 b 0 0), (b 1, .inl (cI, 7, .inl f7)), (b 2, .inl (cI, 7, .inl (fun _ => 0))), (b 3, .inl (cJ, 7, .inr (.inl (fun _ => 0)))), (b 4, .inl (cI, 7, .inl (fun _ => 0))), (b 5, .inl (cI, 6, .inl (fun _ => 0))), (b 6, .inl (cI, 78, .inl f17)), (b 7, .inl (cJ, 13, .inr (.inl (fun _ => 0)))), (b 8, .inl (cJ, 13, .inr (.inl (fun _ => 0)))), (b 9, .inl (cJ, 13, .inr (.inl (fun _ => 0)))), (h1, oX0 b1 0 0 0 0 0 0 0 0 0 0)] H := hP
              have hD : va_D A [(h0, oX6 b 0 0), (b 1, .inl (cI, 7, .inl f7)), (b 2, .inl (cI, 7, .inl (fun _ => 0))), (b 3, .inl (cJ, 7, .inr (.inl (fun _ => 0)))), (b 4, .inl (cI, 7, .inl (fun _ => 0))), (b 5, .inl (cI, 6, .inl (fun _ => 0))), (b 6, .inl (cI, 78, .inl f17)), (b 7, .inl (cJ, 13, .inr (.inl (fun _ => 0)))), (b 8, .inl (cJ, 13, .inr (.inl (fun _ => 0)))), (b 9, .inl (cJ, 13, .inr (.inl (fun _ => 0)))), (h1, oX0 b1 0 0 0 0 0 0 0 0 0 0)] := hD
              refine lv_aload_n hx hb dX6_begin_111 rfl (lv_at hl 1 rfl) ?_
              refine va_get (D := G) (ci := 6) (v := .ref (b 5)) (C := RX6) (T := TX6) (N := 12) hx hb hts iG_X6 hown hK hP 0 rfl rfl 5 (by decide) (hts _ w_242) (fun _ h9 => h9) rfl dX6_begin_112 ?_
              refine lv_iload_n hx hb dX6_begin_115 rfl (lv_at hl 0 rfl) ?_
              refine lv_iconst (v := 0) hx hb dX6_begin_116 (by decide) ?_
              refine va_iast hx hb hK hP hD hS 5 0 rfl rfl (ix_in rfl (by omega) (by omega)) dX6_begin_117 (fun H locs hP hD hS => ?_)
              rw [upd_z] at hP hD
              have hP : va_P G vwCl [(h0, oX6 b 0 0), (b 1, .inl (cI, 7, .inl f7)), (b 2, .inl (cI, 7, .inl (fun _ => 0))), (b 3, .inl (cJ, 7, .inr (.inl (fun _ => 0)))), (b 4, .inl (cI, 7, .inl (fun _ => 0))), (b 5, .inl (cI, 6, .inl (fun _ => 0))), (b 6, .inl (cI, 78, .inl f17)), (b 7, .inl (cJ, 13, .inr (.inl (fun _ => 0)))), (b 8, .inl (cJ, 13, .inr (.inl (fun _ => 0)))), (b 9, .inl (cJ, 13, .inr (.inl (fun _ => 0)))), (h1, oX0 b1 0 0 0 0 0 0 0 0 0 0)] H := hP
              have hD : va_D A [(h0, oX6 b 0 0), (b 1, .inl (cI, 7, .inl f7)), (b 2, .inl (cI, 7, .inl (fun _ => 0))), (b 3, .inl (cJ, 7, .inr (.inl (fun _ => 0)))), (b 4, .inl (cI, 7, .inl (fun _ => 0))), (b 5, .inl (cI, 6, .inl (fun _ => 0))), (b 6, .inl (cI, 78, .inl f17)), (b 7, .inl (cJ, 13, .inr (.inl (fun _ => 0)))), (b 8, .inl (cJ, 13, .inr (.inl (fun _ => 0)))), (b 9, .inl (cJ, 13, .inr (.inl (fun _ => 0)))), (h1, oX0 b1 0 0 0 0 0 0 0 0 0 0)] := hD
              obtain ⟨v18, ev18⟩ : ∃ y : Int32, y = x12 + 1 := ⟨_, rfl⟩
              have tv18 : v18.toInt = x12.toInt + 1 := ti_add rfl ki_1 ev18 (by omega) (by omega)
              refine lv_iinc (v := v18) (lv' := [(2, .int v18), (0, .ref h0), (1, .ref h1)]) hx hb dX6_begin_118 hl (k := 0) rfl (by rw [ev18]; rfl) (by decide) rfl (fun ls hl => ?_)
              refine lv_goto (tgt := 81) hx hb dX6_begin_121 (by decide) ?_
              exact ih14 v18 f17 (by omega) (by omega) (by omega) _ _ hP hD hS ls (lv_sub hl [0, 1, 2] rfl)
        exact lp10 7 0 (fun _ => 0) (by rw [ki_0]; decide) (by rw [ki_0]; decide) (by rw [ki_0]; decide) _ _ hP hD hS ls (lv_sub hl [0, 1, 2] rfl)
      · have c9 := i_nle ki_7 rfl c9
        refine lv_aload_n hx hb dX6_begin_45 rfl (lv_at hl 1 rfl) ?_
        refine va_get (D := G) (ci := 6) (v := .ref (b 1)) (C := RX6) (T := TX6) (N := 12) hx hb hts iG_X6 hown hK hP 0 rfl rfl 1 (by decide) (hts _ w_234) (fun _ h9 => h9) rfl dX6_begin_46 ?_
        refine lv_iload_n hx hb dX6_begin_49 rfl (lv_at hl 0 rfl) ?_
        refine lv_iconst (v := (-1)) hx hb dX6_begin_50 (by decide) ?_
        refine va_iast hx hb hK hP hD hS 1 0 rfl rfl (ix_in rfl (by omega) (by omega)) dX6_begin_51 (fun H locs hP hD hS => ?_)
        generalize upd f7 x6.toNatClampNeg (-1) = f19 at hP hD
        have hP : va_P G vwCl [(h0, oX6 b 0 0), (b 1, .inl (cI, 7, .inl f19)), (b 2, .inl (cI, 7, .inl (fun _ => 0))), (b 3, .inl (cJ, 7, .inr (.inl (fun _ => 0)))), (b 4, .inl (cI, 7, .inl (fun _ => 0))), (b 5, .inl (cI, 6, .inl (fun _ => 0))), (b 6, .inl (cI, 78, .inl (fun _ => 0))), (b 7, .inl (cJ, 13, .inr (.inl (fun _ => 0)))), (b 8, .inl (cJ, 13, .inr (.inl (fun _ => 0)))), (b 9, .inl (cJ, 13, .inr (.inl (fun _ => 0)))), (h1, oX0 b1 0 0 0 0 0 0 0 0 0 0)] H := hP
        have hD : va_D A [(h0, oX6 b 0 0), (b 1, .inl (cI, 7, .inl f19)), (b 2, .inl (cI, 7, .inl (fun _ => 0))), (b 3, .inl (cJ, 7, .inr (.inl (fun _ => 0)))), (b 4, .inl (cI, 7, .inl (fun _ => 0))), (b 5, .inl (cI, 6, .inl (fun _ => 0))), (b 6, .inl (cI, 78, .inl (fun _ => 0))), (b 7, .inl (cJ, 13, .inr (.inl (fun _ => 0)))), (b 8, .inl (cJ, 13, .inr (.inl (fun _ => 0)))), (b 9, .inl (cJ, 13, .inr (.inl (fun _ => 0)))), (h1, oX0 b1 0 0 0 0 0 0 0 0 0 0)] := hD
        refine lv_aload_n hx hb dX6_begin_52 rfl (lv_at hl 1 rfl) ?_
        refine va_get (D := G) (ci := 6) (v := .ref (b 2)) (C := RX6) (T := TX6) (N := 12) hx hb hts iG_X6 hown hK hP 0 rfl rfl 2 (by decide) (hts _ w_236) (fun _ h9 => h9) rfl dX6_begin_53 ?_
        refine lv_iload_n hx hb dX6_begin_56 rfl (lv_at hl 0 rfl) ?_
        refine lv_iconst (v := 0) hx hb dX6_begin_57 (by decide) ?_
        refine va_iast hx hb hK hP hD hS 2 0 rfl rfl (ix_in rfl (by omega) (by omega)) dX6_begin_58 (fun H locs hP hD hS => ?_)
        rw [upd_z] at hP hD
        have hP : va_P G vwCl [(h0, oX6 b 0 0), (b 1, .inl (cI, 7, .inl f19)), (b 2, .inl (cI, 7, .inl (fun _ => 0))), (b 3, .inl (cJ, 7, .inr (.inl (fun _ => 0)))), (b 4, .inl (cI, 7, .inl (fun _ => 0))), (b 5, .inl (cI, 6, .inl (fun _ => 0))), (b 6, .inl (cI, 78, .inl (fun _ => 0))), (b 7, .inl (cJ, 13, .inr (.inl (fun _ => 0)))), (b 8, .inl (cJ, 13, .inr (.inl (fun _ => 0)))), (b 9, .inl (cJ, 13, .inr (.inl (fun _ => 0)))), (h1, oX0 b1 0 0 0 0 0 0 0 0 0 0)] H := hP
        have hD : va_D A [(h0, oX6 b 0 0), (b 1, .inl (cI, 7, .inl f19)), (b 2, .inl (cI, 7, .inl (fun _ => 0))), (b 3, .inl (cJ, 7, .inr (.inl (fun _ => 0)))), (b 4, .inl (cI, 7, .inl (fun _ => 0))), (b 5, .inl (cI, 6, .inl (fun _ => 0))), (b 6, .inl (cI, 78, .inl (fun _ => 0))), (b 7, .inl (cJ, 13, .inr (.inl (fun _ => 0)))), (b 8, .inl (cJ, 13, .inr (.inl (fun _ => 0)))), (b 9, .inl (cJ, 13, .inr (.inl (fun _ => 0)))), (h1, oX0 b1 0 0 0 0 0 0 0 0 0 0)] := hD
        refine lv_aload_n hx hb dX6_begin_59 rfl (lv_at hl 1 rfl) ?_
        refine va_get (D := G) (ci := 6) (v := .ref (b 3)) (C := RX6) (T := TX6) (N := 12) hx hb hts iG_X6 hown hK hP 0 rfl rfl 3 (by decide) (hts _ w_238) (fun _ h9 => h9) rfl dX6_begin_60 ?_
        refine lv_iload_n hx hb dX6_begin_63 rfl (lv_at hl 0 rfl) ?_
        refine lv_lconst (v := 0) hx hb dX6_begin_64 (by decide) ?_
        refine va_last hx hb hK hP hD hS 3 1 rfl rfl (ix_in rfl (by omega) (by omega)) dX6_begin_65 (fun H locs hP hD hS => ?_)
        rw [updL_z] at hP hD
        have hP : va_P G vwCl [(h0, oX6 b 0 0), (b 1, .inl (cI, 7, .inl f19)), (b 2, .inl (cI, 7, .inl (fun _ => 0))), (b 3, .inl (cJ, 7, .inr (.inl (fun _ => 0)))), (b 4, .inl (cI, 7, .inl (fun _ => 0))), (b 5, .inl (cI, 6, .inl (fun _ => 0))), (b 6, .inl (cI, 78, .inl (fun _ => 0))), (b 7, .inl (cJ, 13, .inr (.inl (fun _ => 0)))), (b 8, .inl (cJ, 13, .inr (.inl (fun _ => 0)))), (b 9, .inl (cJ, 13, .inr (.inl (fun _ => 0)))), (h1, oX0 b1 0 0 0 0 0 0 0 0 0 0)] H := hP
        have hD : va_D A [(h0, oX6 b 0 0), (b 1, .inl (cI, 7, .inl f19)), (b 2, .inl (cI, 7, .inl (fun _ => 0))), (b 3, .inl (cJ, 7, .inr (.inl (fun _ => 0)))), (b 4, .inl (cI, 7, .inl (fun _ => 0))), (b 5, .inl (cI, 6, .inl (fun _ => 0))), (b 6, .inl (cI, 78, .inl (fun _ => 0))), (b 7, .inl (cJ, 13, .inr (.inl (fun _ => 0)))), (b 8, .inl (cJ, 13, .inr (.inl (fun _ => 0)))), (b 9, .inl (cJ, 13, .inr (.inl (fun _ => 0)))), (h1, oX0 b1 0 0 0 0 0 0 0 0 0 0)] := hD
        refine lv_aload_n hx hb dX6_begin_66 rfl (lv_at hl 1 rfl) ?_
        refine va_get (D := G) (ci := 6) (v := .ref (b 4)) (C := RX6) (T := TX6) (N := 12) hx hb hts iG_X6 hown hK hP 0 rfl rfl 4 (by decide) (hts _ w_240) (fun _ h9 => h9) rfl dX6_begin_67 ?_
        refine lv_iload_n hx hb dX6_begin_70 rfl (lv_at hl 0 rfl) ?_
        refine lv_iconst (v := 0) hx hb dX6_begin_71 (by decide) ?_
        refine va_iast hx hb hK hP hD hS 4 0 rfl rfl (ix_in rfl (by omega) (by omega)) dX6_begin_72 (fun H locs hP hD hS => ?_)
        rw [upd_z] at hP hD
        have hP : va_P G vwCl [(h0, oX6 b 0 0), (b 1, .inl (cI, 7, .inl f19)), (b 2, .inl (cI, 7, .inl (fun _ => 0))), (b 3, .inl (cJ, 7, .inr (.inl (fun _ => 0)))), (b 4, .inl (cI, 7, .inl (fun _ => 0))), (b 5, .inl (cI, 6, .inl (fun _ => 0))), (b 6, .inl (cI, 78, .inl (fun _ => 0))), (b 7, .inl (cJ, 13, .inr (.inl (fun _ => 0)))), (b 8, .inl (cJ, 13, .inr (.inl (fun _ => 0)))), (b 9, .inl (cJ, 13, .inr (.inl (fun _ => 0)))), (h1, oX0 b1 0 0 0 0 0 0 0 0 0 0)] H := hP
        have hD : va_D A [(h0, oX6 b 0 0), (b 1, .inl (cI, 7, .inl f19)), (b 2, .inl (cI, 7, .inl (fun _ => 0))), (b 3, .inl (cJ, 7, .inr (.inl (fun _ => 0)))), (b 4, .inl (cI, 7, .inl (fun _ => 0))), (b 5, .inl (cI, 6, .inl (fun _ => 0))), (b 6, .inl (cI, 78, .inl (fun _ => 0))), (b 7, .inl (cJ, 13, .inr (.inl (fun _ => 0)))), (b 8, .inl (cJ, 13, .inr (.inl (fun _ => 0)))), (b 9, .inl (cJ, 13, .inr (.inl (fun _ => 0)))), (h1, oX0 b1 0 0 0 0 0 0 0 0 0 0)] := hD
        obtain ⟨v20, ev20⟩ : ∃ y : Int32, y = x6 + 1 := ⟨_, rfl⟩
        have tv20 : v20.toInt = x6.toInt + 1 := ti_add rfl ki_1 ev20 (by omega) (by omega)
        refine lv_iinc (v := v20) (lv' := [(2, .int v20), (0, .ref h0), (1, .ref h1)]) hx hb dX6_begin_73 hl (k := 0) rfl (by rw [ev20]; rfl) (by decide) rfl (fun ls hl => ?_)
        refine lv_goto (tgt := 39) hx hb dX6_begin_76 (by decide) ?_
        exact ih8 v20 f19 (by omega) (by omega) (by omega) _ _ hP hD hS ls (lv_sub hl [0, 1, 2] rfl)
  exact lp4 8 0 (fun _ => 0) (by rw [ki_0]; decide) (by rw [ki_0]; decide) (by rw [ki_0]; decide) _ _ hP hD hS ls (lv_sub hl [0, 1, 2] rfl)
set_option maxHeartbeats 4000000 in
set_option maxRecDepth 100000 in
theorem f_X6_tell (l : Launch) (G : va_G) (cI cJ cZ cB cQ : ClassId) (sz : Nat) (h0 : Nat) (b : Nat → Nat) (h1 : Nat) (b1 : Nat → Nat) (h2 : Nat) : CV l yX6_tell (wl_ yX6_tell cX6_tell 5 none) ({ frames := 2, cells := 0, slots := 0, locals := 45 } : Room) G (TY cI cJ cZ cB cQ) [.ref h0, .ref h1, .ref h2] [(h0, oX6 b 0 0), (b 1, .inl (cI, 7, .inl (fun _ => 0))), (b 2, .inl (cI, 7, .inl (fun _ => 0))), (b 3, .inl (cJ, 7, .inr (.inl (fun _ => 0)))), (b 4, .inl (cI, 7, .inl (fun _ => 0))), (b 5, .inl (cI, 6, .inl (fun _ => 0))), (b 6, .inl (cI, 78, .inl (fun _ => 0))), (b 7, .inl (cJ, 13, .inr (.inl (fun _ => 0)))), (b 8, .inl (cJ, 13, .inr (.inl (fun _ => 0)))), (b 9, .inl (cJ, 13, .inr (.inl (fun _ => 0)))), (h1, oX0 b1 0 0 0 0 0 0 0 0 0 0)] sz (fun (u : (Nat → Int32) × (Nat → Int32)) => True) (fun u : (Nat → Int32) × (Nat → Int32) => [(h0, oX6 b 0 0), (b 1, .inl (cI, 7, .inl u.1)), (b 2, .inl (cI, 7, .inl (fun _ => 0))), (b 3, .inl (cJ, 7, .inr (.inl (fun _ => 0)))), (b 4, .inl (cI, 7, .inl (fun _ => 0))), (b 5, .inl (cI, 6, .inl (fun _ => 0))), (b 6, .inl (cI, 78, .inl u.2)), (b 7, .inl (cJ, 13, .inr (.inl (fun _ => 0)))), (b 8, .inl (cJ, 13, .inr (.inl (fun _ => 0)))), (b 9, .inl (cJ, 13, .inr (.inl (fun _ => 0)))), (h1, oX0 b1 0 0 0 0 0 0 0 0 0 0)]) 0 0 := by
  refine CV.go (cc := cX6_tell) (maxL := 5) (ret := none) (by decide) rfl (Nat.le_of_ble_eq_true rfl) ?_
  intro p e s m below meth c A ls Q hBd hret
  obtain ⟨hx, hb, hr, hml, hts, hown, hlk, hnm, hP, hK, hD, hA, hZ, hl⟩ := hBd
  have hown : s.vm.findClass RX6 = some m.cls := hown
  have hl : lv_has ls 5 [(0, .ref h0), (1, .ref h1), (2, .ref h2)] := hl
  have hS : va_S A s.heap s.heap [] := va_S.rf
  refine lv_aload_n hx hb dX6_tell_0 rfl (lv_at hl 0 rfl) ?_
  refine lv_aload_n hx hb dX6_tell_1 rfl (lv_at hl 1 rfl) ?_
  refine k_v (wc := [(h0, oX6 b 0 0), (b 1, .inl (cI, 7, .inl (fun _ => 0))), (b 2, .inl (cI, 7, .inl (fun _ => 0))), (b 3, .inl (cJ, 7, .inr (.inl (fun _ => 0)))), (b 4, .inl (cI, 7, .inl (fun _ => 0))), (b 5, .inl (cI, 6, .inl (fun _ => 0))), (b 6, .inl (cI, 78, .inl (fun _ => 0))), (b 7, .inl (cJ, 13, .inr (.inl (fun _ => 0)))), (b 8, .inl (cJ, 13, .inr (.inl (fun _ => 0)))), (b 9, .inl (cJ, 13, .inr (.inl (fun _ => 0)))), (h1, oX0 b1 0 0 0 0 0 0 0 0 0 0)]) (wr := []) hP hD hS hA [0, 1, 2, 3, 4, 5, 6, 7, 8, 9, 10] [] rfl rfl rfl (by decide) (va_runV (As := [.ref h1]) (rest := []) ⟨hx, hb, hml, hown, hts⟩ (f_X6_begin l G cI cJ cZ cB cQ _ h0 b h1 b1) (cwV 1 hts (gV w_586 w_588 wp_25 w_6 w_589) rfl rfl rfl ⟨rfl, hd_X6_begin⟩ ⟨Nat.le_of_ble_eq_true rfl, Nat.le_of_ble_eq_true rfl⟩) (mV hK hZ hP hD [0, 1, 2, 3, 4, 5, 6, 7, 8, 9, 10] rfl rfl [.ref h1] 0 6 rfl rfl) rfl rfl hl.1 rfl (lv_room (Nat.le_of_ble_eq_true rfl)) dX6_tell_2 ⟨Nat.le_of_ble_eq_true rfl, Nat.le_of_ble_eq_true rfl⟩) (fun u2 H locs hw3 hP hD hS => ?_)
  obtain ⟨f14, f65⟩ := u2
  have hP : va_P G vwCl [(h0, oX6 b 0 0), (b 1, .inl (cI, 7, .inl f14)), (b 2, .inl (cI, 7, .inl (fun _ => 0))), (b 3, .inl (cJ, 7, .inr (.inl (fun _ => 0)))), (b 4, .inl (cI, 7, .inl (fun _ => 0))), (b 5, .inl (cI, 6, .inl (fun _ => 0))), (b 6, .inl (cI, 78, .inl f65)), (b 7, .inl (cJ, 13, .inr (.inl (fun _ => 0)))), (b 8, .inl (cJ, 13, .inr (.inl (fun _ => 0)))), (b 9, .inl (cJ, 13, .inr (.inl (fun _ => 0)))), (h1, oX0 b1 0 0 0 0 0 0 0 0 0 0)] H := hP
  have hD : va_D A [(h0, oX6 b 0 0), (b 1, .inl (cI, 7, .inl f14)), (b 2, .inl (cI, 7, .inl (fun _ => 0))), (b 3, .inl (cJ, 7, .inr (.inl (fun _ => 0)))), (b 4, .inl (cI, 7, .inl (fun _ => 0))), (b 5, .inl (cI, 6, .inl (fun _ => 0))), (b 6, .inl (cI, 78, .inl f65)), (b 7, .inl (cJ, 13, .inr (.inl (fun _ => 0)))), (b 8, .inl (cJ, 13, .inr (.inl (fun _ => 0)))), (b 9, .inl (cJ, 13, .inr (.inl (fun _ => 0)))), (h1, oX0 b1 0 0 0 0 0 0 0 0 0 0)] := hD
  refine lv_iconst (v := 0) hx hb dX6_tell_5 (by decide) ?_
  refine lv_istore_n (lv' := [(3, .int 0), (0, .ref h0), (1, .ref h1), (2, .ref h2)]) hx hb dX6_tell_6 rfl hl (by decide) rfl (fun ls hl => ?_)
  refine lv_iload_n hx hb dX6_tell_7 rfl (lv_at hl 0 rfl) ?_
  refine lv_aload_n hx hb dX6_tell_8 rfl (lv_at hl 2 rfl) ?_
  refine va_getN (D := G) (ci := 0) (v := .int 0) (C := RX0) (T := TX0) (N := 19) hx hb hts iG_X0 hown hK hP 10 rfl rfl 1 (by decide) (nz_use hZ nw_59 rfl) (fun _ h9 => h9) rfl dX6_tell_9 ?_
  refine lv_icmp_ge (tgt := 89) hx hb dX6_tell_12 (by decide) (fun c6 => ?_) (fun c6 => absurd (by decide) c6)
  exact hret _ _ _ _ (f14, f65) hP hD hS dX6_tell_89 trivial
set_option maxHeartbeats 4000000 in
set_option maxRecDepth 100000 in
theorem f_X8_byteAt (l : Launch) (G : va_G) (cI cJ cZ cB cQ : ClassId) (sz : Nat) (h0 : Nat) (b : Nat → Nat) (p0 : Int32) : CI l yX8_byteAt (wl_ yX8_byteAt cX8_byteAt 2 (some .int)) ({ frames := 0, cells := 0, slots := 0, locals := 0 } : Room) G (TY cI cJ cZ cB cQ) [.ref h0, .int p0] [(h0, oX8 b 0)] sz (fun (r : Int32) (u : Unit) => r = (-1)) (fun _ : Unit => [(h0, oX8 b 0)]) 0 0 := by
  refine CI.go (cc := cX8_byteAt) (maxL := 2) (ret := (some .int)) (by decide) rfl (Nat.le_of_ble_eq_true rfl) ?_
  intro p e s m below meth c A ls Q hBd hret
  obtain ⟨hx, hb, hr, hml, hts, hown, hlk, hnm, hP, hK, hD, hA, hZ, hl⟩ := hBd
  have hown : s.vm.findClass RX8 = some m.cls := hown
  have hl : lv_has ls 2 [(0, .ref h0), (1, .int p0)] := hl
  have hS : va_S A s.heap s.heap [] := va_S.rf
  refine lv_iload_n hx hb dX8_byteAt_0 rfl (lv_at hl 1 rfl) ?_
  refine lv_if_lt (tgt := 25) hx hb dX8_byteAt_1 (by decide) (fun c1 => ?_) (fun c1 => ?_)
  · have c1 := i_lt rfl ki_0 c1
    refine lv_iconst (v := (-1)) hx hb dX8_byteAt_25 (by decide) ?_
    exact hret _ _ _ _ (-1) () hP hD hS dX8_byteAt_26 rfl
  · have c1 := i_nlt rfl ki_0 c1
    refine lv_iload_n hx hb dX8_byteAt_4 rfl (lv_at hl 1 rfl) ?_
    refine lv_aload_n hx hb dX8_byteAt_5 rfl (lv_at hl 0 rfl) ?_
    refine va_get (D := G) (ci := 8) (v := .int 0) (C := RX8) (T := TX8) (N := 2) hx hb hts iG_X8 hown hK hP 0 rfl rfl 1 (by decide) (hts _ w_42) (fun _ h9 => h9) rfl dX8_byteAt_6 ?_
    refine lv_icmp_ge (tgt := 25) hx hb dX8_byteAt_9 (by decide) (fun c2 => ?_) (fun c2 => absurd (i_nle ki_0 rfl c2) (by omega))
    have c2 := i_le ki_0 rfl c2
    refine lv_iconst (v := (-1)) hx hb dX8_byteAt_25 (by decide) ?_
    exact hret _ _ _ _ (-1) () hP hD hS dX8_byteAt_26 rfl
set_option maxHeartbeats 4000000 in
set_option maxRecDepth 100000 in
theorem f_X8_put (l : Launch) (G : va_G) (cI cJ cZ cB cQ : ClassId) (sz : Nat) (h0 : Nat) (b : Nat → Nat) (p0 : Int32) (ln : Int32) (f0 : Nat → Int32) (n0 : Int) (hn : ln.toInt = n0) (h1 : 0 ≤ n0) (h2 : n0 ≤ 16) : CV l yX8_put (wl_ yX8_put cX8_put 3 none) ({ frames := 0, cells := 0, slots := 0, locals := 0 } : Room) G (TY cI cJ cZ cB cQ) [.ref h0, .int p0] [(h0, oX8 b ln), (b 0, .inl (cB, 900, .inl f0))] sz (fun (u : Int32 × (Nat → Int32)) => u.1.toInt = n0 + 4) (fun u : Int32 × (Nat → Int32) => [(h0, oX8 b u.1), (b 0, .inl (cB, 900, .inl u.2))]) 0 0 := by
  refine CV.go (cc := cX8_put) (maxL := 3) (ret := none) (by decide) rfl (Nat.le_of_ble_eq_true rfl) ?_
  intro p e s m below meth c A ls Q hBd hret
  obtain ⟨hx, hb, hr, hml, hts, hown, hlk, hnm, hP, hK, hD, hA, hZ, hl⟩ := hBd
  have hown : s.vm.findClass RX8 = some m.cls := hown
  have hl : lv_has ls 3 [(0, .ref h0), (1, .int p0)] := hl
  have hS : va_S A s.heap s.heap [] := va_S.rf
  refine lv_bipush (v := 24) hx hb dX8_put_0 (by decide) ?_
  refine lv_istore_n (lv' := [(2, .int 24), (0, .ref h0), (1, .int p0)]) hx hb dX8_put_2 rfl hl (by decide) rfl (fun ls hl => ?_)
  refine lv_iload_n hx hb dX8_put_3 rfl (lv_at hl 0 rfl) ?_
  refine lv_if_lt (tgt := 46) hx hb dX8_put_4 (by decide) (fun c1 => absurd c1 (by decide)) (fun c1 => ?_)
  refine lv_aload_n hx hb dX8_put_7 rfl (lv_at hl 1 rfl) ?_
  refine va_get (D := G) (ci := 8) (v := .int ln) (C := RX8) (T := TX8) (N := 2) hx hb hts iG_X8 hown hK hP 0 rfl rfl 1 (by decide) (hts _ w_42) (fun _ h9 => h9) rfl dX8_put_8 ?_
  refine lv_sipush (v := 900) hx hb dX8_put_11 (by decide) ?_
  refine lv_icmp_ge (tgt := 46) hx hb dX8_put_14 (by decide) (fun c2 => absurd (i_le ki_900 hn c2) (by omega)) (fun c2 => ?_)
  have c2 := i_nle ki_900 hn c2
  refine lv_aload_n hx hb dX8_put_17 rfl (lv_at hl 1 rfl) ?_
  refine va_get (D := G) (ci := 8) (v := .ref (b 0)) (C := RX8) (T := TX8) (N := 2) hx hb hts iG_X8 hown hK hP 0 rfl rfl 0 (by decide) (hts _ w_40) (fun _ h9 => h9) rfl dX8_put_18 ?_
  refine lv_aload_n hx hb dX8_put_21 rfl (lv_at hl 1 rfl) ?_
  refine va_get (D := G) (ci := 8) (v := .int ln) (C := RX8) (T := TX8) (N := 2) hx hb hts iG_X8 hown hK hP 0 rfl rfl 1 (by decide) (hts _ w_42) (fun _ h9 => h9) rfl dX8_put_22 ?_
  refine lv_iload_n hx hb dX8_put_25 rfl (lv_at hl 2 rfl) ?_
  refine lv_iload_n hx hb dX8_put_26 rfl (lv_at hl 0 rfl) ?_
  refine lv_ishr hx hb dX8_put_27 ?_
  refine lv_topi (fun v3 ev3 => ?_)
  refine lv_i2b hx hb dX8_put_28 rfl ?_
  refine lv_topi (fun v4 ev4 => ?_)
  refine va_bast hx hb hK hP hD hS 1 3 rfl rfl (ix_in hn (by omega) (by omega)) dX8_put_29 (fun H locs hP hD hS => ?_)
  generalize upd f0 ln.toNatClampNeg (vp_nar .byte v4) = f5 at hP hD
  have hP : va_P G vwCl [(h0, oX8 b ln), (b 0, .inl (cB, 900, .inl f5))] H := hP
  have hD : va_D A [(h0, oX8 b ln), (b 0, .inl (cB, 900, .inl f5))] := hD
  refine lv_aload_n hx hb dX8_put_30 rfl (lv_at hl 1 rfl) ?_
  refine lv_dup hx hb dX8_put_31 rfl ?_
  refine va_get (D := G) (ci := 8) (v := .int ln) (C := RX8) (T := TX8) (N := 2) hx hb hts iG_X8 hown hK hP 0 rfl rfl 1 (by decide) (hts _ w_42) (fun _ h9 => h9) rfl dX8_put_32 ?_
  refine lv_iconst (v := 1) hx hb dX8_put_35 (by decide) ?_
  refine lv_iadd hx hb dX8_put_36 ?_
  refine lv_topi (fun v6 ev6 => ?_)
  have tv6 : v6.toInt = n0 + 1 := ti_add hn ki_1 ev6 (by omega) (by omega)
  refine va_put (D := G) (ci := 8) (v := .int v6) (ty := .int) (C := RX8) (T := TX8) (N := 2) hx hb hts iG_X8 tyX8 tyX8_ok nmX8 hown hK hP hD hS 0 rfl rfl 1 (by decide) (hts _ w_42) (fun _ h9 => h9) rfl (by decide +kernel) rfl rfl (Nat.le_of_ble_eq_true rfl) dX8_put_37 (fun H locs hP hD hS => ?_)
  have hP : va_P G vwCl [(h0, oX8 b v6), (b 0, .inl (cB, 900, .inl f5))] H := hP
  have hD : va_D A [(h0, oX8 b v6), (b 0, .inl (cB, 900, .inl f5))] := hD
  refine lv_iinc (v := 16) (lv' := [(2, .int 16), (0, .ref h0), (1, .int p0)]) hx hb dX8_put_40 hl (k := 0) rfl (by decide) (by decide) rfl (fun ls hl => ?_)
  refine lv_goto (tgt := 3) hx hb dX8_put_43 (by decide) ?_
  refine lv_iload_n hx hb dX8_put_3 rfl (lv_at hl 0 rfl) ?_
  refine lv_if_lt (tgt := 46) hx hb dX8_put_4 (by decide) (fun c7 => absurd c7 (by decide)) (fun c7 => ?_)
  refine lv_aload_n hx hb dX8_put_7 rfl (lv_at hl 1 rfl) ?_
  refine va_get (D := G) (ci := 8) (v := .int v6) (C := RX8) (T := TX8) (N := 2) hx hb hts iG_X8 hown hK hP 0 rfl rfl 1 (by decide) (hts _ w_42) (fun _ h9 => h9) rfl dX8_put_8 ?_
  refine lv_sipush (v := 900) hx hb dX8_put_11 (by decide) ?_
  refine lv_icmp_ge (tgt := 46) hx hb dX8_put_14 (by decide) (fun c8 => absurd (i_le ki_900 tv6 c8) (by omega)) (fun c8 => ?_)
  have c8 := i_nle ki_900 tv6 c8
  refine lv_aload_n hx hb dX8_put_17 rfl (lv_at hl 1 rfl) ?_
  refine va_get (D := G) (ci := 8) (v := .ref (b 0)) (C := RX8) (T := TX8) (N := 2) hx hb hts iG_X8 hown hK hP 0 rfl rfl 0 (by decide) (hts _ w_40) (fun _ h9 => h9) rfl dX8_put_18 ?_
  refine lv_aload_n hx hb dX8_put_21 rfl (lv_at hl 1 rfl) ?_
  refine va_get (D := G) (ci := 8) (v := .int v6) (C := RX8) (T := TX8) (N := 2) hx hb hts iG_X8 hown hK hP 0 rfl rfl 1 (by decide) (hts _ w_42) (fun _ h9 => h9) rfl dX8_put_22 ?_
  refine lv_iload_n hx hb dX8_put_25 rfl (lv_at hl 2 rfl) ?_
  refine lv_iload_n hx hb dX8_put_26 rfl (lv_at hl 0 rfl) ?_
  refine lv_ishr hx hb dX8_put_27 ?_
  refine lv_topi (fun v9 ev9 => ?_)
  refine lv_i2b hx hb dX8_put_28 rfl ?_
  refine lv_topi (fun v10 ev10 => ?_)
  refine va_bast hx hb hK hP hD hS 1 3 rfl rfl (ix_in tv6 (by omega) (by omega)) dX8_put_29 (fun H locs hP hD hS => ?_)
  generalize upd f5 v6.toNatClampNeg (vp_nar .byte v10) = f11 at hP hD
  have hP : va_P G vwCl [(h0, oX8 b v6), (b 0, .inl (cB, 900, .inl f11))] H := hP
  have hD : va_D A [(h0, oX8 b v6), (b 0, .inl (cB, 900, .inl f11))] := hD
  refine lv_aload_n hx hb dX8_put_30 rfl (lv_at hl 1 rfl) ?_
  refine lv_dup hx hb dX8_put_31 rfl ?_
  refine va_get (D := G) (ci := 8) (v := .int v6) (C := RX8) (T := TX8) (N := 2) hx hb hts iG_X8 hown hK hP 0 rfl rfl 1 (by decide) (hts _ w_42) (fun _ h9 => h9) rfl dX8_put_32 ?_
  refine lv_iconst (v := 1) hx hb dX8_put_35 (by decide) ?_
  refine lv_iadd hx hb dX8_put_36 ?_
  refine lv_topi (fun v12 ev12 => ?_)
  have tv12 : v12.toInt = n0 + 1 + 1 := ti_add tv6 ki_1 ev12 (by omega) (by omega)
  refine va_put (D := G) (ci := 8) (v := .int v12) (ty := .int) (C := RX8) (T := TX8) (N := 2) hx hb hts iG_X8 tyX8 tyX8_ok nmX8 hown hK hP hD hS 0 rfl rfl 1 (by decide) (hts _ w_42) (fun _ h9 => h9) rfl (by decide +kernel) rfl rfl (Nat.le_of_ble_eq_true rfl) dX8_put_37 (fun H locs hP hD hS => ?_)
  have hP : va_P G vwCl [(h0, oX8 b v12), (b 0, .inl (cB, 900, .inl f11))] H := hP
  have hD : va_D A [(h0, oX8 b v12), (b 0, .inl (cB, 900, .inl f11))] := hD
  refine lv_iinc (v := 8) (lv' := [(2, .int 8), (0, .ref h0), (1, .int p0)]) hx hb dX8_put_40 hl (k := 0) rfl (by decide) (by decide) rfl (fun ls hl => ?_)
  refine lv_goto (tgt := 3) hx hb dX8_put_43 (by decide) ?_
  refine lv_iload_n hx hb dX8_put_3 rfl (lv_at hl 0 rfl) ?_
  refine lv_if_lt (tgt := 46) hx hb dX8_put_4 (by decide) (fun c13 => absurd c13 (by decide)) (fun c13 => ?_)
  refine lv_aload_n hx hb dX8_put_7 rfl (lv_at hl 1 rfl) ?_
  refine va_get (D := G) (ci := 8) (v := .int v12) (C := RX8) (T := TX8) (N := 2) hx hb hts iG_X8 hown hK hP 0 rfl rfl 1 (by decide) (hts _ w_42) (fun _ h9 => h9) rfl dX8_put_8 ?_
  refine lv_sipush (v := 900) hx hb dX8_put_11 (by decide) ?_
  refine lv_icmp_ge (tgt := 46) hx hb dX8_put_14 (by decide) (fun c14 => absurd (i_le ki_900 tv12 c14) (by omega)) (fun c14 => ?_)
  have c14 := i_nle ki_900 tv12 c14
  refine lv_aload_n hx hb dX8_put_17 rfl (lv_at hl 1 rfl) ?_
  refine va_get (D := G) (ci := 8) (v := .ref (b 0)) (C := RX8) (T := TX8) (N := 2) hx hb hts iG_X8 hown hK hP 0 rfl rfl 0 (by decide) (hts _ w_40) (fun _ h9 => h9) rfl dX8_put_18 ?_
  refine lv_aload_n hx hb dX8_put_21 rfl (lv_at hl 1 rfl) ?_
  refine va_get (D := G) (ci := 8) (v := .int v12) (C := RX8) (T := TX8) (N := 2) hx hb hts iG_X8 hown hK hP 0 rfl rfl 1 (by decide) (hts _ w_42) (fun _ h9 => h9) rfl dX8_put_22 ?_
  refine lv_iload_n hx hb dX8_put_25 rfl (lv_at hl 2 rfl) ?_
  refine lv_iload_n hx hb dX8_put_26 rfl (lv_at hl 0 rfl) ?_
  refine lv_ishr hx hb dX8_put_27 ?_
  refine lv_topi (fun v15 ev15 => ?_)
  refine lv_i2b hx hb dX8_put_28 rfl ?_
  refine lv_topi (fun v16 ev16 => ?_)
  refine va_bast hx hb hK hP hD hS 1 3 rfl rfl (ix_in tv12 (by omega) (by omega)) dX8_put_29 (fun H locs hP hD hS => ?_)
  generalize upd f11 v12.toNatClampNeg (vp_nar .byte v16) = f17 at hP hD
  have hP : va_P G vwCl [(h0, oX8 b v12), (b 0, .inl (cB, 900, .inl f17))] H := hP
  have hD : va_D A [(h0, oX8 b v12), (b 0, .inl (cB, 900, .inl f17))] := hD
  refine lv_aload_n hx hb dX8_put_30 rfl (lv_at hl 1 rfl) ?_
  refine lv_dup hx hb dX8_put_31 rfl ?_
  refine va_get (D := G) (ci := 8) (v := .int v12) (C := RX8) (T := TX8) (N := 2) hx hb hts iG_X8 hown hK hP 0 rfl rfl 1 (by decide) (hts _ w_42) (fun _ h9 => h9) rfl dX8_put_32 ?_
  refine lv_iconst (v := 1) hx hb dX8_put_35 (by decide) ?_
  refine lv_iadd hx hb dX8_put_36 ?_
  refine lv_topi (fun v18 ev18 => ?_)
  have tv18 : v18.toInt = n0 + 1 + 1 + 1 := ti_add tv12 ki_1 ev18 (by omega) (by omega)
  refine va_put (D := G) (ci := 8) (v := .int v18) (ty := .int) (C := RX8) (T := TX8) (N := 2) hx hb hts iG_X8 tyX8 tyX8_ok nmX8 hown hK hP hD hS 0 rfl rfl 1 (by decide) (hts _ w_42) (fun _ h9 => h9) rfl (by decide +kernel) rfl rfl (Nat.le_of_ble_eq_true rfl) dX8_put_37 (fun H locs hP hD hS => ?_)
  have hP : va_P G vwCl [(h0, oX8 b v18), (b 0, .inl (cB, 900, .inl f17))] H := hP
  have hD : va_D A [(h0, oX8 b v18), (b 0, .inl (cB, 900, .inl f17))] := hD
  refine lv_iinc (v := 0) (lv' := [(2, .int 0), (0, .ref h0), (1, .int p0)]) hx hb dX8_put_40 hl (k := 0) rfl (by decide) (by decide) rfl (fun ls hl => ?_)
  refine lv_goto (tgt := 3) hx hb dX8_put_43 (by decide) ?_
  refine lv_iload_n hx hb dX8_put_3 rfl (lv_at hl 0 rfl) ?_
  refine lv_if_lt (tgt := 46) hx hb dX8_put_4 (by decide) (fun c19 => absurd c19 (by decide)) (fun c19 => ?_)
  refine lv_aload_n hx hb dX8_put_7 rfl (lv_at hl 1 rfl) ?_
  refine va_get (D := G) (ci := 8) (v := .int v18) (C := RX8) (T := TX8) (N := 2) hx hb hts iG_X8 hown hK hP 0 rfl rfl 1 (by decide) (hts _ w_42) (fun _ h9 => h9) rfl dX8_put_8 ?_
  refine lv_sipush (v := 900) hx hb dX8_put_11 (by decide) ?_
  refine lv_icmp_ge (tgt := 46) hx hb dX8_put_14 (by decide) (fun c20 => absurd (i_le ki_900 tv18 c20) (by omega)) (fun c20 => ?_)
  have c20 := i_nle ki_900 tv18 c20
  refine lv_aload_n hx hb dX8_put_17 rfl (lv_at hl 1 rfl) ?_
  refine va_get (D := G) (ci := 8) (v := .ref (b 0)) (C := RX8) (T := TX8) (N := 2) hx hb hts iG_X8 hown hK hP 0 rfl rfl 0 (by decide) (hts _ w_40) (fun _ h9 => h9) rfl dX8_put_18 ?_
  refine lv_aload_n hx hb dX8_put_21 rfl (lv_at hl 1 rfl) ?_
  refine va_get (D := G) (ci := 8) (v := .int v18) (C := RX8) (T := TX8) (N := 2) hx hb hts iG_X8 hown hK hP 0 rfl rfl 1 (by decide) (hts _ w_42) (fun _ h9 => h9) rfl dX8_put_22 ?_
  refine lv_iload_n hx hb dX8_put_25 rfl (lv_at hl 2 rfl) ?_
  refine lv_iload_n hx hb dX8_put_26 rfl (lv_at hl 0 rfl) ?_
  refine lv_ishr hx hb dX8_put_27 ?_
  refine lv_topi (fun v21 ev21 => ?_)
  refine lv_i2b hx hb dX8_put_28 rfl ?_
  refine lv_topi (fun v22 ev22 => ?_)
  refine va_bast hx hb hK hP hD hS 1 3 rfl rfl (ix_in tv18 (by omega) (by omega)) dX8_put_29 (fun H locs hP hD hS => ?_)
  generalize upd f17 v18.toNatClampNeg (vp_nar .byte v22) = f23 at hP hD
  have hP : va_P G vwCl [(h0, oX8 b v18), (b 0, .inl (cB, 900, .inl f23))] H := hP
  have hD : va_D A [(h0, oX8 b v18), (b 0, .inl (cB, 900, .inl f23))] := hD
  refine lv_aload_n hx hb dX8_put_30 rfl (lv_at hl 1 rfl) ?_
  refine lv_dup hx hb dX8_put_31 rfl ?_
  refine va_get (D := G) (ci := 8) (v := .int v18) (C := RX8) (T := TX8) (N := 2) hx hb hts iG_X8 hown hK hP 0 rfl rfl 1 (by decide) (hts _ w_42) (fun _ h9 => h9) rfl dX8_put_32 ?_
  refine lv_iconst (v := 1) hx hb dX8_put_35 (by decide) ?_
  refine lv_iadd hx hb dX8_put_36 ?_
  refine lv_topi (fun v24 ev24 => ?_)
  have tv24 : v24.toInt = n0 + 1 + 1 + 1 + 1 := ti_add tv18 ki_1 ev24 (by omega) (by omega)
  refine va_put (D := G) (ci := 8) (v := .int v24) (ty := .int) (C := RX8) (T := TX8) (N := 2) hx hb hts iG_X8 tyX8 tyX8_ok nmX8 hown hK hP hD hS 0 rfl rfl 1 (by decide) (hts _ w_42) (fun _ h9 => h9) rfl (by decide +kernel) rfl rfl (Nat.le_of_ble_eq_true rfl) dX8_put_37 (fun H locs hP hD hS => ?_)
  have hP : va_P G vwCl [(h0, oX8 b v24), (b 0, .inl (cB, 900, .inl f23))] H := hP
  have hD : va_D A [(h0, oX8 b v24), (b 0, .inl (cB, 900, .inl f23))] := hD
  refine lv_iinc (v := (-8)) (lv' := [(2, .int (-8)), (0, .ref h0), (1, .int p0)]) hx hb dX8_put_40 hl (k := 0) rfl (by decide) (by decide) rfl (fun ls hl => ?_)
  refine lv_goto (tgt := 3) hx hb dX8_put_43 (by decide) ?_
  refine lv_iload_n hx hb dX8_put_3 rfl (lv_at hl 0 rfl) ?_
  refine lv_if_lt (tgt := 46) hx hb dX8_put_4 (by decide) (fun c25 => ?_) (fun c25 => absurd (by decide) c25)
  exact hret _ _ _ _ (v24, f23) hP hD hS dX8_put_46 (by dsimp only; omega)
set_option maxHeartbeats 4000000 in
set_option maxRecDepth 100000 in
theorem f_X4_isBlank (l : Launch) (G : va_G) (cI cJ cZ cB cQ : ClassId) (sz : Nat) : CI l yX4_isBlank (wl_ yX4_isBlank cX4_isBlank 1 (some .boolean)) ({ frames := 0, cells := 0, slots := 0, locals := 0 } : Room) G (TY cI cJ cZ cB cQ) [.int (-1)] [] sz (fun (r : Int32) (u : Unit) => r = 0) (fun _ : Unit => []) 0 0 := by
  refine CI.goz (cc := cX4_isBlank) (maxL := 1) (ret := (some .boolean)) (by decide) rfl (Nat.le_of_ble_eq_true rfl) ?_
  intro p e s m below meth c A ls Q hBd hret
  obtain ⟨hx, hb, hr, hml, hts, hown, hlk, hnm, hP, hK, hD, hA, hZ, hl⟩ := hBd
  have hown : s.vm.findClass RX4 = some m.cls := hown
  have hl : lv_has ls 1 [(0, .int (-1))] := hl
  have hS : va_S A s.heap s.heap [] := va_S.rf
  refine lv_iload_n hx hb dX4_isBlank_0 rfl (lv_at hl 0 rfl) ?_
  refine lv_bipush (v := 32) hx hb dX4_isBlank_1 (by decide) ?_
  refine lv_icmp_eq (tgt := 12) hx hb dX4_isBlank_3 (by decide) (fun c1 => absurd c1 (by decide)) (fun c1 => ?_)
  refine lv_iload_n hx hb dX4_isBlank_6 rfl (lv_at hl 0 rfl) ?_
  refine lv_bipush (v := 10) hx hb dX4_isBlank_7 (by decide) ?_
  refine lv_icmp_ne (tgt := 16) hx hb dX4_isBlank_9 (by decide) (fun c2 => ?_) (fun c2 => absurd c2 (by decide))
  refine lv_iconst (v := 0) hx hb dX4_isBlank_16 (by decide) ?_
  exact hret _ _ _ _ 0 () hP hD hS dX4_isBlank_17 rfl rfl
set_option maxHeartbeats 4000000 in
set_option maxRecDepth 100000 in
theorem f_X4_next (l : Launch) (G : va_G) (cI cJ cZ cB cQ : ClassId) (sz : Nat) (h0 : Nat) (b : Nat → Nat) (bt : Nat → Nat) : CV l yX4_next (wl_ yX4_next cX4_next 2 none) ({ frames := 1, cells := 0, slots := 0, locals := 21 } : Room) G (TY cI cJ cZ cB cQ) [.ref h0] [(h0, oX4 b 0 (-1) 0 0 0), (b 2, oX8 bt 0)] sz (fun (u : Unit) => True) (fun _ : Unit => [(h0, oX4 b 0 (-1) 0 0 1), (b 2, oX8 bt 0)]) 0 0 := by
  refine CV.go (cc := cX4_next) (maxL := 2) (ret := none) (by decide) rfl (Nat.le_of_ble_eq_true rfl) ?_
  intro p e s m below meth c A ls Q hBd hret
  obtain ⟨hx, hb, hr, hml, hts, hown, hlk, hnm, hP, hK, hD, hA, hZ, hl⟩ := hBd
  have hown : s.vm.findClass RX4 = some m.cls := hown
  have hl : lv_has ls 2 [(0, .ref h0)] := hl
  have hS : va_S A s.heap s.heap [] := va_S.rf
  refine lv_aload_n hx hb dX4_next_0 rfl (lv_at hl 0 rfl) ?_
  refine lv_aload_n hx hb dX4_next_1 rfl (lv_at hl 0 rfl) ?_
  refine va_get (D := G) (ci := 4) (v := .int 0) (C := RX4) (T := TX4) (N := 7) hx hb hts iG_X4 hown hK hP 0 rfl rfl 6 (by decide) (hts _ w_173) (fun _ h9 => h9) rfl dX4_next_2 ?_
  refine va_put (D := G) (ci := 4) (v := .int 0) (ty := .int) (C := RX4) (T := TX4) (N := 7) hx hb hts iG_X4 tyX4 tyX4_ok nmX4 hown hK hP hD hS 0 rfl rfl 5 (by decide) (hts _ w_172) (fun _ h9 => h9) rfl (by decide +kernel) rfl rfl (Nat.le_of_ble_eq_true rfl) dX4_next_5 (fun H locs hP hD hS => ?_)
  have hP : va_P G vwCl [(h0, oX4 b 0 (-1) 0 0 0), (b 2, oX8 bt 0)] H := hP
  have hD : va_D A [(h0, oX4 b 0 (-1) 0 0 0), (b 2, oX8 bt 0)] := hD
  refine lv_aload_n hx hb dX4_next_8 rfl (lv_at hl 0 rfl) ?_
  refine va_get (D := G) (ci := 4) (v := .int 0) (C := RX4) (T := TX4) (N := 7) hx hb hts iG_X4 hown hK hP 0 rfl rfl 5 (by decide) (hts _ w_172) (fun _ h9 => h9) rfl dX4_next_9 ?_
  refine lv_sipush (v := 900) hx hb dX4_next_12 (by decide) ?_
  refine lv_icmp_ge (tgt := 48) hx hb dX4_next_15 (by decide) (fun c1 => absurd c1 (by decide)) (fun c1 => ?_)
  refine lv_aload_n hx hb dX4_next_18 rfl (lv_at hl 0 rfl) ?_
  refine va_get (D := G) (ci := 4) (v := .ref (b 2)) (C := RX4) (T := TX4) (N := 7) hx hb hts iG_X4 hown hK hP 0 rfl rfl 2 (by decide) (hts _ w_167) (fun _ h9 => h9) rfl dX4_next_19 ?_
  refine lv_aload_n hx hb dX4_next_22 rfl (lv_at hl 0 rfl) ?_
  refine va_get (D := G) (ci := 4) (v := .int 0) (C := RX4) (T := TX4) (N := 7) hx hb hts iG_X4 hown hK hP 0 rfl rfl 5 (by decide) (hts _ w_172) (fun _ h9 => h9) rfl dX4_next_23 ?_
  refine k_i (wc := [(b 2, oX8 bt 0)]) (wr := [(h0, oX4 b 0 (-1) 0 0 0)]) hP hD hS hA [1] [0] rfl rfl rfl (by decide) (va_runVN (As := [.int 0]) (rest := []) ⟨hx, hb, hml, hown, hts⟩ (f_X8_byteAt l G cI cJ cZ cB cQ _ (b 2) bt 0) ⟨va_cnB (host := "WidowRoads") 1 hts (gW w_416) rfl rfl rfl (nz_nw hZ nw_413 rfl) (hts _ w_3) hd_X8_byteAt ⟨Nat.le_of_ble_eq_true rfl, Nat.le_of_ble_eq_true rfl⟩, (hts _ w_415), (hts _ wp_4)⟩ (mV hK hZ hP hD [1] rfl rfl [.int 0] 1 8 rfl rfl) rfl rfl hl.1 rfl (lv_room (Nat.le_of_ble_eq_true rfl)) dX4_next_26 ⟨Nat.le_of_ble_eq_true rfl, Nat.le_of_ble_eq_true rfl⟩) (fun r2 u3 H locs hw4 hP hD hS => ?_)
  try dsimp only at hw4
  have hP : va_P G vwCl [(h0, oX4 b 0 (-1) 0 0 0), (b 2, oX8 bt 0)] H := hP
  have hD : va_D A [(h0, oX4 b 0 (-1) 0 0 0), (b 2, oX8 bt 0)] := hD
  obtain rfl : r2 = (-1) := hw4
  refine k_i (wc := []) (wr := [(h0, oX4 b 0 (-1) 0 0 0), (b 2, oX8 bt 0)]) hP hD hS hA [] [0, 1] rfl rfl rfl (by decide) (va_runS (As := [.int (-1)]) (rest := []) ⟨hx, hb, hml, hown, hts⟩ (f_X4_isBlank l G cI cJ cZ cB cQ _ ) (va_cwS 1 hts (gS w_417 w_418 w_2 w_419) rfl rfl rfl hd_X4_isBlank ⟨Nat.le_of_ble_eq_true rfl, Nat.le_of_ble_eq_true rfl⟩) (mS hK hZ hP hD [] rfl rfl [.int (-1)]) rfl rfl hl.1 rfl (lv_room (Nat.le_of_ble_eq_true rfl)) dX4_next_29 ⟨Nat.le_of_ble_eq_true rfl, Nat.le_of_ble_eq_true rfl⟩) (fun r5 u6 H locs hw7 hP hD hS => ?_)
  try dsimp only at hw7
  have hP : va_P G vwCl [(h0, oX4 b 0 (-1) 0 0 0), (b 2, oX8 bt 0)] H := hP
  have hD : va_D A [(h0, oX4 b 0 (-1) 0 0 0), (b 2, oX8 bt 0)] := hD
  obtain rfl : r5 = 0 := hw7
  refine lv_if_eq (tgt := 48) hx hb dX4_next_32 (by decide) (fun c8 => ?_) (fun c8 => absurd (by decide) c8)
  refine lv_aload_n hx hb dX4_next_48 rfl (lv_at hl 0 rfl) ?_
  refine va_get (D := G) (ci := 4) (v := .ref (b 2)) (C := RX4) (T := TX4) (N := 7) hx hb hts iG_X4 hown hK hP 0 rfl rfl 2 (by decide) (hts _ w_167) (fun _ h9 => h9) rfl dX4_next_49 ?_
  refine lv_aload_n hx hb dX4_next_52 rfl (lv_at hl 0 rfl) ?_
  refine va_get (D := G) (ci := 4) (v := .int 0) (C := RX4) (T := TX4) (N := 7) hx hb hts iG_X4 hown hK hP 0 rfl rfl 5 (by decide) (hts _ w_172) (fun _ h9 => h9) rfl dX4_next_53 ?_
  refine k_i (wc := [(b 2, oX8 bt 0)]) (wr := [(h0, oX4 b 0 (-1) 0 0 0)]) hP hD hS hA [1] [0] rfl rfl rfl (by decide) (va_runVN (As := [.int 0]) (rest := []) ⟨hx, hb, hml, hown, hts⟩ (f_X8_byteAt l G cI cJ cZ cB cQ _ (b 2) bt 0) ⟨va_cnB (host := "WidowRoads") 1 hts (gW w_416) rfl rfl rfl (nz_nw hZ nw_413 rfl) (hts _ w_3) hd_X8_byteAt ⟨Nat.le_of_ble_eq_true rfl, Nat.le_of_ble_eq_true rfl⟩, (hts _ w_415), (hts _ wp_4)⟩ (mV hK hZ hP hD [1] rfl rfl [.int 0] 1 8 rfl rfl) rfl rfl hl.1 rfl (lv_room (Nat.le_of_ble_eq_true rfl)) dX4_next_56 ⟨Nat.le_of_ble_eq_true rfl, Nat.le_of_ble_eq_true rfl⟩) (fun r9 u10 H locs hw11 hP hD hS => ?_)
  try dsimp only at hw11
  have hP : va_P G vwCl [(h0, oX4 b 0 (-1) 0 0 0), (b 2, oX8 bt 0)] H := hP
  have hD : va_D A [(h0, oX4 b 0 (-1) 0 0 0), (b 2, oX8 bt 0)] := hD
  obtain rfl : r9 = (-1) := hw11
  refine lv_istore_n (lv' := [(1, .int (-1)), (0, .ref h0)]) hx hb dX4_next_59 rfl hl (by decide) rfl (fun ls hl => ?_)
  refine lv_aload_n hx hb dX4_next_60 rfl (lv_at hl 1 rfl) ?_
  refine lv_aload_n hx hb dX4_next_61 rfl (lv_at hl 1 rfl) ?_
  refine va_get (D := G) (ci := 4) (v := .int 0) (C := RX4) (T := TX4) (N := 7) hx hb hts iG_X4 hown hK hP 0 rfl rfl 5 (by decide) (hts _ w_172) (fun _ h9 => h9) rfl dX4_next_62 ?_
  refine lv_iconst (v := 1) hx hb dX4_next_65 (by decide) ?_
  refine lv_iadd hx hb dX4_next_66 ?_
  refine lv_topi (fun v12 ev12 => ?_)
  obtain rfl : v12 = 1 := ev12.trans (by decide)
  refine va_put (D := G) (ci := 4) (v := .int 1) (ty := .int) (C := RX4) (T := TX4) (N := 7) hx hb hts iG_X4 tyX4 tyX4_ok nmX4 hown hK hP hD hS 0 rfl rfl 6 (by decide) (hts _ w_173) (fun _ h9 => h9) rfl (by decide +kernel) rfl rfl (Nat.le_of_ble_eq_true rfl) dX4_next_67 (fun H locs hP hD hS => ?_)
  have hP : va_P G vwCl [(h0, oX4 b 0 (-1) 0 0 1), (b 2, oX8 bt 0)] H := hP
  have hD : va_D A [(h0, oX4 b 0 (-1) 0 0 1), (b 2, oX8 bt 0)] := hD
  refine lv_iload_n hx hb dX4_next_70 rfl (lv_at hl 0 rfl) ?_
  refine lv_iconst (v := (-1)) hx hb dX4_next_71 (by decide) ?_
  refine lv_icmp_ne (tgt := 83) hx hb dX4_next_72 (by decide) (fun c13 => absurd (by decide) c13) (fun c13 => ?_)
  refine lv_aload_n hx hb dX4_next_75 rfl (lv_at hl 1 rfl) ?_
  refine lv_iconst (v := 0) hx hb dX4_next_76 (by decide) ?_
  refine va_put (D := G) (ci := 4) (v := .int 0) (ty := .int) (C := RX4) (T := TX4) (N := 7) hx hb hts iG_X4 tyX4 tyX4_ok nmX4 hown hK hP hD hS 0 rfl rfl 4 (by decide) (hts _ w_171) (fun _ h9 => h9) rfl (by decide +kernel) rfl rfl (Nat.le_of_ble_eq_true rfl) dX4_next_77 (fun H locs hP hD hS => ?_)
  have hP : va_P G vwCl [(h0, oX4 b 0 (-1) 0 0 1), (b 2, oX8 bt 0)] H := hP
  have hD : va_D A [(h0, oX4 b 0 (-1) 0 0 1), (b 2, oX8 bt 0)] := hD
  refine lv_goto (tgt := 202) hx hb dX4_next_80 (by decide) ?_
  exact hret _ _ _ _ () hP hD hS dX4_next_202 trivial
set_option maxHeartbeats 4000000 in
set_option maxRecDepth 100000 in
theorem f_X4_read (l : Launch) (G : va_G) (cI cJ cZ cB cQ : ClassId) (sz : Nat) (h0 : Nat) (b : Nat → Nat) (bt : Nat → Nat) (bi : Nat → Nat) : CV l yX4_read (wl_ yX4_read cX4_read 2 none) ({ frames := 2, cells := 0, slots := 0, locals := 42 } : Room) G (TY cI cJ cZ cB cQ) [.ref h0] [(h0, oX4 b 0 (-1) 0 0 0), (b 2, oX8 bt 0), (b 3, oX0 bi 0 0 0 0 0 0 0 0 0 0)] sz (fun (u : Unit) => True) (fun _ : Unit => [(h0, oX4 b 0 (-1) 0 0 1), (b 2, oX8 bt 0), (b 3, oX0 bi 0 0 0 0 0 0 0 0 0 0)]) 0 0 := by
  refine CV.go (cc := cX4_read) (maxL := 2) (ret := none) (by decide) rfl (Nat.le_of_ble_eq_true rfl) ?_
  intro p e s m below meth c A ls Q hBd hret
  obtain ⟨hx, hb, hr, hml, hts, hown, hlk, hnm, hP, hK, hD, hA, hZ, hl⟩ := hBd
  have hown : s.vm.findClass RX4 = some m.cls := hown
  have hl : lv_has ls 2 [(0, .ref h0)] := hl
  have hS : va_S A s.heap s.heap [] := va_S.rf
  refine lv_aload_n hx hb dX4_read_0 rfl (lv_at hl 0 rfl) ?_
  refine va_get (D := G) (ci := 4) (v := .ref (b 3)) (C := RX4) (T := TX4) (N := 7) hx hb hts iG_X4 hown hK hP 0 rfl rfl 3 (by decide) (hts _ w_169) (fun _ h9 => h9) rfl dX4_read_1 ?_
  refine k_v (wc := [(b 3, oX0 bi 0 0 0 0 0 0 0 0 0 0)]) (wr := [(h0, oX4 b 0 (-1) 0 0 0), (b 2, oX8 bt 0)]) hP hD hS hA [2] [0, 1] rfl rfl rfl (by decide) (va_runVN (As := []) (rest := []) ⟨hx, hb, hml, hown, hts⟩ (f_X0_clear l G cI cJ cZ cB cQ _ (b 3) bi) ⟨va_cnB (host := "WidowRoads") 0 hts (gW w_408) rfl rfl rfl (nz_nw hZ nw_405 rfl) (hts _ w_4) hd_X0_clear ⟨Nat.le_of_ble_eq_true rfl, Nat.le_of_ble_eq_true rfl⟩, (hts _ w_407), (hts _ wp_2)⟩ (mV hK hZ hP hD [2] rfl rfl [] 2 0 rfl rfl) rfl rfl hl.1 rfl (lv_room (Nat.le_of_ble_eq_true rfl)) dX4_read_4 ⟨Nat.le_of_ble_eq_true rfl, Nat.le_of_ble_eq_true rfl⟩) (fun u2 H locs hw3 hP hD hS => ?_)
  have hP : va_P G vwCl [(h0, oX4 b 0 (-1) 0 0 0), (b 2, oX8 bt 0), (b 3, oX0 bi 0 0 0 0 0 0 0 0 0 0)] H := hP
  have hD : va_D A [(h0, oX4 b 0 (-1) 0 0 0), (b 2, oX8 bt 0), (b 3, oX0 bi 0 0 0 0 0 0 0 0 0 0)] := hD
  refine lv_aload_n hx hb dX4_read_7 rfl (lv_at hl 0 rfl) ?_
  refine lv_iconst (v := 0) hx hb dX4_read_8 (by decide) ?_
  refine va_put (D := G) (ci := 4) (v := .int 0) (ty := .int) (C := RX4) (T := TX4) (N := 7) hx hb hts iG_X4 tyX4 tyX4_ok nmX4 hown hK hP hD hS 0 rfl rfl 0 (by decide) (hts _ w_163) (fun _ h9 => h9) rfl (by decide +kernel) rfl rfl (Nat.le_of_ble_eq_true rfl) dX4_read_9 (fun H locs hP hD hS => ?_)
  have hP : va_P G vwCl [(h0, oX4 b 0 (-1) 0 0 0), (b 2, oX8 bt 0), (b 3, oX0 bi 0 0 0 0 0 0 0 0 0 0)] H := hP
  have hD : va_D A [(h0, oX4 b 0 (-1) 0 0 0), (b 2, oX8 bt 0), (b 3, oX0 bi 0 0 0 0 0 0 0 0 0 0)] := hD
  refine lv_aload_n hx hb dX4_read_12 rfl (lv_at hl 0 rfl) ?_
  refine lv_iconst (v := (-1)) hx hb dX4_read_13 (by decide) ?_
  refine va_put (D := G) (ci := 4) (v := .int (-1)) (ty := .int) (C := RX4) (T := TX4) (N := 7) hx hb hts iG_X4 tyX4 tyX4_ok nmX4 hown hK hP hD hS 0 rfl rfl 1 (by decide) (hts _ w_165) (fun _ h9 => h9) rfl (by decide +kernel) rfl rfl (Nat.le_of_ble_eq_true rfl) dX4_read_14 (fun H locs hP hD hS => ?_)
  have hP : va_P G vwCl [(h0, oX4 b 0 (-1) 0 0 0), (b 2, oX8 bt 0), (b 3, oX0 bi 0 0 0 0 0 0 0 0 0 0)] H := hP
  have hD : va_D A [(h0, oX4 b 0 (-1) 0 0 0), (b 2, oX8 bt 0), (b 3, oX0 bi 0 0 0 0 0 0 0 0 0 0)] := hD
  refine lv_aload_n hx hb dX4_read_17 rfl (lv_at hl 0 rfl) ?_
  refine lv_iconst (v := 0) hx hb dX4_read_18 (by decide) ?_
  refine va_put (D := G) (ci := 4) (v := .int 0) (ty := .int) (C := RX4) (T := TX4) (N := 7) hx hb hts iG_X4 tyX4 tyX4_ok nmX4 hown hK hP hD hS 0 rfl rfl 6 (by decide) (hts _ w_173) (fun _ h9 => h9) rfl (by decide +kernel) rfl rfl (Nat.le_of_ble_eq_true rfl) dX4_read_19 (fun H locs hP hD hS => ?_)
  have hP : va_P G vwCl [(h0, oX4 b 0 (-1) 0 0 0), (b 2, oX8 bt 0), (b 3, oX0 bi 0 0 0 0 0 0 0 0 0 0)] H := hP
  have hD : va_D A [(h0, oX4 b 0 (-1) 0 0 0), (b 2, oX8 bt 0), (b 3, oX0 bi 0 0 0 0 0 0 0 0 0 0)] := hD
  refine lv_aload_n hx hb dX4_read_22 rfl (lv_at hl 0 rfl) ?_
  refine k_v (wc := [(h0, oX4 b 0 (-1) 0 0 0), (b 2, oX8 bt 0)]) (wr := [(b 3, oX0 bi 0 0 0 0 0 0 0 0 0 0)]) hP hD hS hA [0, 1] [2] rfl rfl rfl (by decide) (va_runV (As := []) (rest := []) ⟨hx, hb, hml, hown, hts⟩ (f_X4_next l G cI cJ cZ cB cQ _ h0 b bt) (cwV 0 hts (gV w_409 w_411 wp_3 w_2 w_412) rfl rfl rfl ⟨rfl, hd_X4_next⟩ ⟨Nat.le_of_ble_eq_true rfl, Nat.le_of_ble_eq_true rfl⟩) (mV hK hZ hP hD [0, 1] rfl rfl [] 0 4 rfl rfl) rfl rfl hl.1 rfl (lv_room (Nat.le_of_ble_eq_true rfl)) dX4_read_23 ⟨Nat.le_of_ble_eq_true rfl, Nat.le_of_ble_eq_true rfl⟩) (fun u5 H locs hw6 hP hD hS => ?_)
  have hP : va_P G vwCl [(b 3, oX0 bi 0 0 0 0 0 0 0 0 0 0), (h0, oX4 b 0 (-1) 0 0 1), (b 2, oX8 bt 0)] H := hP
  have hD : va_D A [(b 3, oX0 bi 0 0 0 0 0 0 0 0 0 0), (h0, oX4 b 0 (-1) 0 0 1), (b 2, oX8 bt 0)] := hD
  refine lv_iconst (v := 0) hx hb dX4_read_26 (by decide) ?_
  refine lv_istore_n (lv' := [(1, .int 0), (0, .ref h0)]) hx hb dX4_read_27 rfl hl (by decide) rfl (fun ls hl => ?_)
  refine lv_iload_n hx hb dX4_read_28 rfl (lv_at hl 0 rfl) ?_
  refine lv_sipush (v := 900) hx hb dX4_read_29 (by decide) ?_
  refine lv_icmp_gt (tgt := 133) hx hb dX4_read_32 (by decide) (fun c7 => absurd c7 (by decide)) (fun c7 => ?_)
  refine lv_aload_n hx hb dX4_read_35 rfl (lv_at hl 1 rfl) ?_
  refine va_get (D := G) (ci := 4) (v := .int 0) (C := RX4) (T := TX4) (N := 7) hx hb hts iG_X4 hown hK hP 1 rfl rfl 0 (by decide) (hts _ w_163) (fun _ h9 => h9) rfl dX4_read_36 ?_
  refine lv_if_ne (tgt := 133) hx hb dX4_read_39 (by decide) (fun c8 => absurd (by decide) c8) (fun c8 => ?_)
  refine lv_aload_n hx hb dX4_read_42 rfl (lv_at hl 1 rfl) ?_
  refine va_get (D := G) (ci := 4) (v := .int 0) (C := RX4) (T := TX4) (N := 7) hx hb hts iG_X4 hown hK hP 1 rfl rfl 4 (by decide) (hts _ w_171) (fun _ h9 => h9) rfl dX4_read_43 ?_
  refine lv_if_eq (tgt := 133) hx hb dX4_read_46 (by decide) (fun c9 => ?_) (fun c9 => absurd (by decide) c9)
  exact hret _ _ _ _ () (hP.sub (ws' := [(h0, oX4 b 0 (-1) 0 0 1), (b 2, oX8 bt 0), (b 3, oX0 bi 0 0 0 0 0 0 0 0 0 0)]) [1, 2, 0] rfl) (hD.sub (ws' := [(h0, oX4 b 0 (-1) 0 0 1), (b 2, oX8 bt 0), (b 3, oX0 bi 0 0 0 0 0 0 0 0 0 0)]) [1, 2, 0] rfl rfl) hS dX4_read_133 trivial
set_option maxHeartbeats 4000000 in
set_option maxRecDepth 100000 in
theorem f_X5_empty (l : Launch) (G : va_G) (cI cJ cZ cB cQ : ClassId) (sz : Nat) (h0 : Nat) (b : Nat → Nat) (p0 : Int32) (h1 : 0 ≤ p0.toInt) (h2 : p0.toInt ≤ 3) : CI l yX5_empty (wl_ yX5_empty cX5_empty 2 (some .boolean)) ({ frames := 0, cells := 0, slots := 0, locals := 0 } : Room) G (TY cI cJ cZ cB cQ) [.ref h0, .int p0] [(h0, oX5 b), (b 1, .inl (cZ, 4, .inl (fun _ => 0)))] sz (fun (r : Int32) (u : Unit) => r = 1) (fun _ : Unit => [(h0, oX5 b), (b 1, .inl (cZ, 4, .inl (fun _ => 0)))]) 0 0 := by
  refine CI.goz (cc := cX5_empty) (maxL := 2) (ret := (some .boolean)) (by decide) rfl (Nat.le_of_ble_eq_true rfl) ?_
  intro p e s m below meth c A ls Q hBd hret
  obtain ⟨hx, hb, hr, hml, hts, hown, hlk, hnm, hP, hK, hD, hA, hZ, hl⟩ := hBd
  have hown : s.vm.findClass RX5 = some m.cls := hown
  have hl : lv_has ls 2 [(0, .ref h0), (1, .int p0)] := hl
  have hS : va_S A s.heap s.heap [] := va_S.rf
  refine lv_aload_n hx hb dX5_empty_0 rfl (lv_at hl 0 rfl) ?_
  refine va_get (D := G) (ci := 5) (v := .ref (b 1)) (C := RX5) (T := TX5) (N := 4) hx hb hts iG_X5 hown hK hP 0 rfl rfl 1 (by decide) (hts _ w_323) (fun _ h9 => h9) rfl dX5_empty_1 ?_
  refine lv_iload_n hx hb dX5_empty_4 rfl (lv_at hl 1 rfl) ?_
  refine va_zald hx hb hK hP 1 2 rfl rfl (ix_in rfl (by omega) (by omega)) dX5_empty_5 ?_
  refine W.eq (g2 := F0 m 6 ls [.int 0]) rfl ?_
  refine lv_if_ne (tgt := 13) hx hb dX5_empty_6 (by decide) (fun c1 => absurd (by decide) c1) (fun c1 => ?_)
  refine lv_iconst (v := 1) hx hb dX5_empty_9 (by decide) ?_
  refine lv_goto (tgt := 14) hx hb dX5_empty_10 (by decide) ?_
  exact hret _ _ _ _ 1 () hP hD hS dX5_empty_14 rfl rfl
set_option maxHeartbeats 4000000 in
set_option maxRecDepth 100000 in
theorem f_X9_oneIf (l : Launch) (G : va_G) (cI cJ cZ cB cQ : ClassId) (sz : Nat) : CI l yX9_oneIf (wl_ yX9_oneIf cX9_oneIf 1 (some .int)) ({ frames := 0, cells := 0, slots := 0, locals := 0 } : Room) G (TY cI cJ cZ cB cQ) [.int 0] [] sz (fun (r : Int32) (u : Unit) => r = 0) (fun _ : Unit => []) 0 0 := by
  refine CI.go (cc := cX9_oneIf) (maxL := 1) (ret := (some .int)) (by decide) rfl (Nat.le_of_ble_eq_true rfl) ?_
  intro p e s m below meth c A ls Q hBd hret
  obtain ⟨hx, hb, hr, hml, hts, hown, hlk, hnm, hP, hK, hD, hA, hZ, hl⟩ := hBd
  have hown : s.vm.findClass RX9 = some m.cls := hown
  have hl : lv_has ls 1 [(0, .int 0)] := hl
  have hS : va_S A s.heap s.heap [] := va_S.rf
  refine lv_iload_n hx hb dX9_oneIf_0 rfl (lv_at hl 0 rfl) ?_
  refine lv_if_eq (tgt := 8) hx hb dX9_oneIf_1 (by decide) (fun c1 => ?_) (fun c1 => absurd (by decide) c1)
  refine lv_iconst (v := 0) hx hb dX9_oneIf_8 (by decide) ?_
  exact hret _ _ _ _ 0 () hP hD hS dX9_oneIf_9 rfl
set_option maxHeartbeats 4000000 in
set_option maxRecDepth 100000 in
theorem f_X5_many (l : Launch) (G : va_G) (cI cJ cZ cB cQ : ClassId) (sz : Nat) (h0 : Nat) (b : Nat → Nat) : CI l yX5_many (wl_ yX5_many cX5_many 3 (some .int)) ({ frames := 1, cells := 0, slots := 0, locals := 20 } : Room) G (TY cI cJ cZ cB cQ) [.ref h0] [(h0, oX5 b), (b 1, .inl (cZ, 4, .inl (fun _ => 0)))] sz (fun (r : Int32) (u : Unit) => r = 0) (fun _ : Unit => [(h0, oX5 b), (b 1, .inl (cZ, 4, .inl (fun _ => 0)))]) 0 0 := by
  refine CI.go (cc := cX5_many) (maxL := 3) (ret := (some .int)) (by decide) rfl (Nat.le_of_ble_eq_true rfl) ?_
  intro p e s m below meth c A ls Q hBd hret
  obtain ⟨hx, hb, hr, hml, hts, hown, hlk, hnm, hP, hK, hD, hA, hZ, hl⟩ := hBd
  have hown : s.vm.findClass RX5 = some m.cls := hown
  have hl : lv_has ls 3 [(0, .ref h0)] := hl
  have hS : va_S A s.heap s.heap [] := va_S.rf
  refine lv_iconst (v := 0) hx hb dX5_many_0 (by decide) ?_
  refine lv_istore_n (lv' := [(1, .int 0), (0, .ref h0)]) hx hb dX5_many_1 rfl hl (by decide) rfl (fun ls hl => ?_)
  refine lv_iconst (v := 0) hx hb dX5_many_2 (by decide) ?_
  refine lv_istore_n (lv' := [(2, .int 0), (1, .int 0), (0, .ref h0)]) hx hb dX5_many_3 rfl hl (by decide) rfl (fun ls hl => ?_)
  have lp1 : ∀ (n2 : Nat) (x3 : Int32), 0 ≤ x3.toInt → x3.toInt ≤ 4 → 4 - x3.toInt < (n2 : Int) → ∀ (H : Heap) (locs : List Loc), va_P G vwCl [(h0, oX5 b), (b 1, .inl (cZ, 4, .inl (fun _ => 0)))] H → va_D A [(h0, oX5 b), (b 1, .inl (cZ, 4, .inl (fun _ => 0)))] → va_S A s.heap H locs → ∀ (ls : Array Slot), lv_has ls 3 [(2, .int x3), (1, .int 0), (0, .ref h0)] → W p l e ({ frames := 1, cells := 0, slots := 0, locals := 20 } : Room) s m ([.ref h0] : List Value).toArray below meth c H locs 0 0 Q (F0 m 4 ls []) := by
    intro n2
    induction n2 with
    | zero =>
      intro x3 f3_0 f3_1 f3_2
      exact absurd f3_2 (by omega)
    | succ n2 ih4 =>
      intro x3 f3_0 f3_1 f3_2 H locs hP hD hS ls hl
      refine lv_iload_n hx hb dX5_many_4 rfl (lv_at hl 0 rfl) ?_
      refine lv_iconst (v := 4) hx hb dX5_many_5 (by decide) ?_
      refine lv_icmp_ge (tgt := 27) hx hb dX5_many_6 (by decide) (fun c5 => ?_) (fun c5 => ?_)
      · have c5 := i_le ki_4 rfl c5
        refine lv_iload_n hx hb dX5_many_27 rfl (lv_at hl 1 rfl) ?_
        exact hret _ _ _ _ 0 () hP hD hS dX5_many_28 rfl
      · have c5 := i_nle ki_4 rfl c5
        refine lv_iload_n hx hb dX5_many_9 rfl (lv_at hl 1 rfl) ?_
        refine lv_aload_n hx hb dX5_many_10 rfl (lv_at hl 2 rfl) ?_
        refine va_get (D := G) (ci := 5) (v := .ref (b 1)) (C := RX5) (T := TX5) (N := 4) hx hb hts iG_X5 hown hK hP 0 rfl rfl 1 (by decide) (hts _ w_323) (fun _ h9 => h9) rfl dX5_many_11 ?_
        refine lv_iload_n hx hb dX5_many_14 rfl (lv_at hl 0 rfl) ?_
        refine va_zald hx hb hK hP 1 2 rfl rfl (ix_in rfl (by omega) (by omega)) dX5_many_15 ?_
        refine W.eq (g2 := F0 m 16 ls [.int 0, .int 0]) rfl ?_
        refine k_i (wc := []) (wr := [(h0, oX5 b), (b 1, .inl (cZ, 4, .inl (fun _ => 0)))]) hP hD hS hA [] [0, 1] rfl rfl rfl (by decide) (va_runSN (As := [.int 0]) (rest := [.int 0]) ⟨hx, hb, hml, hown, hts⟩ (f_X9_oneIf l G cI cJ cZ cB cQ _ ) ⟨va_cnB (host := "WidowRoads") 1 hts (gW w_663) rfl rfl rfl (nz_nw hZ nw_1146 rfl) (hts _ w_1) hd_X9_oneIf ⟨Nat.le_of_ble_eq_true rfl, Nat.le_of_ble_eq_true rfl⟩, (hts _ w_662), trivial⟩ (mS hK hZ hP hD [] rfl rfl [.int 0]) rfl rfl hl.1 rfl (lv_room (Nat.le_of_ble_eq_true rfl)) dX5_many_16 ⟨Nat.le_of_ble_eq_true rfl, Nat.le_of_ble_eq_true rfl⟩) (fun r6 u7 H locs hw8 hP hD hS => ?_)
        try dsimp only at hw8
        have hP : va_P G vwCl [(h0, oX5 b), (b 1, .inl (cZ, 4, .inl (fun _ => 0)))] H := hP
        have hD : va_D A [(h0, oX5 b), (b 1, .inl (cZ, 4, .inl (fun _ => 0)))] := hD
        obtain rfl : r6 = 0 := hw8
        refine lv_iadd hx hb dX5_many_19 ?_
        refine lv_topi (fun v9 ev9 => ?_)
        obtain rfl : v9 = 0 := ev9.trans (by decide)
        refine lv_istore_n (lv' := [(1, .int 0), (2, .int x3), (0, .ref h0)]) hx hb dX5_many_20 rfl hl (by decide) rfl (fun ls hl => ?_)
        obtain ⟨v10, ev10⟩ : ∃ y : Int32, y = x3 + 1 := ⟨_, rfl⟩
        have tv10 : v10.toInt = x3.toInt + 1 := ti_add rfl ki_1 ev10 (by omega) (by omega)
        refine lv_iinc (v := v10) (lv' := [(2, .int v10), (1, .int 0), (0, .ref h0)]) hx hb dX5_many_21 hl (k := 1) rfl (by rw [ev10]; rfl) (by decide) rfl (fun ls hl => ?_)
        refine lv_goto (tgt := 4) hx hb dX5_many_24 (by decide) ?_
        exact ih4 v10 (by omega) (by omega) (by omega) _ _ hP hD hS ls (lv_sub hl [0, 1, 2] rfl)
  exact lp1 5 0 (by rw [ki_0]; decide) (by rw [ki_0]; decide) (by rw [ki_0]; decide) _ _ hP hD hS ls (lv_sub hl [0, 1, 2] rfl)
set_option maxHeartbeats 4000000 in
set_option maxRecDepth 100000 in
theorem f_X5_clear (l : Launch) (G : va_G) (cI cJ cZ cB cQ : ClassId) (sz : Nat) (h0 : Nat) (b : Nat → Nat) (p0 : Int32) (p1 : Int32) (p2 : Int32) (h1 : 0 ≤ p0.toInt) (h2 : p0.toInt ≤ 3) : CV l yX5_clear (wl_ yX5_clear cX5_clear 5 none) ({ frames := 0, cells := 0, slots := 0, locals := 0 } : Room) G (TY cI cJ cZ cB cQ) [.ref h0, .int p0, .int p1, .int p2] [(h0, oX5 b), (b 0, .inl (cJ, 240, .inr (.inl (fun _ => 0)))), (b 1, .inl (cZ, 4, .inl (fun _ => 0))), (b 2, .inl (cI, 4, .inl (fun _ => 0))), (b 3, .inl (cI, 4, .inl (fun _ => 0)))] sz (fun (u : (Nat → Int32) × (Nat → Int32) × (Nat → Int32)) => True) (fun u : (Nat → Int32) × (Nat → Int32) × (Nat → Int32) => [(h0, oX5 b), (b 0, .inl (cJ, 240, .inr (.inl (fun _ => 0)))), (b 1, .inl (cZ, 4, .inl u.1)), (b 2, .inl (cI, 4, .inl u.2.1)), (b 3, .inl (cI, 4, .inl u.2.2))]) 0 0 := by
  refine CV.go (cc := cX5_clear) (maxL := 5) (ret := none) (by decide) rfl (Nat.le_of_ble_eq_true rfl) ?_
  intro p e s m below meth c A ls Q hBd hret
  obtain ⟨hx, hb, hr, hml, hts, hown, hlk, hnm, hP, hK, hD, hA, hZ, hl⟩ := hBd
  have hown : s.vm.findClass RX5 = some m.cls := hown
  have hl : lv_has ls 5 [(0, .ref h0), (1, .int p0), (2, .int p1), (3, .int p2)] := hl
  have hS : va_S A s.heap s.heap [] := va_S.rf
  refine lv_aload_n hx hb dX5_clear_0 rfl (lv_at hl 0 rfl) ?_
  refine va_get (D := G) (ci := 5) (v := .ref (b 1)) (C := RX5) (T := TX5) (N := 4) hx hb hts iG_X5 hown hK hP 0 rfl rfl 1 (by decide) (hts _ w_323) (fun _ h9 => h9) rfl dX5_clear_1 ?_
  refine lv_iload_n hx hb dX5_clear_4 rfl (lv_at hl 1 rfl) ?_
  refine lv_iconst (v := 1) hx hb dX5_clear_5 (by decide) ?_
  refine va_zast hx hb hK hP hD hS 2 2 rfl rfl (ix_in rfl (by omega) (by omega)) dX5_clear_6 (fun H locs hP hD hS => ?_)
  generalize upd (fun _ => 0) p0.toNatClampNeg (vp_nar .boolean 1) = f1 at hP hD
  have hP : va_P G vwCl [(h0, oX5 b), (b 0, .inl (cJ, 240, .inr (.inl (fun _ => 0)))), (b 1, .inl (cZ, 4, .inl f1)), (b 2, .inl (cI, 4, .inl (fun _ => 0))), (b 3, .inl (cI, 4, .inl (fun _ => 0)))] H := hP
  have hD : va_D A [(h0, oX5 b), (b 0, .inl (cJ, 240, .inr (.inl (fun _ => 0)))), (b 1, .inl (cZ, 4, .inl f1)), (b 2, .inl (cI, 4, .inl (fun _ => 0))), (b 3, .inl (cI, 4, .inl (fun _ => 0)))] := hD
  refine lv_aload_n hx hb dX5_clear_7 rfl (lv_at hl 0 rfl) ?_
  refine va_get (D := G) (ci := 5) (v := .ref (b 2)) (C := RX5) (T := TX5) (N := 4) hx hb hts iG_X5 hown hK hP 0 rfl rfl 2 (by decide) (hts _ w_324) (fun _ h9 => h9) rfl dX5_clear_8 ?_
  refine lv_iload_n hx hb dX5_clear_11 rfl (lv_at hl 1 rfl) ?_
  refine lv_iload_n hx hb dX5_clear_12 rfl (lv_at hl 2 rfl) ?_
  refine va_iast hx hb hK hP hD hS 3 0 rfl rfl (ix_in rfl (by omega) (by omega)) dX5_clear_13 (fun H locs hP hD hS => ?_)
  generalize upd (fun _ => 0) p0.toNatClampNeg p1 = f2 at hP hD
  have hP : va_P G vwCl [(h0, oX5 b), (b 0, .inl (cJ, 240, .inr (.inl (fun _ => 0)))), (b 1, .inl (cZ, 4, .inl f1)), (b 2, .inl (cI, 4, .inl f2)), (b 3, .inl (cI, 4, .inl (fun _ => 0)))] H := hP
  have hD : va_D A [(h0, oX5 b), (b 0, .inl (cJ, 240, .inr (.inl (fun _ => 0)))), (b 1, .inl (cZ, 4, .inl f1)), (b 2, .inl (cI, 4, .inl f2)), (b 3, .inl (cI, 4, .inl (fun _ => 0)))] := hD
  refine lv_aload_n hx hb dX5_clear_14 rfl (lv_at hl 0 rfl) ?_
  refine va_get (D := G) (ci := 5) (v := .ref (b 3)) (C := RX5) (T := TX5) (N := 4) hx hb hts iG_X5 hown hK hP 0 rfl rfl 3 (by decide) (hts _ w_326) (fun _ h9 => h9) rfl dX5_clear_15 ?_
  refine lv_iload_n hx hb dX5_clear_18 rfl (lv_at hl 1 rfl) ?_
  refine lv_iload_n hx hb dX5_clear_19 rfl (lv_at hl 3 rfl) ?_
  refine va_iast hx hb hK hP hD hS 4 0 rfl rfl (ix_in rfl (by omega) (by omega)) dX5_clear_20 (fun H locs hP hD hS => ?_)
  generalize upd (fun _ => 0) p0.toNatClampNeg p2 = f3 at hP hD
  have hP : va_P G vwCl [(h0, oX5 b), (b 0, .inl (cJ, 240, .inr (.inl (fun _ => 0)))), (b 1, .inl (cZ, 4, .inl f1)), (b 2, .inl (cI, 4, .inl f2)), (b 3, .inl (cI, 4, .inl f3))] H := hP
  have hD : va_D A [(h0, oX5 b), (b 0, .inl (cJ, 240, .inr (.inl (fun _ => 0)))), (b 1, .inl (cZ, 4, .inl f1)), (b 2, .inl (cI, 4, .inl f2)), (b 3, .inl (cI, 4, .inl f3))] := hD
  refine lv_iconst (v := 0) hx hb dX5_clear_21 (by decide) ?_
  refine lv_istore (lv' := [(4, .int 0), (0, .ref h0), (1, .int p0), (2, .int p1), (3, .int p2)]) hx hb dX5_clear_22 hl (by decide) rfl (fun ls hl => ?_)
  have lp4 : ∀ (n5 : Nat) (x6 : Int32), 0 ≤ x6.toInt → x6.toInt ≤ 60 → 60 - x6.toInt < (n5 : Int) → ∀ (H : Heap) (locs : List Loc), va_P G vwCl [(h0, oX5 b), (b 0, .inl (cJ, 240, .inr (.inl (fun _ => 0)))), (b 1, .inl (cZ, 4, .inl f1)), (b 2, .inl (cI, 4, .inl f2)), (b 3, .inl (cI, 4, .inl f3))] H → va_D A [(h0, oX5 b), (b 0, .inl (cJ, 240, .inr (.inl (fun _ => 0)))), (b 1, .inl (cZ, 4, .inl f1)), (b 2, .inl (cI, 4, .inl f2)), (b 3, .inl (cI, 4, .inl f3))] → va_S A s.heap H locs → ∀ (ls : Array Slot), lv_has ls 5 [(4, .int x6), (0, .ref h0), (1, .int p0), (2, .int p1), (3, .int p2)] → W p l e ({ frames := 0, cells := 0, slots := 0, locals := 0 } : Room) s m ([.ref h0, .int p0, .int p1, .int p2] : List Value).toArray below meth c H locs 0 0 Q (F0 m 24 ls []) := by
    intro n5
    induction n5 with
    | zero =>
      intro x6 f6_0 f6_1 f6_2
      exact absurd f6_2 (by omega)
    | succ n5 ih7 =>
      intro x6 f6_0 f6_1 f6_2 H locs hP hD hS ls hl
      refine lv_iload hx hb dX5_clear_24 (lv_at hl 0 rfl) ?_
      refine lv_bipush (v := 60) hx hb dX5_clear_26 (by decide) ?_
      refine lv_icmp_ge (tgt := 50) hx hb dX5_clear_28 (by decide) (fun c8 => ?_) (fun c8 => ?_)
      · have c8 := i_le ki_60 rfl c8
        exact hret _ _ _ _ (f1, f2, f3) hP hD hS dX5_clear_50 trivial
      · have c8 := i_nle ki_60 rfl c8
        refine lv_aload_n hx hb dX5_clear_31 rfl (lv_at hl 1 rfl) ?_
        refine va_get (D := G) (ci := 5) (v := .ref (b 0)) (C := RX5) (T := TX5) (N := 4) hx hb hts iG_X5 hown hK hP 0 rfl rfl 0 (by decide) (hts _ w_322) (fun _ h9 => h9) rfl dX5_clear_32 ?_
        refine lv_iload_n hx hb dX5_clear_35 rfl (lv_at hl 2 rfl) ?_
        refine lv_bipush (v := 60) hx hb dX5_clear_36 (by decide) ?_
        refine lv_imul hx hb dX5_clear_38 ?_
        refine lv_topi (fun v9 ev9 => ?_)
        have tv9 : v9.toInt = p0.toInt * 60 := ti_mul rfl ki_60 ev9 (by omega) (by omega)
        refine lv_iload hx hb dX5_clear_39 (lv_at hl 0 rfl) ?_
        refine lv_iadd hx hb dX5_clear_41 ?_
        refine lv_topi (fun v10 ev10 => ?_)
        have tv10 : v10.toInt = p0.toInt * 60 + x6.toInt := ti_add tv9 rfl ev10 (by omega) (by omega)
        refine lv_lconst (v := 0) hx hb dX5_clear_42 (by decide) ?_
        refine va_last hx hb hK hP hD hS 1 1 rfl rfl (ix_in tv10 (by omega) (by omega)) dX5_clear_43 (fun H locs hP hD hS => ?_)
        rw [updL_z] at hP hD
        have hP : va_P G vwCl [(h0, oX5 b), (b 0, .inl (cJ, 240, .inr (.inl (fun _ => 0)))), (b 1, .inl (cZ, 4, .inl f1)), (b 2, .inl (cI, 4, .inl f2)), (b 3, .inl (cI, 4, .inl f3))] H := hP
        have hD : va_D A [(h0, oX5 b), (b 0, .inl (cJ, 240, .inr (.inl (fun _ => 0)))), (b 1, .inl (cZ, 4, .inl f1)), (b 2, .inl (cI, 4, .inl f2)), (b 3, .inl (cI, 4, .inl f3))] := hD
        obtain ⟨v11, ev11⟩ : ∃ y : Int32, y = x6 + 1 := ⟨_, rfl⟩
        have tv11 : v11.toInt = x6.toInt + 1 := ti_add rfl ki_1 ev11 (by omega) (by omega)
        refine lv_iinc (v := v11) (lv' := [(4, .int v11), (0, .ref h0), (1, .int p0), (2, .int p1), (3, .int p2)]) hx hb dX5_clear_44 hl (k := 0) rfl (by rw [ev11]; rfl) (by decide) rfl (fun ls hl => ?_)
        refine lv_goto (tgt := 24) hx hb dX5_clear_47 (by decide) ?_
        exact ih7 v11 (by omega) (by omega) (by omega) _ _ hP hD hS ls (lv_sub hl [0, 1, 2, 3, 4] rfl)
  exact lp4 61 0 (by rw [ki_0]; decide) (by rw [ki_0]; decide) (by rw [ki_0]; decide) _ _ hP hD hS ls (lv_sub hl [0, 1, 2, 3, 4] rfl)
end
section
theorem dX9_anew_0 : decode cX9_anew 0 = .ok (.aload_n 0, 1) := by decide +kernel
theorem dX9_anew_1 : decode cX9_anew 1 = .ok (.getfield 19, 3) := by decide +kernel
theorem dX9_anew_4 : decode cX9_anew 4 = .ok (.getfield 106, 3) := by decide +kernel
theorem dX9_anew_7 : decode cX9_anew 7 = .ok (.ifCond .ne 6, 3) := by decide +kernel
theorem dX9_anew_10 : decode cX9_anew 10 = .ok (.bipush (-2), 2) := by decide +kernel
theorem dX9_anew_12 : decode cX9_anew 12 = .ok (.ireturn, 1) := by decide +kernel
theorem dX9_areTwo_0 : decode cX9_areTwo 0 = .ok (.aload_n 0, 1) := by decide +kernel
theorem dX9_areTwo_1 : decode cX9_areTwo 1 = .ok (.getfield 19, 3) := by decide +kernel
theorem dX9_areTwo_4 : decode cX9_areTwo 4 = .ok (.iload_n 1, 1) := by decide +kernel
theorem dX9_areTwo_5 : decode cX9_areTwo 5 = .ok (.i2l, 1) := by decide +kernel
theorem dX9_areTwo_6 : decode cX9_areTwo 6 = .ok (.invokevirtual 128, 3) := by decide +kernel
theorem dX9_areTwo_9 : decode cX9_areTwo 9 = .ok (.ifCond .eq 24, 3) := by decide +kernel
theorem dX9_areTwo_33 : decode cX9_areTwo 33 = .ok (.iconst 0, 1) := by decide +kernel
theorem dX9_areTwo_34 : decode cX9_areTwo 34 = .ok (.ireturn, 1) := by decide +kernel
theorem dX9_ask_0 : decode cX9_ask 0 = .ok (.aload_n 0, 1) := by decide +kernel
theorem dX9_ask_1 : decode cX9_ask 1 = .ok (.iload_n 1, 1) := by decide +kernel
theorem dX9_ask_2 : decode cX9_ask 2 = .ok (.iload_n 2, 1) := by decide +kernel
theorem dX9_ask_3 : decode cX9_ask 3 = .ok (.invokevirtual 295, 3) := by decide +kernel
theorem dX9_ask_6 : decode cX9_ask 6 = .ok (.istore_n 3, 1) := by decide +kernel
theorem dX9_ask_7 : decode cX9_ask 7 = .ok (.iload_n 3, 1) := by decide +kernel
theorem dX9_ask_8 : decode cX9_ask 8 = .ok (.ifCond .eq 5, 3) := by decide +kernel
theorem dX9_ask_11 : decode cX9_ask 11 = .ok (.iload_n 3, 1) := by decide +kernel
theorem dX9_ask_12 : decode cX9_ask 12 = .ok (.ireturn, 1) := by decide +kernel
theorem dX9_at_0 : decode cX9_at 0 = .ok (.aload_n 0, 1) := by decide +kernel
theorem dX9_at_1 : decode cX9_at 1 = .ok (.getfield 19, 3) := by decide +kernel
theorem dX9_at_4 : decode cX9_at 4 = .ok (.iload_n 1, 1) := by decide +kernel
theorem dX9_at_5 : decode cX9_at 5 = .ok (.i2l, 1) := by decide +kernel
theorem dX9_at_6 : decode cX9_at 6 = .ok (.invokevirtual 128, 3) := by decide +kernel
theorem dX9_at_9 : decode cX9_at 9 = .ok (.ifCond .eq 11, 3) := by decide +kernel
theorem dX9_at_20 : decode cX9_at 20 = .ok (.bipush (-2), 2) := by decide +kernel
theorem dX9_at_22 : decode cX9_at 22 = .ok (.ireturn, 1) := by decide +kernel
theorem dX9_back_0 : decode cX9_back 0 = .ok (.iload_n 1, 1) := by decide +kernel
theorem dX9_back_1 : decode cX9_back 1 = .ok (.ifCond .lt 8, 3) := by decide +kernel
theorem dX9_back_4 : decode cX9_back 4 = .ok (.iload_n 1, 1) := by decide +kernel
theorem dX9_back_5 : decode cX9_back 5 = .ok (.iconst 3, 1) := by decide +kernel
theorem dX9_back_6 : decode cX9_back 6 = .ok (.if_icmp .lt 6, 3) := by decide +kernel
theorem dX9_back_9 : decode cX9_back 9 = .ok (.bipush (-2), 2) := by decide +kernel
theorem dX9_back_11 : decode cX9_back 11 = .ok (.ireturn, 1) := by decide +kernel
theorem dX9_back_12 : decode cX9_back 12 = .ok (.aload_n 0, 1) := by decide +kernel
theorem dX9_back_13 : decode cX9_back 13 = .ok (.getfield 23, 3) := by decide +kernel
theorem dX9_back_16 : decode cX9_back 16 = .ok (.iload_n 1, 1) := by decide +kernel
theorem dX9_back_17 : decode cX9_back 17 = .ok (.aaload, 1) := by decide +kernel
theorem dX9_back_18 : decode cX9_back 18 = .ok (.ifnonnull 6, 3) := by decide +kernel
theorem dX9_back_21 : decode cX9_back 21 = .ok (.bipush (-6), 2) := by decide +kernel
theorem dX9_back_23 : decode cX9_back 23 = .ok (.ireturn, 1) := by decide +kernel
theorem dX9_beeline_0 : decode cX9_beeline 0 = .ok (.aload_n 0, 1) := by decide +kernel
theorem dX9_beeline_1 : decode cX9_beeline 1 = .ok (.getfield 19, 3) := by decide +kernel
theorem dX9_beeline_4 : decode cX9_beeline 4 = .ok (.iload_n 1, 1) := by decide +kernel
theorem dX9_beeline_5 : decode cX9_beeline 5 = .ok (.i2l, 1) := by decide +kernel
theorem dX9_beeline_6 : decode cX9_beeline 6 = .ok (.invokevirtual 112, 3) := by decide +kernel
theorem dX9_beeline_9 : decode cX9_beeline 9 = .ok (.istore_n 3, 1) := by decide +kernel
theorem dX9_beeline_10 : decode cX9_beeline 10 = .ok (.aload_n 0, 1) := by decide +kernel
theorem dX9_beeline_11 : decode cX9_beeline 11 = .ok (.getfield 19, 3) := by decide +kernel
theorem dX9_beeline_14 : decode cX9_beeline 14 = .ok (.iload_n 2, 1) := by decide +kernel
theorem dX9_beeline_15 : decode cX9_beeline 15 = .ok (.i2l, 1) := by decide +kernel
theorem dX9_beeline_16 : decode cX9_beeline 16 = .ok (.invokevirtual 112, 3) := by decide +kernel
theorem dX9_beeline_19 : decode cX9_beeline 19 = .ok (.istore 4, 2) := by decide +kernel
theorem dX9_beeline_21 : decode cX9_beeline 21 = .ok (.iload_n 3, 1) := by decide +kernel
theorem dX9_beeline_22 : decode cX9_beeline 22 = .ok (.iconst (-1), 1) := by decide +kernel
theorem dX9_beeline_23 : decode cX9_beeline 23 = .ok (.if_icmp .eq 9, 3) := by decide +kernel
theorem dX9_beeline_32 : decode cX9_beeline 32 = .ok (.bipush (-2), 2) := by decide +kernel
theorem dX9_beeline_34 : decode cX9_beeline 34 = .ok (.ireturn, 1) := by decide +kernel
theorem dX9_blame_0 : decode cX9_blame 0 = .ok (.aload_n 0, 1) := by decide +kernel
theorem dX9_blame_1 : decode cX9_blame 1 = .ok (.getfield 19, 3) := by decide +kernel
theorem dX9_blame_4 : decode cX9_blame 4 = .ok (.getfield 106, 3) := by decide +kernel
theorem dX9_blame_7 : decode cX9_blame 7 = .ok (.ifCond .ne 6, 3) := by decide +kernel
theorem dX9_blame_10 : decode cX9_blame 10 = .ok (.bipush (-2), 2) := by decide +kernel
theorem dX9_blame_12 : decode cX9_blame 12 = .ok (.ireturn, 1) := by decide +kernel
theorem dX9_bridge_0 : decode cX9_bridge 0 = .ok (.aload_n 0, 1) := by decide +kernel
theorem dX9_bridge_1 : decode cX9_bridge 1 = .ok (.getfield 19, 3) := by decide +kernel
theorem dX9_bridge_4 : decode cX9_bridge 4 = .ok (.iload_n 1, 1) := by decide +kernel
theorem dX9_bridge_5 : decode cX9_bridge 5 = .ok (.i2l, 1) := by decide +kernel
theorem dX9_bridge_6 : decode cX9_bridge 6 = .ok (.invokevirtual 112, 3) := by decide +kernel
theorem dX9_bridge_9 : decode cX9_bridge 9 = .ok (.istore_n 2, 1) := by decide +kernel
theorem dX9_bridge_10 : decode cX9_bridge 10 = .ok (.iload_n 2, 1) := by decide +kernel
theorem dX9_bridge_11 : decode cX9_bridge 11 = .ok (.iconst (-1), 1) := by decide +kernel
theorem dX9_bridge_12 : decode cX9_bridge 12 = .ok (.if_icmp .ne 6, 3) := by decide +kernel
theorem dX9_bridge_15 : decode cX9_bridge 15 = .ok (.bipush (-2), 2) := by decide +kernel
theorem dX9_bridge_17 : decode cX9_bridge 17 = .ok (.ireturn, 1) := by decide +kernel
theorem dX9_bridges_0 : decode cX9_bridges 0 = .ok (.aload_n 0, 1) := by decide +kernel
theorem dX9_bridges_1 : decode cX9_bridges 1 = .ok (.getfield 19, 3) := by decide +kernel
theorem dX9_bridges_4 : decode cX9_bridges 4 = .ok (.iload_n 1, 1) := by decide +kernel
theorem dX9_bridges_5 : decode cX9_bridges 5 = .ok (.invokevirtual 183, 3) := by decide +kernel
theorem dX9_bridges_8 : decode cX9_bridges 8 = .ok (.ifCond .ne 6, 3) := by decide +kernel
theorem dX9_bridges_11 : decode cX9_bridges 11 = .ok (.bipush (-2), 2) := by decide +kernel
theorem dX9_bridges_13 : decode cX9_bridges 13 = .ok (.ireturn, 1) := by decide +kernel
theorem dX9_by_0 : decode cX9_by 0 = .ok (.aload_n 0, 1) := by decide +kernel
theorem dX9_by_1 : decode cX9_by 1 = .ok (.getfield 19, 3) := by decide +kernel
theorem dX9_by_4 : decode cX9_by 4 = .ok (.getfield 106, 3) := by decide +kernel
theorem dX9_by_7 : decode cX9_by 7 = .ok (.ifCond .eq 12, 3) := by decide +kernel
theorem dX9_by_19 : decode cX9_by 19 = .ok (.bipush (-2), 2) := by decide +kernel
theorem dX9_by_21 : decode cX9_by 21 = .ok (.ireturn, 1) := by decide +kernel
theorem dX9_chance_0 : decode cX9_chance 0 = .ok (.aload_n 0, 1) := by decide +kernel
theorem dX9_chance_1 : decode cX9_chance 1 = .ok (.getfield 19, 3) := by decide +kernel
theorem dX9_chance_4 : decode cX9_chance 4 = .ok (.iload_n 1, 1) := by decide +kernel
theorem dX9_chance_5 : decode cX9_chance 5 = .ok (.i2l, 1) := by decide +kernel
theorem dX9_chance_6 : decode cX9_chance 6 = .ok (.invokevirtual 112, 3) := by decide +kernel
theorem dX9_chance_9 : decode cX9_chance 9 = .ok (.istore_n 3, 1) := by decide +kernel
theorem dX9_chance_10 : decode cX9_chance 10 = .ok (.iload_n 3, 1) := by decide +kernel
theorem dX9_chance_11 : decode cX9_chance 11 = .ok (.iconst (-1), 1) := by decide +kernel
theorem dX9_chance_12 : decode cX9_chance 12 = .ok (.if_icmp .eq 10, 3) := by decide +kernel
theorem dX9_chance_22 : decode cX9_chance 22 = .ok (.ldc2_w 349, 3) := by decide +kernel
theorem dX9_chance_25 : decode cX9_chance 25 = .ok (.lreturn, 1) := by decide +kernel
theorem dX9_colony_0 : decode cX9_colony 0 = .ok (.aload_n 0, 1) := by decide +kernel
theorem dX9_colony_1 : decode cX9_colony 1 = .ok (.getfield 12, 3) := by decide +kernel
theorem dX9_colony_4 : decode cX9_colony 4 = .ok (.invokevirtual 90, 3) := by decide +kernel
theorem dX9_colony_7 : decode cX9_colony 7 = .ok (.aload_n 0, 1) := by decide +kernel
theorem dX9_colony_8 : decode cX9_colony 8 = .ok (.getfield 12, 3) := by decide +kernel
theorem dX9_colony_11 : decode cX9_colony 11 = .ok (.getfield 93, 3) := by decide +kernel
theorem dX9_colony_14 : decode cX9_colony 14 = .ok (.ifCond .eq 6, 3) := by decide +kernel
theorem dX9_colony_20 : decode cX9_colony 20 = .ok (.aload_n 0, 1) := by decide +kernel
theorem dX9_colony_21 : decode cX9_colony 21 = .ok (.getfield 12, 3) := by decide +kernel
theorem dX9_colony_24 : decode cX9_colony 24 = .ok (.getfield 76, 3) := by decide +kernel
theorem dX9_colony_27 : decode cX9_colony 27 = .ok (.iconst 0, 1) := by decide +kernel
theorem dX9_colony_28 : decode cX9_colony 28 = .ok (.putfield 80, 3) := by decide +kernel
theorem dX9_colony_31 : decode cX9_colony 31 = .ok (.aload_n 0, 1) := by decide +kernel
theorem dX9_colony_32 : decode cX9_colony 32 = .ok (.getfield 19, 3) := by decide +kernel
theorem dX9_colony_35 : decode cX9_colony 35 = .ok (.aload_n 0, 1) := by decide +kernel
theorem dX9_colony_36 : decode cX9_colony 36 = .ok (.getfield 12, 3) := by decide +kernel
theorem dX9_colony_39 : decode cX9_colony 39 = .ok (.getfield 96, 3) := by decide +kernel
theorem dX9_colony_42 : decode cX9_colony 42 = .ok (.invokevirtual 99, 3) := by decide +kernel
theorem dX9_colony_45 : decode cX9_colony 45 = .ok (.aload_n 0, 1) := by decide +kernel
theorem dX9_colony_46 : decode cX9_colony 46 = .ok (.invokevirtual 103, 3) := by decide +kernel
theorem dX9_colony_49 : decode cX9_colony 49 = .ok (.aload_n 0, 1) := by decide +kernel
theorem dX9_colony_50 : decode cX9_colony 50 = .ok (.getfield 19, 3) := by decide +kernel
theorem dX9_colony_53 : decode cX9_colony 53 = .ok (.getfield 106, 3) := by decide +kernel
theorem dX9_colony_56 : decode cX9_colony 56 = .ok (.ireturn, 1) := by decide +kernel
theorem dX9_corners_0 : decode cX9_corners 0 = .ok (.iload_n 1, 1) := by decide +kernel
theorem dX9_corners_1 : decode cX9_corners 1 = .ok (.ifCond .lt 19, 3) := by decide +kernel
theorem dX9_corners_4 : decode cX9_corners 4 = .ok (.iload_n 1, 1) := by decide +kernel
theorem dX9_corners_5 : decode cX9_corners 5 = .ok (.iconst 4, 1) := by decide +kernel
theorem dX9_corners_6 : decode cX9_corners 6 = .ok (.if_icmp .gt 14, 3) := by decide +kernel
theorem dX9_corners_9 : decode cX9_corners 9 = .ok (.aload_n 0, 1) := by decide +kernel
theorem dX9_corners_10 : decode cX9_corners 10 = .ok (.getfield 19, 3) := by decide +kernel
theorem dX9_corners_13 : decode cX9_corners 13 = .ok (.iload_n 2, 1) := by decide +kernel
theorem dX9_corners_14 : decode cX9_corners 14 = .ok (.invokevirtual 183, 3) := by decide +kernel
theorem dX9_corners_17 : decode cX9_corners 17 = .ok (.ifCond .ne 6, 3) := by decide +kernel
theorem dX9_corners_20 : decode cX9_corners 20 = .ok (.bipush (-2), 2) := by decide +kernel
theorem dX9_corners_22 : decode cX9_corners 22 = .ok (.ireturn, 1) := by decide +kernel
theorem dX9_count_0 : decode cX9_count 0 = .ok (.iload_n 1, 1) := by decide +kernel
theorem dX9_count_1 : decode cX9_count 1 = .ok (.tableswitch 162 0 11 #[63, 71, 79, 87, 95, 103, 111, 119, 127, 135, 143, 154], 63) := by decide +kernel
theorem dX9_count_64 : decode cX9_count 64 = .ok (.aload_n 0, 1) := by decide +kernel
theorem dX9_count_65 : decode cX9_count 65 = .ok (.getfield 19, 3) := by decide +kernel
theorem dX9_count_68 : decode cX9_count 68 = .ok (.getfield 186, 3) := by decide +kernel
theorem dX9_count_71 : decode cX9_count 71 = .ok (.ireturn, 1) := by decide +kernel
theorem dX9_count_72 : decode cX9_count 72 = .ok (.aload_n 0, 1) := by decide +kernel
theorem dX9_count_73 : decode cX9_count 73 = .ok (.getfield 19, 3) := by decide +kernel
theorem dX9_count_76 : decode cX9_count 76 = .ok (.getfield 373, 3) := by decide +kernel
theorem dX9_count_79 : decode cX9_count 79 = .ok (.ireturn, 1) := by decide +kernel
theorem dX9_count_80 : decode cX9_count 80 = .ok (.aload_n 0, 1) := by decide +kernel
theorem dX9_count_81 : decode cX9_count 81 = .ok (.getfield 19, 3) := by decide +kernel
theorem dX9_count_84 : decode cX9_count 84 = .ok (.getfield 376, 3) := by decide +kernel
theorem dX9_count_87 : decode cX9_count 87 = .ok (.ireturn, 1) := by decide +kernel
theorem dX9_count_88 : decode cX9_count 88 = .ok (.aload_n 0, 1) := by decide +kernel
theorem dX9_count_89 : decode cX9_count 89 = .ok (.getfield 19, 3) := by decide +kernel
theorem dX9_count_92 : decode cX9_count 92 = .ok (.getfield 379, 3) := by decide +kernel
theorem dX9_count_95 : decode cX9_count 95 = .ok (.ireturn, 1) := by decide +kernel
theorem dX9_count_96 : decode cX9_count 96 = .ok (.aload_n 0, 1) := by decide +kernel
theorem dX9_count_97 : decode cX9_count 97 = .ok (.getfield 19, 3) := by decide +kernel
theorem dX9_count_100 : decode cX9_count 100 = .ok (.getfield 382, 3) := by decide +kernel
theorem dX9_count_103 : decode cX9_count 103 = .ok (.ireturn, 1) := by decide +kernel
theorem dX9_count_104 : decode cX9_count 104 = .ok (.aload_n 0, 1) := by decide +kernel
theorem dX9_count_105 : decode cX9_count 105 = .ok (.getfield 19, 3) := by decide +kernel
theorem dX9_count_108 : decode cX9_count 108 = .ok (.getfield 281, 3) := by decide +kernel
theorem dX9_count_111 : decode cX9_count 111 = .ok (.ireturn, 1) := by decide +kernel
theorem dX9_count_112 : decode cX9_count 112 = .ok (.aload_n 0, 1) := by decide +kernel
theorem dX9_count_113 : decode cX9_count 113 = .ok (.getfield 19, 3) := by decide +kernel
theorem dX9_count_116 : decode cX9_count 116 = .ok (.getfield 259, 3) := by decide +kernel
theorem dX9_count_119 : decode cX9_count 119 = .ok (.ireturn, 1) := by decide +kernel
theorem dX9_count_120 : decode cX9_count 120 = .ok (.aload_n 0, 1) := by decide +kernel
theorem dX9_count_121 : decode cX9_count 121 = .ok (.getfield 19, 3) := by decide +kernel
theorem dX9_count_124 : decode cX9_count 124 = .ok (.getfield 189, 3) := by decide +kernel
theorem dX9_count_127 : decode cX9_count 127 = .ok (.ireturn, 1) := by decide +kernel
theorem dX9_count_128 : decode cX9_count 128 = .ok (.aload_n 0, 1) := by decide +kernel
theorem dX9_count_129 : decode cX9_count 129 = .ok (.getfield 19, 3) := by decide +kernel
theorem dX9_count_132 : decode cX9_count 132 = .ok (.getfield 361, 3) := by decide +kernel
theorem dX9_count_135 : decode cX9_count 135 = .ok (.ireturn, 1) := by decide +kernel
theorem dX9_count_136 : decode cX9_count 136 = .ok (.aload_n 0, 1) := by decide +kernel
theorem dX9_count_137 : decode cX9_count 137 = .ok (.getfield 19, 3) := by decide +kernel
theorem dX9_count_140 : decode cX9_count 140 = .ok (.getfield 106, 3) := by decide +kernel
theorem dX9_count_143 : decode cX9_count 143 = .ok (.ireturn, 1) := by decide +kernel
theorem dX9_count_144 : decode cX9_count 144 = .ok (.aload_n 0, 1) := by decide +kernel
theorem dX9_count_145 : decode cX9_count 145 = .ok (.getfield 12, 3) := by decide +kernel
theorem dX9_count_148 : decode cX9_count 148 = .ok (.getfield 76, 3) := by decide +kernel
theorem dX9_count_151 : decode cX9_count 151 = .ok (.getfield 80, 3) := by decide +kernel
theorem dX9_count_154 : decode cX9_count 154 = .ok (.ireturn, 1) := by decide +kernel
theorem dX9_count_155 : decode cX9_count 155 = .ok (.aload_n 0, 1) := by decide +kernel
theorem dX9_count_156 : decode cX9_count 156 = .ok (.getfield 61, 3) := by decide +kernel
theorem dX9_count_159 : decode cX9_count 159 = .ok (.invokevirtual 385, 3) := by decide +kernel
theorem dX9_count_162 : decode cX9_count 162 = .ok (.ireturn, 1) := by decide +kernel
theorem dX9_count_163 : decode cX9_count 163 = .ok (.iconst (-1), 1) := by decide +kernel
theorem dX9_count_164 : decode cX9_count 164 = .ok (.ireturn, 1) := by decide +kernel
theorem dX9_cover_0 : decode cX9_cover 0 = .ok (.aload_n 0, 1) := by decide +kernel
theorem dX9_cover_1 : decode cX9_cover 1 = .ok (.getfield 19, 3) := by decide +kernel
theorem dX9_cover_4 : decode cX9_cover 4 = .ok (.getfield 106, 3) := by decide +kernel
theorem dX9_cover_7 : decode cX9_cover 7 = .ok (.ifCond .ne 8, 3) := by decide +kernel
theorem dX9_cover_10 : decode cX9_cover 10 = .ok (.bipush (-2), 2) := by decide +kernel
theorem dX9_cover_12 : decode cX9_cover 12 = .ok (.goto 10, 3) := by decide +kernel
theorem dX9_cover_22 : decode cX9_cover 22 = .ok (.ireturn, 1) := by decide +kernel
theorem dX9_covers_0 : decode cX9_covers 0 = .ok (.aload_n 0, 1) := by decide +kernel
theorem dX9_covers_1 : decode cX9_covers 1 = .ok (.getfield 19, 3) := by decide +kernel
theorem dX9_covers_4 : decode cX9_covers 4 = .ok (.getfield 106, 3) := by decide +kernel
theorem dX9_covers_7 : decode cX9_covers 7 = .ok (.ifCond .ne 8, 3) := by decide +kernel
theorem dX9_covers_10 : decode cX9_covers 10 = .ok (.bipush (-2), 2) := by decide +kernel
theorem dX9_covers_12 : decode cX9_covers 12 = .ok (.goto 7, 3) := by decide +kernel
theorem dX9_covers_19 : decode cX9_covers 19 = .ok (.ireturn, 1) := by decide +kernel
theorem dX9_creek_0 : decode cX9_creek 0 = .ok (.aload_n 0, 1) := by decide +kernel
theorem dX9_creek_1 : decode cX9_creek 1 = .ok (.getfield 19, 3) := by decide +kernel
theorem dX9_creek_4 : decode cX9_creek 4 = .ok (.iload_n 1, 1) := by decide +kernel
theorem dX9_creek_5 : decode cX9_creek 5 = .ok (.i2l, 1) := by decide +kernel
theorem dX9_creek_6 : decode cX9_creek 6 = .ok (.invokevirtual 112, 3) := by decide +kernel
theorem dX9_creek_9 : decode cX9_creek 9 = .ok (.istore_n 2, 1) := by decide +kernel
theorem dX9_creek_10 : decode cX9_creek 10 = .ok (.iload_n 2, 1) := by decide +kernel
theorem dX9_creek_11 : decode cX9_creek 11 = .ok (.iconst (-1), 1) := by decide +kernel
theorem dX9_creek_12 : decode cX9_creek 12 = .ok (.if_icmp .ne 6, 3) := by decide +kernel
theorem dX9_creek_15 : decode cX9_creek 15 = .ok (.bipush (-2), 2) := by decide +kernel
theorem dX9_creek_17 : decode cX9_creek 17 = .ok (.ireturn, 1) := by decide +kernel
theorem dX9_crossing_0 : decode cX9_crossing 0 = .ok (.aload_n 0, 1) := by decide +kernel
theorem dX9_crossing_1 : decode cX9_crossing 1 = .ok (.getfield 19, 3) := by decide +kernel
theorem dX9_crossing_4 : decode cX9_crossing 4 = .ok (.getfield 106, 3) := by decide +kernel
theorem dX9_crossing_7 : decode cX9_crossing 7 = .ok (.ifCond .ne 6, 3) := by decide +kernel
theorem dX9_crossing_10 : decode cX9_crossing 10 = .ok (.bipush (-2), 2) := by decide +kernel
theorem dX9_crossing_12 : decode cX9_crossing 12 = .ok (.ireturn, 1) := by decide +kernel
theorem dX9_drawn_0 : decode cX9_drawn 0 = .ok (.aload_n 0, 1) := by decide +kernel
theorem dX9_drawn_1 : decode cX9_drawn 1 = .ok (.getfield 19, 3) := by decide +kernel
theorem dX9_drawn_4 : decode cX9_drawn 4 = .ok (.getfield 106, 3) := by decide +kernel
theorem dX9_drawn_7 : decode cX9_drawn 7 = .ok (.ifCond .eq 17, 3) := by decide +kernel
theorem dX9_drawn_24 : decode cX9_drawn 24 = .ok (.bipush (-2), 2) := by decide +kernel
theorem dX9_drawn_26 : decode cX9_drawn 26 = .ok (.ireturn, 1) := by decide +kernel
theorem dX9_end_0 : decode cX9_end 0 = .ok (.iload_n 1, 1) := by decide +kernel
theorem dX9_end_1 : decode cX9_end 1 = .ok (.ifCond .lt 17, 3) := by decide +kernel
theorem dX9_end_4 : decode cX9_end 4 = .ok (.iload_n 1, 1) := by decide +kernel
theorem dX9_end_5 : decode cX9_end 5 = .ok (.aload_n 0, 1) := by decide +kernel
theorem dX9_end_6 : decode cX9_end 6 = .ok (.getfield 12, 3) := by decide +kernel
theorem dX9_end_9 : decode cX9_end 9 = .ok (.getfield 76, 3) := by decide +kernel
theorem dX9_end_12 : decode cX9_end 12 = .ok (.getfield 80, 3) := by decide +kernel
theorem dX9_end_15 : decode cX9_end 15 = .ok (.if_icmp .le 5, 3) := by decide +kernel
theorem dX9_end_18 : decode cX9_end 18 = .ok (.iconst (-1), 1) := by decide +kernel
theorem dX9_end_19 : decode cX9_end 19 = .ok (.ireturn, 1) := by decide +kernel
theorem dX9_end_20 : decode cX9_end 20 = .ok (.aload_n 0, 1) := by decide +kernel
theorem dX9_end_21 : decode cX9_end 21 = .ok (.getfield 12, 3) := by decide +kernel
theorem dX9_end_24 : decode cX9_end 24 = .ok (.getfield 76, 3) := by decide +kernel
theorem dX9_end_27 : decode cX9_end 27 = .ok (.iload_n 1, 1) := by decide +kernel
theorem dX9_end_28 : decode cX9_end 28 = .ok (.putfield 80, 3) := by decide +kernel
theorem dX9_end_31 : decode cX9_end 31 = .ok (.iload_n 1, 1) := by decide +kernel
theorem dX9_end_32 : decode cX9_end 32 = .ok (.ireturn, 1) := by decide +kernel
theorem dX9_evening_0 : decode cX9_evening 0 = .ok (.aload_n 0, 1) := by decide +kernel
theorem dX9_evening_1 : decode cX9_evening 1 = .ok (.getfield 19, 3) := by decide +kernel
theorem dX9_evening_4 : decode cX9_evening 4 = .ok (.iload_n 1, 1) := by decide +kernel
theorem dX9_evening_5 : decode cX9_evening 5 = .ok (.invokevirtual 183, 3) := by decide +kernel
theorem dX9_evening_8 : decode cX9_evening 8 = .ok (.ifCond .eq 14, 3) := by decide +kernel
theorem dX9_evening_22 : decode cX9_evening 22 = .ok (.bipush (-2), 2) := by decide +kernel
theorem dX9_evening_24 : decode cX9_evening 24 = .ok (.ireturn, 1) := by decide +kernel
theorem dX9_faced_0 : decode cX9_faced 0 = .ok (.aload_n 0, 1) := by decide +kernel
theorem dX9_faced_1 : decode cX9_faced 1 = .ok (.iload_n 1, 1) := by decide +kernel
theorem dX9_faced_2 : decode cX9_faced 2 = .ok (.iload_n 2, 1) := by decide +kernel
theorem dX9_faced_3 : decode cX9_faced 3 = .ok (.invokevirtual 295, 3) := by decide +kernel
theorem dX9_faced_6 : decode cX9_faced 6 = .ok (.istore_n 3, 1) := by decide +kernel
theorem dX9_faced_7 : decode cX9_faced 7 = .ok (.iload_n 3, 1) := by decide +kernel
theorem dX9_faced_8 : decode cX9_faced 8 = .ok (.ifCond .eq 7, 3) := by decide +kernel
theorem dX9_faced_11 : decode cX9_faced 11 = .ok (.iload_n 3, 1) := by decide +kernel
theorem dX9_faced_12 : decode cX9_faced 12 = .ok (.goto 9, 3) := by decide +kernel
theorem dX9_faced_21 : decode cX9_faced 21 = .ok (.ireturn, 1) := by decide +kernel
theorem dX9_farthest_0 : decode cX9_farthest 0 = .ok (.aload_n 0, 1) := by decide +kernel
theorem dX9_farthest_1 : decode cX9_farthest 1 = .ok (.getfield 19, 3) := by decide +kernel
theorem dX9_farthest_4 : decode cX9_farthest 4 = .ok (.iload_n 1, 1) := by decide +kernel
theorem dX9_farthest_5 : decode cX9_farthest 5 = .ok (.i2l, 1) := by decide +kernel
theorem dX9_farthest_6 : decode cX9_farthest 6 = .ok (.invokevirtual 112, 3) := by decide +kernel
theorem dX9_farthest_9 : decode cX9_farthest 9 = .ok (.istore_n 3, 1) := by decide +kernel
theorem dX9_farthest_10 : decode cX9_farthest 10 = .ok (.iload_n 3, 1) := by decide +kernel
theorem dX9_farthest_11 : decode cX9_farthest 11 = .ok (.iconst (-1), 1) := by decide +kernel
theorem dX9_farthest_12 : decode cX9_farthest 12 = .ok (.if_icmp .eq 14, 3) := by decide +kernel
theorem dX9_farthest_26 : decode cX9_farthest 26 = .ok (.bipush (-2), 2) := by decide +kernel
theorem dX9_farthest_28 : decode cX9_farthest 28 = .ok (.ireturn, 1) := by decide +kernel
theorem dX9_fault_0 : decode cX9_fault 0 = .ok (.iload_n 1, 1) := by decide +kernel
theorem dX9_fault_1 : decode cX9_fault 1 = .ok (.ifCond .ne 11, 3) := by decide +kernel
theorem dX9_fault_4 : decode cX9_fault 4 = .ok (.aload_n 0, 1) := by decide +kernel
theorem dX9_fault_5 : decode cX9_fault 5 = .ok (.getfield 12, 3) := by decide +kernel
theorem dX9_fault_8 : decode cX9_fault 8 = .ok (.getfield 93, 3) := by decide +kernel
theorem dX9_fault_11 : decode cX9_fault 11 = .ok (.ireturn, 1) := by decide +kernel
theorem dX9_fault_12 : decode cX9_fault 12 = .ok (.iload_n 1, 1) := by decide +kernel
theorem dX9_fault_13 : decode cX9_fault 13 = .ok (.iconst 1, 1) := by decide +kernel
theorem dX9_fault_14 : decode cX9_fault 14 = .ok (.if_icmp .ne 13, 3) := by decide +kernel
theorem dX9_fault_17 : decode cX9_fault 17 = .ok (.aload_n 0, 1) := by decide +kernel
theorem dX9_fault_18 : decode cX9_fault 18 = .ok (.getfield 12, 3) := by decide +kernel
theorem dX9_fault_21 : decode cX9_fault 21 = .ok (.getfield 109, 3) := by decide +kernel
theorem dX9_fault_24 : decode cX9_fault 24 = .ok (.goto 4, 3) := by decide +kernel
theorem dX9_fault_27 : decode cX9_fault 27 = .ok (.iconst (-1), 1) := by decide +kernel
theorem dX9_fault_28 : decode cX9_fault 28 = .ok (.ireturn, 1) := by decide +kernel
theorem dX9_feed_0 : decode cX9_feed 0 = .ok (.aload_n 0, 1) := by decide +kernel
theorem dX9_feed_1 : decode cX9_feed 1 = .ok (.getfield 12, 3) := by decide +kernel
theorem dX9_feed_4 : decode cX9_feed 4 = .ok (.getfield 76, 3) := by decide +kernel
theorem dX9_feed_7 : decode cX9_feed 7 = .ok (.getfield 80, 3) := by decide +kernel
theorem dX9_feed_10 : decode cX9_feed 10 = .ok (.sipush 880, 3) := by decide +kernel
theorem dX9_feed_13 : decode cX9_feed 13 = .ok (.if_icmp .le 5, 3) := by decide +kernel
theorem dX9_feed_18 : decode cX9_feed 18 = .ok (.aload_n 0, 1) := by decide +kernel
theorem dX9_feed_19 : decode cX9_feed 19 = .ok (.getfield 12, 3) := by decide +kernel
theorem dX9_feed_22 : decode cX9_feed 22 = .ok (.getfield 76, 3) := by decide +kernel
theorem dX9_feed_25 : decode cX9_feed 25 = .ok (.iload_n 1, 1) := by decide +kernel
theorem dX9_feed_26 : decode cX9_feed 26 = .ok (.invokevirtual 86, 3) := by decide +kernel
theorem dX9_feed_29 : decode cX9_feed 29 = .ok (.aload_n 0, 1) := by decide +kernel
theorem dX9_feed_30 : decode cX9_feed 30 = .ok (.getfield 12, 3) := by decide +kernel
theorem dX9_feed_33 : decode cX9_feed 33 = .ok (.getfield 76, 3) := by decide +kernel
theorem dX9_feed_36 : decode cX9_feed 36 = .ok (.iload_n 2, 1) := by decide +kernel
theorem dX9_feed_37 : decode cX9_feed 37 = .ok (.invokevirtual 86, 3) := by decide +kernel
theorem dX9_feed_40 : decode cX9_feed 40 = .ok (.aload_n 0, 1) := by decide +kernel
theorem dX9_feed_41 : decode cX9_feed 41 = .ok (.getfield 12, 3) := by decide +kernel
theorem dX9_feed_44 : decode cX9_feed 44 = .ok (.getfield 76, 3) := by decide +kernel
theorem dX9_feed_47 : decode cX9_feed 47 = .ok (.iload_n 3, 1) := by decide +kernel
theorem dX9_feed_48 : decode cX9_feed 48 = .ok (.invokevirtual 86, 3) := by decide +kernel
theorem dX9_feed_51 : decode cX9_feed 51 = .ok (.aload_n 0, 1) := by decide +kernel
theorem dX9_feed_52 : decode cX9_feed 52 = .ok (.getfield 12, 3) := by decide +kernel
theorem dX9_feed_55 : decode cX9_feed 55 = .ok (.getfield 76, 3) := by decide +kernel
theorem dX9_feed_58 : decode cX9_feed 58 = .ok (.iload 4, 2) := by decide +kernel
theorem dX9_feed_60 : decode cX9_feed 60 = .ok (.invokevirtual 86, 3) := by decide +kernel
theorem dX9_feed_63 : decode cX9_feed 63 = .ok (.aload_n 0, 1) := by decide +kernel
theorem dX9_feed_64 : decode cX9_feed 64 = .ok (.getfield 12, 3) := by decide +kernel
theorem dX9_feed_67 : decode cX9_feed 67 = .ok (.getfield 76, 3) := by decide +kernel
theorem dX9_feed_70 : decode cX9_feed 70 = .ok (.iload 5, 2) := by decide +kernel
theorem dX9_feed_72 : decode cX9_feed 72 = .ok (.invokevirtual 86, 3) := by decide +kernel
theorem dX9_feed_75 : decode cX9_feed 75 = .ok (.aload_n 0, 1) := by decide +kernel
theorem dX9_feed_76 : decode cX9_feed 76 = .ok (.getfield 12, 3) := by decide +kernel
theorem dX9_feed_79 : decode cX9_feed 79 = .ok (.getfield 76, 3) := by decide +kernel
theorem dX9_feed_82 : decode cX9_feed 82 = .ok (.getfield 80, 3) := by decide +kernel
theorem dX9_feed_85 : decode cX9_feed 85 = .ok (.ireturn, 1) := by decide +kernel
theorem dX9_first_0 : decode cX9_first 0 = .ok (.aload_n 0, 1) := by decide +kernel
theorem dX9_first_1 : decode cX9_first 1 = .ok (.getfield 19, 3) := by decide +kernel
theorem dX9_first_4 : decode cX9_first 4 = .ok (.iload_n 1, 1) := by decide +kernel
theorem dX9_first_5 : decode cX9_first 5 = .ok (.i2l, 1) := by decide +kernel
theorem dX9_first_6 : decode cX9_first 6 = .ok (.invokevirtual 112, 3) := by decide +kernel
theorem dX9_first_9 : decode cX9_first 9 = .ok (.istore_n 2, 1) := by decide +kernel
theorem dX9_first_10 : decode cX9_first 10 = .ok (.iload_n 2, 1) := by decide +kernel
theorem dX9_first_11 : decode cX9_first 11 = .ok (.iconst (-1), 1) := by decide +kernel
theorem dX9_first_12 : decode cX9_first 12 = .ok (.if_icmp .ne 6, 3) := by decide +kernel
theorem dX9_first_15 : decode cX9_first 15 = .ok (.bipush (-2), 2) := by decide +kernel
theorem dX9_first_17 : decode cX9_first 17 = .ok (.ireturn, 1) := by decide +kernel
theorem dX9_ford_0 : decode cX9_ford 0 = .ok (.aload_n 0, 1) := by decide +kernel
theorem dX9_ford_1 : decode cX9_ford 1 = .ok (.getfield 19, 3) := by decide +kernel
theorem dX9_ford_4 : decode cX9_ford 4 = .ok (.getfield 106, 3) := by decide +kernel
theorem dX9_ford_7 : decode cX9_ford 7 = .ok (.ifCond .ne 6, 3) := by decide +kernel
theorem dX9_ford_10 : decode cX9_ford 10 = .ok (.bipush (-2), 2) := by decide +kernel
theorem dX9_ford_12 : decode cX9_ford 12 = .ok (.ireturn, 1) := by decide +kernel
theorem dX9_gets_0 : decode cX9_gets 0 = .ok (.aload_n 0, 1) := by decide +kernel
theorem dX9_gets_1 : decode cX9_gets 1 = .ok (.iload_n 1, 1) := by decide +kernel
theorem dX9_gets_2 : decode cX9_gets 2 = .ok (.iload_n 2, 1) := by decide +kernel
theorem dX9_gets_3 : decode cX9_gets 3 = .ok (.invokevirtual 341, 3) := by decide +kernel
theorem dX9_gets_6 : decode cX9_gets 6 = .ok (.ifCond .eq 18, 3) := by decide +kernel
theorem dX9_gets_24 : decode cX9_gets 24 = .ok (.sipush (-1000), 3) := by decide +kernel
theorem dX9_gets_27 : decode cX9_gets 27 = .ok (.ireturn, 1) := by decide +kernel
theorem dX9_grief_0 : decode cX9_grief 0 = .ok (.aload_n 0, 1) := by decide +kernel
theorem dX9_grief_1 : decode cX9_grief 1 = .ok (.getfield 19, 3) := by decide +kernel
theorem dX9_grief_4 : decode cX9_grief 4 = .ok (.iload_n 1, 1) := by decide +kernel
theorem dX9_grief_5 : decode cX9_grief 5 = .ok (.i2l, 1) := by decide +kernel
theorem dX9_grief_6 : decode cX9_grief 6 = .ok (.invokevirtual 128, 3) := by decide +kernel
theorem dX9_grief_9 : decode cX9_grief 9 = .ok (.ifCond .eq 7, 3) := by decide +kernel
theorem dX9_grief_16 : decode cX9_grief 16 = .ok (.bipush (-2), 2) := by decide +kernel
theorem dX9_grief_18 : decode cX9_grief 18 = .ok (.ireturn, 1) := by decide +kernel
theorem dX9_griefs_0 : decode cX9_griefs 0 = .ok (.aload_n 0, 1) := by decide +kernel
theorem dX9_griefs_1 : decode cX9_griefs 1 = .ok (.iload_n 1, 1) := by decide +kernel
theorem dX9_griefs_2 : decode cX9_griefs 2 = .ok (.iload_n 2, 1) := by decide +kernel
theorem dX9_griefs_3 : decode cX9_griefs 3 = .ok (.invokevirtual 295, 3) := by decide +kernel
theorem dX9_griefs_6 : decode cX9_griefs 6 = .ok (.istore_n 3, 1) := by decide +kernel
theorem dX9_griefs_7 : decode cX9_griefs 7 = .ok (.iload_n 3, 1) := by decide +kernel
theorem dX9_griefs_8 : decode cX9_griefs 8 = .ok (.ifCond .eq 5, 3) := by decide +kernel
theorem dX9_griefs_11 : decode cX9_griefs 11 = .ok (.iload_n 3, 1) := by decide +kernel
theorem dX9_griefs_12 : decode cX9_griefs 12 = .ok (.ireturn, 1) := by decide +kernel
theorem dX9_ground_0 : decode cX9_ground 0 = .ok (.aload_n 0, 1) := by decide +kernel
theorem dX9_ground_1 : decode cX9_ground 1 = .ok (.getfield 19, 3) := by decide +kernel
theorem dX9_ground_4 : decode cX9_ground 4 = .ok (.iload_n 1, 1) := by decide +kernel
theorem dX9_ground_5 : decode cX9_ground 5 = .ok (.i2l, 1) := by decide +kernel
theorem dX9_ground_6 : decode cX9_ground 6 = .ok (.invokevirtual 128, 3) := by decide +kernel
theorem dX9_ground_9 : decode cX9_ground 9 = .ok (.ifCond .ne 6, 3) := by decide +kernel
theorem dX9_ground_12 : decode cX9_ground 12 = .ok (.bipush (-2), 2) := by decide +kernel
theorem dX9_ground_14 : decode cX9_ground 14 = .ok (.ireturn, 1) := by decide +kernel
theorem dX9_haunt_0 : decode cX9_haunt 0 = .ok (.aload_n 0, 1) := by decide +kernel
theorem dX9_haunt_1 : decode cX9_haunt 1 = .ok (.getfield 19, 3) := by decide +kernel
theorem dX9_haunt_4 : decode cX9_haunt 4 = .ok (.iload_n 1, 1) := by decide +kernel
theorem dX9_haunt_5 : decode cX9_haunt 5 = .ok (.i2l, 1) := by decide +kernel
theorem dX9_haunt_6 : decode cX9_haunt 6 = .ok (.invokevirtual 128, 3) := by decide +kernel
theorem dX9_haunt_9 : decode cX9_haunt 9 = .ok (.ifCond .ne 6, 3) := by decide +kernel
theorem dX9_haunt_12 : decode cX9_haunt 12 = .ok (.bipush (-2), 2) := by decide +kernel
theorem dX9_haunt_14 : decode cX9_haunt 14 = .ok (.ireturn, 1) := by decide +kernel
theorem dX9_house_0 : decode cX9_house 0 = .ok (.aload_n 0, 1) := by decide +kernel
theorem dX9_house_1 : decode cX9_house 1 = .ok (.getfield 19, 3) := by decide +kernel
theorem dX9_house_4 : decode cX9_house 4 = .ok (.iload_n 1, 1) := by decide +kernel
theorem dX9_house_5 : decode cX9_house 5 = .ok (.invokevirtual 247, 3) := by decide +kernel
theorem dX9_house_8 : decode cX9_house 8 = .ok (.ifCond .eq 14, 3) := by decide +kernel
theorem dX9_house_22 : decode cX9_house 22 = .ok (.bipush (-2), 2) := by decide +kernel
theorem dX9_house_24 : decode cX9_house 24 = .ok (.ireturn, 1) := by decide +kernel
theorem dX9_image_0 : decode cX9_image 0 = .ok (.iload_n 1, 1) := by decide +kernel
theorem dX9_image_1 : decode cX9_image 1 = .ok (.ifCond .lt 8, 3) := by decide +kernel
theorem dX9_image_4 : decode cX9_image 4 = .ok (.iload_n 1, 1) := by decide +kernel
theorem dX9_image_5 : decode cX9_image 5 = .ok (.iconst 3, 1) := by decide +kernel
theorem dX9_image_6 : decode cX9_image 6 = .ok (.if_icmp .lt 6, 3) := by decide +kernel
theorem dX9_image_9 : decode cX9_image 9 = .ok (.bipush (-2), 2) := by decide +kernel
theorem dX9_image_11 : decode cX9_image 11 = .ok (.ireturn, 1) := by decide +kernel
theorem dX9_image_12 : decode cX9_image 12 = .ok (.aload_n 0, 1) := by decide +kernel
theorem dX9_image_13 : decode cX9_image 13 = .ok (.getfield 23, 3) := by decide +kernel
theorem dX9_image_16 : decode cX9_image 16 = .ok (.iload_n 1, 1) := by decide +kernel
theorem dX9_image_17 : decode cX9_image 17 = .ok (.aaload, 1) := by decide +kernel
theorem dX9_image_18 : decode cX9_image 18 = .ok (.ifnonnull 16, 3) := by decide +kernel
theorem dX9_image_21 : decode cX9_image 21 = .ok (.aload_n 0, 1) := by decide +kernel
theorem dX9_image_22 : decode cX9_image 22 = .ok (.getfield 23, 3) := by decide +kernel
theorem dX9_image_25 : decode cX9_image 25 = .ok (.iload_n 1, 1) := by decide +kernel
theorem dX9_image_26 : decode cX9_image 26 = .ok (.new 16, 3) := by decide +kernel
theorem dX9_image_29 : decode cX9_image 29 = .ok (.dup, 1) := by decide +kernel
theorem dX9_image_30 : decode cX9_image 30 = .ok (.invokespecial 18, 3) := by decide +kernel
theorem dX9_image_33 : decode cX9_image 33 = .ok (.aastore, 1) := by decide +kernel
theorem dX9_image_34 : decode cX9_image 34 = .ok (.aload_n 0, 1) := by decide +kernel
theorem dX9_image_35 : decode cX9_image 35 = .ok (.getfield 23, 3) := by decide +kernel
theorem dX9_image_38 : decode cX9_image 38 = .ok (.iload_n 1, 1) := by decide +kernel
theorem dX9_image_39 : decode cX9_image 39 = .ok (.aaload, 1) := by decide +kernel
theorem dX9_image_40 : decode cX9_image 40 = .ok (.aload_n 0, 1) := by decide +kernel
theorem dX9_image_41 : decode cX9_image 41 = .ok (.getfield 19, 3) := by decide +kernel
theorem dX9_image_44 : decode cX9_image 44 = .ok (.invokevirtual 99, 3) := by decide +kernel
theorem dX9_image_47 : decode cX9_image 47 = .ok (.iconst 0, 1) := by decide +kernel
theorem dX9_image_48 : decode cX9_image 48 = .ok (.ireturn, 1) := by decide +kernel
theorem dX9_isSlot_0 : decode cX9_isSlot 0 = .ok (.iload_n 0, 1) := by decide +kernel
theorem dX9_isSlot_1 : decode cX9_isSlot 1 = .ok (.ifCond .lt 12, 3) := by decide +kernel
theorem dX9_isSlot_4 : decode cX9_isSlot 4 = .ok (.iload_n 0, 1) := by decide +kernel
theorem dX9_isSlot_5 : decode cX9_isSlot 5 = .ok (.iconst 4, 1) := by decide +kernel
theorem dX9_isSlot_6 : decode cX9_isSlot 6 = .ok (.if_icmp .ge 7, 3) := by decide +kernel
theorem dX9_isSlot_9 : decode cX9_isSlot 9 = .ok (.iconst 1, 1) := by decide +kernel
theorem dX9_isSlot_10 : decode cX9_isSlot 10 = .ok (.goto 4, 3) := by decide +kernel
theorem dX9_isSlot_13 : decode cX9_isSlot 13 = .ok (.iconst 0, 1) := by decide +kernel
theorem dX9_isSlot_14 : decode cX9_isSlot 14 = .ok (.ireturn, 1) := by decide +kernel
theorem dX9_joins_0 : decode cX9_joins 0 = .ok (.aload_n 0, 1) := by decide +kernel
theorem dX9_joins_1 : decode cX9_joins 1 = .ok (.getfield 19, 3) := by decide +kernel
theorem dX9_joins_4 : decode cX9_joins 4 = .ok (.iload_n 1, 1) := by decide +kernel
theorem dX9_joins_5 : decode cX9_joins 5 = .ok (.i2l, 1) := by decide +kernel
theorem dX9_joins_6 : decode cX9_joins 6 = .ok (.invokevirtual 112, 3) := by decide +kernel
theorem dX9_joins_9 : decode cX9_joins 9 = .ok (.istore_n 3, 1) := by decide +kernel
theorem dX9_joins_10 : decode cX9_joins 10 = .ok (.iload_n 3, 1) := by decide +kernel
theorem dX9_joins_11 : decode cX9_joins 11 = .ok (.iconst (-1), 1) := by decide +kernel
theorem dX9_joins_12 : decode cX9_joins 12 = .ok (.if_icmp .eq 14, 3) := by decide +kernel
theorem dX9_joins_26 : decode cX9_joins 26 = .ok (.bipush (-2), 2) := by decide +kernel
theorem dX9_joins_28 : decode cX9_joins 28 = .ok (.ireturn, 1) := by decide +kernel
theorem dX9_keeps_0 : decode cX9_keeps 0 = .ok (.aload_n 0, 1) := by decide +kernel
theorem dX9_keeps_1 : decode cX9_keeps 1 = .ok (.getfield 19, 3) := by decide +kernel
theorem dX9_keeps_4 : decode cX9_keeps 4 = .ok (.iload_n 1, 1) := by decide +kernel
theorem dX9_keeps_5 : decode cX9_keeps 5 = .ok (.i2l, 1) := by decide +kernel
theorem dX9_keeps_6 : decode cX9_keeps 6 = .ok (.invokevirtual 128, 3) := by decide +kernel
theorem dX9_keeps_9 : decode cX9_keeps 9 = .ok (.ifCond .ne 6, 3) := by decide +kernel
theorem dX9_keeps_12 : decode cX9_keeps 12 = .ok (.bipush (-2), 2) := by decide +kernel
theorem dX9_keeps_14 : decode cX9_keeps 14 = .ok (.ireturn, 1) := by decide +kernel
theorem dX9_law_0 : decode cX9_law 0 = .ok (.aload_n 0, 1) := by decide +kernel
theorem dX9_law_1 : decode cX9_law 1 = .ok (.getfield 19, 3) := by decide +kernel
theorem dX9_law_4 : decode cX9_law 4 = .ok (.getfield 106, 3) := by decide +kernel
theorem dX9_law_7 : decode cX9_law 7 = .ok (.ifCond .ne 6, 3) := by decide +kernel
theorem dX9_law_10 : decode cX9_law 10 = .ok (.bipush (-2), 2) := by decide +kernel
theorem dX9_law_12 : decode cX9_law 12 = .ok (.ireturn, 1) := by decide +kernel
theorem dX9_laws_0 : decode cX9_laws 0 = .ok (.aload_n 0, 1) := by decide +kernel
theorem dX9_laws_1 : decode cX9_laws 1 = .ok (.iload_n 1, 1) := by decide +kernel
theorem dX9_laws_2 : decode cX9_laws 2 = .ok (.invokevirtual 317, 3) := by decide +kernel
theorem dX9_laws_5 : decode cX9_laws 5 = .ok (.istore_n 2, 1) := by decide +kernel
theorem dX9_laws_6 : decode cX9_laws 6 = .ok (.iload_n 2, 1) := by decide +kernel
theorem dX9_laws_7 : decode cX9_laws 7 = .ok (.ifCond .eq 5, 3) := by decide +kernel
theorem dX9_laws_10 : decode cX9_laws 10 = .ok (.iload_n 2, 1) := by decide +kernel
theorem dX9_laws_11 : decode cX9_laws 11 = .ok (.ireturn, 1) := by decide +kernel
theorem dX9_leaves_0 : decode cX9_leaves 0 = .ok (.aload_n 0, 1) := by decide +kernel
theorem dX9_leaves_1 : decode cX9_leaves 1 = .ok (.iload_n 1, 1) := by decide +kernel
theorem dX9_leaves_2 : decode cX9_leaves 2 = .ok (.iload_n 2, 1) := by decide +kernel
theorem dX9_leaves_3 : decode cX9_leaves 3 = .ok (.invokevirtual 295, 3) := by decide +kernel
theorem dX9_leaves_6 : decode cX9_leaves 6 = .ok (.istore_n 3, 1) := by decide +kernel
theorem dX9_leaves_7 : decode cX9_leaves 7 = .ok (.iload_n 3, 1) := by decide +kernel
theorem dX9_leaves_8 : decode cX9_leaves 8 = .ok (.ifCond .eq 5, 3) := by decide +kernel
theorem dX9_leaves_11 : decode cX9_leaves 11 = .ok (.iload_n 3, 1) := by decide +kernel
theorem dX9_leaves_12 : decode cX9_leaves 12 = .ok (.ireturn, 1) := by decide +kernel
theorem dX9_line_0 : decode cX9_line 0 = .ok (.aload_n 0, 1) := by decide +kernel
theorem dX9_line_1 : decode cX9_line 1 = .ok (.getfield 19, 3) := by decide +kernel
theorem dX9_line_4 : decode cX9_line 4 = .ok (.iload_n 1, 1) := by decide +kernel
theorem dX9_line_5 : decode cX9_line 5 = .ok (.invokevirtual 183, 3) := by decide +kernel
theorem dX9_line_8 : decode cX9_line 8 = .ok (.ifCond .ne 6, 3) := by decide +kernel
theorem dX9_line_11 : decode cX9_line 11 = .ok (.bipush (-2), 2) := by decide +kernel
theorem dX9_line_13 : decode cX9_line 13 = .ok (.ireturn, 1) := by decide +kernel
theorem dX9_loop_0 : decode cX9_loop 0 = .ok (.aload_n 0, 1) := by decide +kernel
theorem dX9_loop_1 : decode cX9_loop 1 = .ok (.getfield 19, 3) := by decide +kernel
theorem dX9_loop_4 : decode cX9_loop 4 = .ok (.iload_n 1, 1) := by decide +kernel
theorem dX9_loop_5 : decode cX9_loop 5 = .ok (.i2l, 1) := by decide +kernel
theorem dX9_loop_6 : decode cX9_loop 6 = .ok (.invokevirtual 128, 3) := by decide +kernel
theorem dX9_loop_9 : decode cX9_loop 9 = .ok (.ifCond .ne 6, 3) := by decide +kernel
theorem dX9_loop_12 : decode cX9_loop 12 = .ok (.bipush (-2), 2) := by decide +kernel
theorem dX9_loop_14 : decode cX9_loop 14 = .ok (.ireturn, 1) := by decide +kernel
theorem dX9_luck_0 : decode cX9_luck 0 = .ok (.aload_n 0, 1) := by decide +kernel
theorem dX9_luck_1 : decode cX9_luck 1 = .ok (.getfield 19, 3) := by decide +kernel
theorem dX9_luck_4 : decode cX9_luck 4 = .ok (.iload_n 3, 1) := by decide +kernel
theorem dX9_luck_5 : decode cX9_luck 5 = .ok (.i2l, 1) := by decide +kernel
theorem dX9_luck_6 : decode cX9_luck 6 = .ok (.invokevirtual 112, 3) := by decide +kernel
theorem dX9_luck_9 : decode cX9_luck 9 = .ok (.istore 4, 2) := by decide +kernel
theorem dX9_luck_11 : decode cX9_luck 11 = .ok (.iload 4, 2) := by decide +kernel
theorem dX9_luck_13 : decode cX9_luck 13 = .ok (.iconst (-1), 1) := by decide +kernel
theorem dX9_luck_14 : decode cX9_luck 14 = .ok (.if_icmp .eq 21, 3) := by decide +kernel
theorem dX9_luck_35 : decode cX9_luck 35 = .ok (.bipush (-2), 2) := by decide +kernel
theorem dX9_luck_37 : decode cX9_luck 37 = .ok (.ireturn, 1) := by decide +kernel
theorem dX9_mean_0 : decode cX9_mean 0 = .ok (.aload_n 0, 1) := by decide +kernel
theorem dX9_mean_1 : decode cX9_mean 1 = .ok (.getfield 19, 3) := by decide +kernel
theorem dX9_mean_4 : decode cX9_mean 4 = .ok (.getfield 106, 3) := by decide +kernel
theorem dX9_mean_7 : decode cX9_mean 7 = .ok (.ifCond .eq 10, 3) := by decide +kernel
theorem dX9_mean_17 : decode cX9_mean 17 = .ok (.ldc2_w 349, 3) := by decide +kernel
theorem dX9_mean_20 : decode cX9_mean 20 = .ok (.lreturn, 1) := by decide +kernel
theorem dX9_missing_0 : decode cX9_missing 0 = .ok (.aload_n 0, 1) := by decide +kernel
theorem dX9_missing_1 : decode cX9_missing 1 = .ok (.getfield 19, 3) := by decide +kernel
theorem dX9_missing_4 : decode cX9_missing 4 = .ok (.iload_n 1, 1) := by decide +kernel
theorem dX9_missing_5 : decode cX9_missing 5 = .ok (.invokevirtual 183, 3) := by decide +kernel
theorem dX9_missing_8 : decode cX9_missing 8 = .ok (.ifCond .ne 6, 3) := by decide +kernel
theorem dX9_missing_11 : decode cX9_missing 11 = .ok (.bipush (-2), 2) := by decide +kernel
theorem dX9_missing_13 : decode cX9_missing 13 = .ok (.ireturn, 1) := by decide +kernel
theorem dX9_moved_0 : decode cX9_moved 0 = .ok (.aload_n 0, 1) := by decide +kernel
theorem dX9_moved_1 : decode cX9_moved 1 = .ok (.getfield 19, 3) := by decide +kernel
theorem dX9_moved_4 : decode cX9_moved 4 = .ok (.iload_n 1, 1) := by decide +kernel
theorem dX9_moved_5 : decode cX9_moved 5 = .ok (.invokevirtual 247, 3) := by decide +kernel
theorem dX9_moved_8 : decode cX9_moved 8 = .ok (.ifCond .eq 15, 3) := by decide +kernel
theorem dX9_moved_23 : decode cX9_moved 23 = .ok (.bipush (-2), 2) := by decide +kernel
theorem dX9_moved_25 : decode cX9_moved 25 = .ok (.ireturn, 1) := by decide +kernel
theorem dX9_moves_0 : decode cX9_moves 0 = .ok (.aload_n 0, 1) := by decide +kernel
theorem dX9_moves_1 : decode cX9_moves 1 = .ok (.getfield 19, 3) := by decide +kernel
theorem dX9_moves_4 : decode cX9_moves 4 = .ok (.iload_n 1, 1) := by decide +kernel
theorem dX9_moves_5 : decode cX9_moves 5 = .ok (.i2l, 1) := by decide +kernel
theorem dX9_moves_6 : decode cX9_moves 6 = .ok (.invokevirtual 128, 3) := by decide +kernel
theorem dX9_moves_9 : decode cX9_moves 9 = .ok (.ifCond .ne 6, 3) := by decide +kernel
theorem dX9_moves_12 : decode cX9_moves 12 = .ok (.bipush (-2), 2) := by decide +kernel
theorem dX9_moves_14 : decode cX9_moves 14 = .ok (.ireturn, 1) := by decide +kernel
theorem dX9_net_0 : decode cX9_net 0 = .ok (.aload_n 0, 1) := by decide +kernel
theorem dX9_net_1 : decode cX9_net 1 = .ok (.getfield 19, 3) := by decide +kernel
theorem dX9_net_4 : decode cX9_net 4 = .ok (.iload_n 1, 1) := by decide +kernel
theorem dX9_net_5 : decode cX9_net 5 = .ok (.i2l, 1) := by decide +kernel
theorem dX9_net_6 : decode cX9_net 6 = .ok (.invokevirtual 112, 3) := by decide +kernel
theorem dX9_net_9 : decode cX9_net 9 = .ok (.istore_n 3, 1) := by decide +kernel
theorem dX9_net_10 : decode cX9_net 10 = .ok (.iload_n 3, 1) := by decide +kernel
theorem dX9_net_11 : decode cX9_net 11 = .ok (.iconst (-1), 1) := by decide +kernel
theorem dX9_net_12 : decode cX9_net 12 = .ok (.if_icmp .eq 14, 3) := by decide +kernel
theorem dX9_net_26 : decode cX9_net 26 = .ok (.bipush (-2), 2) := by decide +kernel
theorem dX9_net_28 : decode cX9_net 28 = .ok (.ireturn, 1) := by decide +kernel
theorem dX9_nets_0 : decode cX9_nets 0 = .ok (.aload_n 0, 1) := by decide +kernel
theorem dX9_nets_1 : decode cX9_nets 1 = .ok (.getfield 19, 3) := by decide +kernel
theorem dX9_nets_4 : decode cX9_nets 4 = .ok (.iload_n 1, 1) := by decide +kernel
theorem dX9_nets_5 : decode cX9_nets 5 = .ok (.invokevirtual 183, 3) := by decide +kernel
theorem dX9_nets_8 : decode cX9_nets 8 = .ok (.ifCond .ne 6, 3) := by decide +kernel
theorem dX9_nets_11 : decode cX9_nets 11 = .ok (.bipush (-2), 2) := by decide +kernel
theorem dX9_nets_13 : decode cX9_nets 13 = .ok (.ireturn, 1) := by decide +kernel
theorem dX9_paste_0 : decode cX9_paste 0 = .ok (.iload_n 1, 1) := by decide +kernel
theorem dX9_paste_1 : decode cX9_paste 1 = .ok (.invokestatic 388, 3) := by decide +kernel
theorem dX9_paste_4 : decode cX9_paste 4 = .ok (.ifCond .eq 10, 3) := by decide +kernel
theorem dX9_paste_7 : decode cX9_paste 7 = .ok (.iload_n 3, 1) := by decide +kernel
theorem dX9_paste_8 : decode cX9_paste 8 = .ok (.invokestatic 388, 3) := by decide +kernel
theorem dX9_paste_11 : decode cX9_paste 11 = .ok (.ifCond .ne 6, 3) := by decide +kernel
theorem dX9_paste_14 : decode cX9_paste 14 = .ok (.bipush (-2), 2) := by decide +kernel
theorem dX9_paste_16 : decode cX9_paste 16 = .ok (.ireturn, 1) := by decide +kernel
theorem dX9_paste_17 : decode cX9_paste 17 = .ok (.aload_n 0, 1) := by decide +kernel
theorem dX9_paste_18 : decode cX9_paste 18 = .ok (.getfield 61, 3) := by decide +kernel
theorem dX9_paste_21 : decode cX9_paste 21 = .ok (.iload_n 1, 1) := by decide +kernel
theorem dX9_paste_22 : decode cX9_paste 22 = .ok (.invokevirtual 395, 3) := by decide +kernel
theorem dX9_paste_25 : decode cX9_paste 25 = .ok (.ifCond .ne 14, 3) := by decide +kernel
theorem dX9_paste_39 : decode cX9_paste 39 = .ok (.bipush (-6), 2) := by decide +kernel
theorem dX9_paste_41 : decode cX9_paste 41 = .ok (.ireturn, 1) := by decide +kernel
theorem dX9_pegs_0 : decode cX9_pegs 0 = .ok (.aload_n 0, 1) := by decide +kernel
theorem dX9_pegs_1 : decode cX9_pegs 1 = .ok (.getfield 19, 3) := by decide +kernel
theorem dX9_pegs_4 : decode cX9_pegs 4 = .ok (.iload_n 1, 1) := by decide +kernel
theorem dX9_pegs_5 : decode cX9_pegs 5 = .ok (.invokevirtual 183, 3) := by decide +kernel
theorem dX9_pegs_8 : decode cX9_pegs 8 = .ok (.ifCond .eq 14, 3) := by decide +kernel
theorem dX9_pegs_22 : decode cX9_pegs 22 = .ok (.bipush (-2), 2) := by decide +kernel
theorem dX9_pegs_24 : decode cX9_pegs 24 = .ok (.ireturn, 1) := by decide +kernel
theorem dX9_rate_0 : decode cX9_rate 0 = .ok (.aload_n 0, 1) := by decide +kernel
theorem dX9_rate_1 : decode cX9_rate 1 = .ok (.getfield 19, 3) := by decide +kernel
theorem dX9_rate_4 : decode cX9_rate 4 = .ok (.iload_n 1, 1) := by decide +kernel
theorem dX9_rate_5 : decode cX9_rate 5 = .ok (.i2l, 1) := by decide +kernel
theorem dX9_rate_6 : decode cX9_rate 6 = .ok (.invokevirtual 128, 3) := by decide +kernel
theorem dX9_rate_9 : decode cX9_rate 9 = .ok (.ifCond .eq 14, 3) := by decide +kernel
theorem dX9_rate_23 : decode cX9_rate 23 = .ok (.bipush (-2), 2) := by decide +kernel
theorem dX9_rate_25 : decode cX9_rate 25 = .ok (.ireturn, 1) := by decide +kernel
theorem dX9_refusalOfRow_0 : decode cX9_refusalOfRow 0 = .ok (.aload_n 0, 1) := by decide +kernel
theorem dX9_refusalOfRow_1 : decode cX9_refusalOfRow 1 = .ok (.getfield 19, 3) := by decide +kernel
theorem dX9_refusalOfRow_4 : decode cX9_refusalOfRow 4 = .ok (.getfield 106, 3) := by decide +kernel
theorem dX9_refusalOfRow_7 : decode cX9_refusalOfRow 7 = .ok (.ifCond .eq 10, 3) := by decide +kernel
theorem dX9_refusalOfRow_17 : decode cX9_refusalOfRow 17 = .ok (.bipush (-2), 2) := by decide +kernel
theorem dX9_refusalOfRow_19 : decode cX9_refusalOfRow 19 = .ok (.ireturn, 1) := by decide +kernel
theorem dX9_refusalOfSeen_0 : decode cX9_refusalOfSeen 0 = .ok (.aload_n 0, 1) := by decide +kernel
theorem dX9_refusalOfSeen_1 : decode cX9_refusalOfSeen 1 = .ok (.getfield 19, 3) := by decide +kernel
theorem dX9_refusalOfSeen_4 : decode cX9_refusalOfSeen 4 = .ok (.iload_n 2, 1) := by decide +kernel
theorem dX9_refusalOfSeen_5 : decode cX9_refusalOfSeen 5 = .ok (.i2l, 1) := by decide +kernel
theorem dX9_refusalOfSeen_6 : decode cX9_refusalOfSeen 6 = .ok (.invokevirtual 128, 3) := by decide +kernel
theorem dX9_refusalOfSeen_9 : decode cX9_refusalOfSeen 9 = .ok (.ifCond .eq 11, 3) := by decide +kernel
theorem dX9_refusalOfSeen_20 : decode cX9_refusalOfSeen 20 = .ok (.bipush (-2), 2) := by decide +kernel
theorem dX9_refusalOfSeen_22 : decode cX9_refusalOfSeen 22 = .ok (.ireturn, 1) := by decide +kernel
theorem dX9_rests_0 : decode cX9_rests 0 = .ok (.aload_n 0, 1) := by decide +kernel
theorem dX9_rests_1 : decode cX9_rests 1 = .ok (.iload_n 1, 1) := by decide +kernel
theorem dX9_rests_2 : decode cX9_rests 2 = .ok (.iload_n 2, 1) := by decide +kernel
theorem dX9_rests_3 : decode cX9_rests 3 = .ok (.invokevirtual 341, 3) := by decide +kernel
theorem dX9_rests_6 : decode cX9_rests 6 = .ok (.ifCond .ne 6, 3) := by decide +kernel
theorem dX9_rests_9 : decode cX9_rests 9 = .ok (.bipush (-2), 2) := by decide +kernel
theorem dX9_rests_11 : decode cX9_rests 11 = .ok (.ireturn, 1) := by decide +kernel
theorem dX9_rings_0 : decode cX9_rings 0 = .ok (.aload_n 0, 1) := by decide +kernel
theorem dX9_rings_1 : decode cX9_rings 1 = .ok (.getfield 19, 3) := by decide +kernel
theorem dX9_rings_4 : decode cX9_rings 4 = .ok (.iload_n 1, 1) := by decide +kernel
theorem dX9_rings_5 : decode cX9_rings 5 = .ok (.invokevirtual 183, 3) := by decide +kernel
theorem dX9_rings_8 : decode cX9_rings 8 = .ok (.ifCond .ne 6, 3) := by decide +kernel
theorem dX9_rings_11 : decode cX9_rings 11 = .ok (.bipush (-2), 2) := by decide +kernel
theorem dX9_rings_13 : decode cX9_rings 13 = .ok (.ireturn, 1) := by decide +kernel
theorem dX9_road_0 : decode cX9_road 0 = .ok (.aload_n 0, 1) := by decide +kernel
theorem dX9_road_1 : decode cX9_road 1 = .ok (.getfield 19, 3) := by decide +kernel
theorem dX9_road_4 : decode cX9_road 4 = .ok (.iload_n 1, 1) := by decide +kernel
theorem dX9_road_5 : decode cX9_road 5 = .ok (.i2l, 1) := by decide +kernel
theorem dX9_road_6 : decode cX9_road 6 = .ok (.invokevirtual 112, 3) := by decide +kernel
theorem dX9_road_9 : decode cX9_road 9 = .ok (.istore_n 3, 1) := by decide +kernel
theorem dX9_road_10 : decode cX9_road 10 = .ok (.iload_n 3, 1) := by decide +kernel
theorem dX9_road_11 : decode cX9_road 11 = .ok (.iconst (-1), 1) := by decide +kernel
theorem dX9_road_12 : decode cX9_road 12 = .ok (.if_icmp .eq 14, 3) := by decide +kernel
theorem dX9_road_26 : decode cX9_road 26 = .ok (.bipush (-2), 2) := by decide +kernel
theorem dX9_road_28 : decode cX9_road 28 = .ok (.ireturn, 1) := by decide +kernel
theorem dX9_roads_0 : decode cX9_roads 0 = .ok (.aload_n 0, 1) := by decide +kernel
theorem dX9_roads_1 : decode cX9_roads 1 = .ok (.getfield 19, 3) := by decide +kernel
theorem dX9_roads_4 : decode cX9_roads 4 = .ok (.iload_n 1, 1) := by decide +kernel
theorem dX9_roads_5 : decode cX9_roads 5 = .ok (.invokevirtual 183, 3) := by decide +kernel
theorem dX9_roads_8 : decode cX9_roads 8 = .ok (.ifCond .eq 18, 3) := by decide +kernel
theorem dX9_roads_26 : decode cX9_roads 26 = .ok (.bipush (-2), 2) := by decide +kernel
theorem dX9_roads_28 : decode cX9_roads 28 = .ok (.ireturn, 1) := by decide +kernel
theorem dX9_row_0 : decode cX9_row 0 = .ok (.iload_n 1, 1) := by decide +kernel
theorem dX9_row_1 : decode cX9_row 1 = .ok (.invokestatic 388, 3) := by decide +kernel
theorem dX9_row_4 : decode cX9_row 4 = .ok (.ifCond .eq 18, 3) := by decide +kernel
theorem dX9_row_7 : decode cX9_row 7 = .ok (.iload_n 2, 1) := by decide +kernel
theorem dX9_row_8 : decode cX9_row 8 = .ok (.ifCond .lt 14, 3) := by decide +kernel
theorem dX9_row_11 : decode cX9_row 11 = .ok (.iload_n 2, 1) := by decide +kernel
theorem dX9_row_12 : decode cX9_row 12 = .ok (.iconst 3, 1) := by decide +kernel
theorem dX9_row_13 : decode cX9_row 13 = .ok (.if_icmp .gt 9, 3) := by decide +kernel
theorem dX9_row_16 : decode cX9_row 16 = .ok (.iload_n 3, 1) := by decide +kernel
theorem dX9_row_17 : decode cX9_row 17 = .ok (.bipush 60, 2) := by decide +kernel
theorem dX9_row_19 : decode cX9_row 19 = .ok (.if_icmp .le 6, 3) := by decide +kernel
theorem dX9_row_22 : decode cX9_row 22 = .ok (.bipush (-2), 2) := by decide +kernel
theorem dX9_row_24 : decode cX9_row 24 = .ok (.ireturn, 1) := by decide +kernel
theorem dX9_row_25 : decode cX9_row 25 = .ok (.iload_n 3, 1) := by decide +kernel
theorem dX9_row_26 : decode cX9_row 26 = .ok (.ifCond .ge 6, 3) := by decide +kernel
theorem dX9_row_29 : decode cX9_row 29 = .ok (.bipush (-3), 2) := by decide +kernel
theorem dX9_row_31 : decode cX9_row 31 = .ok (.ireturn, 1) := by decide +kernel
theorem dX9_row_32 : decode cX9_row 32 = .ok (.aload_n 0, 1) := by decide +kernel
theorem dX9_row_33 : decode cX9_row 33 = .ok (.getfield 61, 3) := by decide +kernel
theorem dX9_row_36 : decode cX9_row 36 = .ok (.iload_n 1, 1) := by decide +kernel
theorem dX9_row_37 : decode cX9_row 37 = .ok (.iload_n 2, 1) := by decide +kernel
theorem dX9_row_38 : decode cX9_row 38 = .ok (.iload_n 3, 1) := by decide +kernel
theorem dX9_row_39 : decode cX9_row 39 = .ok (.invokevirtual 391, 3) := by decide +kernel
theorem dX9_row_42 : decode cX9_row 42 = .ok (.iconst 0, 1) := by decide +kernel
theorem dX9_row_43 : decode cX9_row 43 = .ok (.ireturn, 1) := by decide +kernel
theorem dX9_served_0 : decode cX9_served 0 = .ok (.aload_n 0, 1) := by decide +kernel
theorem dX9_served_1 : decode cX9_served 1 = .ok (.getfield 19, 3) := by decide +kernel
theorem dX9_served_4 : decode cX9_served 4 = .ok (.iload_n 1, 1) := by decide +kernel
theorem dX9_served_5 : decode cX9_served 5 = .ok (.invokevirtual 183, 3) := by decide +kernel
theorem dX9_served_8 : decode cX9_served 8 = .ok (.ifCond .ne 6, 3) := by decide +kernel
theorem dX9_served_11 : decode cX9_served 11 = .ok (.bipush (-2), 2) := by decide +kernel
theorem dX9_served_13 : decode cX9_served 13 = .ok (.ireturn, 1) := by decide +kernel
theorem dX9_share_0 : decode cX9_share 0 = .ok (.aload_n 0, 1) := by decide +kernel
theorem dX9_share_1 : decode cX9_share 1 = .ok (.getfield 19, 3) := by decide +kernel
theorem dX9_share_4 : decode cX9_share 4 = .ok (.iload_n 1, 1) := by decide +kernel
theorem dX9_share_5 : decode cX9_share 5 = .ok (.i2l, 1) := by decide +kernel
theorem dX9_share_6 : decode cX9_share 6 = .ok (.invokevirtual 128, 3) := by decide +kernel
theorem dX9_share_9 : decode cX9_share 9 = .ok (.ifCond .eq 10, 3) := by decide +kernel
theorem dX9_share_19 : decode cX9_share 19 = .ok (.ldc_w 333, 3) := by decide +kernel
theorem dX9_share_22 : decode cX9_share 22 = .ok (.ireturn, 1) := by decide +kernel
theorem dX9_shared_0 : decode cX9_shared 0 = .ok (.aload_n 0, 1) := by decide +kernel
theorem dX9_shared_1 : decode cX9_shared 1 = .ok (.getfield 19, 3) := by decide +kernel
theorem dX9_shared_4 : decode cX9_shared 4 = .ok (.iload_n 1, 1) := by decide +kernel
theorem dX9_shared_5 : decode cX9_shared 5 = .ok (.i2l, 1) := by decide +kernel
theorem dX9_shared_6 : decode cX9_shared 6 = .ok (.invokevirtual 128, 3) := by decide +kernel
theorem dX9_shared_9 : decode cX9_shared 9 = .ok (.ifCond .eq 15, 3) := by decide +kernel
theorem dX9_shared_24 : decode cX9_shared 24 = .ok (.bipush (-2), 2) := by decide +kernel
theorem dX9_shared_26 : decode cX9_shared 26 = .ok (.ireturn, 1) := by decide +kernel
theorem dX9_stands_0 : decode cX9_stands 0 = .ok (.aload_n 0, 1) := by decide +kernel
theorem dX9_stands_1 : decode cX9_stands 1 = .ok (.getfield 19, 3) := by decide +kernel
theorem dX9_stands_4 : decode cX9_stands 4 = .ok (.iload_n 1, 1) := by decide +kernel
theorem dX9_stands_5 : decode cX9_stands 5 = .ok (.i2l, 1) := by decide +kernel
theorem dX9_stands_6 : decode cX9_stands 6 = .ok (.invokevirtual 128, 3) := by decide +kernel
theorem dX9_stands_9 : decode cX9_stands 9 = .ok (.ifCond .ne 6, 3) := by decide +kernel
theorem dX9_stands_12 : decode cX9_stands 12 = .ok (.bipush (-2), 2) := by decide +kernel
theorem dX9_stands_14 : decode cX9_stands 14 = .ok (.ireturn, 1) := by decide +kernel
theorem dX9_steps_0 : decode cX9_steps 0 = .ok (.aload_n 0, 1) := by decide +kernel
theorem dX9_steps_1 : decode cX9_steps 1 = .ok (.getfield 19, 3) := by decide +kernel
theorem dX9_steps_4 : decode cX9_steps 4 = .ok (.iload_n 1, 1) := by decide +kernel
theorem dX9_steps_5 : decode cX9_steps 5 = .ok (.i2l, 1) := by decide +kernel
theorem dX9_steps_6 : decode cX9_steps 6 = .ok (.invokevirtual 128, 3) := by decide +kernel
theorem dX9_steps_9 : decode cX9_steps 9 = .ok (.ifCond .eq 15, 3) := by decide +kernel
theorem dX9_steps_24 : decode cX9_steps 24 = .ok (.bipush (-2), 2) := by decide +kernel
theorem dX9_steps_26 : decode cX9_steps 26 = .ok (.ireturn, 1) := by decide +kernel
theorem dX9_straight_0 : decode cX9_straight 0 = .ok (.aload_n 0, 1) := by decide +kernel
theorem dX9_straight_1 : decode cX9_straight 1 = .ok (.getfield 19, 3) := by decide +kernel
theorem dX9_straight_4 : decode cX9_straight 4 = .ok (.iload_n 1, 1) := by decide +kernel
theorem dX9_straight_5 : decode cX9_straight 5 = .ok (.i2l, 1) := by decide +kernel
theorem dX9_straight_6 : decode cX9_straight 6 = .ok (.invokevirtual 128, 3) := by decide +kernel
theorem dX9_straight_9 : decode cX9_straight 9 = .ok (.ifCond .ne 6, 3) := by decide +kernel
theorem dX9_straight_12 : decode cX9_straight 12 = .ok (.bipush (-2), 2) := by decide +kernel
theorem dX9_straight_14 : decode cX9_straight 14 = .ok (.ireturn, 1) := by decide +kernel
theorem dX9_undo_0 : decode cX9_undo 0 = .ok (.aload_n 0, 1) := by decide +kernel
theorem dX9_undo_1 : decode cX9_undo 1 = .ok (.getfield 19, 3) := by decide +kernel
theorem dX9_undo_4 : decode cX9_undo 4 = .ok (.getfield 106, 3) := by decide +kernel
theorem dX9_undo_7 : decode cX9_undo 7 = .ok (.ifCond .ne 6, 3) := by decide +kernel
theorem dX9_undo_10 : decode cX9_undo 10 = .ok (.bipush (-2), 2) := by decide +kernel
theorem dX9_undo_12 : decode cX9_undo 12 = .ok (.ireturn, 1) := by decide +kernel
theorem dX9_visits_0 : decode cX9_visits 0 = .ok (.aload_n 0, 1) := by decide +kernel
theorem dX9_visits_1 : decode cX9_visits 1 = .ok (.getfield 19, 3) := by decide +kernel
theorem dX9_visits_4 : decode cX9_visits 4 = .ok (.iload_n 2, 1) := by decide +kernel
theorem dX9_visits_5 : decode cX9_visits 5 = .ok (.i2l, 1) := by decide +kernel
theorem dX9_visits_6 : decode cX9_visits 6 = .ok (.invokevirtual 112, 3) := by decide +kernel
theorem dX9_visits_9 : decode cX9_visits 9 = .ok (.istore_n 3, 1) := by decide +kernel
theorem dX9_visits_10 : decode cX9_visits 10 = .ok (.aload_n 0, 1) := by decide +kernel
theorem dX9_visits_11 : decode cX9_visits 11 = .ok (.getfield 19, 3) := by decide +kernel
theorem dX9_visits_14 : decode cX9_visits 14 = .ok (.iload_n 1, 1) := by decide +kernel
theorem dX9_visits_15 : decode cX9_visits 15 = .ok (.i2l, 1) := by decide +kernel
theorem dX9_visits_16 : decode cX9_visits 16 = .ok (.invokevirtual 128, 3) := by decide +kernel
theorem dX9_visits_19 : decode cX9_visits 19 = .ok (.ifCond .eq 8, 3) := by decide +kernel
theorem dX9_visits_27 : decode cX9_visits 27 = .ok (.bipush (-2), 2) := by decide +kernel
theorem dX9_visits_29 : decode cX9_visits 29 = .ok (.ireturn, 1) := by decide +kernel
theorem dX9_walkAnew_0 : decode cX9_walkAnew 0 = .ok (.aload_n 0, 1) := by decide +kernel
theorem dX9_walkAnew_1 : decode cX9_walkAnew 1 = .ok (.getfield 30, 3) := by decide +kernel
theorem dX9_walkAnew_4 : decode cX9_walkAnew 4 = .ok (.aload_n 0, 1) := by decide +kernel
theorem dX9_walkAnew_5 : decode cX9_walkAnew 5 = .ok (.getfield 19, 3) := by decide +kernel
theorem dX9_walkAnew_8 : decode cX9_walkAnew 8 = .ok (.invokevirtual 271, 3) := by decide +kernel
theorem dX9_walkAnew_11 : decode cX9_walkAnew 11 = .ok (.aload_n 0, 1) := by decide +kernel
theorem dX9_walkAnew_12 : decode cX9_walkAnew 12 = .ok (.getfield 37, 3) := by decide +kernel
theorem dX9_walkAnew_15 : decode cX9_walkAnew 15 = .ok (.aload_n 0, 1) := by decide +kernel
theorem dX9_walkAnew_16 : decode cX9_walkAnew 16 = .ok (.getfield 19, 3) := by decide +kernel
theorem dX9_walkAnew_19 : decode cX9_walkAnew 19 = .ok (.aload_n 0, 1) := by decide +kernel
theorem dX9_walkAnew_20 : decode cX9_walkAnew 20 = .ok (.getfield 30, 3) := by decide +kernel
theorem dX9_walkAnew_23 : decode cX9_walkAnew 23 = .ok (.invokevirtual 277, 3) := by decide +kernel
theorem dX9_walkAnew_26 : decode cX9_walkAnew 26 = .ok (.aload_n 0, 1) := by decide +kernel
theorem dX9_walkAnew_27 : decode cX9_walkAnew 27 = .ok (.getfield 47, 3) := by decide +kernel
theorem dX9_walkAnew_30 : decode cX9_walkAnew 30 = .ok (.iconst 0, 1) := by decide +kernel
theorem dX9_walkAnew_31 : decode cX9_walkAnew 31 = .ok (.putfield 415, 3) := by decide +kernel
theorem dX9_walkAnew_34 : decode cX9_walkAnew 34 = .ok (.return_, 1) := by decide +kernel
theorem dX9_walked_0 : decode cX9_walked 0 = .ok (.aload_n 0, 1) := by decide +kernel
theorem dX9_walked_1 : decode cX9_walked 1 = .ok (.getfield 19, 3) := by decide +kernel
theorem dX9_walked_4 : decode cX9_walked 4 = .ok (.iload_n 1, 1) := by decide +kernel
theorem dX9_walked_5 : decode cX9_walked 5 = .ok (.i2l, 1) := by decide +kernel
theorem dX9_walked_6 : decode cX9_walked 6 = .ok (.invokevirtual 112, 3) := by decide +kernel
theorem dX9_walked_9 : decode cX9_walked 9 = .ok (.istore_n 2, 1) := by decide +kernel
theorem dX9_walked_10 : decode cX9_walked 10 = .ok (.iload_n 2, 1) := by decide +kernel
theorem dX9_walked_11 : decode cX9_walked 11 = .ok (.iconst (-1), 1) := by decide +kernel
theorem dX9_walked_12 : decode cX9_walked 12 = .ok (.if_icmp .ne 8, 3) := by decide +kernel
theorem dX9_walked_15 : decode cX9_walked 15 = .ok (.bipush (-2), 2) := by decide +kernel
theorem dX9_walked_17 : decode cX9_walked 17 = .ok (.goto 8, 3) := by decide +kernel
theorem dX9_walked_25 : decode cX9_walked 25 = .ok (.ireturn, 1) := by decide +kernel
theorem dX9_way_0 : decode cX9_way 0 = .ok (.aload_n 0, 1) := by decide +kernel
theorem dX9_way_1 : decode cX9_way 1 = .ok (.getfield 19, 3) := by decide +kernel
theorem dX9_way_4 : decode cX9_way 4 = .ok (.iload_n 1, 1) := by decide +kernel
theorem dX9_way_5 : decode cX9_way 5 = .ok (.i2l, 1) := by decide +kernel
theorem dX9_way_6 : decode cX9_way 6 = .ok (.invokevirtual 112, 3) := by decide +kernel
theorem dX9_way_9 : decode cX9_way 9 = .ok (.istore 4, 2) := by decide +kernel
theorem dX9_way_11 : decode cX9_way 11 = .ok (.aload_n 0, 1) := by decide +kernel
theorem dX9_way_12 : decode cX9_way 12 = .ok (.getfield 19, 3) := by decide +kernel
theorem dX9_way_15 : decode cX9_way 15 = .ok (.iload_n 2, 1) := by decide +kernel
theorem dX9_way_16 : decode cX9_way 16 = .ok (.i2l, 1) := by decide +kernel
theorem dX9_way_17 : decode cX9_way 17 = .ok (.invokevirtual 112, 3) := by decide +kernel
theorem dX9_way_20 : decode cX9_way 20 = .ok (.istore 5, 2) := by decide +kernel
theorem dX9_way_22 : decode cX9_way 22 = .ok (.iload 4, 2) := by decide +kernel
theorem dX9_way_24 : decode cX9_way 24 = .ok (.iconst (-1), 1) := by decide +kernel
theorem dX9_way_25 : decode cX9_way 25 = .ok (.if_icmp .eq 20, 3) := by decide +kernel
theorem dX9_way_45 : decode cX9_way 45 = .ok (.bipush (-2), 2) := by decide +kernel
theorem dX9_way_47 : decode cX9_way 47 = .ok (.ireturn, 1) := by decide +kernel
theorem dX9_widow_0 : decode cX9_widow 0 = .ok (.aload_n 0, 1) := by decide +kernel
theorem dX9_widow_1 : decode cX9_widow 1 = .ok (.getfield 19, 3) := by decide +kernel
theorem dX9_widow_4 : decode cX9_widow 4 = .ok (.iload_n 1, 1) := by decide +kernel
theorem dX9_widow_5 : decode cX9_widow 5 = .ok (.i2l, 1) := by decide +kernel
theorem dX9_widow_6 : decode cX9_widow 6 = .ok (.invokevirtual 128, 3) := by decide +kernel
theorem dX9_widow_9 : decode cX9_widow 9 = .ok (.ifCond .ne 6, 3) := by decide +kernel
theorem dX9_widow_12 : decode cX9_widow 12 = .ok (.bipush (-2), 2) := by decide +kernel
theorem dX9_widow_14 : decode cX9_widow 14 = .ok (.ireturn, 1) := by decide +kernel
theorem dX9_worth_0 : decode cX9_worth 0 = .ok (.aload_n 0, 1) := by decide +kernel
theorem dX9_worth_1 : decode cX9_worth 1 = .ok (.getfield 19, 3) := by decide +kernel
theorem dX9_worth_4 : decode cX9_worth 4 = .ok (.getfield 106, 3) := by decide +kernel
theorem dX9_worth_7 : decode cX9_worth 7 = .ok (.ifCond .eq 20, 3) := by decide +kernel
theorem dX9_worth_27 : decode cX9_worth 27 = .ok (.bipush (-2), 2) := by decide +kernel
theorem dX9_worth_29 : decode cX9_worth 29 = .ok (.ireturn, 1) := by decide +kernel
theorem dX9_write_0 : decode cX9_write 0 = .ok (.iload_n 1, 1) := by decide +kernel
theorem dX9_write_1 : decode cX9_write 1 = .ok (.invokestatic 388, 3) := by decide +kernel
theorem dX9_write_4 : decode cX9_write 4 = .ok (.ifCond .ne 6, 3) := by decide +kernel
theorem dX9_write_7 : decode cX9_write 7 = .ok (.bipush (-2), 2) := by decide +kernel
theorem dX9_write_9 : decode cX9_write 9 = .ok (.ireturn, 1) := by decide +kernel
theorem dX9_write_10 : decode cX9_write 10 = .ok (.aload_n 0, 1) := by decide +kernel
theorem dX9_write_11 : decode cX9_write 11 = .ok (.getfield 61, 3) := by decide +kernel
theorem dX9_write_14 : decode cX9_write 14 = .ok (.iload_n 1, 1) := by decide +kernel
theorem dX9_write_15 : decode cX9_write 15 = .ok (.invokevirtual 395, 3) := by decide +kernel
theorem dX9_write_18 : decode cX9_write 18 = .ok (.ifCond .eq 6, 3) := by decide +kernel
theorem dX9_write_21 : decode cX9_write 21 = .ok (.bipush (-6), 2) := by decide +kernel
theorem dX9_write_23 : decode cX9_write 23 = .ok (.ireturn, 1) := by decide +kernel
set_option maxHeartbeats 4000000 in
set_option maxRecDepth 100000 in
theorem f_X9_isSlot (l : Launch) (G : va_G) (cI cJ cZ cB cQ : ClassId) (sz : Nat) (p0 : Int32) (a0 : Int) (h0 : p0.toInt = a0) : CI l yX9_isSlot (wl_ yX9_isSlot cX9_isSlot 1 (some .boolean)) ({ frames := 0, cells := 0, slots := 0, locals := 0 } : Room) G (TY cI cJ cZ cB cQ) [.int p0] [] sz (fun (r : Int32) (u : Unit) => (r = 1 ∧ 0 ≤ a0 ∧ a0 ≤ 3) ∨ (r = 0 ∧ (a0 < 0 ∨ 3 < a0))) (fun _ : Unit => []) 0 0 := by
  refine CI.goz (cc := cX9_isSlot) (maxL := 1) (ret := (some .boolean)) (by decide) rfl (Nat.le_of_ble_eq_true rfl) ?_
  intro p e s m below meth c A ls Q hBd hret
  obtain ⟨hx, hb, hr, hml, hts, hown, hlk, hnm, hP, hK, hD, hA, hZ, hl⟩ := hBd
  have hown : s.vm.findClass RX9 = some m.cls := hown
  have hl : lv_has ls 1 [(0, .int p0)] := hl
  have hS : va_S A s.heap s.heap [] := va_S.rf
  refine lv_iload_n hx hb dX9_isSlot_0 rfl (lv_at hl 0 rfl) ?_
  refine lv_if_lt (tgt := 13) hx hb dX9_isSlot_1 (by decide) (fun c1 => ?_) (fun c1 => ?_)
  · have c1 := i_lt h0 ki_0 c1
    refine lv_iconst (v := 0) hx hb dX9_isSlot_13 (by decide) ?_
    exact hret _ _ _ _ 0 () hP hD hS dX9_isSlot_14 rfl (Or.inr ⟨rfl, by omega⟩)
  · have c1 := i_nlt h0 ki_0 c1
    refine lv_iload_n hx hb dX9_isSlot_4 rfl (lv_at hl 0 rfl) ?_
    refine lv_iconst (v := 4) hx hb dX9_isSlot_5 (by decide) ?_
    refine lv_icmp_ge (tgt := 13) hx hb dX9_isSlot_6 (by decide) (fun c2 => ?_) (fun c2 => ?_)
    · have c2 := i_le ki_4 h0 c2
      refine lv_iconst (v := 0) hx hb dX9_isSlot_13 (by decide) ?_
      exact hret _ _ _ _ 0 () hP hD hS dX9_isSlot_14 rfl (Or.inr ⟨rfl, by omega⟩)
    · have c2 := i_nle ki_4 h0 c2
      refine lv_iconst (v := 1) hx hb dX9_isSlot_9 (by decide) ?_
      refine lv_goto (tgt := 14) hx hb dX9_isSlot_10 (by decide) ?_
      exact hret _ _ _ _ 1 () hP hD hS dX9_isSlot_14 rfl (Or.inl ⟨rfl, by omega, by omega⟩)
set_option maxHeartbeats 4000000 in
set_option maxRecDepth 100000 in
theorem f_X9_refusalOfRow (l : Launch) (G : va_G) (cI cJ cZ cB cQ : ClassId) (sz : Nat) (h0 : Nat) (b : Nat → Nat) (bc : Nat → Nat) (p0 : Int32) : CI l yX9_refusalOfRow (wl_ yX9_refusalOfRow cX9_refusalOfRow 2 (some .int)) ({ frames := 0, cells := 0, slots := 0, locals := 0 } : Room) G (TY cI cJ cZ cB cQ) [.ref h0, .int p0] [(h0, oX9 b), (b 1, oX0 bc 0 0 0 0 0 0 0 0 0 0)] sz (fun (r : Int32) (u : Unit) => r = (-2)) (fun _ : Unit => [(h0, oX9 b), (b 1, oX0 bc 0 0 0 0 0 0 0 0 0 0)]) 0 0 := by
  refine CI.go (cc := cX9_refusalOfRow) (maxL := 2) (ret := (some .int)) (by decide) rfl (Nat.le_of_ble_eq_true rfl) ?_
  intro p e s m below meth c A ls Q hBd hret
  obtain ⟨hx, hb, hr, hml, hts, hown, hlk, hnm, hP, hK, hD, hA, hZ, hl⟩ := hBd
  have hown : s.vm.findClass RX9 = some m.cls := hown
  have hl : lv_has ls 2 [(0, .ref h0), (1, .int p0)] := hl
  have hS : va_S A s.heap s.heap [] := va_S.rf
  refine lv_aload_n hx hb dX9_refusalOfRow_0 rfl (lv_at hl 0 rfl) ?_
  refine va_get (D := G) (ci := 9) (v := .ref (b 1)) (C := RX9) (T := TX9) (N := 11) hx hb hts iG_X9 hown hK hP 0 rfl rfl 1 (by decide) (hts _ w_352) (fun _ h9 => h9) rfl dX9_refusalOfRow_1 ?_
  refine va_getN (D := G) (ci := 0) (v := .int 0) (C := RX0) (T := TX0) (N := 19) hx hb hts iG_X0 hown hK hP 1 rfl rfl 0 (by decide) (nz_use hZ nw_57 rfl) (fun _ h9 => h9) rfl dX9_refusalOfRow_4 ?_
  refine lv_if_eq (tgt := 17) hx hb dX9_refusalOfRow_7 (by decide) (fun c1 => ?_) (fun c1 => absurd (by decide) c1)
  refine lv_bipush (v := (-2)) hx hb dX9_refusalOfRow_17 (by decide) ?_
  exact hret _ _ _ _ (-2) () hP hD hS dX9_refusalOfRow_19 rfl
set_option maxHeartbeats 4000000 in
set_option maxRecDepth 100000 in
theorem f_X9_refusalOfSeen (l : Launch) (G : va_G) (cI cJ cZ cB cQ : ClassId) (sz : Nat) (h0 : Nat) (b : Nat → Nat) (bc : Nat → Nat) (p0 : Int32) (p1 : Int32) : CI l yX9_refusalOfSeen (wl_ yX9_refusalOfSeen cX9_refusalOfSeen 3 (some .int)) ({ frames := 1, cells := 0, slots := 0, locals := 22 } : Room) G (TY cI cJ cZ cB cQ) [.ref h0, .int p0, .int p1] [(h0, oX9 b), (b 1, oX0 bc 0 0 0 0 0 0 0 0 0 0)] sz (fun (r : Int32) (u : Unit) => r = (-2)) (fun _ : Unit => [(h0, oX9 b), (b 1, oX0 bc 0 0 0 0 0 0 0 0 0 0)]) 0 0 := by
  refine CI.go (cc := cX9_refusalOfSeen) (maxL := 3) (ret := (some .int)) (by decide) rfl (Nat.le_of_ble_eq_true rfl) ?_
  intro p e s m below meth c A ls Q hBd hret
  obtain ⟨hx, hb, hr, hml, hts, hown, hlk, hnm, hP, hK, hD, hA, hZ, hl⟩ := hBd
  have hown : s.vm.findClass RX9 = some m.cls := hown
  have hl : lv_has ls 3 [(0, .ref h0), (1, .int p0), (2, .int p1)] := hl
  have hS : va_S A s.heap s.heap [] := va_S.rf
  refine lv_aload_n hx hb dX9_refusalOfSeen_0 rfl (lv_at hl 0 rfl) ?_
  refine va_get (D := G) (ci := 9) (v := .ref (b 1)) (C := RX9) (T := TX9) (N := 11) hx hb hts iG_X9 hown hK hP 0 rfl rfl 1 (by decide) (hts _ w_352) (fun _ h9 => h9) rfl dX9_refusalOfSeen_1 ?_
  refine lv_iload_n hx hb dX9_refusalOfSeen_4 rfl (lv_at hl 2 rfl) ?_
  obtain ⟨v1, ev1⟩ : ∃ y : Int64, p1.toInt64 = y := ⟨_, rfl⟩
  have tv1 : v1.toInt = p1.toInt := ti_wide rfl ev1
  refine lv_i2l (v := v1) hx hb dX9_refusalOfSeen_5 ev1 ?_
  refine k_i (wc := [(b 1, oX0 bc 0 0 0 0 0 0 0 0 0 0)]) (wr := [(h0, oX9 b)]) hP hD hS hA [1] [0] rfl rfl rfl (by decide) (va_runVN (As := [.long v1]) (rest := []) ⟨hx, hb, hml, hown, hts⟩ (f_X0_hasWidow l G cI cJ cZ cB cQ _ (b 1) bc v1) ⟨va_cnB (host := "WidowRoads") 1 hts (gW w_671) rfl rfl rfl (nz_nw hZ nw_668 rfl) (hts _ w_4) hd_X0_hasWidow ⟨Nat.le_of_ble_eq_true rfl, Nat.le_of_ble_eq_true rfl⟩, (hts _ w_670), (hts _ wp_35)⟩ (mV hK hZ hP hD [1] rfl rfl [.long v1] 1 0 rfl rfl) rfl rfl hl.1 rfl (lv_room (Nat.le_of_ble_eq_true rfl)) dX9_refusalOfSeen_6 ⟨Nat.le_of_ble_eq_true rfl, Nat.le_of_ble_eq_true rfl⟩) (fun r2 u3 H locs hw4 hP hD hS => ?_)
  try dsimp only at hw4
  have hP : va_P G vwCl [(h0, oX9 b), (b 1, oX0 bc 0 0 0 0 0 0 0 0 0 0)] H := hP
  have hD : va_D A [(h0, oX9 b), (b 1, oX0 bc 0 0 0 0 0 0 0 0 0 0)] := hD
  obtain rfl : r2 = 0 := hw4
  refine lv_if_eq (tgt := 20) hx hb dX9_refusalOfSeen_9 (by decide) (fun c5 => ?_) (fun c5 => absurd (by decide) c5)
  refine lv_bipush (v := (-2)) hx hb dX9_refusalOfSeen_20 (by decide) ?_
  exact hret _ _ _ _ (-2) () hP hD hS dX9_refusalOfSeen_22 rfl
set_option maxHeartbeats 4000000 in
set_option maxRecDepth 100000 in
theorem f_X9_areTwo (l : Launch) (G : va_G) (cI cJ cZ cB cQ : ClassId) (sz : Nat) (h0 : Nat) (b : Nat → Nat) (bc : Nat → Nat) (p0 : Int32) (p1 : Int32) : CI l yX9_areTwo (wl_ yX9_areTwo cX9_areTwo 3 (some .boolean)) ({ frames := 1, cells := 0, slots := 0, locals := 22 } : Room) G (TY cI cJ cZ cB cQ) [.ref h0, .int p0, .int p1] [(h0, oX9 b), (b 1, oX0 bc 0 0 0 0 0 0 0 0 0 0)] sz (fun (r : Int32) (u : Unit) => r = 0) (fun _ : Unit => [(h0, oX9 b), (b 1, oX0 bc 0 0 0 0 0 0 0 0 0 0)]) 0 0 := by
  refine CI.goz (cc := cX9_areTwo) (maxL := 3) (ret := (some .boolean)) (by decide) rfl (Nat.le_of_ble_eq_true rfl) ?_
  intro p e s m below meth c A ls Q hBd hret
  obtain ⟨hx, hb, hr, hml, hts, hown, hlk, hnm, hP, hK, hD, hA, hZ, hl⟩ := hBd
  have hown : s.vm.findClass RX9 = some m.cls := hown
  have hl : lv_has ls 3 [(0, .ref h0), (1, .int p0), (2, .int p1)] := hl
  have hS : va_S A s.heap s.heap [] := va_S.rf
  refine lv_aload_n hx hb dX9_areTwo_0 rfl (lv_at hl 0 rfl) ?_
  refine va_get (D := G) (ci := 9) (v := .ref (b 1)) (C := RX9) (T := TX9) (N := 11) hx hb hts iG_X9 hown hK hP 0 rfl rfl 1 (by decide) (hts _ w_352) (fun _ h9 => h9) rfl dX9_areTwo_1 ?_
  refine lv_iload_n hx hb dX9_areTwo_4 rfl (lv_at hl 1 rfl) ?_
  obtain ⟨v1, ev1⟩ : ∃ y : Int64, p0.toInt64 = y := ⟨_, rfl⟩
  have tv1 : v1.toInt = p0.toInt := ti_wide rfl ev1
  refine lv_i2l (v := v1) hx hb dX9_areTwo_5 ev1 ?_
  refine k_i (wc := [(b 1, oX0 bc 0 0 0 0 0 0 0 0 0 0)]) (wr := [(h0, oX9 b)]) hP hD hS hA [1] [0] rfl rfl rfl (by decide) (va_runVN (As := [.long v1]) (rest := []) ⟨hx, hb, hml, hown, hts⟩ (f_X0_hasWidow l G cI cJ cZ cB cQ _ (b 1) bc v1) ⟨va_cnB (host := "WidowRoads") 1 hts (gW w_671) rfl rfl rfl (nz_nw hZ nw_668 rfl) (hts _ w_4) hd_X0_hasWidow ⟨Nat.le_of_ble_eq_true rfl, Nat.le_of_ble_eq_true rfl⟩, (hts _ w_670), (hts _ wp_35)⟩ (mV hK hZ hP hD [1] rfl rfl [.long v1] 1 0 rfl rfl) rfl rfl hl.1 rfl (lv_room (Nat.le_of_ble_eq_true rfl)) dX9_areTwo_6 ⟨Nat.le_of_ble_eq_true rfl, Nat.le_of_ble_eq_true rfl⟩) (fun r2 u3 H locs hw4 hP hD hS => ?_)
  try dsimp only at hw4
  have hP : va_P G vwCl [(h0, oX9 b), (b 1, oX0 bc 0 0 0 0 0 0 0 0 0 0)] H := hP
  have hD : va_D A [(h0, oX9 b), (b 1, oX0 bc 0 0 0 0 0 0 0 0 0 0)] := hD
  obtain rfl : r2 = 0 := hw4
  refine lv_if_eq (tgt := 33) hx hb dX9_areTwo_9 (by decide) (fun c5 => ?_) (fun c5 => absurd (by decide) c5)
  refine lv_iconst (v := 0) hx hb dX9_areTwo_33 (by decide) ?_
  exact hret _ _ _ _ 0 () hP hD hS dX9_areTwo_34 rfl rfl
set_option maxHeartbeats 4000000 in
set_option maxRecDepth 100000 in
theorem f_X9_creek (l : Launch) (G : va_G) (cI cJ cZ cB cQ : ClassId) (sz : Nat) (h0 : Nat) (b : Nat → Nat) (bc : Nat → Nat) (p0 : Int32) : CI l yX9_creek (wl_ yX9_creek cX9_creek 3 (some .int)) ({ frames := 1, cells := 0, slots := 0, locals := 22 } : Room) G (TY cI cJ cZ cB cQ) [.ref h0, .int p0] [(h0, oX9 b), (b 1, oX0 bc 0 0 0 0 0 0 0 0 0 0)] sz (fun (r : Int32) (u : Unit) => r = (-2)) (fun _ : Unit => [(h0, oX9 b), (b 1, oX0 bc 0 0 0 0 0 0 0 0 0 0)]) 0 0 := by
  refine CI.go (cc := cX9_creek) (maxL := 3) (ret := (some .int)) (by decide) rfl (Nat.le_of_ble_eq_true rfl) ?_
  intro p e s m below meth c A ls Q hBd hret
  obtain ⟨hx, hb, hr, hml, hts, hown, hlk, hnm, hP, hK, hD, hA, hZ, hl⟩ := hBd
  have hown : s.vm.findClass RX9 = some m.cls := hown
  have hl : lv_has ls 3 [(0, .ref h0), (1, .int p0)] := hl
  have hS : va_S A s.heap s.heap [] := va_S.rf
  refine lv_aload_n hx hb dX9_creek_0 rfl (lv_at hl 0 rfl) ?_
  refine va_get (D := G) (ci := 9) (v := .ref (b 1)) (C := RX9) (T := TX9) (N := 11) hx hb hts iG_X9 hown hK hP 0 rfl rfl 1 (by decide) (hts _ w_352) (fun _ h9 => h9) rfl dX9_creek_1 ?_
  refine lv_iload_n hx hb dX9_creek_4 rfl (lv_at hl 1 rfl) ?_
  obtain ⟨v1, ev1⟩ : ∃ y : Int64, p0.toInt64 = y := ⟨_, rfl⟩
  have tv1 : v1.toInt = p0.toInt := ti_wide rfl ev1
  refine lv_i2l (v := v1) hx hb dX9_creek_5 ev1 ?_
  refine k_i (wc := [(b 1, oX0 bc 0 0 0 0 0 0 0 0 0 0)]) (wr := [(h0, oX9 b)]) hP hD hS hA [1] [0] rfl rfl rfl (by decide) (va_runVN (As := [.long v1]) (rest := []) ⟨hx, hb, hml, hown, hts⟩ (f_X0_spotOf l G cI cJ cZ cB cQ _ (b 1) bc v1) ⟨va_cnB (host := "WidowRoads") 1 hts (gW w_656) rfl rfl rfl (nz_nw hZ nw_653 rfl) (hts _ w_4) hd_X0_spotOf ⟨Nat.le_of_ble_eq_true rfl, Nat.le_of_ble_eq_true rfl⟩, (hts _ w_655), (hts _ wp_34)⟩ (mV hK hZ hP hD [1] rfl rfl [.long v1] 1 0 rfl rfl) rfl rfl hl.1 rfl (lv_room (Nat.le_of_ble_eq_true rfl)) dX9_creek_6 ⟨Nat.le_of_ble_eq_true rfl, Nat.le_of_ble_eq_true rfl⟩) (fun r2 u3 H locs hw4 hP hD hS => ?_)
  try dsimp only at hw4
  have hP : va_P G vwCl [(h0, oX9 b), (b 1, oX0 bc 0 0 0 0 0 0 0 0 0 0)] H := hP
  have hD : va_D A [(h0, oX9 b), (b 1, oX0 bc 0 0 0 0 0 0 0 0 0 0)] := hD
  obtain rfl : r2 = (-1) := hw4
  refine lv_istore_n (lv' := [(2, .int (-1)), (0, .ref h0), (1, .int p0)]) hx hb dX9_creek_9 rfl hl (by decide) rfl (fun ls hl => ?_)
  refine lv_iload_n hx hb dX9_creek_10 rfl (lv_at hl 0 rfl) ?_
  refine lv_iconst (v := (-1)) hx hb dX9_creek_11 (by decide) ?_
  refine lv_icmp_ne (tgt := 18) hx hb dX9_creek_12 (by decide) (fun c5 => absurd (by decide) c5) (fun c5 => ?_)
  refine lv_bipush (v := (-2)) hx hb dX9_creek_15 (by decide) ?_
  exact hret _ _ _ _ (-2) () hP hD hS dX9_creek_17 rfl
set_option maxHeartbeats 4000000 in
set_option maxRecDepth 100000 in
theorem f_X9_widow (l : Launch) (G : va_G) (cI cJ cZ cB cQ : ClassId) (sz : Nat) (h0 : Nat) (b : Nat → Nat) (bc : Nat → Nat) (p0 : Int32) (p1 : Int32) : CI l yX9_widow (wl_ yX9_widow cX9_widow 3 (some .int)) ({ frames := 1, cells := 0, slots := 0, locals := 22 } : Room) G (TY cI cJ cZ cB cQ) [.ref h0, .int p0, .int p1] [(h0, oX9 b), (b 1, oX0 bc 0 0 0 0 0 0 0 0 0 0)] sz (fun (r : Int32) (u : Unit) => r = (-2)) (fun _ : Unit => [(h0, oX9 b), (b 1, oX0 bc 0 0 0 0 0 0 0 0 0 0)]) 0 0 := by
  refine CI.go (cc := cX9_widow) (maxL := 3) (ret := (some .int)) (by decide) rfl (Nat.le_of_ble_eq_true rfl) ?_
  intro p e s m below meth c A ls Q hBd hret
  obtain ⟨hx, hb, hr, hml, hts, hown, hlk, hnm, hP, hK, hD, hA, hZ, hl⟩ := hBd
  have hown : s.vm.findClass RX9 = some m.cls := hown
  have hl : lv_has ls 3 [(0, .ref h0), (1, .int p0), (2, .int p1)] := hl
  have hS : va_S A s.heap s.heap [] := va_S.rf
  refine lv_aload_n hx hb dX9_widow_0 rfl (lv_at hl 0 rfl) ?_
  refine va_get (D := G) (ci := 9) (v := .ref (b 1)) (C := RX9) (T := TX9) (N := 11) hx hb hts iG_X9 hown hK hP 0 rfl rfl 1 (by decide) (hts _ w_352) (fun _ h9 => h9) rfl dX9_widow_1 ?_
  refine lv_iload_n hx hb dX9_widow_4 rfl (lv_at hl 1 rfl) ?_
  obtain ⟨v1, ev1⟩ : ∃ y : Int64, p0.toInt64 = y := ⟨_, rfl⟩
  have tv1 : v1.toInt = p0.toInt := ti_wide rfl ev1
  refine lv_i2l (v := v1) hx hb dX9_widow_5 ev1 ?_
  refine k_i (wc := [(b 1, oX0 bc 0 0 0 0 0 0 0 0 0 0)]) (wr := [(h0, oX9 b)]) hP hD hS hA [1] [0] rfl rfl rfl (by decide) (va_runVN (As := [.long v1]) (rest := []) ⟨hx, hb, hml, hown, hts⟩ (f_X0_hasWidow l G cI cJ cZ cB cQ _ (b 1) bc v1) ⟨va_cnB (host := "WidowRoads") 1 hts (gW w_671) rfl rfl rfl (nz_nw hZ nw_668 rfl) (hts _ w_4) hd_X0_hasWidow ⟨Nat.le_of_ble_eq_true rfl, Nat.le_of_ble_eq_true rfl⟩, (hts _ w_670), (hts _ wp_35)⟩ (mV hK hZ hP hD [1] rfl rfl [.long v1] 1 0 rfl rfl) rfl rfl hl.1 rfl (lv_room (Nat.le_of_ble_eq_true rfl)) dX9_widow_6 ⟨Nat.le_of_ble_eq_true rfl, Nat.le_of_ble_eq_true rfl⟩) (fun r2 u3 H locs hw4 hP hD hS => ?_)
  try dsimp only at hw4
  have hP : va_P G vwCl [(h0, oX9 b), (b 1, oX0 bc 0 0 0 0 0 0 0 0 0 0)] H := hP
  have hD : va_D A [(h0, oX9 b), (b 1, oX0 bc 0 0 0 0 0 0 0 0 0 0)] := hD
  obtain rfl : r2 = 0 := hw4
  refine lv_if_ne (tgt := 15) hx hb dX9_widow_9 (by decide) (fun c5 => absurd (by decide) c5) (fun c5 => ?_)
  refine lv_bipush (v := (-2)) hx hb dX9_widow_12 (by decide) ?_
  exact hret _ _ _ _ (-2) () hP hD hS dX9_widow_14 rfl
set_option maxHeartbeats 4000000 in
set_option maxRecDepth 100000 in
theorem f_X9_grief (l : Launch) (G : va_G) (cI cJ cZ cB cQ : ClassId) (sz : Nat) (h0 : Nat) (b : Nat → Nat) (bc : Nat → Nat) (p0 : Int32) (p1 : Int32) : CI l yX9_grief (wl_ yX9_grief cX9_grief 3 (some .int)) ({ frames := 1, cells := 0, slots := 0, locals := 22 } : Room) G (TY cI cJ cZ cB cQ) [.ref h0, .int p0, .int p1] [(h0, oX9 b), (b 1, oX0 bc 0 0 0 0 0 0 0 0 0 0)] sz (fun (r : Int32) (u : Unit) => r = (-2)) (fun _ : Unit => [(h0, oX9 b), (b 1, oX0 bc 0 0 0 0 0 0 0 0 0 0)]) 0 0 := by
  refine CI.go (cc := cX9_grief) (maxL := 3) (ret := (some .int)) (by decide) rfl (Nat.le_of_ble_eq_true rfl) ?_
  intro p e s m below meth c A ls Q hBd hret
  obtain ⟨hx, hb, hr, hml, hts, hown, hlk, hnm, hP, hK, hD, hA, hZ, hl⟩ := hBd
  have hown : s.vm.findClass RX9 = some m.cls := hown
  have hl : lv_has ls 3 [(0, .ref h0), (1, .int p0), (2, .int p1)] := hl
  have hS : va_S A s.heap s.heap [] := va_S.rf
  refine lv_aload_n hx hb dX9_grief_0 rfl (lv_at hl 0 rfl) ?_
  refine va_get (D := G) (ci := 9) (v := .ref (b 1)) (C := RX9) (T := TX9) (N := 11) hx hb hts iG_X9 hown hK hP 0 rfl rfl 1 (by decide) (hts _ w_352) (fun _ h9 => h9) rfl dX9_grief_1 ?_
  refine lv_iload_n hx hb dX9_grief_4 rfl (lv_at hl 1 rfl) ?_
  obtain ⟨v1, ev1⟩ : ∃ y : Int64, p0.toInt64 = y := ⟨_, rfl⟩
  have tv1 : v1.toInt = p0.toInt := ti_wide rfl ev1
  refine lv_i2l (v := v1) hx hb dX9_grief_5 ev1 ?_
  refine k_i (wc := [(b 1, oX0 bc 0 0 0 0 0 0 0 0 0 0)]) (wr := [(h0, oX9 b)]) hP hD hS hA [1] [0] rfl rfl rfl (by decide) (va_runVN (As := [.long v1]) (rest := []) ⟨hx, hb, hml, hown, hts⟩ (f_X0_hasWidow l G cI cJ cZ cB cQ _ (b 1) bc v1) ⟨va_cnB (host := "WidowRoads") 1 hts (gW w_671) rfl rfl rfl (nz_nw hZ nw_668 rfl) (hts _ w_4) hd_X0_hasWidow ⟨Nat.le_of_ble_eq_true rfl, Nat.le_of_ble_eq_true rfl⟩, (hts _ w_670), (hts _ wp_35)⟩ (mV hK hZ hP hD [1] rfl rfl [.long v1] 1 0 rfl rfl) rfl rfl hl.1 rfl (lv_room (Nat.le_of_ble_eq_true rfl)) dX9_grief_6 ⟨Nat.le_of_ble_eq_true rfl, Nat.le_of_ble_eq_true rfl⟩) (fun r2 u3 H locs hw4 hP hD hS => ?_)
  try dsimp only at hw4
  have hP : va_P G vwCl [(h0, oX9 b), (b 1, oX0 bc 0 0 0 0 0 0 0 0 0 0)] H := hP
  have hD : va_D A [(h0, oX9 b), (b 1, oX0 bc 0 0 0 0 0 0 0 0 0 0)] := hD
  obtain rfl : r2 = 0 := hw4
  refine lv_if_eq (tgt := 16) hx hb dX9_grief_9 (by decide) (fun c5 => ?_) (fun c5 => absurd (by decide) c5)
  refine lv_bipush (v := (-2)) hx hb dX9_grief_16 (by decide) ?_
  exact hret _ _ _ _ (-2) () hP hD hS dX9_grief_18 rfl
set_option maxHeartbeats 4000000 in
set_option maxRecDepth 100000 in
theorem f_X9_at (l : Launch) (G : va_G) (cI cJ cZ cB cQ : ClassId) (sz : Nat) (h0 : Nat) (b : Nat → Nat) (bc : Nat → Nat) (p0 : Int32) (p1 : Int32) : CI l yX9_at (wl_ yX9_at cX9_at 3 (some .int)) ({ frames := 1, cells := 0, slots := 0, locals := 22 } : Room) G (TY cI cJ cZ cB cQ) [.ref h0, .int p0, .int p1] [(h0, oX9 b), (b 1, oX0 bc 0 0 0 0 0 0 0 0 0 0)] sz (fun (r : Int32) (u : Unit) => r = (-2)) (fun _ : Unit => [(h0, oX9 b), (b 1, oX0 bc 0 0 0 0 0 0 0 0 0 0)]) 0 0 := by
  refine CI.go (cc := cX9_at) (maxL := 3) (ret := (some .int)) (by decide) rfl (Nat.le_of_ble_eq_true rfl) ?_
  intro p e s m below meth c A ls Q hBd hret
  obtain ⟨hx, hb, hr, hml, hts, hown, hlk, hnm, hP, hK, hD, hA, hZ, hl⟩ := hBd
  have hown : s.vm.findClass RX9 = some m.cls := hown
  have hl : lv_has ls 3 [(0, .ref h0), (1, .int p0), (2, .int p1)] := hl
  have hS : va_S A s.heap s.heap [] := va_S.rf
  refine lv_aload_n hx hb dX9_at_0 rfl (lv_at hl 0 rfl) ?_
  refine va_get (D := G) (ci := 9) (v := .ref (b 1)) (C := RX9) (T := TX9) (N := 11) hx hb hts iG_X9 hown hK hP 0 rfl rfl 1 (by decide) (hts _ w_352) (fun _ h9 => h9) rfl dX9_at_1 ?_
  refine lv_iload_n hx hb dX9_at_4 rfl (lv_at hl 1 rfl) ?_
  obtain ⟨v1, ev1⟩ : ∃ y : Int64, p0.toInt64 = y := ⟨_, rfl⟩
  have tv1 : v1.toInt = p0.toInt := ti_wide rfl ev1
  refine lv_i2l (v := v1) hx hb dX9_at_5 ev1 ?_
  refine k_i (wc := [(b 1, oX0 bc 0 0 0 0 0 0 0 0 0 0)]) (wr := [(h0, oX9 b)]) hP hD hS hA [1] [0] rfl rfl rfl (by decide) (va_runVN (As := [.long v1]) (rest := []) ⟨hx, hb, hml, hown, hts⟩ (f_X0_hasWidow l G cI cJ cZ cB cQ _ (b 1) bc v1) ⟨va_cnB (host := "WidowRoads") 1 hts (gW w_671) rfl rfl rfl (nz_nw hZ nw_668 rfl) (hts _ w_4) hd_X0_hasWidow ⟨Nat.le_of_ble_eq_true rfl, Nat.le_of_ble_eq_true rfl⟩, (hts _ w_670), (hts _ wp_35)⟩ (mV hK hZ hP hD [1] rfl rfl [.long v1] 1 0 rfl rfl) rfl rfl hl.1 rfl (lv_room (Nat.le_of_ble_eq_true rfl)) dX9_at_6 ⟨Nat.le_of_ble_eq_true rfl, Nat.le_of_ble_eq_true rfl⟩) (fun r2 u3 H locs hw4 hP hD hS => ?_)
  try dsimp only at hw4
  have hP : va_P G vwCl [(h0, oX9 b), (b 1, oX0 bc 0 0 0 0 0 0 0 0 0 0)] H := hP
  have hD : va_D A [(h0, oX9 b), (b 1, oX0 bc 0 0 0 0 0 0 0 0 0 0)] := hD
  obtain rfl : r2 = 0 := hw4
  refine lv_if_eq (tgt := 20) hx hb dX9_at_9 (by decide) (fun c5 => ?_) (fun c5 => absurd (by decide) c5)
  refine lv_bipush (v := (-2)) hx hb dX9_at_20 (by decide) ?_
  exact hret _ _ _ _ (-2) () hP hD hS dX9_at_22 rfl
set_option maxHeartbeats 4000000 in
set_option maxRecDepth 100000 in
theorem f_X9_steps (l : Launch) (G : va_G) (cI cJ cZ cB cQ : ClassId) (sz : Nat) (h0 : Nat) (b : Nat → Nat) (bc : Nat → Nat) (p0 : Int32) : CI l yX9_steps (wl_ yX9_steps cX9_steps 2 (some .int)) ({ frames := 1, cells := 0, slots := 0, locals := 22 } : Room) G (TY cI cJ cZ cB cQ) [.ref h0, .int p0] [(h0, oX9 b), (b 1, oX0 bc 0 0 0 0 0 0 0 0 0 0)] sz (fun (r : Int32) (u : Unit) => r = (-2)) (fun _ : Unit => [(h0, oX9 b), (b 1, oX0 bc 0 0 0 0 0 0 0 0 0 0)]) 0 0 := by
  refine CI.go (cc := cX9_steps) (maxL := 2) (ret := (some .int)) (by decide) rfl (Nat.le_of_ble_eq_true rfl) ?_
  intro p e s m below meth c A ls Q hBd hret
  obtain ⟨hx, hb, hr, hml, hts, hown, hlk, hnm, hP, hK, hD, hA, hZ, hl⟩ := hBd
  have hown : s.vm.findClass RX9 = some m.cls := hown
  have hl : lv_has ls 2 [(0, .ref h0), (1, .int p0)] := hl
  have hS : va_S A s.heap s.heap [] := va_S.rf
  refine lv_aload_n hx hb dX9_steps_0 rfl (lv_at hl 0 rfl) ?_
  refine va_get (D := G) (ci := 9) (v := .ref (b 1)) (C := RX9) (T := TX9) (N := 11) hx hb hts iG_X9 hown hK hP 0 rfl rfl 1 (by decide) (hts _ w_352) (fun _ h9 => h9) rfl dX9_steps_1 ?_
  refine lv_iload_n hx hb dX9_steps_4 rfl (lv_at hl 1 rfl) ?_
  obtain ⟨v1, ev1⟩ : ∃ y : Int64, p0.toInt64 = y := ⟨_, rfl⟩
  have tv1 : v1.toInt = p0.toInt := ti_wide rfl ev1
  refine lv_i2l (v := v1) hx hb dX9_steps_5 ev1 ?_
  refine k_i (wc := [(b 1, oX0 bc 0 0 0 0 0 0 0 0 0 0)]) (wr := [(h0, oX9 b)]) hP hD hS hA [1] [0] rfl rfl rfl (by decide) (va_runVN (As := [.long v1]) (rest := []) ⟨hx, hb, hml, hown, hts⟩ (f_X0_hasWidow l G cI cJ cZ cB cQ _ (b 1) bc v1) ⟨va_cnB (host := "WidowRoads") 1 hts (gW w_671) rfl rfl rfl (nz_nw hZ nw_668 rfl) (hts _ w_4) hd_X0_hasWidow ⟨Nat.le_of_ble_eq_true rfl, Nat.le_of_ble_eq_true rfl⟩, (hts _ w_670), (hts _ wp_35)⟩ (mV hK hZ hP hD [1] rfl rfl [.long v1] 1 0 rfl rfl) rfl rfl hl.1 rfl (lv_room (Nat.le_of_ble_eq_true rfl)) dX9_steps_6 ⟨Nat.le_of_ble_eq_true rfl, Nat.le_of_ble_eq_true rfl⟩) (fun r2 u3 H locs hw4 hP hD hS => ?_)
  try dsimp only at hw4
  have hP : va_P G vwCl [(h0, oX9 b), (b 1, oX0 bc 0 0 0 0 0 0 0 0 0 0)] H := hP
  have hD : va_D A [(h0, oX9 b), (b 1, oX0 bc 0 0 0 0 0 0 0 0 0 0)] := hD
  obtain rfl : r2 = 0 := hw4
  refine lv_if_eq (tgt := 24) hx hb dX9_steps_9 (by decide) (fun c5 => ?_) (fun c5 => absurd (by decide) c5)
  refine lv_bipush (v := (-2)) hx hb dX9_steps_24 (by decide) ?_
  exact hret _ _ _ _ (-2) () hP hD hS dX9_steps_26 rfl
set_option maxHeartbeats 4000000 in
set_option maxRecDepth 100000 in
theorem f_X9_stands (l : Launch) (G : va_G) (cI cJ cZ cB cQ : ClassId) (sz : Nat) (h0 : Nat) (b : Nat → Nat) (bc : Nat → Nat) (p0 : Int32) : CI l yX9_stands (wl_ yX9_stands cX9_stands 2 (some .int)) ({ frames := 1, cells := 0, slots := 0, locals := 22 } : Room) G (TY cI cJ cZ cB cQ) [.ref h0, .int p0] [(h0, oX9 b), (b 1, oX0 bc 0 0 0 0 0 0 0 0 0 0)] sz (fun (r : Int32) (u : Unit) => r = (-2)) (fun _ : Unit => [(h0, oX9 b), (b 1, oX0 bc 0 0 0 0 0 0 0 0 0 0)]) 0 0 := by
  refine CI.go (cc := cX9_stands) (maxL := 2) (ret := (some .int)) (by decide) rfl (Nat.le_of_ble_eq_true rfl) ?_
  intro p e s m below meth c A ls Q hBd hret
  obtain ⟨hx, hb, hr, hml, hts, hown, hlk, hnm, hP, hK, hD, hA, hZ, hl⟩ := hBd
  have hown : s.vm.findClass RX9 = some m.cls := hown
  have hl : lv_has ls 2 [(0, .ref h0), (1, .int p0)] := hl
  have hS : va_S A s.heap s.heap [] := va_S.rf
  refine lv_aload_n hx hb dX9_stands_0 rfl (lv_at hl 0 rfl) ?_
  refine va_get (D := G) (ci := 9) (v := .ref (b 1)) (C := RX9) (T := TX9) (N := 11) hx hb hts iG_X9 hown hK hP 0 rfl rfl 1 (by decide) (hts _ w_352) (fun _ h9 => h9) rfl dX9_stands_1 ?_
  refine lv_iload_n hx hb dX9_stands_4 rfl (lv_at hl 1 rfl) ?_
  obtain ⟨v1, ev1⟩ : ∃ y : Int64, p0.toInt64 = y := ⟨_, rfl⟩
  have tv1 : v1.toInt = p0.toInt := ti_wide rfl ev1
  refine lv_i2l (v := v1) hx hb dX9_stands_5 ev1 ?_
  refine k_i (wc := [(b 1, oX0 bc 0 0 0 0 0 0 0 0 0 0)]) (wr := [(h0, oX9 b)]) hP hD hS hA [1] [0] rfl rfl rfl (by decide) (va_runVN (As := [.long v1]) (rest := []) ⟨hx, hb, hml, hown, hts⟩ (f_X0_hasWidow l G cI cJ cZ cB cQ _ (b 1) bc v1) ⟨va_cnB (host := "WidowRoads") 1 hts (gW w_671) rfl rfl rfl (nz_nw hZ nw_668 rfl) (hts _ w_4) hd_X0_hasWidow ⟨Nat.le_of_ble_eq_true rfl, Nat.le_of_ble_eq_true rfl⟩, (hts _ w_670), (hts _ wp_35)⟩ (mV hK hZ hP hD [1] rfl rfl [.long v1] 1 0 rfl rfl) rfl rfl hl.1 rfl (lv_room (Nat.le_of_ble_eq_true rfl)) dX9_stands_6 ⟨Nat.le_of_ble_eq_true rfl, Nat.le_of_ble_eq_true rfl⟩) (fun r2 u3 H locs hw4 hP hD hS => ?_)
  try dsimp only at hw4
  have hP : va_P G vwCl [(h0, oX9 b), (b 1, oX0 bc 0 0 0 0 0 0 0 0 0 0)] H := hP
  have hD : va_D A [(h0, oX9 b), (b 1, oX0 bc 0 0 0 0 0 0 0 0 0 0)] := hD
  obtain rfl : r2 = 0 := hw4
  refine lv_if_ne (tgt := 15) hx hb dX9_stands_9 (by decide) (fun c5 => absurd (by decide) c5) (fun c5 => ?_)
  refine lv_bipush (v := (-2)) hx hb dX9_stands_12 (by decide) ?_
  exact hret _ _ _ _ (-2) () hP hD hS dX9_stands_14 rfl
set_option maxHeartbeats 4000000 in
set_option maxRecDepth 100000 in
theorem f_X9_ground (l : Launch) (G : va_G) (cI cJ cZ cB cQ : ClassId) (sz : Nat) (h0 : Nat) (b : Nat → Nat) (bc : Nat → Nat) (p0 : Int32) : CI l yX9_ground (wl_ yX9_ground cX9_ground 2 (some .int)) ({ frames := 1, cells := 0, slots := 0, locals := 22 } : Room) G (TY cI cJ cZ cB cQ) [.ref h0, .int p0] [(h0, oX9 b), (b 1, oX0 bc 0 0 0 0 0 0 0 0 0 0)] sz (fun (r : Int32) (u : Unit) => r = (-2)) (fun _ : Unit => [(h0, oX9 b), (b 1, oX0 bc 0 0 0 0 0 0 0 0 0 0)]) 0 0 := by
  refine CI.go (cc := cX9_ground) (maxL := 2) (ret := (some .int)) (by decide) rfl (Nat.le_of_ble_eq_true rfl) ?_
  intro p e s m below meth c A ls Q hBd hret
  obtain ⟨hx, hb, hr, hml, hts, hown, hlk, hnm, hP, hK, hD, hA, hZ, hl⟩ := hBd
  have hown : s.vm.findClass RX9 = some m.cls := hown
  have hl : lv_has ls 2 [(0, .ref h0), (1, .int p0)] := hl
  have hS : va_S A s.heap s.heap [] := va_S.rf
  refine lv_aload_n hx hb dX9_ground_0 rfl (lv_at hl 0 rfl) ?_
  refine va_get (D := G) (ci := 9) (v := .ref (b 1)) (C := RX9) (T := TX9) (N := 11) hx hb hts iG_X9 hown hK hP 0 rfl rfl 1 (by decide) (hts _ w_352) (fun _ h9 => h9) rfl dX9_ground_1 ?_
  refine lv_iload_n hx hb dX9_ground_4 rfl (lv_at hl 1 rfl) ?_
  obtain ⟨v1, ev1⟩ : ∃ y : Int64, p0.toInt64 = y := ⟨_, rfl⟩
  have tv1 : v1.toInt = p0.toInt := ti_wide rfl ev1
  refine lv_i2l (v := v1) hx hb dX9_ground_5 ev1 ?_
  refine k_i (wc := [(b 1, oX0 bc 0 0 0 0 0 0 0 0 0 0)]) (wr := [(h0, oX9 b)]) hP hD hS hA [1] [0] rfl rfl rfl (by decide) (va_runVN (As := [.long v1]) (rest := []) ⟨hx, hb, hml, hown, hts⟩ (f_X0_hasWidow l G cI cJ cZ cB cQ _ (b 1) bc v1) ⟨va_cnB (host := "WidowRoads") 1 hts (gW w_671) rfl rfl rfl (nz_nw hZ nw_668 rfl) (hts _ w_4) hd_X0_hasWidow ⟨Nat.le_of_ble_eq_true rfl, Nat.le_of_ble_eq_true rfl⟩, (hts _ w_670), (hts _ wp_35)⟩ (mV hK hZ hP hD [1] rfl rfl [.long v1] 1 0 rfl rfl) rfl rfl hl.1 rfl (lv_room (Nat.le_of_ble_eq_true rfl)) dX9_ground_6 ⟨Nat.le_of_ble_eq_true rfl, Nat.le_of_ble_eq_true rfl⟩) (fun r2 u3 H locs hw4 hP hD hS => ?_)
  try dsimp only at hw4
  have hP : va_P G vwCl [(h0, oX9 b), (b 1, oX0 bc 0 0 0 0 0 0 0 0 0 0)] H := hP
  have hD : va_D A [(h0, oX9 b), (b 1, oX0 bc 0 0 0 0 0 0 0 0 0 0)] := hD
  obtain rfl : r2 = 0 := hw4
  refine lv_if_ne (tgt := 15) hx hb dX9_ground_9 (by decide) (fun c5 => absurd (by decide) c5) (fun c5 => ?_)
  refine lv_bipush (v := (-2)) hx hb dX9_ground_12 (by decide) ?_
  exact hret _ _ _ _ (-2) () hP hD hS dX9_ground_14 rfl
set_option maxHeartbeats 4000000 in
set_option maxRecDepth 100000 in
theorem f_X9_loop (l : Launch) (G : va_G) (cI cJ cZ cB cQ : ClassId) (sz : Nat) (h0 : Nat) (b : Nat → Nat) (bc : Nat → Nat) (p0 : Int32) : CI l yX9_loop (wl_ yX9_loop cX9_loop 4 (some .int)) ({ frames := 1, cells := 0, slots := 0, locals := 22 } : Room) G (TY cI cJ cZ cB cQ) [.ref h0, .int p0] [(h0, oX9 b), (b 1, oX0 bc 0 0 0 0 0 0 0 0 0 0)] sz (fun (r : Int32) (u : Unit) => r = (-2)) (fun _ : Unit => [(h0, oX9 b), (b 1, oX0 bc 0 0 0 0 0 0 0 0 0 0)]) 0 0 := by
  refine CI.go (cc := cX9_loop) (maxL := 4) (ret := (some .int)) (by decide) rfl (Nat.le_of_ble_eq_true rfl) ?_
  intro p e s m below meth c A ls Q hBd hret
  obtain ⟨hx, hb, hr, hml, hts, hown, hlk, hnm, hP, hK, hD, hA, hZ, hl⟩ := hBd
  have hown : s.vm.findClass RX9 = some m.cls := hown
  have hl : lv_has ls 4 [(0, .ref h0), (1, .int p0)] := hl
  have hS : va_S A s.heap s.heap [] := va_S.rf
  refine lv_aload_n hx hb dX9_loop_0 rfl (lv_at hl 0 rfl) ?_
  refine va_get (D := G) (ci := 9) (v := .ref (b 1)) (C := RX9) (T := TX9) (N := 11) hx hb hts iG_X9 hown hK hP 0 rfl rfl 1 (by decide) (hts _ w_352) (fun _ h9 => h9) rfl dX9_loop_1 ?_
  refine lv_iload_n hx hb dX9_loop_4 rfl (lv_at hl 1 rfl) ?_
  obtain ⟨v1, ev1⟩ : ∃ y : Int64, p0.toInt64 = y := ⟨_, rfl⟩
  have tv1 : v1.toInt = p0.toInt := ti_wide rfl ev1
  refine lv_i2l (v := v1) hx hb dX9_loop_5 ev1 ?_
  refine k_i (wc := [(b 1, oX0 bc 0 0 0 0 0 0 0 0 0 0)]) (wr := [(h0, oX9 b)]) hP hD hS hA [1] [0] rfl rfl rfl (by decide) (va_runVN (As := [.long v1]) (rest := []) ⟨hx, hb, hml, hown, hts⟩ (f_X0_hasWidow l G cI cJ cZ cB cQ _ (b 1) bc v1) ⟨va_cnB (host := "WidowRoads") 1 hts (gW w_671) rfl rfl rfl (nz_nw hZ nw_668 rfl) (hts _ w_4) hd_X0_hasWidow ⟨Nat.le_of_ble_eq_true rfl, Nat.le_of_ble_eq_true rfl⟩, (hts _ w_670), (hts _ wp_35)⟩ (mV hK hZ hP hD [1] rfl rfl [.long v1] 1 0 rfl rfl) rfl rfl hl.1 rfl (lv_room (Nat.le_of_ble_eq_true rfl)) dX9_loop_6 ⟨Nat.le_of_ble_eq_true rfl, Nat.le_of_ble_eq_true rfl⟩) (fun r2 u3 H locs hw4 hP hD hS => ?_)
  try dsimp only at hw4
  have hP : va_P G vwCl [(h0, oX9 b), (b 1, oX0 bc 0 0 0 0 0 0 0 0 0 0)] H := hP
  have hD : va_D A [(h0, oX9 b), (b 1, oX0 bc 0 0 0 0 0 0 0 0 0 0)] := hD
  obtain rfl : r2 = 0 := hw4
  refine lv_if_ne (tgt := 15) hx hb dX9_loop_9 (by decide) (fun c5 => absurd (by decide) c5) (fun c5 => ?_)
  refine lv_bipush (v := (-2)) hx hb dX9_loop_12 (by decide) ?_
  exact hret _ _ _ _ (-2) () hP hD hS dX9_loop_14 rfl
set_option maxHeartbeats 4000000 in
set_option maxRecDepth 100000 in
theorem f_X9_haunt (l : Launch) (G : va_G) (cI cJ cZ cB cQ : ClassId) (sz : Nat) (h0 : Nat) (b : Nat → Nat) (bc : Nat → Nat) (p0 : Int32) : CI l yX9_haunt (wl_ yX9_haunt cX9_haunt 6 (some .int)) ({ frames := 1, cells := 0, slots := 0, locals := 22 } : Room) G (TY cI cJ cZ cB cQ) [.ref h0, .int p0] [(h0, oX9 b), (b 1, oX0 bc 0 0 0 0 0 0 0 0 0 0)] sz (fun (r : Int32) (u : Unit) => r = (-2)) (fun _ : Unit => [(h0, oX9 b), (b 1, oX0 bc 0 0 0 0 0 0 0 0 0 0)]) 0 0 := by
  refine CI.go (cc := cX9_haunt) (maxL := 6) (ret := (some .int)) (by decide) rfl (Nat.le_of_ble_eq_true rfl) ?_
  intro p e s m below meth c A ls Q hBd hret
  obtain ⟨hx, hb, hr, hml, hts, hown, hlk, hnm, hP, hK, hD, hA, hZ, hl⟩ := hBd
  have hown : s.vm.findClass RX9 = some m.cls := hown
  have hl : lv_has ls 6 [(0, .ref h0), (1, .int p0)] := hl
  have hS : va_S A s.heap s.heap [] := va_S.rf
  refine lv_aload_n hx hb dX9_haunt_0 rfl (lv_at hl 0 rfl) ?_
  refine va_get (D := G) (ci := 9) (v := .ref (b 1)) (C := RX9) (T := TX9) (N := 11) hx hb hts iG_X9 hown hK hP 0 rfl rfl 1 (by decide) (hts _ w_352) (fun _ h9 => h9) rfl dX9_haunt_1 ?_
  refine lv_iload_n hx hb dX9_haunt_4 rfl (lv_at hl 1 rfl) ?_
  obtain ⟨v1, ev1⟩ : ∃ y : Int64, p0.toInt64 = y := ⟨_, rfl⟩
  have tv1 : v1.toInt = p0.toInt := ti_wide rfl ev1
  refine lv_i2l (v := v1) hx hb dX9_haunt_5 ev1 ?_
  refine k_i (wc := [(b 1, oX0 bc 0 0 0 0 0 0 0 0 0 0)]) (wr := [(h0, oX9 b)]) hP hD hS hA [1] [0] rfl rfl rfl (by decide) (va_runVN (As := [.long v1]) (rest := []) ⟨hx, hb, hml, hown, hts⟩ (f_X0_hasWidow l G cI cJ cZ cB cQ _ (b 1) bc v1) ⟨va_cnB (host := "WidowRoads") 1 hts (gW w_671) rfl rfl rfl (nz_nw hZ nw_668 rfl) (hts _ w_4) hd_X0_hasWidow ⟨Nat.le_of_ble_eq_true rfl, Nat.le_of_ble_eq_true rfl⟩, (hts _ w_670), (hts _ wp_35)⟩ (mV hK hZ hP hD [1] rfl rfl [.long v1] 1 0 rfl rfl) rfl rfl hl.1 rfl (lv_room (Nat.le_of_ble_eq_true rfl)) dX9_haunt_6 ⟨Nat.le_of_ble_eq_true rfl, Nat.le_of_ble_eq_true rfl⟩) (fun r2 u3 H locs hw4 hP hD hS => ?_)
  try dsimp only at hw4
  have hP : va_P G vwCl [(h0, oX9 b), (b 1, oX0 bc 0 0 0 0 0 0 0 0 0 0)] H := hP
  have hD : va_D A [(h0, oX9 b), (b 1, oX0 bc 0 0 0 0 0 0 0 0 0 0)] := hD
  obtain rfl : r2 = 0 := hw4
  refine lv_if_ne (tgt := 15) hx hb dX9_haunt_9 (by decide) (fun c5 => absurd (by decide) c5) (fun c5 => ?_)
  refine lv_bipush (v := (-2)) hx hb dX9_haunt_12 (by decide) ?_
  exact hret _ _ _ _ (-2) () hP hD hS dX9_haunt_14 rfl
set_option maxHeartbeats 4000000 in
set_option maxRecDepth 100000 in
theorem f_X9_evening (l : Launch) (G : va_G) (cI cJ cZ cB cQ : ClassId) (sz : Nat) (h0 : Nat) (b : Nat → Nat) (bc : Nat → Nat) (p0 : Int32) : CI l yX9_evening (wl_ yX9_evening cX9_evening 4 (some .int)) ({ frames := 1, cells := 0, slots := 0, locals := 21 } : Room) G (TY cI cJ cZ cB cQ) [.ref h0, .int p0] [(h0, oX9 b), (b 1, oX0 bc 0 0 0 0 0 0 0 0 0 0)] sz (fun (r : Int32) (u : Unit) => r = (-2)) (fun _ : Unit => [(h0, oX9 b), (b 1, oX0 bc 0 0 0 0 0 0 0 0 0 0)]) 0 0 := by
  refine CI.go (cc := cX9_evening) (maxL := 4) (ret := (some .int)) (by decide) rfl (Nat.le_of_ble_eq_true rfl) ?_
  intro p e s m below meth c A ls Q hBd hret
  obtain ⟨hx, hb, hr, hml, hts, hown, hlk, hnm, hP, hK, hD, hA, hZ, hl⟩ := hBd
  have hown : s.vm.findClass RX9 = some m.cls := hown
  have hl : lv_has ls 4 [(0, .ref h0), (1, .int p0)] := hl
  have hS : va_S A s.heap s.heap [] := va_S.rf
  refine lv_aload_n hx hb dX9_evening_0 rfl (lv_at hl 0 rfl) ?_
  refine va_get (D := G) (ci := 9) (v := .ref (b 1)) (C := RX9) (T := TX9) (N := 11) hx hb hts iG_X9 hown hK hP 0 rfl rfl 1 (by decide) (hts _ w_352) (fun _ h9 => h9) rfl dX9_evening_1 ?_
  refine lv_iload_n hx hb dX9_evening_4 rfl (lv_at hl 1 rfl) ?_
  refine k_i (wc := [(b 1, oX0 bc 0 0 0 0 0 0 0 0 0 0)]) (wr := [(h0, oX9 b)]) hP hD hS hA [1] [0] rfl rfl rfl (by decide) (va_runVN (As := [.int p0]) (rest := []) ⟨hx, hb, hml, hown, hts⟩ (f_X0_hasYear l G cI cJ cZ cB cQ _ (b 1) bc p0) ⟨va_cnB (host := "WidowRoads") 1 hts (gW w_727) rfl rfl rfl (nz_nw hZ nw_724 rfl) (hts _ w_4) hd_X0_hasYear ⟨Nat.le_of_ble_eq_true rfl, Nat.le_of_ble_eq_true rfl⟩, (hts _ w_726), (hts _ wp_39)⟩ (mV hK hZ hP hD [1] rfl rfl [.int p0] 1 0 rfl rfl) rfl rfl hl.1 rfl (lv_room (Nat.le_of_ble_eq_true rfl)) dX9_evening_5 ⟨Nat.le_of_ble_eq_true rfl, Nat.le_of_ble_eq_true rfl⟩) (fun r1 u2 H locs hw3 hP hD hS => ?_)
  try dsimp only at hw3
  have hP : va_P G vwCl [(h0, oX9 b), (b 1, oX0 bc 0 0 0 0 0 0 0 0 0 0)] H := hP
  have hD : va_D A [(h0, oX9 b), (b 1, oX0 bc 0 0 0 0 0 0 0 0 0 0)] := hD
  obtain rfl : r1 = 0 := hw3
  refine lv_if_eq (tgt := 22) hx hb dX9_evening_8 (by decide) (fun c4 => ?_) (fun c4 => absurd (by decide) c4)
  refine lv_bipush (v := (-2)) hx hb dX9_evening_22 (by decide) ?_
  exact hret _ _ _ _ (-2) () hP hD hS dX9_evening_24 rfl
set_option maxHeartbeats 4000000 in
set_option maxRecDepth 100000 in
theorem f_X9_visits (l : Launch) (G : va_G) (cI cJ cZ cB cQ : ClassId) (sz : Nat) (h0 : Nat) (b : Nat → Nat) (bc : Nat → Nat) (p0 : Int32) (p1 : Int32) : CI l yX9_visits (wl_ yX9_visits cX9_visits 4 (some .int)) ({ frames := 1, cells := 0, slots := 0, locals := 22 } : Room) G (TY cI cJ cZ cB cQ) [.ref h0, .int p0, .int p1] [(h0, oX9 b), (b 1, oX0 bc 0 0 0 0 0 0 0 0 0 0)] sz (fun (r : Int32) (u : Unit) => r = (-2)) (fun _ : Unit => [(h0, oX9 b), (b 1, oX0 bc 0 0 0 0 0 0 0 0 0 0)]) 0 0 := by
  refine CI.go (cc := cX9_visits) (maxL := 4) (ret := (some .int)) (by decide) rfl (Nat.le_of_ble_eq_true rfl) ?_
  intro p e s m below meth c A ls Q hBd hret
  obtain ⟨hx, hb, hr, hml, hts, hown, hlk, hnm, hP, hK, hD, hA, hZ, hl⟩ := hBd
  have hown : s.vm.findClass RX9 = some m.cls := hown
  have hl : lv_has ls 4 [(0, .ref h0), (1, .int p0), (2, .int p1)] := hl
  have hS : va_S A s.heap s.heap [] := va_S.rf
  refine lv_aload_n hx hb dX9_visits_0 rfl (lv_at hl 0 rfl) ?_
  refine va_get (D := G) (ci := 9) (v := .ref (b 1)) (C := RX9) (T := TX9) (N := 11) hx hb hts iG_X9 hown hK hP 0 rfl rfl 1 (by decide) (hts _ w_352) (fun _ h9 => h9) rfl dX9_visits_1 ?_
  refine lv_iload_n hx hb dX9_visits_4 rfl (lv_at hl 2 rfl) ?_
  obtain ⟨v1, ev1⟩ : ∃ y : Int64, p1.toInt64 = y := ⟨_, rfl⟩
  have tv1 : v1.toInt = p1.toInt := ti_wide rfl ev1
  refine lv_i2l (v := v1) hx hb dX9_visits_5 ev1 ?_
  refine k_i (wc := [(b 1, oX0 bc 0 0 0 0 0 0 0 0 0 0)]) (wr := [(h0, oX9 b)]) hP hD hS hA [1] [0] rfl rfl rfl (by decide) (va_runVN (As := [.long v1]) (rest := []) ⟨hx, hb, hml, hown, hts⟩ (f_X0_spotOf l G cI cJ cZ cB cQ _ (b 1) bc v1) ⟨va_cnB (host := "WidowRoads") 1 hts (gW w_656) rfl rfl rfl (nz_nw hZ nw_653 rfl) (hts _ w_4) hd_X0_spotOf ⟨Nat.le_of_ble_eq_true rfl, Nat.le_of_ble_eq_true rfl⟩, (hts _ w_655), (hts _ wp_34)⟩ (mV hK hZ hP hD [1] rfl rfl [.long v1] 1 0 rfl rfl) rfl rfl hl.1 rfl (lv_room (Nat.le_of_ble_eq_true rfl)) dX9_visits_6 ⟨Nat.le_of_ble_eq_true rfl, Nat.le_of_ble_eq_true rfl⟩) (fun r2 u3 H locs hw4 hP hD hS => ?_)
  try dsimp only at hw4
  have hP : va_P G vwCl [(h0, oX9 b), (b 1, oX0 bc 0 0 0 0 0 0 0 0 0 0)] H := hP
  have hD : va_D A [(h0, oX9 b), (b 1, oX0 bc 0 0 0 0 0 0 0 0 0 0)] := hD
  obtain rfl : r2 = (-1) := hw4
  refine lv_istore_n (lv' := [(3, .int (-1)), (0, .ref h0), (1, .int p0), (2, .int p1)]) hx hb dX9_visits_9 rfl hl (by decide) rfl (fun ls hl => ?_)
  refine lv_aload_n hx hb dX9_visits_10 rfl (lv_at hl 1 rfl) ?_
  refine va_get (D := G) (ci := 9) (v := .ref (b 1)) (C := RX9) (T := TX9) (N := 11) hx hb hts iG_X9 hown hK hP 0 rfl rfl 1 (by decide) (hts _ w_352) (fun _ h9 => h9) rfl dX9_visits_11 ?_
  refine lv_iload_n hx hb dX9_visits_14 rfl (lv_at hl 2 rfl) ?_
  obtain ⟨v5, ev5⟩ : ∃ y : Int64, p0.toInt64 = y := ⟨_, rfl⟩
  have tv5 : v5.toInt = p0.toInt := ti_wide rfl ev5
  refine lv_i2l (v := v5) hx hb dX9_visits_15 ev5 ?_
  refine k_i (wc := [(b 1, oX0 bc 0 0 0 0 0 0 0 0 0 0)]) (wr := [(h0, oX9 b)]) hP hD hS hA [1] [0] rfl rfl rfl (by decide) (va_runVN (As := [.long v5]) (rest := []) ⟨hx, hb, hml, hown, hts⟩ (f_X0_hasWidow l G cI cJ cZ cB cQ _ (b 1) bc v5) ⟨va_cnB (host := "WidowRoads") 1 hts (gW w_671) rfl rfl rfl (nz_nw hZ nw_668 rfl) (hts _ w_4) hd_X0_hasWidow ⟨Nat.le_of_ble_eq_true rfl, Nat.le_of_ble_eq_true rfl⟩, (hts _ w_670), (hts _ wp_35)⟩ (mV hK hZ hP hD [1] rfl rfl [.long v5] 1 0 rfl rfl) rfl rfl hl.1 rfl (lv_room (Nat.le_of_ble_eq_true rfl)) dX9_visits_16 ⟨Nat.le_of_ble_eq_true rfl, Nat.le_of_ble_eq_true rfl⟩) (fun r6 u7 H locs hw8 hP hD hS => ?_)
  try dsimp only at hw8
  have hP : va_P G vwCl [(h0, oX9 b), (b 1, oX0 bc 0 0 0 0 0 0 0 0 0 0)] H := hP
  have hD : va_D A [(h0, oX9 b), (b 1, oX0 bc 0 0 0 0 0 0 0 0 0 0)] := hD
  obtain rfl : r6 = 0 := hw8
  refine lv_if_eq (tgt := 27) hx hb dX9_visits_19 (by decide) (fun c9 => ?_) (fun c9 => absurd (by decide) c9)
  refine lv_bipush (v := (-2)) hx hb dX9_visits_27 (by decide) ?_
  exact hret _ _ _ _ (-2) () hP hD hS dX9_visits_29 rfl
set_option maxHeartbeats 4000000 in
set_option maxRecDepth 100000 in
theorem f_X9_straight (l : Launch) (G : va_G) (cI cJ cZ cB cQ : ClassId) (sz : Nat) (h0 : Nat) (b : Nat → Nat) (bc : Nat → Nat) (p0 : Int32) : CI l yX9_straight (wl_ yX9_straight cX9_straight 3 (some .int)) ({ frames := 1, cells := 0, slots := 0, locals := 22 } : Room) G (TY cI cJ cZ cB cQ) [.ref h0, .int p0] [(h0, oX9 b), (b 1, oX0 bc 0 0 0 0 0 0 0 0 0 0)] sz (fun (r : Int32) (u : Unit) => r = (-2)) (fun _ : Unit => [(h0, oX9 b), (b 1, oX0 bc 0 0 0 0 0 0 0 0 0 0)]) 0 0 := by
  refine CI.go (cc := cX9_straight) (maxL := 3) (ret := (some .int)) (by decide) rfl (Nat.le_of_ble_eq_true rfl) ?_
  intro p e s m below meth c A ls Q hBd hret
  obtain ⟨hx, hb, hr, hml, hts, hown, hlk, hnm, hP, hK, hD, hA, hZ, hl⟩ := hBd
  have hown : s.vm.findClass RX9 = some m.cls := hown
  have hl : lv_has ls 3 [(0, .ref h0), (1, .int p0)] := hl
  have hS : va_S A s.heap s.heap [] := va_S.rf
  refine lv_aload_n hx hb dX9_straight_0 rfl (lv_at hl 0 rfl) ?_
  refine va_get (D := G) (ci := 9) (v := .ref (b 1)) (C := RX9) (T := TX9) (N := 11) hx hb hts iG_X9 hown hK hP 0 rfl rfl 1 (by decide) (hts _ w_352) (fun _ h9 => h9) rfl dX9_straight_1 ?_
  refine lv_iload_n hx hb dX9_straight_4 rfl (lv_at hl 1 rfl) ?_
  obtain ⟨v1, ev1⟩ : ∃ y : Int64, p0.toInt64 = y := ⟨_, rfl⟩
  have tv1 : v1.toInt = p0.toInt := ti_wide rfl ev1
  refine lv_i2l (v := v1) hx hb dX9_straight_5 ev1 ?_
  refine k_i (wc := [(b 1, oX0 bc 0 0 0 0 0 0 0 0 0 0)]) (wr := [(h0, oX9 b)]) hP hD hS hA [1] [0] rfl rfl rfl (by decide) (va_runVN (As := [.long v1]) (rest := []) ⟨hx, hb, hml, hown, hts⟩ (f_X0_hasWidow l G cI cJ cZ cB cQ _ (b 1) bc v1) ⟨va_cnB (host := "WidowRoads") 1 hts (gW w_671) rfl rfl rfl (nz_nw hZ nw_668 rfl) (hts _ w_4) hd_X0_hasWidow ⟨Nat.le_of_ble_eq_true rfl, Nat.le_of_ble_eq_true rfl⟩, (hts _ w_670), (hts _ wp_35)⟩ (mV hK hZ hP hD [1] rfl rfl [.long v1] 1 0 rfl rfl) rfl rfl hl.1 rfl (lv_room (Nat.le_of_ble_eq_true rfl)) dX9_straight_6 ⟨Nat.le_of_ble_eq_true rfl, Nat.le_of_ble_eq_true rfl⟩) (fun r2 u3 H locs hw4 hP hD hS => ?_)
  try dsimp only at hw4
  have hP : va_P G vwCl [(h0, oX9 b), (b 1, oX0 bc 0 0 0 0 0 0 0 0 0 0)] H := hP
  have hD : va_D A [(h0, oX9 b), (b 1, oX0 bc 0 0 0 0 0 0 0 0 0 0)] := hD
  obtain rfl : r2 = 0 := hw4
  refine lv_if_ne (tgt := 15) hx hb dX9_straight_9 (by decide) (fun c5 => absurd (by decide) c5) (fun c5 => ?_)
  refine lv_bipush (v := (-2)) hx hb dX9_straight_12 (by decide) ?_
  exact hret _ _ _ _ (-2) () hP hD hS dX9_straight_14 rfl
set_option maxHeartbeats 4000000 in
set_option maxRecDepth 100000 in
theorem f_X9_road (l : Launch) (G : va_G) (cI cJ cZ cB cQ : ClassId) (sz : Nat) (h0 : Nat) (b : Nat → Nat) (bc : Nat → Nat) (p0 : Int32) (p1 : Int32) : CI l yX9_road (wl_ yX9_road cX9_road 4 (some .int)) ({ frames := 1, cells := 0, slots := 0, locals := 22 } : Room) G (TY cI cJ cZ cB cQ) [.ref h0, .int p0, .int p1] [(h0, oX9 b), (b 1, oX0 bc 0 0 0 0 0 0 0 0 0 0)] sz (fun (r : Int32) (u : Unit) => r = (-2)) (fun _ : Unit => [(h0, oX9 b), (b 1, oX0 bc 0 0 0 0 0 0 0 0 0 0)]) 0 0 := by
  refine CI.go (cc := cX9_road) (maxL := 4) (ret := (some .int)) (by decide) rfl (Nat.le_of_ble_eq_true rfl) ?_
  intro p e s m below meth c A ls Q hBd hret
  obtain ⟨hx, hb, hr, hml, hts, hown, hlk, hnm, hP, hK, hD, hA, hZ, hl⟩ := hBd
  have hown : s.vm.findClass RX9 = some m.cls := hown
  have hl : lv_has ls 4 [(0, .ref h0), (1, .int p0), (2, .int p1)] := hl
  have hS : va_S A s.heap s.heap [] := va_S.rf
  refine lv_aload_n hx hb dX9_road_0 rfl (lv_at hl 0 rfl) ?_
  refine va_get (D := G) (ci := 9) (v := .ref (b 1)) (C := RX9) (T := TX9) (N := 11) hx hb hts iG_X9 hown hK hP 0 rfl rfl 1 (by decide) (hts _ w_352) (fun _ h9 => h9) rfl dX9_road_1 ?_
  refine lv_iload_n hx hb dX9_road_4 rfl (lv_at hl 1 rfl) ?_
  obtain ⟨v1, ev1⟩ : ∃ y : Int64, p0.toInt64 = y := ⟨_, rfl⟩
  have tv1 : v1.toInt = p0.toInt := ti_wide rfl ev1
  refine lv_i2l (v := v1) hx hb dX9_road_5 ev1 ?_
  refine k_i (wc := [(b 1, oX0 bc 0 0 0 0 0 0 0 0 0 0)]) (wr := [(h0, oX9 b)]) hP hD hS hA [1] [0] rfl rfl rfl (by decide) (va_runVN (As := [.long v1]) (rest := []) ⟨hx, hb, hml, hown, hts⟩ (f_X0_spotOf l G cI cJ cZ cB cQ _ (b 1) bc v1) ⟨va_cnB (host := "WidowRoads") 1 hts (gW w_656) rfl rfl rfl (nz_nw hZ nw_653 rfl) (hts _ w_4) hd_X0_spotOf ⟨Nat.le_of_ble_eq_true rfl, Nat.le_of_ble_eq_true rfl⟩, (hts _ w_655), (hts _ wp_34)⟩ (mV hK hZ hP hD [1] rfl rfl [.long v1] 1 0 rfl rfl) rfl rfl hl.1 rfl (lv_room (Nat.le_of_ble_eq_true rfl)) dX9_road_6 ⟨Nat.le_of_ble_eq_true rfl, Nat.le_of_ble_eq_true rfl⟩) (fun r2 u3 H locs hw4 hP hD hS => ?_)
  try dsimp only at hw4
  have hP : va_P G vwCl [(h0, oX9 b), (b 1, oX0 bc 0 0 0 0 0 0 0 0 0 0)] H := hP
  have hD : va_D A [(h0, oX9 b), (b 1, oX0 bc 0 0 0 0 0 0 0 0 0 0)] := hD
  obtain rfl : r2 = (-1) := hw4
  refine lv_istore_n (lv' := [(3, .int (-1)), (0, .ref h0), (1, .int p0), (2, .int p1)]) hx hb dX9_road_9 rfl hl (by decide) rfl (fun ls hl => ?_)
  refine lv_iload_n hx hb dX9_road_10 rfl (lv_at hl 0 rfl) ?_
  refine lv_iconst (v := (-1)) hx hb dX9_road_11 (by decide) ?_
  refine lv_icmp_eq (tgt := 26) hx hb dX9_road_12 (by decide) (fun c5 => ?_) (fun c5 => absurd (by decide) c5)
  refine lv_bipush (v := (-2)) hx hb dX9_road_26 (by decide) ?_
  exact hret _ _ _ _ (-2) () hP hD hS dX9_road_28 rfl
set_option maxHeartbeats 4000000 in
set_option maxRecDepth 100000 in
theorem f_X9_roads (l : Launch) (G : va_G) (cI cJ cZ cB cQ : ClassId) (sz : Nat) (h0 : Nat) (b : Nat → Nat) (bc : Nat → Nat) (p0 : Int32) : CI l yX9_roads (wl_ yX9_roads cX9_roads 2 (some .int)) ({ frames := 1, cells := 0, slots := 0, locals := 21 } : Room) G (TY cI cJ cZ cB cQ) [.ref h0, .int p0] [(h0, oX9 b), (b 1, oX0 bc 0 0 0 0 0 0 0 0 0 0)] sz (fun (r : Int32) (u : Unit) => r = (-2)) (fun _ : Unit => [(h0, oX9 b), (b 1, oX0 bc 0 0 0 0 0 0 0 0 0 0)]) 0 0 := by
  refine CI.go (cc := cX9_roads) (maxL := 2) (ret := (some .int)) (by decide) rfl (Nat.le_of_ble_eq_true rfl) ?_
  intro p e s m below meth c A ls Q hBd hret
  obtain ⟨hx, hb, hr, hml, hts, hown, hlk, hnm, hP, hK, hD, hA, hZ, hl⟩ := hBd
  have hown : s.vm.findClass RX9 = some m.cls := hown
  have hl : lv_has ls 2 [(0, .ref h0), (1, .int p0)] := hl
  have hS : va_S A s.heap s.heap [] := va_S.rf
  refine lv_aload_n hx hb dX9_roads_0 rfl (lv_at hl 0 rfl) ?_
  refine va_get (D := G) (ci := 9) (v := .ref (b 1)) (C := RX9) (T := TX9) (N := 11) hx hb hts iG_X9 hown hK hP 0 rfl rfl 1 (by decide) (hts _ w_352) (fun _ h9 => h9) rfl dX9_roads_1 ?_
  refine lv_iload_n hx hb dX9_roads_4 rfl (lv_at hl 1 rfl) ?_
  refine k_i (wc := [(b 1, oX0 bc 0 0 0 0 0 0 0 0 0 0)]) (wr := [(h0, oX9 b)]) hP hD hS hA [1] [0] rfl rfl rfl (by decide) (va_runVN (As := [.int p0]) (rest := []) ⟨hx, hb, hml, hown, hts⟩ (f_X0_hasYear l G cI cJ cZ cB cQ _ (b 1) bc p0) ⟨va_cnB (host := "WidowRoads") 1 hts (gW w_727) rfl rfl rfl (nz_nw hZ nw_724 rfl) (hts _ w_4) hd_X0_hasYear ⟨Nat.le_of_ble_eq_true rfl, Nat.le_of_ble_eq_true rfl⟩, (hts _ w_726), (hts _ wp_39)⟩ (mV hK hZ hP hD [1] rfl rfl [.int p0] 1 0 rfl rfl) rfl rfl hl.1 rfl (lv_room (Nat.le_of_ble_eq_true rfl)) dX9_roads_5 ⟨Nat.le_of_ble_eq_true rfl, Nat.le_of_ble_eq_true rfl⟩) (fun r1 u2 H locs hw3 hP hD hS => ?_)
  try dsimp only at hw3
  have hP : va_P G vwCl [(h0, oX9 b), (b 1, oX0 bc 0 0 0 0 0 0 0 0 0 0)] H := hP
  have hD : va_D A [(h0, oX9 b), (b 1, oX0 bc 0 0 0 0 0 0 0 0 0 0)] := hD
  obtain rfl : r1 = 0 := hw3
  refine lv_if_eq (tgt := 26) hx hb dX9_roads_8 (by decide) (fun c4 => ?_) (fun c4 => absurd (by decide) c4)
  refine lv_bipush (v := (-2)) hx hb dX9_roads_26 (by decide) ?_
  exact hret _ _ _ _ (-2) () hP hD hS dX9_roads_28 rfl
set_option maxHeartbeats 4000000 in
set_option maxRecDepth 100000 in
theorem f_X9_pegs (l : Launch) (G : va_G) (cI cJ cZ cB cQ : ClassId) (sz : Nat) (h0 : Nat) (b : Nat → Nat) (bc : Nat → Nat) (p0 : Int32) : CI l yX9_pegs (wl_ yX9_pegs cX9_pegs 2 (some .int)) ({ frames := 1, cells := 0, slots := 0, locals := 21 } : Room) G (TY cI cJ cZ cB cQ) [.ref h0, .int p0] [(h0, oX9 b), (b 1, oX0 bc 0 0 0 0 0 0 0 0 0 0)] sz (fun (r : Int32) (u : Unit) => r = (-2)) (fun _ : Unit => [(h0, oX9 b), (b 1, oX0 bc 0 0 0 0 0 0 0 0 0 0)]) 0 0 := by
  refine CI.go (cc := cX9_pegs) (maxL := 2) (ret := (some .int)) (by decide) rfl (Nat.le_of_ble_eq_true rfl) ?_
  intro p e s m below meth c A ls Q hBd hret
  obtain ⟨hx, hb, hr, hml, hts, hown, hlk, hnm, hP, hK, hD, hA, hZ, hl⟩ := hBd
  have hown : s.vm.findClass RX9 = some m.cls := hown
  have hl : lv_has ls 2 [(0, .ref h0), (1, .int p0)] := hl
  have hS : va_S A s.heap s.heap [] := va_S.rf
  refine lv_aload_n hx hb dX9_pegs_0 rfl (lv_at hl 0 rfl) ?_
  refine va_get (D := G) (ci := 9) (v := .ref (b 1)) (C := RX9) (T := TX9) (N := 11) hx hb hts iG_X9 hown hK hP 0 rfl rfl 1 (by decide) (hts _ w_352) (fun _ h9 => h9) rfl dX9_pegs_1 ?_
  refine lv_iload_n hx hb dX9_pegs_4 rfl (lv_at hl 1 rfl) ?_
  refine k_i (wc := [(b 1, oX0 bc 0 0 0 0 0 0 0 0 0 0)]) (wr := [(h0, oX9 b)]) hP hD hS hA [1] [0] rfl rfl rfl (by decide) (va_runVN (As := [.int p0]) (rest := []) ⟨hx, hb, hml, hown, hts⟩ (f_X0_hasYear l G cI cJ cZ cB cQ _ (b 1) bc p0) ⟨va_cnB (host := "WidowRoads") 1 hts (gW w_727) rfl rfl rfl (nz_nw hZ nw_724 rfl) (hts _ w_4) hd_X0_hasYear ⟨Nat.le_of_ble_eq_true rfl, Nat.le_of_ble_eq_true rfl⟩, (hts _ w_726), (hts _ wp_39)⟩ (mV hK hZ hP hD [1] rfl rfl [.int p0] 1 0 rfl rfl) rfl rfl hl.1 rfl (lv_room (Nat.le_of_ble_eq_true rfl)) dX9_pegs_5 ⟨Nat.le_of_ble_eq_true rfl, Nat.le_of_ble_eq_true rfl⟩) (fun r1 u2 H locs hw3 hP hD hS => ?_)
  try dsimp only at hw3
  have hP : va_P G vwCl [(h0, oX9 b), (b 1, oX0 bc 0 0 0 0 0 0 0 0 0 0)] H := hP
  have hD : va_D A [(h0, oX9 b), (b 1, oX0 bc 0 0 0 0 0 0 0 0 0 0)] := hD
  obtain rfl : r1 = 0 := hw3
  refine lv_if_eq (tgt := 22) hx hb dX9_pegs_8 (by decide) (fun c4 => ?_) (fun c4 => absurd (by decide) c4)
  refine lv_bipush (v := (-2)) hx hb dX9_pegs_22 (by decide) ?_
  exact hret _ _ _ _ (-2) () hP hD hS dX9_pegs_24 rfl
set_option maxHeartbeats 4000000 in
set_option maxRecDepth 100000 in
theorem f_X9_joins (l : Launch) (G : va_G) (cI cJ cZ cB cQ : ClassId) (sz : Nat) (h0 : Nat) (b : Nat → Nat) (bc : Nat → Nat) (p0 : Int32) (p1 : Int32) : CI l yX9_joins (wl_ yX9_joins cX9_joins 4 (some .int)) ({ frames := 1, cells := 0, slots := 0, locals := 22 } : Room) G (TY cI cJ cZ cB cQ) [.ref h0, .int p0, .int p1] [(h0, oX9 b), (b 1, oX0 bc 0 0 0 0 0 0 0 0 0 0)] sz (fun (r : Int32) (u : Unit) => r = (-2)) (fun _ : Unit => [(h0, oX9 b), (b 1, oX0 bc 0 0 0 0 0 0 0 0 0 0)]) 0 0 := by
  refine CI.go (cc := cX9_joins) (maxL := 4) (ret := (some .int)) (by decide) rfl (Nat.le_of_ble_eq_true rfl) ?_
  intro p e s m below meth c A ls Q hBd hret
  obtain ⟨hx, hb, hr, hml, hts, hown, hlk, hnm, hP, hK, hD, hA, hZ, hl⟩ := hBd
  have hown : s.vm.findClass RX9 = some m.cls := hown
  have hl : lv_has ls 4 [(0, .ref h0), (1, .int p0), (2, .int p1)] := hl
  have hS : va_S A s.heap s.heap [] := va_S.rf
  refine lv_aload_n hx hb dX9_joins_0 rfl (lv_at hl 0 rfl) ?_
  refine va_get (D := G) (ci := 9) (v := .ref (b 1)) (C := RX9) (T := TX9) (N := 11) hx hb hts iG_X9 hown hK hP 0 rfl rfl 1 (by decide) (hts _ w_352) (fun _ h9 => h9) rfl dX9_joins_1 ?_
  refine lv_iload_n hx hb dX9_joins_4 rfl (lv_at hl 1 rfl) ?_
  obtain ⟨v1, ev1⟩ : ∃ y : Int64, p0.toInt64 = y := ⟨_, rfl⟩
  have tv1 : v1.toInt = p0.toInt := ti_wide rfl ev1
  refine lv_i2l (v := v1) hx hb dX9_joins_5 ev1 ?_
  refine k_i (wc := [(b 1, oX0 bc 0 0 0 0 0 0 0 0 0 0)]) (wr := [(h0, oX9 b)]) hP hD hS hA [1] [0] rfl rfl rfl (by decide) (va_runVN (As := [.long v1]) (rest := []) ⟨hx, hb, hml, hown, hts⟩ (f_X0_spotOf l G cI cJ cZ cB cQ _ (b 1) bc v1) ⟨va_cnB (host := "WidowRoads") 1 hts (gW w_656) rfl rfl rfl (nz_nw hZ nw_653 rfl) (hts _ w_4) hd_X0_spotOf ⟨Nat.le_of_ble_eq_true rfl, Nat.le_of_ble_eq_true rfl⟩, (hts _ w_655), (hts _ wp_34)⟩ (mV hK hZ hP hD [1] rfl rfl [.long v1] 1 0 rfl rfl) rfl rfl hl.1 rfl (lv_room (Nat.le_of_ble_eq_true rfl)) dX9_joins_6 ⟨Nat.le_of_ble_eq_true rfl, Nat.le_of_ble_eq_true rfl⟩) (fun r2 u3 H locs hw4 hP hD hS => ?_)
  try dsimp only at hw4
  have hP : va_P G vwCl [(h0, oX9 b), (b 1, oX0 bc 0 0 0 0 0 0 0 0 0 0)] H := hP
  have hD : va_D A [(h0, oX9 b), (b 1, oX0 bc 0 0 0 0 0 0 0 0 0 0)] := hD
  obtain rfl : r2 = (-1) := hw4
  refine lv_istore_n (lv' := [(3, .int (-1)), (0, .ref h0), (1, .int p0), (2, .int p1)]) hx hb dX9_joins_9 rfl hl (by decide) rfl (fun ls hl => ?_)
  refine lv_iload_n hx hb dX9_joins_10 rfl (lv_at hl 0 rfl) ?_
  refine lv_iconst (v := (-1)) hx hb dX9_joins_11 (by decide) ?_
  refine lv_icmp_eq (tgt := 26) hx hb dX9_joins_12 (by decide) (fun c5 => ?_) (fun c5 => absurd (by decide) c5)
  refine lv_bipush (v := (-2)) hx hb dX9_joins_26 (by decide) ?_
  exact hret _ _ _ _ (-2) () hP hD hS dX9_joins_28 rfl
set_option maxHeartbeats 4000000 in
set_option maxRecDepth 100000 in
theorem f_X9_corners (l : Launch) (G : va_G) (cI cJ cZ cB cQ : ClassId) (sz : Nat) (h0 : Nat) (b : Nat → Nat) (bc : Nat → Nat) (p0 : Int32) (p1 : Int32) : CI l yX9_corners (wl_ yX9_corners cX9_corners 3 (some .int)) ({ frames := 1, cells := 0, slots := 0, locals := 21 } : Room) G (TY cI cJ cZ cB cQ) [.ref h0, .int p0, .int p1] [(h0, oX9 b), (b 1, oX0 bc 0 0 0 0 0 0 0 0 0 0)] sz (fun (r : Int32) (u : Unit) => r = (-2)) (fun _ : Unit => [(h0, oX9 b), (b 1, oX0 bc 0 0 0 0 0 0 0 0 0 0)]) 0 0 := by
  refine CI.go (cc := cX9_corners) (maxL := 3) (ret := (some .int)) (by decide) rfl (Nat.le_of_ble_eq_true rfl) ?_
  intro p e s m below meth c A ls Q hBd hret
  obtain ⟨hx, hb, hr, hml, hts, hown, hlk, hnm, hP, hK, hD, hA, hZ, hl⟩ := hBd
  have hown : s.vm.findClass RX9 = some m.cls := hown
  have hl : lv_has ls 3 [(0, .ref h0), (1, .int p0), (2, .int p1)] := hl
  have hS : va_S A s.heap s.heap [] := va_S.rf
  refine lv_iload_n hx hb dX9_corners_0 rfl (lv_at hl 1 rfl) ?_
  refine lv_if_lt (tgt := 20) hx hb dX9_corners_1 (by decide) (fun c1 => ?_) (fun c1 => ?_)
  · have c1 := i_lt rfl ki_0 c1
    refine lv_bipush (v := (-2)) hx hb dX9_corners_20 (by decide) ?_
    exact hret _ _ _ _ (-2) () hP hD hS dX9_corners_22 rfl
  · have c1 := i_nlt rfl ki_0 c1
    refine lv_iload_n hx hb dX9_corners_4 rfl (lv_at hl 1 rfl) ?_
    refine lv_iconst (v := 4) hx hb dX9_corners_5 (by decide) ?_
    refine lv_icmp_gt (tgt := 20) hx hb dX9_corners_6 (by decide) (fun c2 => ?_) (fun c2 => ?_)
    · have c2 := i_lt ki_4 rfl c2
      refine lv_bipush (v := (-2)) hx hb dX9_corners_20 (by decide) ?_
      exact hret _ _ _ _ (-2) () hP hD hS dX9_corners_22 rfl
    · have c2 := i_nlt ki_4 rfl c2
      refine lv_aload_n hx hb dX9_corners_9 rfl (lv_at hl 0 rfl) ?_
      refine va_get (D := G) (ci := 9) (v := .ref (b 1)) (C := RX9) (T := TX9) (N := 11) hx hb hts iG_X9 hown hK hP 0 rfl rfl 1 (by decide) (hts _ w_352) (fun _ h9 => h9) rfl dX9_corners_10 ?_
      refine lv_iload_n hx hb dX9_corners_13 rfl (lv_at hl 2 rfl) ?_
      refine k_i (wc := [(b 1, oX0 bc 0 0 0 0 0 0 0 0 0 0)]) (wr := [(h0, oX9 b)]) hP hD hS hA [1] [0] rfl rfl rfl (by decide) (va_runVN (As := [.int p1]) (rest := []) ⟨hx, hb, hml, hown, hts⟩ (f_X0_hasYear l G cI cJ cZ cB cQ _ (b 1) bc p1) ⟨va_cnB (host := "WidowRoads") 1 hts (gW w_727) rfl rfl rfl (nz_nw hZ nw_724 rfl) (hts _ w_4) hd_X0_hasYear ⟨Nat.le_of_ble_eq_true rfl, Nat.le_of_ble_eq_true rfl⟩, (hts _ w_726), (hts _ wp_39)⟩ (mV hK hZ hP hD [1] rfl rfl [.int p1] 1 0 rfl rfl) rfl rfl hl.1 rfl (lv_room (Nat.le_of_ble_eq_true rfl)) dX9_corners_14 ⟨Nat.le_of_ble_eq_true rfl, Nat.le_of_ble_eq_true rfl⟩) (fun r3 u4 H locs hw5 hP hD hS => ?_)
      try dsimp only at hw5
      have hP : va_P G vwCl [(h0, oX9 b), (b 1, oX0 bc 0 0 0 0 0 0 0 0 0 0)] H := hP
      have hD : va_D A [(h0, oX9 b), (b 1, oX0 bc 0 0 0 0 0 0 0 0 0 0)] := hD
      obtain rfl : r3 = 0 := hw5
      refine lv_if_ne (tgt := 23) hx hb dX9_corners_17 (by decide) (fun c6 => absurd (by decide) c6) (fun c6 => ?_)
      refine lv_bipush (v := (-2)) hx hb dX9_corners_20 (by decide) ?_
      exact hret _ _ _ _ (-2) () hP hD hS dX9_corners_22 rfl
set_option maxHeartbeats 4000000 in
set_option maxRecDepth 100000 in
theorem f_X9_nets (l : Launch) (G : va_G) (cI cJ cZ cB cQ : ClassId) (sz : Nat) (h0 : Nat) (b : Nat → Nat) (bc : Nat → Nat) (p0 : Int32) : CI l yX9_nets (wl_ yX9_nets cX9_nets 2 (some .int)) ({ frames := 1, cells := 0, slots := 0, locals := 21 } : Room) G (TY cI cJ cZ cB cQ) [.ref h0, .int p0] [(h0, oX9 b), (b 1, oX0 bc 0 0 0 0 0 0 0 0 0 0)] sz (fun (r : Int32) (u : Unit) => r = (-2)) (fun _ : Unit => [(h0, oX9 b), (b 1, oX0 bc 0 0 0 0 0 0 0 0 0 0)]) 0 0 := by
  refine CI.go (cc := cX9_nets) (maxL := 2) (ret := (some .int)) (by decide) rfl (Nat.le_of_ble_eq_true rfl) ?_
  intro p e s m below meth c A ls Q hBd hret
  obtain ⟨hx, hb, hr, hml, hts, hown, hlk, hnm, hP, hK, hD, hA, hZ, hl⟩ := hBd
  have hown : s.vm.findClass RX9 = some m.cls := hown
  have hl : lv_has ls 2 [(0, .ref h0), (1, .int p0)] := hl
  have hS : va_S A s.heap s.heap [] := va_S.rf
  refine lv_aload_n hx hb dX9_nets_0 rfl (lv_at hl 0 rfl) ?_
  refine va_get (D := G) (ci := 9) (v := .ref (b 1)) (C := RX9) (T := TX9) (N := 11) hx hb hts iG_X9 hown hK hP 0 rfl rfl 1 (by decide) (hts _ w_352) (fun _ h9 => h9) rfl dX9_nets_1 ?_
  refine lv_iload_n hx hb dX9_nets_4 rfl (lv_at hl 1 rfl) ?_
  refine k_i (wc := [(b 1, oX0 bc 0 0 0 0 0 0 0 0 0 0)]) (wr := [(h0, oX9 b)]) hP hD hS hA [1] [0] rfl rfl rfl (by decide) (va_runVN (As := [.int p0]) (rest := []) ⟨hx, hb, hml, hown, hts⟩ (f_X0_hasYear l G cI cJ cZ cB cQ _ (b 1) bc p0) ⟨va_cnB (host := "WidowRoads") 1 hts (gW w_727) rfl rfl rfl (nz_nw hZ nw_724 rfl) (hts _ w_4) hd_X0_hasYear ⟨Nat.le_of_ble_eq_true rfl, Nat.le_of_ble_eq_true rfl⟩, (hts _ w_726), (hts _ wp_39)⟩ (mV hK hZ hP hD [1] rfl rfl [.int p0] 1 0 rfl rfl) rfl rfl hl.1 rfl (lv_room (Nat.le_of_ble_eq_true rfl)) dX9_nets_5 ⟨Nat.le_of_ble_eq_true rfl, Nat.le_of_ble_eq_true rfl⟩) (fun r1 u2 H locs hw3 hP hD hS => ?_)
  try dsimp only at hw3
  have hP : va_P G vwCl [(h0, oX9 b), (b 1, oX0 bc 0 0 0 0 0 0 0 0 0 0)] H := hP
  have hD : va_D A [(h0, oX9 b), (b 1, oX0 bc 0 0 0 0 0 0 0 0 0 0)] := hD
  obtain rfl : r1 = 0 := hw3
  refine lv_if_ne (tgt := 14) hx hb dX9_nets_8 (by decide) (fun c4 => absurd (by decide) c4) (fun c4 => ?_)
  refine lv_bipush (v := (-2)) hx hb dX9_nets_11 (by decide) ?_
  exact hret _ _ _ _ (-2) () hP hD hS dX9_nets_13 rfl
set_option maxHeartbeats 4000000 in
set_option maxRecDepth 100000 in
theorem f_X9_missing (l : Launch) (G : va_G) (cI cJ cZ cB cQ : ClassId) (sz : Nat) (h0 : Nat) (b : Nat → Nat) (bc : Nat → Nat) (p0 : Int32) : CI l yX9_missing (wl_ yX9_missing cX9_missing 3 (some .int)) ({ frames := 1, cells := 0, slots := 0, locals := 21 } : Room) G (TY cI cJ cZ cB cQ) [.ref h0, .int p0] [(h0, oX9 b), (b 1, oX0 bc 0 0 0 0 0 0 0 0 0 0)] sz (fun (r : Int32) (u : Unit) => r = (-2)) (fun _ : Unit => [(h0, oX9 b), (b 1, oX0 bc 0 0 0 0 0 0 0 0 0 0)]) 0 0 := by
  refine CI.go (cc := cX9_missing) (maxL := 3) (ret := (some .int)) (by decide) rfl (Nat.le_of_ble_eq_true rfl) ?_
  intro p e s m below meth c A ls Q hBd hret
  obtain ⟨hx, hb, hr, hml, hts, hown, hlk, hnm, hP, hK, hD, hA, hZ, hl⟩ := hBd
  have hown : s.vm.findClass RX9 = some m.cls := hown
  have hl : lv_has ls 3 [(0, .ref h0), (1, .int p0)] := hl
  have hS : va_S A s.heap s.heap [] := va_S.rf
  refine lv_aload_n hx hb dX9_missing_0 rfl (lv_at hl 0 rfl) ?_
  refine va_get (D := G) (ci := 9) (v := .ref (b 1)) (C := RX9) (T := TX9) (N := 11) hx hb hts iG_X9 hown hK hP 0 rfl rfl 1 (by decide) (hts _ w_352) (fun _ h9 => h9) rfl dX9_missing_1 ?_
  refine lv_iload_n hx hb dX9_missing_4 rfl (lv_at hl 1 rfl) ?_
  refine k_i (wc := [(b 1, oX0 bc 0 0 0 0 0 0 0 0 0 0)]) (wr := [(h0, oX9 b)]) hP hD hS hA [1] [0] rfl rfl rfl (by decide) (va_runVN (As := [.int p0]) (rest := []) ⟨hx, hb, hml, hown, hts⟩ (f_X0_hasYear l G cI cJ cZ cB cQ _ (b 1) bc p0) ⟨va_cnB (host := "WidowRoads") 1 hts (gW w_727) rfl rfl rfl (nz_nw hZ nw_724 rfl) (hts _ w_4) hd_X0_hasYear ⟨Nat.le_of_ble_eq_true rfl, Nat.le_of_ble_eq_true rfl⟩, (hts _ w_726), (hts _ wp_39)⟩ (mV hK hZ hP hD [1] rfl rfl [.int p0] 1 0 rfl rfl) rfl rfl hl.1 rfl (lv_room (Nat.le_of_ble_eq_true rfl)) dX9_missing_5 ⟨Nat.le_of_ble_eq_true rfl, Nat.le_of_ble_eq_true rfl⟩) (fun r1 u2 H locs hw3 hP hD hS => ?_)
  try dsimp only at hw3
  have hP : va_P G vwCl [(h0, oX9 b), (b 1, oX0 bc 0 0 0 0 0 0 0 0 0 0)] H := hP
  have hD : va_D A [(h0, oX9 b), (b 1, oX0 bc 0 0 0 0 0 0 0 0 0 0)] := hD
  obtain rfl : r1 = 0 := hw3
  refine lv_if_ne (tgt := 14) hx hb dX9_missing_8 (by decide) (fun c4 => absurd (by decide) c4) (fun c4 => ?_)
  refine lv_bipush (v := (-2)) hx hb dX9_missing_11 (by decide) ?_
  exact hret _ _ _ _ (-2) () hP hD hS dX9_missing_13 rfl
set_option maxHeartbeats 4000000 in
set_option maxRecDepth 100000 in
theorem f_X9_rings (l : Launch) (G : va_G) (cI cJ cZ cB cQ : ClassId) (sz : Nat) (h0 : Nat) (b : Nat → Nat) (bc : Nat → Nat) (p0 : Int32) : CI l yX9_rings (wl_ yX9_rings cX9_rings 2 (some .int)) ({ frames := 1, cells := 0, slots := 0, locals := 21 } : Room) G (TY cI cJ cZ cB cQ) [.ref h0, .int p0] [(h0, oX9 b), (b 1, oX0 bc 0 0 0 0 0 0 0 0 0 0)] sz (fun (r : Int32) (u : Unit) => r = (-2)) (fun _ : Unit => [(h0, oX9 b), (b 1, oX0 bc 0 0 0 0 0 0 0 0 0 0)]) 0 0 := by
  refine CI.go (cc := cX9_rings) (maxL := 2) (ret := (some .int)) (by decide) rfl (Nat.le_of_ble_eq_true rfl) ?_
  intro p e s m below meth c A ls Q hBd hret
  obtain ⟨hx, hb, hr, hml, hts, hown, hlk, hnm, hP, hK, hD, hA, hZ, hl⟩ := hBd
  have hown : s.vm.findClass RX9 = some m.cls := hown
  have hl : lv_has ls 2 [(0, .ref h0), (1, .int p0)] := hl
  have hS : va_S A s.heap s.heap [] := va_S.rf
  refine lv_aload_n hx hb dX9_rings_0 rfl (lv_at hl 0 rfl) ?_
  refine va_get (D := G) (ci := 9) (v := .ref (b 1)) (C := RX9) (T := TX9) (N := 11) hx hb hts iG_X9 hown hK hP 0 rfl rfl 1 (by decide) (hts _ w_352) (fun _ h9 => h9) rfl dX9_rings_1 ?_
  refine lv_iload_n hx hb dX9_rings_4 rfl (lv_at hl 1 rfl) ?_
  refine k_i (wc := [(b 1, oX0 bc 0 0 0 0 0 0 0 0 0 0)]) (wr := [(h0, oX9 b)]) hP hD hS hA [1] [0] rfl rfl rfl (by decide) (va_runVN (As := [.int p0]) (rest := []) ⟨hx, hb, hml, hown, hts⟩ (f_X0_hasYear l G cI cJ cZ cB cQ _ (b 1) bc p0) ⟨va_cnB (host := "WidowRoads") 1 hts (gW w_727) rfl rfl rfl (nz_nw hZ nw_724 rfl) (hts _ w_4) hd_X0_hasYear ⟨Nat.le_of_ble_eq_true rfl, Nat.le_of_ble_eq_true rfl⟩, (hts _ w_726), (hts _ wp_39)⟩ (mV hK hZ hP hD [1] rfl rfl [.int p0] 1 0 rfl rfl) rfl rfl hl.1 rfl (lv_room (Nat.le_of_ble_eq_true rfl)) dX9_rings_5 ⟨Nat.le_of_ble_eq_true rfl, Nat.le_of_ble_eq_true rfl⟩) (fun r1 u2 H locs hw3 hP hD hS => ?_)
  try dsimp only at hw3
  have hP : va_P G vwCl [(h0, oX9 b), (b 1, oX0 bc 0 0 0 0 0 0 0 0 0 0)] H := hP
  have hD : va_D A [(h0, oX9 b), (b 1, oX0 bc 0 0 0 0 0 0 0 0 0 0)] := hD
  obtain rfl : r1 = 0 := hw3
  refine lv_if_ne (tgt := 14) hx hb dX9_rings_8 (by decide) (fun c4 => absurd (by decide) c4) (fun c4 => ?_)
  refine lv_bipush (v := (-2)) hx hb dX9_rings_11 (by decide) ?_
  exact hret _ _ _ _ (-2) () hP hD hS dX9_rings_13 rfl
set_option maxHeartbeats 4000000 in
set_option maxRecDepth 100000 in
theorem f_X9_bridges (l : Launch) (G : va_G) (cI cJ cZ cB cQ : ClassId) (sz : Nat) (h0 : Nat) (b : Nat → Nat) (bc : Nat → Nat) (p0 : Int32) : CI l yX9_bridges (wl_ yX9_bridges cX9_bridges 2 (some .int)) ({ frames := 1, cells := 0, slots := 0, locals := 21 } : Room) G (TY cI cJ cZ cB cQ) [.ref h0, .int p0] [(h0, oX9 b), (b 1, oX0 bc 0 0 0 0 0 0 0 0 0 0)] sz (fun (r : Int32) (u : Unit) => r = (-2)) (fun _ : Unit => [(h0, oX9 b), (b 1, oX0 bc 0 0 0 0 0 0 0 0 0 0)]) 0 0 := by
  refine CI.go (cc := cX9_bridges) (maxL := 2) (ret := (some .int)) (by decide) rfl (Nat.le_of_ble_eq_true rfl) ?_
  intro p e s m below meth c A ls Q hBd hret
  obtain ⟨hx, hb, hr, hml, hts, hown, hlk, hnm, hP, hK, hD, hA, hZ, hl⟩ := hBd
  have hown : s.vm.findClass RX9 = some m.cls := hown
  have hl : lv_has ls 2 [(0, .ref h0), (1, .int p0)] := hl
  have hS : va_S A s.heap s.heap [] := va_S.rf
  refine lv_aload_n hx hb dX9_bridges_0 rfl (lv_at hl 0 rfl) ?_
  refine va_get (D := G) (ci := 9) (v := .ref (b 1)) (C := RX9) (T := TX9) (N := 11) hx hb hts iG_X9 hown hK hP 0 rfl rfl 1 (by decide) (hts _ w_352) (fun _ h9 => h9) rfl dX9_bridges_1 ?_
  refine lv_iload_n hx hb dX9_bridges_4 rfl (lv_at hl 1 rfl) ?_
  refine k_i (wc := [(b 1, oX0 bc 0 0 0 0 0 0 0 0 0 0)]) (wr := [(h0, oX9 b)]) hP hD hS hA [1] [0] rfl rfl rfl (by decide) (va_runVN (As := [.int p0]) (rest := []) ⟨hx, hb, hml, hown, hts⟩ (f_X0_hasYear l G cI cJ cZ cB cQ _ (b 1) bc p0) ⟨va_cnB (host := "WidowRoads") 1 hts (gW w_727) rfl rfl rfl (nz_nw hZ nw_724 rfl) (hts _ w_4) hd_X0_hasYear ⟨Nat.le_of_ble_eq_true rfl, Nat.le_of_ble_eq_true rfl⟩, (hts _ w_726), (hts _ wp_39)⟩ (mV hK hZ hP hD [1] rfl rfl [.int p0] 1 0 rfl rfl) rfl rfl hl.1 rfl (lv_room (Nat.le_of_ble_eq_true rfl)) dX9_bridges_5 ⟨Nat.le_of_ble_eq_true rfl, Nat.le_of_ble_eq_true rfl⟩) (fun r1 u2 H locs hw3 hP hD hS => ?_)
  try dsimp only at hw3
  have hP : va_P G vwCl [(h0, oX9 b), (b 1, oX0 bc 0 0 0 0 0 0 0 0 0 0)] H := hP
  have hD : va_D A [(h0, oX9 b), (b 1, oX0 bc 0 0 0 0 0 0 0 0 0 0)] := hD
  obtain rfl : r1 = 0 := hw3
  refine lv_if_ne (tgt := 14) hx hb dX9_bridges_8 (by decide) (fun c4 => absurd (by decide) c4) (fun c4 => ?_)
  refine lv_bipush (v := (-2)) hx hb dX9_bridges_11 (by decide) ?_
  exact hret _ _ _ _ (-2) () hP hD hS dX9_bridges_13 rfl
set_option maxHeartbeats 4000000 in
set_option maxRecDepth 100000 in
theorem f_X9_net (l : Launch) (G : va_G) (cI cJ cZ cB cQ : ClassId) (sz : Nat) (h0 : Nat) (b : Nat → Nat) (bc : Nat → Nat) (p0 : Int32) (p1 : Int32) : CI l yX9_net (wl_ yX9_net cX9_net 4 (some .int)) ({ frames := 1, cells := 0, slots := 0, locals := 22 } : Room) G (TY cI cJ cZ cB cQ) [.ref h0, .int p0, .int p1] [(h0, oX9 b), (b 1, oX0 bc 0 0 0 0 0 0 0 0 0 0)] sz (fun (r : Int32) (u : Unit) => r = (-2)) (fun _ : Unit => [(h0, oX9 b), (b 1, oX0 bc 0 0 0 0 0 0 0 0 0 0)]) 0 0 := by
  refine CI.go (cc := cX9_net) (maxL := 4) (ret := (some .int)) (by decide) rfl (Nat.le_of_ble_eq_true rfl) ?_
  intro p e s m below meth c A ls Q hBd hret
  obtain ⟨hx, hb, hr, hml, hts, hown, hlk, hnm, hP, hK, hD, hA, hZ, hl⟩ := hBd
  have hown : s.vm.findClass RX9 = some m.cls := hown
  have hl : lv_has ls 4 [(0, .ref h0), (1, .int p0), (2, .int p1)] := hl
  have hS : va_S A s.heap s.heap [] := va_S.rf
  refine lv_aload_n hx hb dX9_net_0 rfl (lv_at hl 0 rfl) ?_
  refine va_get (D := G) (ci := 9) (v := .ref (b 1)) (C := RX9) (T := TX9) (N := 11) hx hb hts iG_X9 hown hK hP 0 rfl rfl 1 (by decide) (hts _ w_352) (fun _ h9 => h9) rfl dX9_net_1 ?_
  refine lv_iload_n hx hb dX9_net_4 rfl (lv_at hl 1 rfl) ?_
  obtain ⟨v1, ev1⟩ : ∃ y : Int64, p0.toInt64 = y := ⟨_, rfl⟩
  have tv1 : v1.toInt = p0.toInt := ti_wide rfl ev1
  refine lv_i2l (v := v1) hx hb dX9_net_5 ev1 ?_
  refine k_i (wc := [(b 1, oX0 bc 0 0 0 0 0 0 0 0 0 0)]) (wr := [(h0, oX9 b)]) hP hD hS hA [1] [0] rfl rfl rfl (by decide) (va_runVN (As := [.long v1]) (rest := []) ⟨hx, hb, hml, hown, hts⟩ (f_X0_spotOf l G cI cJ cZ cB cQ _ (b 1) bc v1) ⟨va_cnB (host := "WidowRoads") 1 hts (gW w_656) rfl rfl rfl (nz_nw hZ nw_653 rfl) (hts _ w_4) hd_X0_spotOf ⟨Nat.le_of_ble_eq_true rfl, Nat.le_of_ble_eq_true rfl⟩, (hts _ w_655), (hts _ wp_34)⟩ (mV hK hZ hP hD [1] rfl rfl [.long v1] 1 0 rfl rfl) rfl rfl hl.1 rfl (lv_room (Nat.le_of_ble_eq_true rfl)) dX9_net_6 ⟨Nat.le_of_ble_eq_true rfl, Nat.le_of_ble_eq_true rfl⟩) (fun r2 u3 H locs hw4 hP hD hS => ?_)
  try dsimp only at hw4
  have hP : va_P G vwCl [(h0, oX9 b), (b 1, oX0 bc 0 0 0 0 0 0 0 0 0 0)] H := hP
  have hD : va_D A [(h0, oX9 b), (b 1, oX0 bc 0 0 0 0 0 0 0 0 0 0)] := hD
  obtain rfl : r2 = (-1) := hw4
  refine lv_istore_n (lv' := [(3, .int (-1)), (0, .ref h0), (1, .int p0), (2, .int p1)]) hx hb dX9_net_9 rfl hl (by decide) rfl (fun ls hl => ?_)
  refine lv_iload_n hx hb dX9_net_10 rfl (lv_at hl 0 rfl) ?_
  refine lv_iconst (v := (-1)) hx hb dX9_net_11 (by decide) ?_
  refine lv_icmp_eq (tgt := 26) hx hb dX9_net_12 (by decide) (fun c5 => ?_) (fun c5 => absurd (by decide) c5)
  refine lv_bipush (v := (-2)) hx hb dX9_net_26 (by decide) ?_
  exact hret _ _ _ _ (-2) () hP hD hS dX9_net_28 rfl
set_option maxHeartbeats 4000000 in
set_option maxRecDepth 100000 in
theorem f_X9_way (l : Launch) (G : va_G) (cI cJ cZ cB cQ : ClassId) (sz : Nat) (h0 : Nat) (b : Nat → Nat) (bc : Nat → Nat) (p0 : Int32) (p1 : Int32) (p2 : Int32) : CI l yX9_way (wl_ yX9_way cX9_way 6 (some .int)) ({ frames := 1, cells := 0, slots := 0, locals := 22 } : Room) G (TY cI cJ cZ cB cQ) [.ref h0, .int p0, .int p1, .int p2] [(h0, oX9 b), (b 1, oX0 bc 0 0 0 0 0 0 0 0 0 0)] sz (fun (r : Int32) (u : Unit) => r = (-2)) (fun _ : Unit => [(h0, oX9 b), (b 1, oX0 bc 0 0 0 0 0 0 0 0 0 0)]) 0 0 := by
  refine CI.go (cc := cX9_way) (maxL := 6) (ret := (some .int)) (by decide) rfl (Nat.le_of_ble_eq_true rfl) ?_
  intro p e s m below meth c A ls Q hBd hret
  obtain ⟨hx, hb, hr, hml, hts, hown, hlk, hnm, hP, hK, hD, hA, hZ, hl⟩ := hBd
  have hown : s.vm.findClass RX9 = some m.cls := hown
  have hl : lv_has ls 6 [(0, .ref h0), (1, .int p0), (2, .int p1), (3, .int p2)] := hl
  have hS : va_S A s.heap s.heap [] := va_S.rf
  refine lv_aload_n hx hb dX9_way_0 rfl (lv_at hl 0 rfl) ?_
  refine va_get (D := G) (ci := 9) (v := .ref (b 1)) (C := RX9) (T := TX9) (N := 11) hx hb hts iG_X9 hown hK hP 0 rfl rfl 1 (by decide) (hts _ w_352) (fun _ h9 => h9) rfl dX9_way_1 ?_
  refine lv_iload_n hx hb dX9_way_4 rfl (lv_at hl 1 rfl) ?_
  obtain ⟨v1, ev1⟩ : ∃ y : Int64, p0.toInt64 = y := ⟨_, rfl⟩
  have tv1 : v1.toInt = p0.toInt := ti_wide rfl ev1
  refine lv_i2l (v := v1) hx hb dX9_way_5 ev1 ?_
  refine k_i (wc := [(b 1, oX0 bc 0 0 0 0 0 0 0 0 0 0)]) (wr := [(h0, oX9 b)]) hP hD hS hA [1] [0] rfl rfl rfl (by decide) (va_runVN (As := [.long v1]) (rest := []) ⟨hx, hb, hml, hown, hts⟩ (f_X0_spotOf l G cI cJ cZ cB cQ _ (b 1) bc v1) ⟨va_cnB (host := "WidowRoads") 1 hts (gW w_656) rfl rfl rfl (nz_nw hZ nw_653 rfl) (hts _ w_4) hd_X0_spotOf ⟨Nat.le_of_ble_eq_true rfl, Nat.le_of_ble_eq_true rfl⟩, (hts _ w_655), (hts _ wp_34)⟩ (mV hK hZ hP hD [1] rfl rfl [.long v1] 1 0 rfl rfl) rfl rfl hl.1 rfl (lv_room (Nat.le_of_ble_eq_true rfl)) dX9_way_6 ⟨Nat.le_of_ble_eq_true rfl, Nat.le_of_ble_eq_true rfl⟩) (fun r2 u3 H locs hw4 hP hD hS => ?_)
  try dsimp only at hw4
  have hP : va_P G vwCl [(h0, oX9 b), (b 1, oX0 bc 0 0 0 0 0 0 0 0 0 0)] H := hP
  have hD : va_D A [(h0, oX9 b), (b 1, oX0 bc 0 0 0 0 0 0 0 0 0 0)] := hD
  obtain rfl : r2 = (-1) := hw4
  refine lv_istore (lv' := [(4, .int (-1)), (0, .ref h0), (1, .int p0), (2, .int p1), (3, .int p2)]) hx hb dX9_way_9 hl (by decide) rfl (fun ls hl => ?_)
  refine lv_aload_n hx hb dX9_way_11 rfl (lv_at hl 1 rfl) ?_
  refine va_get (D := G) (ci := 9) (v := .ref (b 1)) (C := RX9) (T := TX9) (N := 11) hx hb hts iG_X9 hown hK hP 0 rfl rfl 1 (by decide) (hts _ w_352) (fun _ h9 => h9) rfl dX9_way_12 ?_
  refine lv_iload_n hx hb dX9_way_15 rfl (lv_at hl 3 rfl) ?_
  obtain ⟨v5, ev5⟩ : ∃ y : Int64, p1.toInt64 = y := ⟨_, rfl⟩
  have tv5 : v5.toInt = p1.toInt := ti_wide rfl ev5
  refine lv_i2l (v := v5) hx hb dX9_way_16 ev5 ?_
  refine k_i (wc := [(b 1, oX0 bc 0 0 0 0 0 0 0 0 0 0)]) (wr := [(h0, oX9 b)]) hP hD hS hA [1] [0] rfl rfl rfl (by decide) (va_runVN (As := [.long v5]) (rest := []) ⟨hx, hb, hml, hown, hts⟩ (f_X0_spotOf l G cI cJ cZ cB cQ _ (b 1) bc v5) ⟨va_cnB (host := "WidowRoads") 1 hts (gW w_656) rfl rfl rfl (nz_nw hZ nw_653 rfl) (hts _ w_4) hd_X0_spotOf ⟨Nat.le_of_ble_eq_true rfl, Nat.le_of_ble_eq_true rfl⟩, (hts _ w_655), (hts _ wp_34)⟩ (mV hK hZ hP hD [1] rfl rfl [.long v5] 1 0 rfl rfl) rfl rfl hl.1 rfl (lv_room (Nat.le_of_ble_eq_true rfl)) dX9_way_17 ⟨Nat.le_of_ble_eq_true rfl, Nat.le_of_ble_eq_true rfl⟩) (fun r6 u7 H locs hw8 hP hD hS => ?_)
  try dsimp only at hw8
  have hP : va_P G vwCl [(h0, oX9 b), (b 1, oX0 bc 0 0 0 0 0 0 0 0 0 0)] H := hP
  have hD : va_D A [(h0, oX9 b), (b 1, oX0 bc 0 0 0 0 0 0 0 0 0 0)] := hD
  obtain rfl : r6 = (-1) := hw8
  refine lv_istore (lv' := [(5, .int (-1)), (4, .int (-1)), (0, .ref h0), (1, .int p0), (2, .int p1), (3, .int p2)]) hx hb dX9_way_20 hl (by decide) rfl (fun ls hl => ?_)
  refine lv_iload hx hb dX9_way_22 (lv_at hl 1 rfl) ?_
  refine lv_iconst (v := (-1)) hx hb dX9_way_24 (by decide) ?_
  refine lv_icmp_eq (tgt := 45) hx hb dX9_way_25 (by decide) (fun c9 => ?_) (fun c9 => absurd (by decide) c9)
  refine lv_bipush (v := (-2)) hx hb dX9_way_45 (by decide) ?_
  exact hret _ _ _ _ (-2) () hP hD hS dX9_way_47 rfl
set_option maxHeartbeats 4000000 in
set_option maxRecDepth 100000 in
theorem f_X9_beeline (l : Launch) (G : va_G) (cI cJ cZ cB cQ : ClassId) (sz : Nat) (h0 : Nat) (b : Nat → Nat) (bc : Nat → Nat) (p0 : Int32) (p1 : Int32) : CI l yX9_beeline (wl_ yX9_beeline cX9_beeline 5 (some .int)) ({ frames := 1, cells := 0, slots := 0, locals := 22 } : Room) G (TY cI cJ cZ cB cQ) [.ref h0, .int p0, .int p1] [(h0, oX9 b), (b 1, oX0 bc 0 0 0 0 0 0 0 0 0 0)] sz (fun (r : Int32) (u : Unit) => r = (-2)) (fun _ : Unit => [(h0, oX9 b), (b 1, oX0 bc 0 0 0 0 0 0 0 0 0 0)]) 0 0 := by
  refine CI.go (cc := cX9_beeline) (maxL := 5) (ret := (some .int)) (by decide) rfl (Nat.le_of_ble_eq_true rfl) ?_
  intro p e s m below meth c A ls Q hBd hret
  obtain ⟨hx, hb, hr, hml, hts, hown, hlk, hnm, hP, hK, hD, hA, hZ, hl⟩ := hBd
  have hown : s.vm.findClass RX9 = some m.cls := hown
  have hl : lv_has ls 5 [(0, .ref h0), (1, .int p0), (2, .int p1)] := hl
  have hS : va_S A s.heap s.heap [] := va_S.rf
  refine lv_aload_n hx hb dX9_beeline_0 rfl (lv_at hl 0 rfl) ?_
  refine va_get (D := G) (ci := 9) (v := .ref (b 1)) (C := RX9) (T := TX9) (N := 11) hx hb hts iG_X9 hown hK hP 0 rfl rfl 1 (by decide) (hts _ w_352) (fun _ h9 => h9) rfl dX9_beeline_1 ?_
  refine lv_iload_n hx hb dX9_beeline_4 rfl (lv_at hl 1 rfl) ?_
  obtain ⟨v1, ev1⟩ : ∃ y : Int64, p0.toInt64 = y := ⟨_, rfl⟩
  have tv1 : v1.toInt = p0.toInt := ti_wide rfl ev1
  refine lv_i2l (v := v1) hx hb dX9_beeline_5 ev1 ?_
  refine k_i (wc := [(b 1, oX0 bc 0 0 0 0 0 0 0 0 0 0)]) (wr := [(h0, oX9 b)]) hP hD hS hA [1] [0] rfl rfl rfl (by decide) (va_runVN (As := [.long v1]) (rest := []) ⟨hx, hb, hml, hown, hts⟩ (f_X0_spotOf l G cI cJ cZ cB cQ _ (b 1) bc v1) ⟨va_cnB (host := "WidowRoads") 1 hts (gW w_656) rfl rfl rfl (nz_nw hZ nw_653 rfl) (hts _ w_4) hd_X0_spotOf ⟨Nat.le_of_ble_eq_true rfl, Nat.le_of_ble_eq_true rfl⟩, (hts _ w_655), (hts _ wp_34)⟩ (mV hK hZ hP hD [1] rfl rfl [.long v1] 1 0 rfl rfl) rfl rfl hl.1 rfl (lv_room (Nat.le_of_ble_eq_true rfl)) dX9_beeline_6 ⟨Nat.le_of_ble_eq_true rfl, Nat.le_of_ble_eq_true rfl⟩) (fun r2 u3 H locs hw4 hP hD hS => ?_)
  try dsimp only at hw4
  have hP : va_P G vwCl [(h0, oX9 b), (b 1, oX0 bc 0 0 0 0 0 0 0 0 0 0)] H := hP
  have hD : va_D A [(h0, oX9 b), (b 1, oX0 bc 0 0 0 0 0 0 0 0 0 0)] := hD
  obtain rfl : r2 = (-1) := hw4
  refine lv_istore_n (lv' := [(3, .int (-1)), (0, .ref h0), (1, .int p0), (2, .int p1)]) hx hb dX9_beeline_9 rfl hl (by decide) rfl (fun ls hl => ?_)
  refine lv_aload_n hx hb dX9_beeline_10 rfl (lv_at hl 1 rfl) ?_
  refine va_get (D := G) (ci := 9) (v := .ref (b 1)) (C := RX9) (T := TX9) (N := 11) hx hb hts iG_X9 hown hK hP 0 rfl rfl 1 (by decide) (hts _ w_352) (fun _ h9 => h9) rfl dX9_beeline_11 ?_
  refine lv_iload_n hx hb dX9_beeline_14 rfl (lv_at hl 3 rfl) ?_
  obtain ⟨v5, ev5⟩ : ∃ y : Int64, p1.toInt64 = y := ⟨_, rfl⟩
  have tv5 : v5.toInt = p1.toInt := ti_wide rfl ev5
  refine lv_i2l (v := v5) hx hb dX9_beeline_15 ev5 ?_
  refine k_i (wc := [(b 1, oX0 bc 0 0 0 0 0 0 0 0 0 0)]) (wr := [(h0, oX9 b)]) hP hD hS hA [1] [0] rfl rfl rfl (by decide) (va_runVN (As := [.long v5]) (rest := []) ⟨hx, hb, hml, hown, hts⟩ (f_X0_spotOf l G cI cJ cZ cB cQ _ (b 1) bc v5) ⟨va_cnB (host := "WidowRoads") 1 hts (gW w_656) rfl rfl rfl (nz_nw hZ nw_653 rfl) (hts _ w_4) hd_X0_spotOf ⟨Nat.le_of_ble_eq_true rfl, Nat.le_of_ble_eq_true rfl⟩, (hts _ w_655), (hts _ wp_34)⟩ (mV hK hZ hP hD [1] rfl rfl [.long v5] 1 0 rfl rfl) rfl rfl hl.1 rfl (lv_room (Nat.le_of_ble_eq_true rfl)) dX9_beeline_16 ⟨Nat.le_of_ble_eq_true rfl, Nat.le_of_ble_eq_true rfl⟩) (fun r6 u7 H locs hw8 hP hD hS => ?_)
  try dsimp only at hw8
  have hP : va_P G vwCl [(h0, oX9 b), (b 1, oX0 bc 0 0 0 0 0 0 0 0 0 0)] H := hP
  have hD : va_D A [(h0, oX9 b), (b 1, oX0 bc 0 0 0 0 0 0 0 0 0 0)] := hD
  obtain rfl : r6 = (-1) := hw8
  refine lv_istore (lv' := [(4, .int (-1)), (3, .int (-1)), (0, .ref h0), (1, .int p0), (2, .int p1)]) hx hb dX9_beeline_19 hl (by decide) rfl (fun ls hl => ?_)
  refine lv_iload_n hx hb dX9_beeline_21 rfl (lv_at hl 1 rfl) ?_
  refine lv_iconst (v := (-1)) hx hb dX9_beeline_22 (by decide) ?_
  refine lv_icmp_eq (tgt := 32) hx hb dX9_beeline_23 (by decide) (fun c9 => ?_) (fun c9 => absurd (by decide) c9)
  refine lv_bipush (v := (-2)) hx hb dX9_beeline_32 (by decide) ?_
  exact hret _ _ _ _ (-2) () hP hD hS dX9_beeline_34 rfl
set_option maxHeartbeats 4000000 in
set_option maxRecDepth 100000 in
theorem f_X9_farthest (l : Launch) (G : va_G) (cI cJ cZ cB cQ : ClassId) (sz : Nat) (h0 : Nat) (b : Nat → Nat) (bc : Nat → Nat) (p0 : Int32) (p1 : Int32) : CI l yX9_farthest (wl_ yX9_farthest cX9_farthest 4 (some .int)) ({ frames := 1, cells := 0, slots := 0, locals := 22 } : Room) G (TY cI cJ cZ cB cQ) [.ref h0, .int p0, .int p1] [(h0, oX9 b), (b 1, oX0 bc 0 0 0 0 0 0 0 0 0 0)] sz (fun (r : Int32) (u : Unit) => r = (-2)) (fun _ : Unit => [(h0, oX9 b), (b 1, oX0 bc 0 0 0 0 0 0 0 0 0 0)]) 0 0 := by
  refine CI.go (cc := cX9_farthest) (maxL := 4) (ret := (some .int)) (by decide) rfl (Nat.le_of_ble_eq_true rfl) ?_
  intro p e s m below meth c A ls Q hBd hret
  obtain ⟨hx, hb, hr, hml, hts, hown, hlk, hnm, hP, hK, hD, hA, hZ, hl⟩ := hBd
  have hown : s.vm.findClass RX9 = some m.cls := hown
  have hl : lv_has ls 4 [(0, .ref h0), (1, .int p0), (2, .int p1)] := hl
  have hS : va_S A s.heap s.heap [] := va_S.rf
  refine lv_aload_n hx hb dX9_farthest_0 rfl (lv_at hl 0 rfl) ?_
  refine va_get (D := G) (ci := 9) (v := .ref (b 1)) (C := RX9) (T := TX9) (N := 11) hx hb hts iG_X9 hown hK hP 0 rfl rfl 1 (by decide) (hts _ w_352) (fun _ h9 => h9) rfl dX9_farthest_1 ?_
  refine lv_iload_n hx hb dX9_farthest_4 rfl (lv_at hl 1 rfl) ?_
  obtain ⟨v1, ev1⟩ : ∃ y : Int64, p0.toInt64 = y := ⟨_, rfl⟩
  have tv1 : v1.toInt = p0.toInt := ti_wide rfl ev1
  refine lv_i2l (v := v1) hx hb dX9_farthest_5 ev1 ?_
  refine k_i (wc := [(b 1, oX0 bc 0 0 0 0 0 0 0 0 0 0)]) (wr := [(h0, oX9 b)]) hP hD hS hA [1] [0] rfl rfl rfl (by decide) (va_runVN (As := [.long v1]) (rest := []) ⟨hx, hb, hml, hown, hts⟩ (f_X0_spotOf l G cI cJ cZ cB cQ _ (b 1) bc v1) ⟨va_cnB (host := "WidowRoads") 1 hts (gW w_656) rfl rfl rfl (nz_nw hZ nw_653 rfl) (hts _ w_4) hd_X0_spotOf ⟨Nat.le_of_ble_eq_true rfl, Nat.le_of_ble_eq_true rfl⟩, (hts _ w_655), (hts _ wp_34)⟩ (mV hK hZ hP hD [1] rfl rfl [.long v1] 1 0 rfl rfl) rfl rfl hl.1 rfl (lv_room (Nat.le_of_ble_eq_true rfl)) dX9_farthest_6 ⟨Nat.le_of_ble_eq_true rfl, Nat.le_of_ble_eq_true rfl⟩) (fun r2 u3 H locs hw4 hP hD hS => ?_)
  try dsimp only at hw4
  have hP : va_P G vwCl [(h0, oX9 b), (b 1, oX0 bc 0 0 0 0 0 0 0 0 0 0)] H := hP
  have hD : va_D A [(h0, oX9 b), (b 1, oX0 bc 0 0 0 0 0 0 0 0 0 0)] := hD
  obtain rfl : r2 = (-1) := hw4
  refine lv_istore_n (lv' := [(3, .int (-1)), (0, .ref h0), (1, .int p0), (2, .int p1)]) hx hb dX9_farthest_9 rfl hl (by decide) rfl (fun ls hl => ?_)
  refine lv_iload_n hx hb dX9_farthest_10 rfl (lv_at hl 0 rfl) ?_
  refine lv_iconst (v := (-1)) hx hb dX9_farthest_11 (by decide) ?_
  refine lv_icmp_eq (tgt := 26) hx hb dX9_farthest_12 (by decide) (fun c5 => ?_) (fun c5 => absurd (by decide) c5)
  refine lv_bipush (v := (-2)) hx hb dX9_farthest_26 (by decide) ?_
  exact hret _ _ _ _ (-2) () hP hD hS dX9_farthest_28 rfl
set_option maxHeartbeats 4000000 in
set_option maxRecDepth 100000 in
theorem f_X9_crossing (l : Launch) (G : va_G) (cI cJ cZ cB cQ : ClassId) (sz : Nat) (h0 : Nat) (b : Nat → Nat) (bc : Nat → Nat) : CI l yX9_crossing (wl_ yX9_crossing cX9_crossing 5 (some .int)) ({ frames := 0, cells := 0, slots := 0, locals := 0 } : Room) G (TY cI cJ cZ cB cQ) [.ref h0] [(h0, oX9 b), (b 1, oX0 bc 0 0 0 0 0 0 0 0 0 0)] sz (fun (r : Int32) (u : Unit) => r = (-2)) (fun _ : Unit => [(h0, oX9 b), (b 1, oX0 bc 0 0 0 0 0 0 0 0 0 0)]) 0 0 := by
  refine CI.go (cc := cX9_crossing) (maxL := 5) (ret := (some .int)) (by decide) rfl (Nat.le_of_ble_eq_true rfl) ?_
  intro p e s m below meth c A ls Q hBd hret
  obtain ⟨hx, hb, hr, hml, hts, hown, hlk, hnm, hP, hK, hD, hA, hZ, hl⟩ := hBd
  have hown : s.vm.findClass RX9 = some m.cls := hown
  have hl : lv_has ls 5 [(0, .ref h0)] := hl
  have hS : va_S A s.heap s.heap [] := va_S.rf
  refine lv_aload_n hx hb dX9_crossing_0 rfl (lv_at hl 0 rfl) ?_
  refine va_get (D := G) (ci := 9) (v := .ref (b 1)) (C := RX9) (T := TX9) (N := 11) hx hb hts iG_X9 hown hK hP 0 rfl rfl 1 (by decide) (hts _ w_352) (fun _ h9 => h9) rfl dX9_crossing_1 ?_
  refine va_getN (D := G) (ci := 0) (v := .int 0) (C := RX0) (T := TX0) (N := 19) hx hb hts iG_X0 hown hK hP 1 rfl rfl 0 (by decide) (nz_use hZ nw_57 rfl) (fun _ h9 => h9) rfl dX9_crossing_4 ?_
  refine lv_if_ne (tgt := 13) hx hb dX9_crossing_7 (by decide) (fun c1 => absurd (by decide) c1) (fun c1 => ?_)
  refine lv_bipush (v := (-2)) hx hb dX9_crossing_10 (by decide) ?_
  exact hret _ _ _ _ (-2) () hP hD hS dX9_crossing_12 rfl
set_option maxHeartbeats 4000000 in
set_option maxRecDepth 100000 in
theorem f_X9_shared (l : Launch) (G : va_G) (cI cJ cZ cB cQ : ClassId) (sz : Nat) (h0 : Nat) (b : Nat → Nat) (bc : Nat → Nat) (p0 : Int32) (p1 : Int32) : CI l yX9_shared (wl_ yX9_shared cX9_shared 3 (some .int)) ({ frames := 1, cells := 0, slots := 0, locals := 22 } : Room) G (TY cI cJ cZ cB cQ) [.ref h0, .int p0, .int p1] [(h0, oX9 b), (b 1, oX0 bc 0 0 0 0 0 0 0 0 0 0)] sz (fun (r : Int32) (u : Unit) => r = (-2)) (fun _ : Unit => [(h0, oX9 b), (b 1, oX0 bc 0 0 0 0 0 0 0 0 0 0)]) 0 0 := by
  refine CI.go (cc := cX9_shared) (maxL := 3) (ret := (some .int)) (by decide) rfl (Nat.le_of_ble_eq_true rfl) ?_
  intro p e s m below meth c A ls Q hBd hret
  obtain ⟨hx, hb, hr, hml, hts, hown, hlk, hnm, hP, hK, hD, hA, hZ, hl⟩ := hBd
  have hown : s.vm.findClass RX9 = some m.cls := hown
  have hl : lv_has ls 3 [(0, .ref h0), (1, .int p0), (2, .int p1)] := hl
  have hS : va_S A s.heap s.heap [] := va_S.rf
  refine lv_aload_n hx hb dX9_shared_0 rfl (lv_at hl 0 rfl) ?_
  refine va_get (D := G) (ci := 9) (v := .ref (b 1)) (C := RX9) (T := TX9) (N := 11) hx hb hts iG_X9 hown hK hP 0 rfl rfl 1 (by decide) (hts _ w_352) (fun _ h9 => h9) rfl dX9_shared_1 ?_
  refine lv_iload_n hx hb dX9_shared_4 rfl (lv_at hl 1 rfl) ?_
  obtain ⟨v1, ev1⟩ : ∃ y : Int64, p0.toInt64 = y := ⟨_, rfl⟩
  have tv1 : v1.toInt = p0.toInt := ti_wide rfl ev1
  refine lv_i2l (v := v1) hx hb dX9_shared_5 ev1 ?_
  refine k_i (wc := [(b 1, oX0 bc 0 0 0 0 0 0 0 0 0 0)]) (wr := [(h0, oX9 b)]) hP hD hS hA [1] [0] rfl rfl rfl (by decide) (va_runVN (As := [.long v1]) (rest := []) ⟨hx, hb, hml, hown, hts⟩ (f_X0_hasWidow l G cI cJ cZ cB cQ _ (b 1) bc v1) ⟨va_cnB (host := "WidowRoads") 1 hts (gW w_671) rfl rfl rfl (nz_nw hZ nw_668 rfl) (hts _ w_4) hd_X0_hasWidow ⟨Nat.le_of_ble_eq_true rfl, Nat.le_of_ble_eq_true rfl⟩, (hts _ w_670), (hts _ wp_35)⟩ (mV hK hZ hP hD [1] rfl rfl [.long v1] 1 0 rfl rfl) rfl rfl hl.1 rfl (lv_room (Nat.le_of_ble_eq_true rfl)) dX9_shared_6 ⟨Nat.le_of_ble_eq_true rfl, Nat.le_of_ble_eq_true rfl⟩) (fun r2 u3 H locs hw4 hP hD hS => ?_)
  try dsimp only at hw4
  have hP : va_P G vwCl [(h0, oX9 b), (b 1, oX0 bc 0 0 0 0 0 0 0 0 0 0)] H := hP
  have hD : va_D A [(h0, oX9 b), (b 1, oX0 bc 0 0 0 0 0 0 0 0 0 0)] := hD
  obtain rfl : r2 = 0 := hw4
  refine lv_if_eq (tgt := 24) hx hb dX9_shared_9 (by decide) (fun c5 => ?_) (fun c5 => absurd (by decide) c5)
  refine lv_bipush (v := (-2)) hx hb dX9_shared_24 (by decide) ?_
  exact hret _ _ _ _ (-2) () hP hD hS dX9_shared_26 rfl
set_option maxHeartbeats 4000000 in
set_option maxRecDepth 100000 in
theorem f_X9_walked (l : Launch) (G : va_G) (cI cJ cZ cB cQ : ClassId) (sz : Nat) (h0 : Nat) (b : Nat → Nat) (bc : Nat → Nat) (p0 : Int32) : CI l yX9_walked (wl_ yX9_walked cX9_walked 3 (some .int)) ({ frames := 1, cells := 0, slots := 0, locals := 22 } : Room) G (TY cI cJ cZ cB cQ) [.ref h0, .int p0] [(h0, oX9 b), (b 1, oX0 bc 0 0 0 0 0 0 0 0 0 0)] sz (fun (r : Int32) (u : Unit) => r = (-2)) (fun _ : Unit => [(h0, oX9 b), (b 1, oX0 bc 0 0 0 0 0 0 0 0 0 0)]) 0 0 := by
  refine CI.go (cc := cX9_walked) (maxL := 3) (ret := (some .int)) (by decide) rfl (Nat.le_of_ble_eq_true rfl) ?_
  intro p e s m below meth c A ls Q hBd hret
  obtain ⟨hx, hb, hr, hml, hts, hown, hlk, hnm, hP, hK, hD, hA, hZ, hl⟩ := hBd
  have hown : s.vm.findClass RX9 = some m.cls := hown
  have hl : lv_has ls 3 [(0, .ref h0), (1, .int p0)] := hl
  have hS : va_S A s.heap s.heap [] := va_S.rf
  refine lv_aload_n hx hb dX9_walked_0 rfl (lv_at hl 0 rfl) ?_
  refine va_get (D := G) (ci := 9) (v := .ref (b 1)) (C := RX9) (T := TX9) (N := 11) hx hb hts iG_X9 hown hK hP 0 rfl rfl 1 (by decide) (hts _ w_352) (fun _ h9 => h9) rfl dX9_walked_1 ?_
  refine lv_iload_n hx hb dX9_walked_4 rfl (lv_at hl 1 rfl) ?_
  obtain ⟨v1, ev1⟩ : ∃ y : Int64, p0.toInt64 = y := ⟨_, rfl⟩
  have tv1 : v1.toInt = p0.toInt := ti_wide rfl ev1
  refine lv_i2l (v := v1) hx hb dX9_walked_5 ev1 ?_
  refine k_i (wc := [(b 1, oX0 bc 0 0 0 0 0 0 0 0 0 0)]) (wr := [(h0, oX9 b)]) hP hD hS hA [1] [0] rfl rfl rfl (by decide) (va_runVN (As := [.long v1]) (rest := []) ⟨hx, hb, hml, hown, hts⟩ (f_X0_spotOf l G cI cJ cZ cB cQ _ (b 1) bc v1) ⟨va_cnB (host := "WidowRoads") 1 hts (gW w_656) rfl rfl rfl (nz_nw hZ nw_653 rfl) (hts _ w_4) hd_X0_spotOf ⟨Nat.le_of_ble_eq_true rfl, Nat.le_of_ble_eq_true rfl⟩, (hts _ w_655), (hts _ wp_34)⟩ (mV hK hZ hP hD [1] rfl rfl [.long v1] 1 0 rfl rfl) rfl rfl hl.1 rfl (lv_room (Nat.le_of_ble_eq_true rfl)) dX9_walked_6 ⟨Nat.le_of_ble_eq_true rfl, Nat.le_of_ble_eq_true rfl⟩) (fun r2 u3 H locs hw4 hP hD hS => ?_)
  try dsimp only at hw4
  have hP : va_P G vwCl [(h0, oX9 b), (b 1, oX0 bc 0 0 0 0 0 0 0 0 0 0)] H := hP
  have hD : va_D A [(h0, oX9 b), (b 1, oX0 bc 0 0 0 0 0 0 0 0 0 0)] := hD
  obtain rfl : r2 = (-1) := hw4
  refine lv_istore_n (lv' := [(2, .int (-1)), (0, .ref h0), (1, .int p0)]) hx hb dX9_walked_9 rfl hl (by decide) rfl (fun ls hl => ?_)
  refine lv_iload_n hx hb dX9_walked_10 rfl (lv_at hl 0 rfl) ?_
  refine lv_iconst (v := (-1)) hx hb dX9_walked_11 (by decide) ?_
  refine lv_icmp_ne (tgt := 20) hx hb dX9_walked_12 (by decide) (fun c5 => absurd (by decide) c5) (fun c5 => ?_)
  refine lv_bipush (v := (-2)) hx hb dX9_walked_15 (by decide) ?_
  refine lv_goto (tgt := 25) hx hb dX9_walked_17 (by decide) ?_
  exact hret _ _ _ _ (-2) () hP hD hS dX9_walked_25 rfl
set_option maxHeartbeats 4000000 in
set_option maxRecDepth 100000 in
theorem f_X9_first (l : Launch) (G : va_G) (cI cJ cZ cB cQ : ClassId) (sz : Nat) (h0 : Nat) (b : Nat → Nat) (bc : Nat → Nat) (p0 : Int32) : CI l yX9_first (wl_ yX9_first cX9_first 4 (some .int)) ({ frames := 1, cells := 0, slots := 0, locals := 22 } : Room) G (TY cI cJ cZ cB cQ) [.ref h0, .int p0] [(h0, oX9 b), (b 1, oX0 bc 0 0 0 0 0 0 0 0 0 0)] sz (fun (r : Int32) (u : Unit) => r = (-2)) (fun _ : Unit => [(h0, oX9 b), (b 1, oX0 bc 0 0 0 0 0 0 0 0 0 0)]) 0 0 := by
  refine CI.go (cc := cX9_first) (maxL := 4) (ret := (some .int)) (by decide) rfl (Nat.le_of_ble_eq_true rfl) ?_
  intro p e s m below meth c A ls Q hBd hret
  obtain ⟨hx, hb, hr, hml, hts, hown, hlk, hnm, hP, hK, hD, hA, hZ, hl⟩ := hBd
  have hown : s.vm.findClass RX9 = some m.cls := hown
  have hl : lv_has ls 4 [(0, .ref h0), (1, .int p0)] := hl
  have hS : va_S A s.heap s.heap [] := va_S.rf
  refine lv_aload_n hx hb dX9_first_0 rfl (lv_at hl 0 rfl) ?_
  refine va_get (D := G) (ci := 9) (v := .ref (b 1)) (C := RX9) (T := TX9) (N := 11) hx hb hts iG_X9 hown hK hP 0 rfl rfl 1 (by decide) (hts _ w_352) (fun _ h9 => h9) rfl dX9_first_1 ?_
  refine lv_iload_n hx hb dX9_first_4 rfl (lv_at hl 1 rfl) ?_
  obtain ⟨v1, ev1⟩ : ∃ y : Int64, p0.toInt64 = y := ⟨_, rfl⟩
  have tv1 : v1.toInt = p0.toInt := ti_wide rfl ev1
  refine lv_i2l (v := v1) hx hb dX9_first_5 ev1 ?_
  refine k_i (wc := [(b 1, oX0 bc 0 0 0 0 0 0 0 0 0 0)]) (wr := [(h0, oX9 b)]) hP hD hS hA [1] [0] rfl rfl rfl (by decide) (va_runVN (As := [.long v1]) (rest := []) ⟨hx, hb, hml, hown, hts⟩ (f_X0_spotOf l G cI cJ cZ cB cQ _ (b 1) bc v1) ⟨va_cnB (host := "WidowRoads") 1 hts (gW w_656) rfl rfl rfl (nz_nw hZ nw_653 rfl) (hts _ w_4) hd_X0_spotOf ⟨Nat.le_of_ble_eq_true rfl, Nat.le_of_ble_eq_true rfl⟩, (hts _ w_655), (hts _ wp_34)⟩ (mV hK hZ hP hD [1] rfl rfl [.long v1] 1 0 rfl rfl) rfl rfl hl.1 rfl (lv_room (Nat.le_of_ble_eq_true rfl)) dX9_first_6 ⟨Nat.le_of_ble_eq_true rfl, Nat.le_of_ble_eq_true rfl⟩) (fun r2 u3 H locs hw4 hP hD hS => ?_)
  try dsimp only at hw4
  have hP : va_P G vwCl [(h0, oX9 b), (b 1, oX0 bc 0 0 0 0 0 0 0 0 0 0)] H := hP
  have hD : va_D A [(h0, oX9 b), (b 1, oX0 bc 0 0 0 0 0 0 0 0 0 0)] := hD
  obtain rfl : r2 = (-1) := hw4
  refine lv_istore_n (lv' := [(2, .int (-1)), (0, .ref h0), (1, .int p0)]) hx hb dX9_first_9 rfl hl (by decide) rfl (fun ls hl => ?_)
  refine lv_iload_n hx hb dX9_first_10 rfl (lv_at hl 0 rfl) ?_
  refine lv_iconst (v := (-1)) hx hb dX9_first_11 (by decide) ?_
  refine lv_icmp_ne (tgt := 18) hx hb dX9_first_12 (by decide) (fun c5 => absurd (by decide) c5) (fun c5 => ?_)
  refine lv_bipush (v := (-2)) hx hb dX9_first_15 (by decide) ?_
  exact hret _ _ _ _ (-2) () hP hD hS dX9_first_17 rfl
set_option maxHeartbeats 4000000 in
set_option maxRecDepth 100000 in
theorem f_X9_line (l : Launch) (G : va_G) (cI cJ cZ cB cQ : ClassId) (sz : Nat) (h0 : Nat) (b : Nat → Nat) (bc : Nat → Nat) (p0 : Int32) : CI l yX9_line (wl_ yX9_line cX9_line 2 (some .int)) ({ frames := 1, cells := 0, slots := 0, locals := 21 } : Room) G (TY cI cJ cZ cB cQ) [.ref h0, .int p0] [(h0, oX9 b), (b 1, oX0 bc 0 0 0 0 0 0 0 0 0 0)] sz (fun (r : Int32) (u : Unit) => r = (-2)) (fun _ : Unit => [(h0, oX9 b), (b 1, oX0 bc 0 0 0 0 0 0 0 0 0 0)]) 0 0 := by
  refine CI.go (cc := cX9_line) (maxL := 2) (ret := (some .int)) (by decide) rfl (Nat.le_of_ble_eq_true rfl) ?_
  intro p e s m below meth c A ls Q hBd hret
  obtain ⟨hx, hb, hr, hml, hts, hown, hlk, hnm, hP, hK, hD, hA, hZ, hl⟩ := hBd
  have hown : s.vm.findClass RX9 = some m.cls := hown
  have hl : lv_has ls 2 [(0, .ref h0), (1, .int p0)] := hl
  have hS : va_S A s.heap s.heap [] := va_S.rf
  refine lv_aload_n hx hb dX9_line_0 rfl (lv_at hl 0 rfl) ?_
  refine va_get (D := G) (ci := 9) (v := .ref (b 1)) (C := RX9) (T := TX9) (N := 11) hx hb hts iG_X9 hown hK hP 0 rfl rfl 1 (by decide) (hts _ w_352) (fun _ h9 => h9) rfl dX9_line_1 ?_
  refine lv_iload_n hx hb dX9_line_4 rfl (lv_at hl 1 rfl) ?_
  refine k_i (wc := [(b 1, oX0 bc 0 0 0 0 0 0 0 0 0 0)]) (wr := [(h0, oX9 b)]) hP hD hS hA [1] [0] rfl rfl rfl (by decide) (va_runVN (As := [.int p0]) (rest := []) ⟨hx, hb, hml, hown, hts⟩ (f_X0_hasYear l G cI cJ cZ cB cQ _ (b 1) bc p0) ⟨va_cnB (host := "WidowRoads") 1 hts (gW w_727) rfl rfl rfl (nz_nw hZ nw_724 rfl) (hts _ w_4) hd_X0_hasYear ⟨Nat.le_of_ble_eq_true rfl, Nat.le_of_ble_eq_true rfl⟩, (hts _ w_726), (hts _ wp_39)⟩ (mV hK hZ hP hD [1] rfl rfl [.int p0] 1 0 rfl rfl) rfl rfl hl.1 rfl (lv_room (Nat.le_of_ble_eq_true rfl)) dX9_line_5 ⟨Nat.le_of_ble_eq_true rfl, Nat.le_of_ble_eq_true rfl⟩) (fun r1 u2 H locs hw3 hP hD hS => ?_)
  try dsimp only at hw3
  have hP : va_P G vwCl [(h0, oX9 b), (b 1, oX0 bc 0 0 0 0 0 0 0 0 0 0)] H := hP
  have hD : va_D A [(h0, oX9 b), (b 1, oX0 bc 0 0 0 0 0 0 0 0 0 0)] := hD
  obtain rfl : r1 = 0 := hw3
  refine lv_if_ne (tgt := 14) hx hb dX9_line_8 (by decide) (fun c4 => absurd (by decide) c4) (fun c4 => ?_)
  refine lv_bipush (v := (-2)) hx hb dX9_line_11 (by decide) ?_
  exact hret _ _ _ _ (-2) () hP hD hS dX9_line_13 rfl
set_option maxHeartbeats 4000000 in
set_option maxRecDepth 100000 in
theorem f_X9_house (l : Launch) (G : va_G) (cI cJ cZ cB cQ : ClassId) (sz : Nat) (h0 : Nat) (b : Nat → Nat) (bc : Nat → Nat) (p0 : Int32) (p1 : Int32) : CI l yX9_house (wl_ yX9_house cX9_house 3 (some .int)) ({ frames := 1, cells := 0, slots := 0, locals := 21 } : Room) G (TY cI cJ cZ cB cQ) [.ref h0, .int p0, .int p1] [(h0, oX9 b), (b 1, oX0 bc 0 0 0 0 0 0 0 0 0 0)] sz (fun (r : Int32) (u : Unit) => r = (-2)) (fun _ : Unit => [(h0, oX9 b), (b 1, oX0 bc 0 0 0 0 0 0 0 0 0 0)]) 0 0 := by
  refine CI.go (cc := cX9_house) (maxL := 3) (ret := (some .int)) (by decide) rfl (Nat.le_of_ble_eq_true rfl) ?_
  intro p e s m below meth c A ls Q hBd hret
  obtain ⟨hx, hb, hr, hml, hts, hown, hlk, hnm, hP, hK, hD, hA, hZ, hl⟩ := hBd
  have hown : s.vm.findClass RX9 = some m.cls := hown
  have hl : lv_has ls 3 [(0, .ref h0), (1, .int p0), (2, .int p1)] := hl
  have hS : va_S A s.heap s.heap [] := va_S.rf
  refine lv_aload_n hx hb dX9_house_0 rfl (lv_at hl 0 rfl) ?_
  refine va_get (D := G) (ci := 9) (v := .ref (b 1)) (C := RX9) (T := TX9) (N := 11) hx hb hts iG_X9 hown hK hP 0 rfl rfl 1 (by decide) (hts _ w_352) (fun _ h9 => h9) rfl dX9_house_1 ?_
  refine lv_iload_n hx hb dX9_house_4 rfl (lv_at hl 1 rfl) ?_
  refine k_i (wc := [(b 1, oX0 bc 0 0 0 0 0 0 0 0 0 0)]) (wr := [(h0, oX9 b)]) hP hD hS hA [1] [0] rfl rfl rfl (by decide) (va_runVN (As := [.int p0]) (rest := []) ⟨hx, hb, hml, hown, hts⟩ (f_X0_hasHouse l G cI cJ cZ cB cQ _ (b 1) bc p0) ⟨va_cnB (host := "WidowRoads") 1 hts (gW w_893) rfl rfl rfl (nz_nw hZ nw_890 rfl) (hts _ w_4) hd_X0_hasHouse ⟨Nat.le_of_ble_eq_true rfl, Nat.le_of_ble_eq_true rfl⟩, (hts _ w_892), (hts _ wp_54)⟩ (mV hK hZ hP hD [1] rfl rfl [.int p0] 1 0 rfl rfl) rfl rfl hl.1 rfl (lv_room (Nat.le_of_ble_eq_true rfl)) dX9_house_5 ⟨Nat.le_of_ble_eq_true rfl, Nat.le_of_ble_eq_true rfl⟩) (fun r1 u2 H locs hw3 hP hD hS => ?_)
  try dsimp only at hw3
  have hP : va_P G vwCl [(h0, oX9 b), (b 1, oX0 bc 0 0 0 0 0 0 0 0 0 0)] H := hP
  have hD : va_D A [(h0, oX9 b), (b 1, oX0 bc 0 0 0 0 0 0 0 0 0 0)] := hD
  obtain rfl : r1 = 0 := hw3
  refine lv_if_eq (tgt := 22) hx hb dX9_house_8 (by decide) (fun c4 => ?_) (fun c4 => absurd (by decide) c4)
  refine lv_bipush (v := (-2)) hx hb dX9_house_22 (by decide) ?_
  exact hret _ _ _ _ (-2) () hP hD hS dX9_house_24 rfl
set_option maxHeartbeats 4000000 in
set_option maxRecDepth 100000 in
theorem f_X9_moved (l : Launch) (G : va_G) (cI cJ cZ cB cQ : ClassId) (sz : Nat) (h0 : Nat) (b : Nat → Nat) (bc : Nat → Nat) (p0 : Int32) : CI l yX9_moved (wl_ yX9_moved cX9_moved 2 (some .int)) ({ frames := 1, cells := 0, slots := 0, locals := 21 } : Room) G (TY cI cJ cZ cB cQ) [.ref h0, .int p0] [(h0, oX9 b), (b 1, oX0 bc 0 0 0 0 0 0 0 0 0 0)] sz (fun (r : Int32) (u : Unit) => r = (-2)) (fun _ : Unit => [(h0, oX9 b), (b 1, oX0 bc 0 0 0 0 0 0 0 0 0 0)]) 0 0 := by
  refine CI.go (cc := cX9_moved) (maxL := 2) (ret := (some .int)) (by decide) rfl (Nat.le_of_ble_eq_true rfl) ?_
  intro p e s m below meth c A ls Q hBd hret
  obtain ⟨hx, hb, hr, hml, hts, hown, hlk, hnm, hP, hK, hD, hA, hZ, hl⟩ := hBd
  have hown : s.vm.findClass RX9 = some m.cls := hown
  have hl : lv_has ls 2 [(0, .ref h0), (1, .int p0)] := hl
  have hS : va_S A s.heap s.heap [] := va_S.rf
  refine lv_aload_n hx hb dX9_moved_0 rfl (lv_at hl 0 rfl) ?_
  refine va_get (D := G) (ci := 9) (v := .ref (b 1)) (C := RX9) (T := TX9) (N := 11) hx hb hts iG_X9 hown hK hP 0 rfl rfl 1 (by decide) (hts _ w_352) (fun _ h9 => h9) rfl dX9_moved_1 ?_
  refine lv_iload_n hx hb dX9_moved_4 rfl (lv_at hl 1 rfl) ?_
  refine k_i (wc := [(b 1, oX0 bc 0 0 0 0 0 0 0 0 0 0)]) (wr := [(h0, oX9 b)]) hP hD hS hA [1] [0] rfl rfl rfl (by decide) (va_runVN (As := [.int p0]) (rest := []) ⟨hx, hb, hml, hown, hts⟩ (f_X0_hasHouse l G cI cJ cZ cB cQ _ (b 1) bc p0) ⟨va_cnB (host := "WidowRoads") 1 hts (gW w_893) rfl rfl rfl (nz_nw hZ nw_890 rfl) (hts _ w_4) hd_X0_hasHouse ⟨Nat.le_of_ble_eq_true rfl, Nat.le_of_ble_eq_true rfl⟩, (hts _ w_892), (hts _ wp_54)⟩ (mV hK hZ hP hD [1] rfl rfl [.int p0] 1 0 rfl rfl) rfl rfl hl.1 rfl (lv_room (Nat.le_of_ble_eq_true rfl)) dX9_moved_5 ⟨Nat.le_of_ble_eq_true rfl, Nat.le_of_ble_eq_true rfl⟩) (fun r1 u2 H locs hw3 hP hD hS => ?_)
  try dsimp only at hw3
  have hP : va_P G vwCl [(h0, oX9 b), (b 1, oX0 bc 0 0 0 0 0 0 0 0 0 0)] H := hP
  have hD : va_D A [(h0, oX9 b), (b 1, oX0 bc 0 0 0 0 0 0 0 0 0 0)] := hD
  obtain rfl : r1 = 0 := hw3
  refine lv_if_eq (tgt := 23) hx hb dX9_moved_8 (by decide) (fun c4 => ?_) (fun c4 => absurd (by decide) c4)
  refine lv_bipush (v := (-2)) hx hb dX9_moved_23 (by decide) ?_
  exact hret _ _ _ _ (-2) () hP hD hS dX9_moved_25 rfl
set_option maxHeartbeats 4000000 in
set_option maxRecDepth 100000 in
theorem f_X9_moves (l : Launch) (G : va_G) (cI cJ cZ cB cQ : ClassId) (sz : Nat) (h0 : Nat) (b : Nat → Nat) (bc : Nat → Nat) (p0 : Int32) : CI l yX9_moves (wl_ yX9_moves cX9_moves 2 (some .int)) ({ frames := 1, cells := 0, slots := 0, locals := 22 } : Room) G (TY cI cJ cZ cB cQ) [.ref h0, .int p0] [(h0, oX9 b), (b 1, oX0 bc 0 0 0 0 0 0 0 0 0 0)] sz (fun (r : Int32) (u : Unit) => r = (-2)) (fun _ : Unit => [(h0, oX9 b), (b 1, oX0 bc 0 0 0 0 0 0 0 0 0 0)]) 0 0 := by
  refine CI.go (cc := cX9_moves) (maxL := 2) (ret := (some .int)) (by decide) rfl (Nat.le_of_ble_eq_true rfl) ?_
  intro p e s m below meth c A ls Q hBd hret
  obtain ⟨hx, hb, hr, hml, hts, hown, hlk, hnm, hP, hK, hD, hA, hZ, hl⟩ := hBd
  have hown : s.vm.findClass RX9 = some m.cls := hown
  have hl : lv_has ls 2 [(0, .ref h0), (1, .int p0)] := hl
  have hS : va_S A s.heap s.heap [] := va_S.rf
  refine lv_aload_n hx hb dX9_moves_0 rfl (lv_at hl 0 rfl) ?_
  refine va_get (D := G) (ci := 9) (v := .ref (b 1)) (C := RX9) (T := TX9) (N := 11) hx hb hts iG_X9 hown hK hP 0 rfl rfl 1 (by decide) (hts _ w_352) (fun _ h9 => h9) rfl dX9_moves_1 ?_
  refine lv_iload_n hx hb dX9_moves_4 rfl (lv_at hl 1 rfl) ?_
  obtain ⟨v1, ev1⟩ : ∃ y : Int64, p0.toInt64 = y := ⟨_, rfl⟩
  have tv1 : v1.toInt = p0.toInt := ti_wide rfl ev1
  refine lv_i2l (v := v1) hx hb dX9_moves_5 ev1 ?_
  refine k_i (wc := [(b 1, oX0 bc 0 0 0 0 0 0 0 0 0 0)]) (wr := [(h0, oX9 b)]) hP hD hS hA [1] [0] rfl rfl rfl (by decide) (va_runVN (As := [.long v1]) (rest := []) ⟨hx, hb, hml, hown, hts⟩ (f_X0_hasWidow l G cI cJ cZ cB cQ _ (b 1) bc v1) ⟨va_cnB (host := "WidowRoads") 1 hts (gW w_671) rfl rfl rfl (nz_nw hZ nw_668 rfl) (hts _ w_4) hd_X0_hasWidow ⟨Nat.le_of_ble_eq_true rfl, Nat.le_of_ble_eq_true rfl⟩, (hts _ w_670), (hts _ wp_35)⟩ (mV hK hZ hP hD [1] rfl rfl [.long v1] 1 0 rfl rfl) rfl rfl hl.1 rfl (lv_room (Nat.le_of_ble_eq_true rfl)) dX9_moves_6 ⟨Nat.le_of_ble_eq_true rfl, Nat.le_of_ble_eq_true rfl⟩) (fun r2 u3 H locs hw4 hP hD hS => ?_)
  try dsimp only at hw4
  have hP : va_P G vwCl [(h0, oX9 b), (b 1, oX0 bc 0 0 0 0 0 0 0 0 0 0)] H := hP
  have hD : va_D A [(h0, oX9 b), (b 1, oX0 bc 0 0 0 0 0 0 0 0 0 0)] := hD
  obtain rfl : r2 = 0 := hw4
  refine lv_if_ne (tgt := 15) hx hb dX9_moves_9 (by decide) (fun c5 => absurd (by decide) c5) (fun c5 => ?_)
  refine lv_bipush (v := (-2)) hx hb dX9_moves_12 (by decide) ?_
  exact hret _ _ _ _ (-2) () hP hD hS dX9_moves_14 rfl
set_option maxHeartbeats 4000000 in
set_option maxRecDepth 100000 in
theorem f_X9_served (l : Launch) (G : va_G) (cI cJ cZ cB cQ : ClassId) (sz : Nat) (h0 : Nat) (b : Nat → Nat) (bc : Nat → Nat) (p0 : Int32) : CI l yX9_served (wl_ yX9_served cX9_served 5 (some .int)) ({ frames := 1, cells := 0, slots := 0, locals := 21 } : Room) G (TY cI cJ cZ cB cQ) [.ref h0, .int p0] [(h0, oX9 b), (b 1, oX0 bc 0 0 0 0 0 0 0 0 0 0)] sz (fun (r : Int32) (u : Unit) => r = (-2)) (fun _ : Unit => [(h0, oX9 b), (b 1, oX0 bc 0 0 0 0 0 0 0 0 0 0)]) 0 0 := by
  refine CI.go (cc := cX9_served) (maxL := 5) (ret := (some .int)) (by decide) rfl (Nat.le_of_ble_eq_true rfl) ?_
  intro p e s m below meth c A ls Q hBd hret
  obtain ⟨hx, hb, hr, hml, hts, hown, hlk, hnm, hP, hK, hD, hA, hZ, hl⟩ := hBd
  have hown : s.vm.findClass RX9 = some m.cls := hown
  have hl : lv_has ls 5 [(0, .ref h0), (1, .int p0)] := hl
  have hS : va_S A s.heap s.heap [] := va_S.rf
  refine lv_aload_n hx hb dX9_served_0 rfl (lv_at hl 0 rfl) ?_
  refine va_get (D := G) (ci := 9) (v := .ref (b 1)) (C := RX9) (T := TX9) (N := 11) hx hb hts iG_X9 hown hK hP 0 rfl rfl 1 (by decide) (hts _ w_352) (fun _ h9 => h9) rfl dX9_served_1 ?_
  refine lv_iload_n hx hb dX9_served_4 rfl (lv_at hl 1 rfl) ?_
  refine k_i (wc := [(b 1, oX0 bc 0 0 0 0 0 0 0 0 0 0)]) (wr := [(h0, oX9 b)]) hP hD hS hA [1] [0] rfl rfl rfl (by decide) (va_runVN (As := [.int p0]) (rest := []) ⟨hx, hb, hml, hown, hts⟩ (f_X0_hasYear l G cI cJ cZ cB cQ _ (b 1) bc p0) ⟨va_cnB (host := "WidowRoads") 1 hts (gW w_727) rfl rfl rfl (nz_nw hZ nw_724 rfl) (hts _ w_4) hd_X0_hasYear ⟨Nat.le_of_ble_eq_true rfl, Nat.le_of_ble_eq_true rfl⟩, (hts _ w_726), (hts _ wp_39)⟩ (mV hK hZ hP hD [1] rfl rfl [.int p0] 1 0 rfl rfl) rfl rfl hl.1 rfl (lv_room (Nat.le_of_ble_eq_true rfl)) dX9_served_5 ⟨Nat.le_of_ble_eq_true rfl, Nat.le_of_ble_eq_true rfl⟩) (fun r1 u2 H locs hw3 hP hD hS => ?_)
  try dsimp only at hw3
  have hP : va_P G vwCl [(h0, oX9 b), (b 1, oX0 bc 0 0 0 0 0 0 0 0 0 0)] H := hP
  have hD : va_D A [(h0, oX9 b), (b 1, oX0 bc 0 0 0 0 0 0 0 0 0 0)] := hD
  obtain rfl : r1 = 0 := hw3
  refine lv_if_ne (tgt := 14) hx hb dX9_served_8 (by decide) (fun c4 => absurd (by decide) c4) (fun c4 => ?_)
  refine lv_bipush (v := (-2)) hx hb dX9_served_11 (by decide) ?_
  exact hret _ _ _ _ (-2) () hP hD hS dX9_served_13 rfl
set_option maxHeartbeats 4000000 in
set_option maxRecDepth 100000 in
theorem f_X9_cover (l : Launch) (G : va_G) (cI cJ cZ cB cQ : ClassId) (sz : Nat) (h0 : Nat) (b : Nat → Nat) (bc : Nat → Nat) : CI l yX9_cover (wl_ yX9_cover cX9_cover 1 (some .int)) ({ frames := 0, cells := 0, slots := 0, locals := 0 } : Room) G (TY cI cJ cZ cB cQ) [.ref h0] [(h0, oX9 b), (b 1, oX0 bc 0 0 0 0 0 0 0 0 0 0)] sz (fun (r : Int32) (u : Unit) => r = (-2)) (fun _ : Unit => [(h0, oX9 b), (b 1, oX0 bc 0 0 0 0 0 0 0 0 0 0)]) 0 0 := by
  refine CI.go (cc := cX9_cover) (maxL := 1) (ret := (some .int)) (by decide) rfl (Nat.le_of_ble_eq_true rfl) ?_
  intro p e s m below meth c A ls Q hBd hret
  obtain ⟨hx, hb, hr, hml, hts, hown, hlk, hnm, hP, hK, hD, hA, hZ, hl⟩ := hBd
  have hown : s.vm.findClass RX9 = some m.cls := hown
  have hl : lv_has ls 1 [(0, .ref h0)] := hl
  have hS : va_S A s.heap s.heap [] := va_S.rf
  refine lv_aload_n hx hb dX9_cover_0 rfl (lv_at hl 0 rfl) ?_
  refine va_get (D := G) (ci := 9) (v := .ref (b 1)) (C := RX9) (T := TX9) (N := 11) hx hb hts iG_X9 hown hK hP 0 rfl rfl 1 (by decide) (hts _ w_352) (fun _ h9 => h9) rfl dX9_cover_1 ?_
  refine va_getN (D := G) (ci := 0) (v := .int 0) (C := RX0) (T := TX0) (N := 19) hx hb hts iG_X0 hown hK hP 1 rfl rfl 0 (by decide) (nz_use hZ nw_57 rfl) (fun _ h9 => h9) rfl dX9_cover_4 ?_
  refine lv_if_ne (tgt := 15) hx hb dX9_cover_7 (by decide) (fun c1 => absurd (by decide) c1) (fun c1 => ?_)
  refine lv_bipush (v := (-2)) hx hb dX9_cover_10 (by decide) ?_
  refine lv_goto (tgt := 22) hx hb dX9_cover_12 (by decide) ?_
  exact hret _ _ _ _ (-2) () hP hD hS dX9_cover_22 rfl
set_option maxHeartbeats 4000000 in
set_option maxRecDepth 100000 in
theorem f_X9_covers (l : Launch) (G : va_G) (cI cJ cZ cB cQ : ClassId) (sz : Nat) (h0 : Nat) (b : Nat → Nat) (bc : Nat → Nat) : CI l yX9_covers (wl_ yX9_covers cX9_covers 1 (some .int)) ({ frames := 0, cells := 0, slots := 0, locals := 0 } : Room) G (TY cI cJ cZ cB cQ) [.ref h0] [(h0, oX9 b), (b 1, oX0 bc 0 0 0 0 0 0 0 0 0 0)] sz (fun (r : Int32) (u : Unit) => r = (-2)) (fun _ : Unit => [(h0, oX9 b), (b 1, oX0 bc 0 0 0 0 0 0 0 0 0 0)]) 0 0 := by
  refine CI.go (cc := cX9_covers) (maxL := 1) (ret := (some .int)) (by decide) rfl (Nat.le_of_ble_eq_true rfl) ?_
  intro p e s m below meth c A ls Q hBd hret
  obtain ⟨hx, hb, hr, hml, hts, hown, hlk, hnm, hP, hK, hD, hA, hZ, hl⟩ := hBd
  have hown : s.vm.findClass RX9 = some m.cls := hown
  have hl : lv_has ls 1 [(0, .ref h0)] := hl
  have hS : va_S A s.heap s.heap [] := va_S.rf
  refine lv_aload_n hx hb dX9_covers_0 rfl (lv_at hl 0 rfl) ?_
  refine va_get (D := G) (ci := 9) (v := .ref (b 1)) (C := RX9) (T := TX9) (N := 11) hx hb hts iG_X9 hown hK hP 0 rfl rfl 1 (by decide) (hts _ w_352) (fun _ h9 => h9) rfl dX9_covers_1 ?_
  refine va_getN (D := G) (ci := 0) (v := .int 0) (C := RX0) (T := TX0) (N := 19) hx hb hts iG_X0 hown hK hP 1 rfl rfl 0 (by decide) (nz_use hZ nw_57 rfl) (fun _ h9 => h9) rfl dX9_covers_4 ?_
  refine lv_if_ne (tgt := 15) hx hb dX9_covers_7 (by decide) (fun c1 => absurd (by decide) c1) (fun c1 => ?_)
  refine lv_bipush (v := (-2)) hx hb dX9_covers_10 (by decide) ?_
  refine lv_goto (tgt := 19) hx hb dX9_covers_12 (by decide) ?_
  exact hret _ _ _ _ (-2) () hP hD hS dX9_covers_19 rfl
set_option maxHeartbeats 4000000 in
set_option maxRecDepth 100000 in
theorem f_X9_blame (l : Launch) (G : va_G) (cI cJ cZ cB cQ : ClassId) (sz : Nat) (h0 : Nat) (b : Nat → Nat) (bc : Nat → Nat) : CI l yX9_blame (wl_ yX9_blame cX9_blame 4 (some .int)) ({ frames := 0, cells := 0, slots := 0, locals := 0 } : Room) G (TY cI cJ cZ cB cQ) [.ref h0] [(h0, oX9 b), (b 1, oX0 bc 0 0 0 0 0 0 0 0 0 0)] sz (fun (r : Int32) (u : Unit) => r = (-2)) (fun _ : Unit => [(h0, oX9 b), (b 1, oX0 bc 0 0 0 0 0 0 0 0 0 0)]) 0 0 := by
  refine CI.go (cc := cX9_blame) (maxL := 4) (ret := (some .int)) (by decide) rfl (Nat.le_of_ble_eq_true rfl) ?_
  intro p e s m below meth c A ls Q hBd hret
  obtain ⟨hx, hb, hr, hml, hts, hown, hlk, hnm, hP, hK, hD, hA, hZ, hl⟩ := hBd
  have hown : s.vm.findClass RX9 = some m.cls := hown
  have hl : lv_has ls 4 [(0, .ref h0)] := hl
  have hS : va_S A s.heap s.heap [] := va_S.rf
  refine lv_aload_n hx hb dX9_blame_0 rfl (lv_at hl 0 rfl) ?_
  refine va_get (D := G) (ci := 9) (v := .ref (b 1)) (C := RX9) (T := TX9) (N := 11) hx hb hts iG_X9 hown hK hP 0 rfl rfl 1 (by decide) (hts _ w_352) (fun _ h9 => h9) rfl dX9_blame_1 ?_
  refine va_getN (D := G) (ci := 0) (v := .int 0) (C := RX0) (T := TX0) (N := 19) hx hb hts iG_X0 hown hK hP 1 rfl rfl 0 (by decide) (nz_use hZ nw_57 rfl) (fun _ h9 => h9) rfl dX9_blame_4 ?_
  refine lv_if_ne (tgt := 13) hx hb dX9_blame_7 (by decide) (fun c1 => absurd (by decide) c1) (fun c1 => ?_)
  refine lv_bipush (v := (-2)) hx hb dX9_blame_10 (by decide) ?_
  exact hret _ _ _ _ (-2) () hP hD hS dX9_blame_12 rfl
set_option maxHeartbeats 4000000 in
set_option maxRecDepth 100000 in
theorem f_X9_ford (l : Launch) (G : va_G) (cI cJ cZ cB cQ : ClassId) (sz : Nat) (h0 : Nat) (b : Nat → Nat) (bc : Nat → Nat) : CI l yX9_ford (wl_ yX9_ford cX9_ford 4 (some .int)) ({ frames := 0, cells := 0, slots := 0, locals := 0 } : Room) G (TY cI cJ cZ cB cQ) [.ref h0] [(h0, oX9 b), (b 1, oX0 bc 0 0 0 0 0 0 0 0 0 0)] sz (fun (r : Int32) (u : Unit) => r = (-2)) (fun _ : Unit => [(h0, oX9 b), (b 1, oX0 bc 0 0 0 0 0 0 0 0 0 0)]) 0 0 := by
  refine CI.go (cc := cX9_ford) (maxL := 4) (ret := (some .int)) (by decide) rfl (Nat.le_of_ble_eq_true rfl) ?_
  intro p e s m below meth c A ls Q hBd hret
  obtain ⟨hx, hb, hr, hml, hts, hown, hlk, hnm, hP, hK, hD, hA, hZ, hl⟩ := hBd
  have hown : s.vm.findClass RX9 = some m.cls := hown
  have hl : lv_has ls 4 [(0, .ref h0)] := hl
  have hS : va_S A s.heap s.heap [] := va_S.rf
  refine lv_aload_n hx hb dX9_ford_0 rfl (lv_at hl 0 rfl) ?_
  refine va_get (D := G) (ci := 9) (v := .ref (b 1)) (C := RX9) (T := TX9) (N := 11) hx hb hts iG_X9 hown hK hP 0 rfl rfl 1 (by decide) (hts _ w_352) (fun _ h9 => h9) rfl dX9_ford_1 ?_
  refine va_getN (D := G) (ci := 0) (v := .int 0) (C := RX0) (T := TX0) (N := 19) hx hb hts iG_X0 hown hK hP 1 rfl rfl 0 (by decide) (nz_use hZ nw_57 rfl) (fun _ h9 => h9) rfl dX9_ford_4 ?_
  refine lv_if_ne (tgt := 13) hx hb dX9_ford_7 (by decide) (fun c1 => absurd (by decide) c1) (fun c1 => ?_)
  refine lv_bipush (v := (-2)) hx hb dX9_ford_10 (by decide) ?_
  exact hret _ _ _ _ (-2) () hP hD hS dX9_ford_12 rfl
set_option maxHeartbeats 4000000 in
set_option maxRecDepth 100000 in
theorem f_X9_faced (l : Launch) (G : va_G) (cI cJ cZ cB cQ : ClassId) (sz : Nat) (h0 : Nat) (b : Nat → Nat) (bc : Nat → Nat) (p0 : Int32) (p1 : Int32) : CI l yX9_faced (wl_ yX9_faced cX9_faced 4 (some .int)) ({ frames := 2, cells := 0, slots := 0, locals := 44 } : Room) G (TY cI cJ cZ cB cQ) [.ref h0, .int p0, .int p1] [(h0, oX9 b), (b 1, oX0 bc 0 0 0 0 0 0 0 0 0 0)] sz (fun (r : Int32) (u : Unit) => r = (-2)) (fun _ : Unit => [(h0, oX9 b), (b 1, oX0 bc 0 0 0 0 0 0 0 0 0 0)]) 0 0 := by
  refine CI.go (cc := cX9_faced) (maxL := 4) (ret := (some .int)) (by decide) rfl (Nat.le_of_ble_eq_true rfl) ?_
  intro p e s m below meth c A ls Q hBd hret
  obtain ⟨hx, hb, hr, hml, hts, hown, hlk, hnm, hP, hK, hD, hA, hZ, hl⟩ := hBd
  have hown : s.vm.findClass RX9 = some m.cls := hown
  have hl : lv_has ls 4 [(0, .ref h0), (1, .int p0), (2, .int p1)] := hl
  have hS : va_S A s.heap s.heap [] := va_S.rf
  refine lv_aload_n hx hb dX9_faced_0 rfl (lv_at hl 0 rfl) ?_
  refine lv_iload_n hx hb dX9_faced_1 rfl (lv_at hl 1 rfl) ?_
  refine lv_iload_n hx hb dX9_faced_2 rfl (lv_at hl 2 rfl) ?_
  refine k_i (wc := [(h0, oX9 b), (b 1, oX0 bc 0 0 0 0 0 0 0 0 0 0)]) (wr := []) hP hD hS hA [0, 1] [] rfl rfl rfl (by decide) (va_runV (As := [.int p0, .int p1]) (rest := []) ⟨hx, hb, hml, hown, hts⟩ (f_X9_refusalOfSeen l G cI cJ cZ cB cQ _ h0 b bc p0 p1) (cwV 2 hts (gV w_943 w_945 wp_58 w_1 w_946) rfl rfl rfl ⟨rfl, hd_X9_refusalOfSeen⟩ ⟨Nat.le_of_ble_eq_true rfl, Nat.le_of_ble_eq_true rfl⟩) (mV hK hZ hP hD [0, 1] rfl rfl [.int p0, .int p1] 0 9 rfl rfl) rfl rfl hl.1 rfl (lv_room (Nat.le_of_ble_eq_true rfl)) dX9_faced_3 ⟨Nat.le_of_ble_eq_true rfl, Nat.le_of_ble_eq_true rfl⟩) (fun r1 u2 H locs hw3 hP hD hS => ?_)
  try dsimp only at hw3
  have hP : va_P G vwCl [(h0, oX9 b), (b 1, oX0 bc 0 0 0 0 0 0 0 0 0 0)] H := hP
  have hD : va_D A [(h0, oX9 b), (b 1, oX0 bc 0 0 0 0 0 0 0 0 0 0)] := hD
  obtain rfl : r1 = (-2) := hw3
  refine lv_istore_n (lv' := [(3, .int (-2)), (0, .ref h0), (1, .int p0), (2, .int p1)]) hx hb dX9_faced_6 rfl hl (by decide) rfl (fun ls hl => ?_)
  refine lv_iload_n hx hb dX9_faced_7 rfl (lv_at hl 0 rfl) ?_
  refine lv_if_eq (tgt := 15) hx hb dX9_faced_8 (by decide) (fun c4 => absurd c4 (by decide)) (fun c4 => ?_)
  refine lv_iload_n hx hb dX9_faced_11 rfl (lv_at hl 0 rfl) ?_
  refine lv_goto (tgt := 21) hx hb dX9_faced_12 (by decide) ?_
  exact hret _ _ _ _ (-2) () hP hD hS dX9_faced_21 rfl
set_option maxHeartbeats 4000000 in
set_option maxRecDepth 100000 in
theorem f_X9_griefs (l : Launch) (G : va_G) (cI cJ cZ cB cQ : ClassId) (sz : Nat) (h0 : Nat) (b : Nat → Nat) (bc : Nat → Nat) (p0 : Int32) (p1 : Int32) : CI l yX9_griefs (wl_ yX9_griefs cX9_griefs 6 (some .int)) ({ frames := 2, cells := 0, slots := 0, locals := 44 } : Room) G (TY cI cJ cZ cB cQ) [.ref h0, .int p0, .int p1] [(h0, oX9 b), (b 1, oX0 bc 0 0 0 0 0 0 0 0 0 0)] sz (fun (r : Int32) (u : Unit) => r = (-2)) (fun _ : Unit => [(h0, oX9 b), (b 1, oX0 bc 0 0 0 0 0 0 0 0 0 0)]) 0 0 := by
  refine CI.go (cc := cX9_griefs) (maxL := 6) (ret := (some .int)) (by decide) rfl (Nat.le_of_ble_eq_true rfl) ?_
  intro p e s m below meth c A ls Q hBd hret
  obtain ⟨hx, hb, hr, hml, hts, hown, hlk, hnm, hP, hK, hD, hA, hZ, hl⟩ := hBd
  have hown : s.vm.findClass RX9 = some m.cls := hown
  have hl : lv_has ls 6 [(0, .ref h0), (1, .int p0), (2, .int p1)] := hl
  have hS : va_S A s.heap s.heap [] := va_S.rf
  refine lv_aload_n hx hb dX9_griefs_0 rfl (lv_at hl 0 rfl) ?_
  refine lv_iload_n hx hb dX9_griefs_1 rfl (lv_at hl 1 rfl) ?_
  refine lv_iload_n hx hb dX9_griefs_2 rfl (lv_at hl 2 rfl) ?_
  refine k_i (wc := [(h0, oX9 b), (b 1, oX0 bc 0 0 0 0 0 0 0 0 0 0)]) (wr := []) hP hD hS hA [0, 1] [] rfl rfl rfl (by decide) (va_runV (As := [.int p0, .int p1]) (rest := []) ⟨hx, hb, hml, hown, hts⟩ (f_X9_refusalOfSeen l G cI cJ cZ cB cQ _ h0 b bc p0 p1) (cwV 2 hts (gV w_943 w_945 wp_58 w_1 w_946) rfl rfl rfl ⟨rfl, hd_X9_refusalOfSeen⟩ ⟨Nat.le_of_ble_eq_true rfl, Nat.le_of_ble_eq_true rfl⟩) (mV hK hZ hP hD [0, 1] rfl rfl [.int p0, .int p1] 0 9 rfl rfl) rfl rfl hl.1 rfl (lv_room (Nat.le_of_ble_eq_true rfl)) dX9_griefs_3 ⟨Nat.le_of_ble_eq_true rfl, Nat.le_of_ble_eq_true rfl⟩) (fun r1 u2 H locs hw3 hP hD hS => ?_)
  try dsimp only at hw3
  have hP : va_P G vwCl [(h0, oX9 b), (b 1, oX0 bc 0 0 0 0 0 0 0 0 0 0)] H := hP
  have hD : va_D A [(h0, oX9 b), (b 1, oX0 bc 0 0 0 0 0 0 0 0 0 0)] := hD
  obtain rfl : r1 = (-2) := hw3
  refine lv_istore_n (lv' := [(3, .int (-2)), (0, .ref h0), (1, .int p0), (2, .int p1)]) hx hb dX9_griefs_6 rfl hl (by decide) rfl (fun ls hl => ?_)
  refine lv_iload_n hx hb dX9_griefs_7 rfl (lv_at hl 0 rfl) ?_
  refine lv_if_eq (tgt := 13) hx hb dX9_griefs_8 (by decide) (fun c4 => absurd c4 (by decide)) (fun c4 => ?_)
  refine lv_iload_n hx hb dX9_griefs_11 rfl (lv_at hl 0 rfl) ?_
  exact hret _ _ _ _ (-2) () hP hD hS dX9_griefs_12 rfl
set_option maxHeartbeats 4000000 in
set_option maxRecDepth 100000 in
theorem f_X9_ask (l : Launch) (G : va_G) (cI cJ cZ cB cQ : ClassId) (sz : Nat) (h0 : Nat) (b : Nat → Nat) (bc : Nat → Nat) (p0 : Int32) (p1 : Int32) : CI l yX9_ask (wl_ yX9_ask cX9_ask 9 (some .int)) ({ frames := 2, cells := 0, slots := 0, locals := 44 } : Room) G (TY cI cJ cZ cB cQ) [.ref h0, .int p0, .int p1] [(h0, oX9 b), (b 1, oX0 bc 0 0 0 0 0 0 0 0 0 0)] sz (fun (r : Int32) (u : Unit) => r = (-2)) (fun _ : Unit => [(h0, oX9 b), (b 1, oX0 bc 0 0 0 0 0 0 0 0 0 0)]) 0 0 := by
  refine CI.go (cc := cX9_ask) (maxL := 9) (ret := (some .int)) (by decide) rfl (Nat.le_of_ble_eq_true rfl) ?_
  intro p e s m below meth c A ls Q hBd hret
  obtain ⟨hx, hb, hr, hml, hts, hown, hlk, hnm, hP, hK, hD, hA, hZ, hl⟩ := hBd
  have hown : s.vm.findClass RX9 = some m.cls := hown
  have hl : lv_has ls 9 [(0, .ref h0), (1, .int p0), (2, .int p1)] := hl
  have hS : va_S A s.heap s.heap [] := va_S.rf
  refine lv_aload_n hx hb dX9_ask_0 rfl (lv_at hl 0 rfl) ?_
  refine lv_iload_n hx hb dX9_ask_1 rfl (lv_at hl 1 rfl) ?_
  refine lv_iload_n hx hb dX9_ask_2 rfl (lv_at hl 2 rfl) ?_
  refine k_i (wc := [(h0, oX9 b), (b 1, oX0 bc 0 0 0 0 0 0 0 0 0 0)]) (wr := []) hP hD hS hA [0, 1] [] rfl rfl rfl (by decide) (va_runV (As := [.int p0, .int p1]) (rest := []) ⟨hx, hb, hml, hown, hts⟩ (f_X9_refusalOfSeen l G cI cJ cZ cB cQ _ h0 b bc p0 p1) (cwV 2 hts (gV w_943 w_945 wp_58 w_1 w_946) rfl rfl rfl ⟨rfl, hd_X9_refusalOfSeen⟩ ⟨Nat.le_of_ble_eq_true rfl, Nat.le_of_ble_eq_true rfl⟩) (mV hK hZ hP hD [0, 1] rfl rfl [.int p0, .int p1] 0 9 rfl rfl) rfl rfl hl.1 rfl (lv_room (Nat.le_of_ble_eq_true rfl)) dX9_ask_3 ⟨Nat.le_of_ble_eq_true rfl, Nat.le_of_ble_eq_true rfl⟩) (fun r1 u2 H locs hw3 hP hD hS => ?_)
  try dsimp only at hw3
  have hP : va_P G vwCl [(h0, oX9 b), (b 1, oX0 bc 0 0 0 0 0 0 0 0 0 0)] H := hP
  have hD : va_D A [(h0, oX9 b), (b 1, oX0 bc 0 0 0 0 0 0 0 0 0 0)] := hD
  obtain rfl : r1 = (-2) := hw3
  refine lv_istore_n (lv' := [(3, .int (-2)), (0, .ref h0), (1, .int p0), (2, .int p1)]) hx hb dX9_ask_6 rfl hl (by decide) rfl (fun ls hl => ?_)
  refine lv_iload_n hx hb dX9_ask_7 rfl (lv_at hl 0 rfl) ?_
  refine lv_if_eq (tgt := 13) hx hb dX9_ask_8 (by decide) (fun c4 => absurd c4 (by decide)) (fun c4 => ?_)
  refine lv_iload_n hx hb dX9_ask_11 rfl (lv_at hl 0 rfl) ?_
  exact hret _ _ _ _ (-2) () hP hD hS dX9_ask_12 rfl
set_option maxHeartbeats 4000000 in
set_option maxRecDepth 100000 in
theorem f_X9_leaves (l : Launch) (G : va_G) (cI cJ cZ cB cQ : ClassId) (sz : Nat) (h0 : Nat) (b : Nat → Nat) (bc : Nat → Nat) (p0 : Int32) (p1 : Int32) : CI l yX9_leaves (wl_ yX9_leaves cX9_leaves 7 (some .int)) ({ frames := 2, cells := 0, slots := 0, locals := 44 } : Room) G (TY cI cJ cZ cB cQ) [.ref h0, .int p0, .int p1] [(h0, oX9 b), (b 1, oX0 bc 0 0 0 0 0 0 0 0 0 0)] sz (fun (r : Int32) (u : Unit) => r = (-2)) (fun _ : Unit => [(h0, oX9 b), (b 1, oX0 bc 0 0 0 0 0 0 0 0 0 0)]) 0 0 := by
  refine CI.go (cc := cX9_leaves) (maxL := 7) (ret := (some .int)) (by decide) rfl (Nat.le_of_ble_eq_true rfl) ?_
  intro p e s m below meth c A ls Q hBd hret
  obtain ⟨hx, hb, hr, hml, hts, hown, hlk, hnm, hP, hK, hD, hA, hZ, hl⟩ := hBd
  have hown : s.vm.findClass RX9 = some m.cls := hown
  have hl : lv_has ls 7 [(0, .ref h0), (1, .int p0), (2, .int p1)] := hl
  have hS : va_S A s.heap s.heap [] := va_S.rf
  refine lv_aload_n hx hb dX9_leaves_0 rfl (lv_at hl 0 rfl) ?_
  refine lv_iload_n hx hb dX9_leaves_1 rfl (lv_at hl 1 rfl) ?_
  refine lv_iload_n hx hb dX9_leaves_2 rfl (lv_at hl 2 rfl) ?_
  refine k_i (wc := [(h0, oX9 b), (b 1, oX0 bc 0 0 0 0 0 0 0 0 0 0)]) (wr := []) hP hD hS hA [0, 1] [] rfl rfl rfl (by decide) (va_runV (As := [.int p0, .int p1]) (rest := []) ⟨hx, hb, hml, hown, hts⟩ (f_X9_refusalOfSeen l G cI cJ cZ cB cQ _ h0 b bc p0 p1) (cwV 2 hts (gV w_943 w_945 wp_58 w_1 w_946) rfl rfl rfl ⟨rfl, hd_X9_refusalOfSeen⟩ ⟨Nat.le_of_ble_eq_true rfl, Nat.le_of_ble_eq_true rfl⟩) (mV hK hZ hP hD [0, 1] rfl rfl [.int p0, .int p1] 0 9 rfl rfl) rfl rfl hl.1 rfl (lv_room (Nat.le_of_ble_eq_true rfl)) dX9_leaves_3 ⟨Nat.le_of_ble_eq_true rfl, Nat.le_of_ble_eq_true rfl⟩) (fun r1 u2 H locs hw3 hP hD hS => ?_)
  try dsimp only at hw3
  have hP : va_P G vwCl [(h0, oX9 b), (b 1, oX0 bc 0 0 0 0 0 0 0 0 0 0)] H := hP
  have hD : va_D A [(h0, oX9 b), (b 1, oX0 bc 0 0 0 0 0 0 0 0 0 0)] := hD
  obtain rfl : r1 = (-2) := hw3
  refine lv_istore_n (lv' := [(3, .int (-2)), (0, .ref h0), (1, .int p0), (2, .int p1)]) hx hb dX9_leaves_6 rfl hl (by decide) rfl (fun ls hl => ?_)
  refine lv_iload_n hx hb dX9_leaves_7 rfl (lv_at hl 0 rfl) ?_
  refine lv_if_eq (tgt := 13) hx hb dX9_leaves_8 (by decide) (fun c4 => absurd c4 (by decide)) (fun c4 => ?_)
  refine lv_iload_n hx hb dX9_leaves_11 rfl (lv_at hl 0 rfl) ?_
  exact hret _ _ _ _ (-2) () hP hD hS dX9_leaves_12 rfl
set_option maxHeartbeats 4000000 in
set_option maxRecDepth 100000 in
theorem f_X9_laws (l : Launch) (G : va_G) (cI cJ cZ cB cQ : ClassId) (sz : Nat) (h0 : Nat) (b : Nat → Nat) (bc : Nat → Nat) (p0 : Int32) : CI l yX9_laws (wl_ yX9_laws cX9_laws 5 (some .int)) ({ frames := 1, cells := 0, slots := 0, locals := 21 } : Room) G (TY cI cJ cZ cB cQ) [.ref h0, .int p0] [(h0, oX9 b), (b 1, oX0 bc 0 0 0 0 0 0 0 0 0 0)] sz (fun (r : Int32) (u : Unit) => r = (-2)) (fun _ : Unit => [(h0, oX9 b), (b 1, oX0 bc 0 0 0 0 0 0 0 0 0 0)]) 0 0 := by
  refine CI.go (cc := cX9_laws) (maxL := 5) (ret := (some .int)) (by decide) rfl (Nat.le_of_ble_eq_true rfl) ?_
  intro p e s m below meth c A ls Q hBd hret
  obtain ⟨hx, hb, hr, hml, hts, hown, hlk, hnm, hP, hK, hD, hA, hZ, hl⟩ := hBd
  have hown : s.vm.findClass RX9 = some m.cls := hown
  have hl : lv_has ls 5 [(0, .ref h0), (1, .int p0)] := hl
  have hS : va_S A s.heap s.heap [] := va_S.rf
  refine lv_aload_n hx hb dX9_laws_0 rfl (lv_at hl 0 rfl) ?_
  refine lv_iload_n hx hb dX9_laws_1 rfl (lv_at hl 1 rfl) ?_
  refine k_i (wc := [(h0, oX9 b), (b 1, oX0 bc 0 0 0 0 0 0 0 0 0 0)]) (wr := []) hP hD hS hA [0, 1] [] rfl rfl rfl (by decide) (va_runV (As := [.int p0]) (rest := []) ⟨hx, hb, hml, hown, hts⟩ (f_X9_refusalOfRow l G cI cJ cZ cB cQ _ h0 b bc p0) (cwV 1 hts (gV w_947 w_949 wp_59 w_1 w_950) rfl rfl rfl ⟨rfl, hd_X9_refusalOfRow⟩ ⟨Nat.le_of_ble_eq_true rfl, Nat.le_of_ble_eq_true rfl⟩) (mV hK hZ hP hD [0, 1] rfl rfl [.int p0] 0 9 rfl rfl) rfl rfl hl.1 rfl (lv_room (Nat.le_of_ble_eq_true rfl)) dX9_laws_2 ⟨Nat.le_of_ble_eq_true rfl, Nat.le_of_ble_eq_true rfl⟩) (fun r1 u2 H locs hw3 hP hD hS => ?_)
  try dsimp only at hw3
  have hP : va_P G vwCl [(h0, oX9 b), (b 1, oX0 bc 0 0 0 0 0 0 0 0 0 0)] H := hP
  have hD : va_D A [(h0, oX9 b), (b 1, oX0 bc 0 0 0 0 0 0 0 0 0 0)] := hD
  obtain rfl : r1 = (-2) := hw3
  refine lv_istore_n (lv' := [(2, .int (-2)), (0, .ref h0), (1, .int p0)]) hx hb dX9_laws_5 rfl hl (by decide) rfl (fun ls hl => ?_)
  refine lv_iload_n hx hb dX9_laws_6 rfl (lv_at hl 0 rfl) ?_
  refine lv_if_eq (tgt := 12) hx hb dX9_laws_7 (by decide) (fun c4 => absurd c4 (by decide)) (fun c4 => ?_)
  refine lv_iload_n hx hb dX9_laws_10 rfl (lv_at hl 0 rfl) ?_
  exact hret _ _ _ _ (-2) () hP hD hS dX9_laws_11 rfl
set_option maxHeartbeats 4000000 in
set_option maxRecDepth 100000 in
theorem f_X9_by (l : Launch) (G : va_G) (cI cJ cZ cB cQ : ClassId) (sz : Nat) (h0 : Nat) (b : Nat → Nat) (bc : Nat → Nat) (p0 : Int32) : CI l yX9_by (wl_ yX9_by cX9_by 2 (some .int)) ({ frames := 0, cells := 0, slots := 0, locals := 0 } : Room) G (TY cI cJ cZ cB cQ) [.ref h0, .int p0] [(h0, oX9 b), (b 1, oX0 bc 0 0 0 0 0 0 0 0 0 0)] sz (fun (r : Int32) (u : Unit) => r = (-2)) (fun _ : Unit => [(h0, oX9 b), (b 1, oX0 bc 0 0 0 0 0 0 0 0 0 0)]) 0 0 := by
  refine CI.go (cc := cX9_by) (maxL := 2) (ret := (some .int)) (by decide) rfl (Nat.le_of_ble_eq_true rfl) ?_
  intro p e s m below meth c A ls Q hBd hret
  obtain ⟨hx, hb, hr, hml, hts, hown, hlk, hnm, hP, hK, hD, hA, hZ, hl⟩ := hBd
  have hown : s.vm.findClass RX9 = some m.cls := hown
  have hl : lv_has ls 2 [(0, .ref h0), (1, .int p0)] := hl
  have hS : va_S A s.heap s.heap [] := va_S.rf
  refine lv_aload_n hx hb dX9_by_0 rfl (lv_at hl 0 rfl) ?_
  refine va_get (D := G) (ci := 9) (v := .ref (b 1)) (C := RX9) (T := TX9) (N := 11) hx hb hts iG_X9 hown hK hP 0 rfl rfl 1 (by decide) (hts _ w_352) (fun _ h9 => h9) rfl dX9_by_1 ?_
  refine va_getN (D := G) (ci := 0) (v := .int 0) (C := RX0) (T := TX0) (N := 19) hx hb hts iG_X0 hown hK hP 1 rfl rfl 0 (by decide) (nz_use hZ nw_57 rfl) (fun _ h9 => h9) rfl dX9_by_4 ?_
  refine lv_if_eq (tgt := 19) hx hb dX9_by_7 (by decide) (fun c1 => ?_) (fun c1 => absurd (by decide) c1)
  refine lv_bipush (v := (-2)) hx hb dX9_by_19 (by decide) ?_
  exact hret _ _ _ _ (-2) () hP hD hS dX9_by_21 rfl
set_option maxHeartbeats 4000000 in
set_option maxRecDepth 100000 in
theorem f_X9_law (l : Launch) (G : va_G) (cI cJ cZ cB cQ : ClassId) (sz : Nat) (h0 : Nat) (b : Nat → Nat) (bc : Nat → Nat) : CI l yX9_law (wl_ yX9_law cX9_law 4 (some .int)) ({ frames := 0, cells := 0, slots := 0, locals := 0 } : Room) G (TY cI cJ cZ cB cQ) [.ref h0] [(h0, oX9 b), (b 1, oX0 bc 0 0 0 0 0 0 0 0 0 0)] sz (fun (r : Int32) (u : Unit) => r = (-2)) (fun _ : Unit => [(h0, oX9 b), (b 1, oX0 bc 0 0 0 0 0 0 0 0 0 0)]) 0 0 := by
  refine CI.go (cc := cX9_law) (maxL := 4) (ret := (some .int)) (by decide) rfl (Nat.le_of_ble_eq_true rfl) ?_
  intro p e s m below meth c A ls Q hBd hret
  obtain ⟨hx, hb, hr, hml, hts, hown, hlk, hnm, hP, hK, hD, hA, hZ, hl⟩ := hBd
  have hown : s.vm.findClass RX9 = some m.cls := hown
  have hl : lv_has ls 4 [(0, .ref h0)] := hl
  have hS : va_S A s.heap s.heap [] := va_S.rf
  refine lv_aload_n hx hb dX9_law_0 rfl (lv_at hl 0 rfl) ?_
  refine va_get (D := G) (ci := 9) (v := .ref (b 1)) (C := RX9) (T := TX9) (N := 11) hx hb hts iG_X9 hown hK hP 0 rfl rfl 1 (by decide) (hts _ w_352) (fun _ h9 => h9) rfl dX9_law_1 ?_
  refine va_getN (D := G) (ci := 0) (v := .int 0) (C := RX0) (T := TX0) (N := 19) hx hb hts iG_X0 hown hK hP 1 rfl rfl 0 (by decide) (nz_use hZ nw_57 rfl) (fun _ h9 => h9) rfl dX9_law_4 ?_
  refine lv_if_ne (tgt := 13) hx hb dX9_law_7 (by decide) (fun c1 => absurd (by decide) c1) (fun c1 => ?_)
  refine lv_bipush (v := (-2)) hx hb dX9_law_10 (by decide) ?_
  exact hret _ _ _ _ (-2) () hP hD hS dX9_law_12 rfl
set_option maxHeartbeats 4000000 in
set_option maxRecDepth 100000 in
theorem f_X9_worth (l : Launch) (G : va_G) (cI cJ cZ cB cQ : ClassId) (sz : Nat) (h0 : Nat) (b : Nat → Nat) (bc : Nat → Nat) (p0 : Int32) : CI l yX9_worth (wl_ yX9_worth cX9_worth 2 (some .int)) ({ frames := 0, cells := 0, slots := 0, locals := 0 } : Room) G (TY cI cJ cZ cB cQ) [.ref h0, .int p0] [(h0, oX9 b), (b 1, oX0 bc 0 0 0 0 0 0 0 0 0 0)] sz (fun (r : Int32) (u : Unit) => r = (-2)) (fun _ : Unit => [(h0, oX9 b), (b 1, oX0 bc 0 0 0 0 0 0 0 0 0 0)]) 0 0 := by
  refine CI.go (cc := cX9_worth) (maxL := 2) (ret := (some .int)) (by decide) rfl (Nat.le_of_ble_eq_true rfl) ?_
  intro p e s m below meth c A ls Q hBd hret
  obtain ⟨hx, hb, hr, hml, hts, hown, hlk, hnm, hP, hK, hD, hA, hZ, hl⟩ := hBd
  have hown : s.vm.findClass RX9 = some m.cls := hown
  have hl : lv_has ls 2 [(0, .ref h0), (1, .int p0)] := hl
  have hS : va_S A s.heap s.heap [] := va_S.rf
  refine lv_aload_n hx hb dX9_worth_0 rfl (lv_at hl 0 rfl) ?_
  refine va_get (D := G) (ci := 9) (v := .ref (b 1)) (C := RX9) (T := TX9) (N := 11) hx hb hts iG_X9 hown hK hP 0 rfl rfl 1 (by decide) (hts _ w_352) (fun _ h9 => h9) rfl dX9_worth_1 ?_
  refine va_getN (D := G) (ci := 0) (v := .int 0) (C := RX0) (T := TX0) (N := 19) hx hb hts iG_X0 hown hK hP 1 rfl rfl 0 (by decide) (nz_use hZ nw_57 rfl) (fun _ h9 => h9) rfl dX9_worth_4 ?_
  refine lv_if_eq (tgt := 27) hx hb dX9_worth_7 (by decide) (fun c1 => ?_) (fun c1 => absurd (by decide) c1)
  refine lv_bipush (v := (-2)) hx hb dX9_worth_27 (by decide) ?_
  exact hret _ _ _ _ (-2) () hP hD hS dX9_worth_29 rfl
set_option maxHeartbeats 4000000 in
set_option maxRecDepth 100000 in
theorem f_X9_share (l : Launch) (G : va_G) (cI cJ cZ cB cQ : ClassId) (sz : Nat) (h0 : Nat) (b : Nat → Nat) (bc : Nat → Nat) (p0 : Int32) (p1 : Int32) : CI l yX9_share (wl_ yX9_share cX9_share 3 (some .int)) ({ frames := 1, cells := 0, slots := 0, locals := 22 } : Room) G (TY cI cJ cZ cB cQ) [.ref h0, .int p0, .int p1] [(h0, oX9 b), (b 1, oX0 bc 0 0 0 0 0 0 0 0 0 0)] sz (fun (r : Int32) (u : Unit) => r = (-1000000)) (fun _ : Unit => [(h0, oX9 b), (b 1, oX0 bc 0 0 0 0 0 0 0 0 0 0)]) 0 0 := by
  refine CI.go (cc := cX9_share) (maxL := 3) (ret := (some .int)) (by decide) rfl (Nat.le_of_ble_eq_true rfl) ?_
  intro p e s m below meth c A ls Q hBd hret
  obtain ⟨hx, hb, hr, hml, hts, hown, hlk, hnm, hP, hK, hD, hA, hZ, hl⟩ := hBd
  have hown : s.vm.findClass RX9 = some m.cls := hown
  have hl : lv_has ls 3 [(0, .ref h0), (1, .int p0), (2, .int p1)] := hl
  have hS : va_S A s.heap s.heap [] := va_S.rf
  refine lv_aload_n hx hb dX9_share_0 rfl (lv_at hl 0 rfl) ?_
  refine va_get (D := G) (ci := 9) (v := .ref (b 1)) (C := RX9) (T := TX9) (N := 11) hx hb hts iG_X9 hown hK hP 0 rfl rfl 1 (by decide) (hts _ w_352) (fun _ h9 => h9) rfl dX9_share_1 ?_
  refine lv_iload_n hx hb dX9_share_4 rfl (lv_at hl 1 rfl) ?_
  obtain ⟨v1, ev1⟩ : ∃ y : Int64, p0.toInt64 = y := ⟨_, rfl⟩
  have tv1 : v1.toInt = p0.toInt := ti_wide rfl ev1
  refine lv_i2l (v := v1) hx hb dX9_share_5 ev1 ?_
  refine k_i (wc := [(b 1, oX0 bc 0 0 0 0 0 0 0 0 0 0)]) (wr := [(h0, oX9 b)]) hP hD hS hA [1] [0] rfl rfl rfl (by decide) (va_runVN (As := [.long v1]) (rest := []) ⟨hx, hb, hml, hown, hts⟩ (f_X0_hasWidow l G cI cJ cZ cB cQ _ (b 1) bc v1) ⟨va_cnB (host := "WidowRoads") 1 hts (gW w_671) rfl rfl rfl (nz_nw hZ nw_668 rfl) (hts _ w_4) hd_X0_hasWidow ⟨Nat.le_of_ble_eq_true rfl, Nat.le_of_ble_eq_true rfl⟩, (hts _ w_670), (hts _ wp_35)⟩ (mV hK hZ hP hD [1] rfl rfl [.long v1] 1 0 rfl rfl) rfl rfl hl.1 rfl (lv_room (Nat.le_of_ble_eq_true rfl)) dX9_share_6 ⟨Nat.le_of_ble_eq_true rfl, Nat.le_of_ble_eq_true rfl⟩) (fun r2 u3 H locs hw4 hP hD hS => ?_)
  try dsimp only at hw4
  have hP : va_P G vwCl [(h0, oX9 b), (b 1, oX0 bc 0 0 0 0 0 0 0 0 0 0)] H := hP
  have hD : va_D A [(h0, oX9 b), (b 1, oX0 bc 0 0 0 0 0 0 0 0 0 0)] := hD
  obtain rfl : r2 = 0 := hw4
  refine lv_if_eq (tgt := 19) hx hb dX9_share_9 (by decide) (fun c5 => ?_) (fun c5 => absurd (by decide) c5)
  refine lv_ldcw (v := (-1000000)) hx hb hown (hts _ w_1025) dX9_share_19 ?_
  exact hret _ _ _ _ (-1000000) () hP hD hS dX9_share_22 rfl
set_option maxHeartbeats 4000000 in
set_option maxRecDepth 100000 in
theorem f_X9_rests (l : Launch) (G : va_G) (cI cJ cZ cB cQ : ClassId) (sz : Nat) (h0 : Nat) (b : Nat → Nat) (bc : Nat → Nat) (p0 : Int32) (p1 : Int32) : CI l yX9_rests (wl_ yX9_rests cX9_rests 9 (some .int)) ({ frames := 2, cells := 0, slots := 0, locals := 44 } : Room) G (TY cI cJ cZ cB cQ) [.ref h0, .int p0, .int p1] [(h0, oX9 b), (b 1, oX0 bc 0 0 0 0 0 0 0 0 0 0)] sz (fun (r : Int32) (u : Unit) => r = (-2)) (fun _ : Unit => [(h0, oX9 b), (b 1, oX0 bc 0 0 0 0 0 0 0 0 0 0)]) 0 0 := by
  refine CI.go (cc := cX9_rests) (maxL := 9) (ret := (some .int)) (by decide) rfl (Nat.le_of_ble_eq_true rfl) ?_
  intro p e s m below meth c A ls Q hBd hret
  obtain ⟨hx, hb, hr, hml, hts, hown, hlk, hnm, hP, hK, hD, hA, hZ, hl⟩ := hBd
  have hown : s.vm.findClass RX9 = some m.cls := hown
  have hl : lv_has ls 9 [(0, .ref h0), (1, .int p0), (2, .int p1)] := hl
  have hS : va_S A s.heap s.heap [] := va_S.rf
  refine lv_aload_n hx hb dX9_rests_0 rfl (lv_at hl 0 rfl) ?_
  refine lv_iload_n hx hb dX9_rests_1 rfl (lv_at hl 1 rfl) ?_
  refine lv_iload_n hx hb dX9_rests_2 rfl (lv_at hl 2 rfl) ?_
  refine k_i (wc := [(h0, oX9 b), (b 1, oX0 bc 0 0 0 0 0 0 0 0 0 0)]) (wr := []) hP hD hS hA [0, 1] [] rfl rfl rfl (by decide) (va_runV (As := [.int p0, .int p1]) (rest := []) ⟨hx, hb, hml, hown, hts⟩ (f_X9_areTwo l G cI cJ cZ cB cQ _ h0 b bc p0 p1) (cwV 2 hts (gV w_1049 w_1051 wp_70 w_1 w_1052) rfl rfl rfl ⟨rfl, hd_X9_areTwo⟩ ⟨Nat.le_of_ble_eq_true rfl, Nat.le_of_ble_eq_true rfl⟩) (mV hK hZ hP hD [0, 1] rfl rfl [.int p0, .int p1] 0 9 rfl rfl) rfl rfl hl.1 rfl (lv_room (Nat.le_of_ble_eq_true rfl)) dX9_rests_3 ⟨Nat.le_of_ble_eq_true rfl, Nat.le_of_ble_eq_true rfl⟩) (fun r1 u2 H locs hw3 hP hD hS => ?_)
  try dsimp only at hw3
  have hP : va_P G vwCl [(h0, oX9 b), (b 1, oX0 bc 0 0 0 0 0 0 0 0 0 0)] H := hP
  have hD : va_D A [(h0, oX9 b), (b 1, oX0 bc 0 0 0 0 0 0 0 0 0 0)] := hD
  obtain rfl : r1 = 0 := hw3
  refine lv_if_ne (tgt := 12) hx hb dX9_rests_6 (by decide) (fun c4 => absurd (by decide) c4) (fun c4 => ?_)
  refine lv_bipush (v := (-2)) hx hb dX9_rests_9 (by decide) ?_
  exact hret _ _ _ _ (-2) () hP hD hS dX9_rests_11 rfl
set_option maxHeartbeats 4000000 in
set_option maxRecDepth 100000 in
theorem f_X9_gets (l : Launch) (G : va_G) (cI cJ cZ cB cQ : ClassId) (sz : Nat) (h0 : Nat) (b : Nat → Nat) (bc : Nat → Nat) (p0 : Int32) (p1 : Int32) (p2 : Int32) (p3 : Int32) : CI l yX9_gets (wl_ yX9_gets cX9_gets 5 (some .int)) ({ frames := 2, cells := 0, slots := 0, locals := 44 } : Room) G (TY cI cJ cZ cB cQ) [.ref h0, .int p0, .int p1, .int p2, .int p3] [(h0, oX9 b), (b 1, oX0 bc 0 0 0 0 0 0 0 0 0 0)] sz (fun (r : Int32) (u : Unit) => r = (-1000)) (fun _ : Unit => [(h0, oX9 b), (b 1, oX0 bc 0 0 0 0 0 0 0 0 0 0)]) 0 0 := by
  refine CI.go (cc := cX9_gets) (maxL := 5) (ret := (some .int)) (by decide) rfl (Nat.le_of_ble_eq_true rfl) ?_
  intro p e s m below meth c A ls Q hBd hret
  obtain ⟨hx, hb, hr, hml, hts, hown, hlk, hnm, hP, hK, hD, hA, hZ, hl⟩ := hBd
  have hown : s.vm.findClass RX9 = some m.cls := hown
  have hl : lv_has ls 5 [(0, .ref h0), (1, .int p0), (2, .int p1), (3, .int p2), (4, .int p3)] := hl
  have hS : va_S A s.heap s.heap [] := va_S.rf
  refine lv_aload_n hx hb dX9_gets_0 rfl (lv_at hl 0 rfl) ?_
  refine lv_iload_n hx hb dX9_gets_1 rfl (lv_at hl 1 rfl) ?_
  refine lv_iload_n hx hb dX9_gets_2 rfl (lv_at hl 2 rfl) ?_
  refine k_i (wc := [(h0, oX9 b), (b 1, oX0 bc 0 0 0 0 0 0 0 0 0 0)]) (wr := []) hP hD hS hA [0, 1] [] rfl rfl rfl (by decide) (va_runV (As := [.int p0, .int p1]) (rest := []) ⟨hx, hb, hml, hown, hts⟩ (f_X9_areTwo l G cI cJ cZ cB cQ _ h0 b bc p0 p1) (cwV 2 hts (gV w_1049 w_1051 wp_70 w_1 w_1052) rfl rfl rfl ⟨rfl, hd_X9_areTwo⟩ ⟨Nat.le_of_ble_eq_true rfl, Nat.le_of_ble_eq_true rfl⟩) (mV hK hZ hP hD [0, 1] rfl rfl [.int p0, .int p1] 0 9 rfl rfl) rfl rfl hl.1 rfl (lv_room (Nat.le_of_ble_eq_true rfl)) dX9_gets_3 ⟨Nat.le_of_ble_eq_true rfl, Nat.le_of_ble_eq_true rfl⟩) (fun r1 u2 H locs hw3 hP hD hS => ?_)
  try dsimp only at hw3
  have hP : va_P G vwCl [(h0, oX9 b), (b 1, oX0 bc 0 0 0 0 0 0 0 0 0 0)] H := hP
  have hD : va_D A [(h0, oX9 b), (b 1, oX0 bc 0 0 0 0 0 0 0 0 0 0)] := hD
  obtain rfl : r1 = 0 := hw3
  refine lv_if_eq (tgt := 24) hx hb dX9_gets_6 (by decide) (fun c4 => ?_) (fun c4 => absurd (by decide) c4)
  refine lv_sipush (v := (-1000)) hx hb dX9_gets_24 (by decide) ?_
  exact hret _ _ _ _ (-1000) () hP hD hS dX9_gets_27 rfl
set_option maxHeartbeats 4000000 in
set_option maxRecDepth 100000 in
theorem f_X9_chance (l : Launch) (G : va_G) (cI cJ cZ cB cQ : ClassId) (sz : Nat) (h0 : Nat) (b : Nat → Nat) (bc : Nat → Nat) (p0 : Int32) (p1 : Int32) : CL l yX9_chance (wl_ yX9_chance cX9_chance 4 (some .long)) ({ frames := 1, cells := 0, slots := 0, locals := 22 } : Room) G (TY cI cJ cZ cB cQ) [.ref h0, .int p0, .int p1] [(h0, oX9 b), (b 1, oX0 bc 0 0 0 0 0 0 0 0 0 0)] sz (fun (r : Int64) (u : Unit) => r = (-2)) (fun _ : Unit => [(h0, oX9 b), (b 1, oX0 bc 0 0 0 0 0 0 0 0 0 0)]) 0 0 := by
  refine CL.go (cc := cX9_chance) (maxL := 4) (ret := (some .long)) (by decide) rfl (Nat.le_of_ble_eq_true rfl) ?_
  intro p e s m below meth c A ls Q hBd hret
  obtain ⟨hx, hb, hr, hml, hts, hown, hlk, hnm, hP, hK, hD, hA, hZ, hl⟩ := hBd
  have hown : s.vm.findClass RX9 = some m.cls := hown
  have hl : lv_has ls 4 [(0, .ref h0), (1, .int p0), (2, .int p1)] := hl
  have hS : va_S A s.heap s.heap [] := va_S.rf
  refine lv_aload_n hx hb dX9_chance_0 rfl (lv_at hl 0 rfl) ?_
  refine va_get (D := G) (ci := 9) (v := .ref (b 1)) (C := RX9) (T := TX9) (N := 11) hx hb hts iG_X9 hown hK hP 0 rfl rfl 1 (by decide) (hts _ w_352) (fun _ h9 => h9) rfl dX9_chance_1 ?_
  refine lv_iload_n hx hb dX9_chance_4 rfl (lv_at hl 1 rfl) ?_
  obtain ⟨v1, ev1⟩ : ∃ y : Int64, p0.toInt64 = y := ⟨_, rfl⟩
  have tv1 : v1.toInt = p0.toInt := ti_wide rfl ev1
  refine lv_i2l (v := v1) hx hb dX9_chance_5 ev1 ?_
  refine k_i (wc := [(b 1, oX0 bc 0 0 0 0 0 0 0 0 0 0)]) (wr := [(h0, oX9 b)]) hP hD hS hA [1] [0] rfl rfl rfl (by decide) (va_runVN (As := [.long v1]) (rest := []) ⟨hx, hb, hml, hown, hts⟩ (f_X0_spotOf l G cI cJ cZ cB cQ _ (b 1) bc v1) ⟨va_cnB (host := "WidowRoads") 1 hts (gW w_656) rfl rfl rfl (nz_nw hZ nw_653 rfl) (hts _ w_4) hd_X0_spotOf ⟨Nat.le_of_ble_eq_true rfl, Nat.le_of_ble_eq_true rfl⟩, (hts _ w_655), (hts _ wp_34)⟩ (mV hK hZ hP hD [1] rfl rfl [.long v1] 1 0 rfl rfl) rfl rfl hl.1 rfl (lv_room (Nat.le_of_ble_eq_true rfl)) dX9_chance_6 ⟨Nat.le_of_ble_eq_true rfl, Nat.le_of_ble_eq_true rfl⟩) (fun r2 u3 H locs hw4 hP hD hS => ?_)
  try dsimp only at hw4
  have hP : va_P G vwCl [(h0, oX9 b), (b 1, oX0 bc 0 0 0 0 0 0 0 0 0 0)] H := hP
  have hD : va_D A [(h0, oX9 b), (b 1, oX0 bc 0 0 0 0 0 0 0 0 0 0)] := hD
  obtain rfl : r2 = (-1) := hw4
  refine lv_istore_n (lv' := [(3, .int (-1)), (0, .ref h0), (1, .int p0), (2, .int p1)]) hx hb dX9_chance_9 rfl hl (by decide) rfl (fun ls hl => ?_)
  refine lv_iload_n hx hb dX9_chance_10 rfl (lv_at hl 0 rfl) ?_
  refine lv_iconst (v := (-1)) hx hb dX9_chance_11 (by decide) ?_
  refine lv_icmp_eq (tgt := 22) hx hb dX9_chance_12 (by decide) (fun c5 => ?_) (fun c5 => absurd (by decide) c5)
  refine lv_ldc2 (v := (-2)) hx hb hown (hts _ w_1073) dX9_chance_22 ?_
  exact hret _ _ _ _ (-2) () hP hD hS dX9_chance_25 rfl
set_option maxHeartbeats 4000000 in
set_option maxRecDepth 100000 in
theorem f_X9_mean (l : Launch) (G : va_G) (cI cJ cZ cB cQ : ClassId) (sz : Nat) (h0 : Nat) (b : Nat → Nat) (bc : Nat → Nat) (p0 : Int32) : CL l yX9_mean (wl_ yX9_mean cX9_mean 2 (some .long)) ({ frames := 0, cells := 0, slots := 0, locals := 0 } : Room) G (TY cI cJ cZ cB cQ) [.ref h0, .int p0] [(h0, oX9 b), (b 1, oX0 bc 0 0 0 0 0 0 0 0 0 0)] sz (fun (r : Int64) (u : Unit) => r = (-2)) (fun _ : Unit => [(h0, oX9 b), (b 1, oX0 bc 0 0 0 0 0 0 0 0 0 0)]) 0 0 := by
  refine CL.go (cc := cX9_mean) (maxL := 2) (ret := (some .long)) (by decide) rfl (Nat.le_of_ble_eq_true rfl) ?_
  intro p e s m below meth c A ls Q hBd hret
  obtain ⟨hx, hb, hr, hml, hts, hown, hlk, hnm, hP, hK, hD, hA, hZ, hl⟩ := hBd
  have hown : s.vm.findClass RX9 = some m.cls := hown
  have hl : lv_has ls 2 [(0, .ref h0), (1, .int p0)] := hl
  have hS : va_S A s.heap s.heap [] := va_S.rf
  refine lv_aload_n hx hb dX9_mean_0 rfl (lv_at hl 0 rfl) ?_
  refine va_get (D := G) (ci := 9) (v := .ref (b 1)) (C := RX9) (T := TX9) (N := 11) hx hb hts iG_X9 hown hK hP 0 rfl rfl 1 (by decide) (hts _ w_352) (fun _ h9 => h9) rfl dX9_mean_1 ?_
  refine va_getN (D := G) (ci := 0) (v := .int 0) (C := RX0) (T := TX0) (N := 19) hx hb hts iG_X0 hown hK hP 1 rfl rfl 0 (by decide) (nz_use hZ nw_57 rfl) (fun _ h9 => h9) rfl dX9_mean_4 ?_
  refine lv_if_eq (tgt := 17) hx hb dX9_mean_7 (by decide) (fun c1 => ?_) (fun c1 => absurd (by decide) c1)
  refine lv_ldc2 (v := (-2)) hx hb hown (hts _ w_1073) dX9_mean_17 ?_
  exact hret _ _ _ _ (-2) () hP hD hS dX9_mean_20 rfl
set_option maxHeartbeats 4000000 in
set_option maxRecDepth 100000 in
theorem f_X9_bridge (l : Launch) (G : va_G) (cI cJ cZ cB cQ : ClassId) (sz : Nat) (h0 : Nat) (b : Nat → Nat) (bc : Nat → Nat) (p0 : Int32) : CI l yX9_bridge (wl_ yX9_bridge cX9_bridge 3 (some .int)) ({ frames := 1, cells := 0, slots := 0, locals := 22 } : Room) G (TY cI cJ cZ cB cQ) [.ref h0, .int p0] [(h0, oX9 b), (b 1, oX0 bc 0 0 0 0 0 0 0 0 0 0)] sz (fun (r : Int32) (u : Unit) => r = (-2)) (fun _ : Unit => [(h0, oX9 b), (b 1, oX0 bc 0 0 0 0 0 0 0 0 0 0)]) 0 0 := by
  refine CI.go (cc := cX9_bridge) (maxL := 3) (ret := (some .int)) (by decide) rfl (Nat.le_of_ble_eq_true rfl) ?_
  intro p e s m below meth c A ls Q hBd hret
  obtain ⟨hx, hb, hr, hml, hts, hown, hlk, hnm, hP, hK, hD, hA, hZ, hl⟩ := hBd
  have hown : s.vm.findClass RX9 = some m.cls := hown
  have hl : lv_has ls 3 [(0, .ref h0), (1, .int p0)] := hl
  have hS : va_S A s.heap s.heap [] := va_S.rf
  refine lv_aload_n hx hb dX9_bridge_0 rfl (lv_at hl 0 rfl) ?_
  refine va_get (D := G) (ci := 9) (v := .ref (b 1)) (C := RX9) (T := TX9) (N := 11) hx hb hts iG_X9 hown hK hP 0 rfl rfl 1 (by decide) (hts _ w_352) (fun _ h9 => h9) rfl dX9_bridge_1 ?_
  refine lv_iload_n hx hb dX9_bridge_4 rfl (lv_at hl 1 rfl) ?_
  obtain ⟨v1, ev1⟩ : ∃ y : Int64, p0.toInt64 = y := ⟨_, rfl⟩
  have tv1 : v1.toInt = p0.toInt := ti_wide rfl ev1
  refine lv_i2l (v := v1) hx hb dX9_bridge_5 ev1 ?_
  refine k_i (wc := [(b 1, oX0 bc 0 0 0 0 0 0 0 0 0 0)]) (wr := [(h0, oX9 b)]) hP hD hS hA [1] [0] rfl rfl rfl (by decide) (va_runVN (As := [.long v1]) (rest := []) ⟨hx, hb, hml, hown, hts⟩ (f_X0_spotOf l G cI cJ cZ cB cQ _ (b 1) bc v1) ⟨va_cnB (host := "WidowRoads") 1 hts (gW w_656) rfl rfl rfl (nz_nw hZ nw_653 rfl) (hts _ w_4) hd_X0_spotOf ⟨Nat.le_of_ble_eq_true rfl, Nat.le_of_ble_eq_true rfl⟩, (hts _ w_655), (hts _ wp_34)⟩ (mV hK hZ hP hD [1] rfl rfl [.long v1] 1 0 rfl rfl) rfl rfl hl.1 rfl (lv_room (Nat.le_of_ble_eq_true rfl)) dX9_bridge_6 ⟨Nat.le_of_ble_eq_true rfl, Nat.le_of_ble_eq_true rfl⟩) (fun r2 u3 H locs hw4 hP hD hS => ?_)
  try dsimp only at hw4
  have hP : va_P G vwCl [(h0, oX9 b), (b 1, oX0 bc 0 0 0 0 0 0 0 0 0 0)] H := hP
  have hD : va_D A [(h0, oX9 b), (b 1, oX0 bc 0 0 0 0 0 0 0 0 0 0)] := hD
  obtain rfl : r2 = (-1) := hw4
  refine lv_istore_n (lv' := [(2, .int (-1)), (0, .ref h0), (1, .int p0)]) hx hb dX9_bridge_9 rfl hl (by decide) rfl (fun ls hl => ?_)
  refine lv_iload_n hx hb dX9_bridge_10 rfl (lv_at hl 0 rfl) ?_
  refine lv_iconst (v := (-1)) hx hb dX9_bridge_11 (by decide) ?_
  refine lv_icmp_ne (tgt := 18) hx hb dX9_bridge_12 (by decide) (fun c5 => absurd (by decide) c5) (fun c5 => ?_)
  refine lv_bipush (v := (-2)) hx hb dX9_bridge_15 (by decide) ?_
  exact hret _ _ _ _ (-2) () hP hD hS dX9_bridge_17 rfl
set_option maxHeartbeats 4000000 in
set_option maxRecDepth 100000 in
theorem f_X9_keeps (l : Launch) (G : va_G) (cI cJ cZ cB cQ : ClassId) (sz : Nat) (h0 : Nat) (b : Nat → Nat) (bc : Nat → Nat) (p0 : Int32) : CI l yX9_keeps (wl_ yX9_keeps cX9_keeps 2 (some .int)) ({ frames := 1, cells := 0, slots := 0, locals := 22 } : Room) G (TY cI cJ cZ cB cQ) [.ref h0, .int p0] [(h0, oX9 b), (b 1, oX0 bc 0 0 0 0 0 0 0 0 0 0)] sz (fun (r : Int32) (u : Unit) => r = (-2)) (fun _ : Unit => [(h0, oX9 b), (b 1, oX0 bc 0 0 0 0 0 0 0 0 0 0)]) 0 0 := by
  refine CI.go (cc := cX9_keeps) (maxL := 2) (ret := (some .int)) (by decide) rfl (Nat.le_of_ble_eq_true rfl) ?_
  intro p e s m below meth c A ls Q hBd hret
  obtain ⟨hx, hb, hr, hml, hts, hown, hlk, hnm, hP, hK, hD, hA, hZ, hl⟩ := hBd
  have hown : s.vm.findClass RX9 = some m.cls := hown
  have hl : lv_has ls 2 [(0, .ref h0), (1, .int p0)] := hl
  have hS : va_S A s.heap s.heap [] := va_S.rf
  refine lv_aload_n hx hb dX9_keeps_0 rfl (lv_at hl 0 rfl) ?_
  refine va_get (D := G) (ci := 9) (v := .ref (b 1)) (C := RX9) (T := TX9) (N := 11) hx hb hts iG_X9 hown hK hP 0 rfl rfl 1 (by decide) (hts _ w_352) (fun _ h9 => h9) rfl dX9_keeps_1 ?_
  refine lv_iload_n hx hb dX9_keeps_4 rfl (lv_at hl 1 rfl) ?_
  obtain ⟨v1, ev1⟩ : ∃ y : Int64, p0.toInt64 = y := ⟨_, rfl⟩
  have tv1 : v1.toInt = p0.toInt := ti_wide rfl ev1
  refine lv_i2l (v := v1) hx hb dX9_keeps_5 ev1 ?_
  refine k_i (wc := [(b 1, oX0 bc 0 0 0 0 0 0 0 0 0 0)]) (wr := [(h0, oX9 b)]) hP hD hS hA [1] [0] rfl rfl rfl (by decide) (va_runVN (As := [.long v1]) (rest := []) ⟨hx, hb, hml, hown, hts⟩ (f_X0_hasWidow l G cI cJ cZ cB cQ _ (b 1) bc v1) ⟨va_cnB (host := "WidowRoads") 1 hts (gW w_671) rfl rfl rfl (nz_nw hZ nw_668 rfl) (hts _ w_4) hd_X0_hasWidow ⟨Nat.le_of_ble_eq_true rfl, Nat.le_of_ble_eq_true rfl⟩, (hts _ w_670), (hts _ wp_35)⟩ (mV hK hZ hP hD [1] rfl rfl [.long v1] 1 0 rfl rfl) rfl rfl hl.1 rfl (lv_room (Nat.le_of_ble_eq_true rfl)) dX9_keeps_6 ⟨Nat.le_of_ble_eq_true rfl, Nat.le_of_ble_eq_true rfl⟩) (fun r2 u3 H locs hw4 hP hD hS => ?_)
  try dsimp only at hw4
  have hP : va_P G vwCl [(h0, oX9 b), (b 1, oX0 bc 0 0 0 0 0 0 0 0 0 0)] H := hP
  have hD : va_D A [(h0, oX9 b), (b 1, oX0 bc 0 0 0 0 0 0 0 0 0 0)] := hD
  obtain rfl : r2 = 0 := hw4
  refine lv_if_ne (tgt := 15) hx hb dX9_keeps_9 (by decide) (fun c5 => absurd (by decide) c5) (fun c5 => ?_)
  refine lv_bipush (v := (-2)) hx hb dX9_keeps_12 (by decide) ?_
  exact hret _ _ _ _ (-2) () hP hD hS dX9_keeps_14 rfl
set_option maxHeartbeats 4000000 in
set_option maxRecDepth 100000 in
theorem f_X9_undo (l : Launch) (G : va_G) (cI cJ cZ cB cQ : ClassId) (sz : Nat) (h0 : Nat) (b : Nat → Nat) (bc : Nat → Nat) : CI l yX9_undo (wl_ yX9_undo cX9_undo 1 (some .int)) ({ frames := 0, cells := 0, slots := 0, locals := 0 } : Room) G (TY cI cJ cZ cB cQ) [.ref h0] [(h0, oX9 b), (b 1, oX0 bc 0 0 0 0 0 0 0 0 0 0)] sz (fun (r : Int32) (u : Unit) => r = (-2)) (fun _ : Unit => [(h0, oX9 b), (b 1, oX0 bc 0 0 0 0 0 0 0 0 0 0)]) 0 0 := by
  refine CI.go (cc := cX9_undo) (maxL := 1) (ret := (some .int)) (by decide) rfl (Nat.le_of_ble_eq_true rfl) ?_
  intro p e s m below meth c A ls Q hBd hret
  obtain ⟨hx, hb, hr, hml, hts, hown, hlk, hnm, hP, hK, hD, hA, hZ, hl⟩ := hBd
  have hown : s.vm.findClass RX9 = some m.cls := hown
  have hl : lv_has ls 1 [(0, .ref h0)] := hl
  have hS : va_S A s.heap s.heap [] := va_S.rf
  refine lv_aload_n hx hb dX9_undo_0 rfl (lv_at hl 0 rfl) ?_
  refine va_get (D := G) (ci := 9) (v := .ref (b 1)) (C := RX9) (T := TX9) (N := 11) hx hb hts iG_X9 hown hK hP 0 rfl rfl 1 (by decide) (hts _ w_352) (fun _ h9 => h9) rfl dX9_undo_1 ?_
  refine va_getN (D := G) (ci := 0) (v := .int 0) (C := RX0) (T := TX0) (N := 19) hx hb hts iG_X0 hown hK hP 1 rfl rfl 0 (by decide) (nz_use hZ nw_57 rfl) (fun _ h9 => h9) rfl dX9_undo_4 ?_
  refine lv_if_ne (tgt := 13) hx hb dX9_undo_7 (by decide) (fun c1 => absurd (by decide) c1) (fun c1 => ?_)
  refine lv_bipush (v := (-2)) hx hb dX9_undo_10 (by decide) ?_
  exact hret _ _ _ _ (-2) () hP hD hS dX9_undo_12 rfl
set_option maxHeartbeats 4000000 in
set_option maxRecDepth 100000 in
theorem f_X9_anew (l : Launch) (G : va_G) (cI cJ cZ cB cQ : ClassId) (sz : Nat) (h0 : Nat) (b : Nat → Nat) (bc : Nat → Nat) : CI l yX9_anew (wl_ yX9_anew cX9_anew 2 (some .int)) ({ frames := 0, cells := 0, slots := 0, locals := 0 } : Room) G (TY cI cJ cZ cB cQ) [.ref h0] [(h0, oX9 b), (b 1, oX0 bc 0 0 0 0 0 0 0 0 0 0)] sz (fun (r : Int32) (u : Unit) => r = (-2)) (fun _ : Unit => [(h0, oX9 b), (b 1, oX0 bc 0 0 0 0 0 0 0 0 0 0)]) 0 0 := by
  refine CI.go (cc := cX9_anew) (maxL := 2) (ret := (some .int)) (by decide) rfl (Nat.le_of_ble_eq_true rfl) ?_
  intro p e s m below meth c A ls Q hBd hret
  obtain ⟨hx, hb, hr, hml, hts, hown, hlk, hnm, hP, hK, hD, hA, hZ, hl⟩ := hBd
  have hown : s.vm.findClass RX9 = some m.cls := hown
  have hl : lv_has ls 2 [(0, .ref h0)] := hl
  have hS : va_S A s.heap s.heap [] := va_S.rf
  refine lv_aload_n hx hb dX9_anew_0 rfl (lv_at hl 0 rfl) ?_
  refine va_get (D := G) (ci := 9) (v := .ref (b 1)) (C := RX9) (T := TX9) (N := 11) hx hb hts iG_X9 hown hK hP 0 rfl rfl 1 (by decide) (hts _ w_352) (fun _ h9 => h9) rfl dX9_anew_1 ?_
  refine va_getN (D := G) (ci := 0) (v := .int 0) (C := RX0) (T := TX0) (N := 19) hx hb hts iG_X0 hown hK hP 1 rfl rfl 0 (by decide) (nz_use hZ nw_57 rfl) (fun _ h9 => h9) rfl dX9_anew_4 ?_
  refine lv_if_ne (tgt := 13) hx hb dX9_anew_7 (by decide) (fun c1 => absurd (by decide) c1) (fun c1 => ?_)
  refine lv_bipush (v := (-2)) hx hb dX9_anew_10 (by decide) ?_
  exact hret _ _ _ _ (-2) () hP hD hS dX9_anew_12 rfl
set_option maxHeartbeats 4000000 in
set_option maxRecDepth 100000 in
theorem f_X9_drawn (l : Launch) (G : va_G) (cI cJ cZ cB cQ : ClassId) (sz : Nat) (h0 : Nat) (b : Nat → Nat) (bc : Nat → Nat) (p0 : Int32) (p1 : Int32) : CI l yX9_drawn (wl_ yX9_drawn cX9_drawn 4 (some .int)) ({ frames := 0, cells := 0, slots := 0, locals := 0 } : Room) G (TY cI cJ cZ cB cQ) [.ref h0, .int p0, .int p1] [(h0, oX9 b), (b 1, oX0 bc 0 0 0 0 0 0 0 0 0 0)] sz (fun (r : Int32) (u : Unit) => r = (-2)) (fun _ : Unit => [(h0, oX9 b), (b 1, oX0 bc 0 0 0 0 0 0 0 0 0 0)]) 0 0 := by
  refine CI.go (cc := cX9_drawn) (maxL := 4) (ret := (some .int)) (by decide) rfl (Nat.le_of_ble_eq_true rfl) ?_
  intro p e s m below meth c A ls Q hBd hret
  obtain ⟨hx, hb, hr, hml, hts, hown, hlk, hnm, hP, hK, hD, hA, hZ, hl⟩ := hBd
  have hown : s.vm.findClass RX9 = some m.cls := hown
  have hl : lv_has ls 4 [(0, .ref h0), (1, .int p0), (2, .int p1)] := hl
  have hS : va_S A s.heap s.heap [] := va_S.rf
  refine lv_aload_n hx hb dX9_drawn_0 rfl (lv_at hl 0 rfl) ?_
  refine va_get (D := G) (ci := 9) (v := .ref (b 1)) (C := RX9) (T := TX9) (N := 11) hx hb hts iG_X9 hown hK hP 0 rfl rfl 1 (by decide) (hts _ w_352) (fun _ h9 => h9) rfl dX9_drawn_1 ?_
  refine va_getN (D := G) (ci := 0) (v := .int 0) (C := RX0) (T := TX0) (N := 19) hx hb hts iG_X0 hown hK hP 1 rfl rfl 0 (by decide) (nz_use hZ nw_57 rfl) (fun _ h9 => h9) rfl dX9_drawn_4 ?_
  refine lv_if_eq (tgt := 24) hx hb dX9_drawn_7 (by decide) (fun c1 => ?_) (fun c1 => absurd (by decide) c1)
  refine lv_bipush (v := (-2)) hx hb dX9_drawn_24 (by decide) ?_
  exact hret _ _ _ _ (-2) () hP hD hS dX9_drawn_26 rfl
set_option maxHeartbeats 4000000 in
set_option maxRecDepth 100000 in
theorem f_X9_luck (l : Launch) (G : va_G) (cI cJ cZ cB cQ : ClassId) (sz : Nat) (h0 : Nat) (b : Nat → Nat) (bc : Nat → Nat) (p0 : Int32) (p1 : Int32) (p2 : Int32) : CI l yX9_luck (wl_ yX9_luck cX9_luck 7 (some .int)) ({ frames := 1, cells := 0, slots := 0, locals := 22 } : Room) G (TY cI cJ cZ cB cQ) [.ref h0, .int p0, .int p1, .int p2] [(h0, oX9 b), (b 1, oX0 bc 0 0 0 0 0 0 0 0 0 0)] sz (fun (r : Int32) (u : Unit) => r = (-2)) (fun _ : Unit => [(h0, oX9 b), (b 1, oX0 bc 0 0 0 0 0 0 0 0 0 0)]) 0 0 := by
  refine CI.go (cc := cX9_luck) (maxL := 7) (ret := (some .int)) (by decide) rfl (Nat.le_of_ble_eq_true rfl) ?_
  intro p e s m below meth c A ls Q hBd hret
  obtain ⟨hx, hb, hr, hml, hts, hown, hlk, hnm, hP, hK, hD, hA, hZ, hl⟩ := hBd
  have hown : s.vm.findClass RX9 = some m.cls := hown
  have hl : lv_has ls 7 [(0, .ref h0), (1, .int p0), (2, .int p1), (3, .int p2)] := hl
  have hS : va_S A s.heap s.heap [] := va_S.rf
  refine lv_aload_n hx hb dX9_luck_0 rfl (lv_at hl 0 rfl) ?_
  refine va_get (D := G) (ci := 9) (v := .ref (b 1)) (C := RX9) (T := TX9) (N := 11) hx hb hts iG_X9 hown hK hP 0 rfl rfl 1 (by decide) (hts _ w_352) (fun _ h9 => h9) rfl dX9_luck_1 ?_
  refine lv_iload_n hx hb dX9_luck_4 rfl (lv_at hl 3 rfl) ?_
  obtain ⟨v1, ev1⟩ : ∃ y : Int64, p2.toInt64 = y := ⟨_, rfl⟩
  have tv1 : v1.toInt = p2.toInt := ti_wide rfl ev1
  refine lv_i2l (v := v1) hx hb dX9_luck_5 ev1 ?_
  refine k_i (wc := [(b 1, oX0 bc 0 0 0 0 0 0 0 0 0 0)]) (wr := [(h0, oX9 b)]) hP hD hS hA [1] [0] rfl rfl rfl (by decide) (va_runVN (As := [.long v1]) (rest := []) ⟨hx, hb, hml, hown, hts⟩ (f_X0_spotOf l G cI cJ cZ cB cQ _ (b 1) bc v1) ⟨va_cnB (host := "WidowRoads") 1 hts (gW w_656) rfl rfl rfl (nz_nw hZ nw_653 rfl) (hts _ w_4) hd_X0_spotOf ⟨Nat.le_of_ble_eq_true rfl, Nat.le_of_ble_eq_true rfl⟩, (hts _ w_655), (hts _ wp_34)⟩ (mV hK hZ hP hD [1] rfl rfl [.long v1] 1 0 rfl rfl) rfl rfl hl.1 rfl (lv_room (Nat.le_of_ble_eq_true rfl)) dX9_luck_6 ⟨Nat.le_of_ble_eq_true rfl, Nat.le_of_ble_eq_true rfl⟩) (fun r2 u3 H locs hw4 hP hD hS => ?_)
  try dsimp only at hw4
  have hP : va_P G vwCl [(h0, oX9 b), (b 1, oX0 bc 0 0 0 0 0 0 0 0 0 0)] H := hP
  have hD : va_D A [(h0, oX9 b), (b 1, oX0 bc 0 0 0 0 0 0 0 0 0 0)] := hD
  obtain rfl : r2 = (-1) := hw4
  refine lv_istore (lv' := [(4, .int (-1)), (0, .ref h0), (1, .int p0), (2, .int p1), (3, .int p2)]) hx hb dX9_luck_9 hl (by decide) rfl (fun ls hl => ?_)
  refine lv_iload hx hb dX9_luck_11 (lv_at hl 0 rfl) ?_
  refine lv_iconst (v := (-1)) hx hb dX9_luck_13 (by decide) ?_
  refine lv_icmp_eq (tgt := 35) hx hb dX9_luck_14 (by decide) (fun c5 => ?_) (fun c5 => absurd (by decide) c5)
  refine lv_bipush (v := (-2)) hx hb dX9_luck_35 (by decide) ?_
  exact hret _ _ _ _ (-2) () hP hD hS dX9_luck_37 rfl
set_option maxHeartbeats 4000000 in
set_option maxRecDepth 100000 in
theorem f_X9_rate (l : Launch) (G : va_G) (cI cJ cZ cB cQ : ClassId) (sz : Nat) (h0 : Nat) (b : Nat → Nat) (bc : Nat → Nat) (p0 : Int32) (p1 : Int32) : CI l yX9_rate (wl_ yX9_rate cX9_rate 4 (some .int)) ({ frames := 1, cells := 0, slots := 0, locals := 22 } : Room) G (TY cI cJ cZ cB cQ) [.ref h0, .int p0, .int p1] [(h0, oX9 b), (b 1, oX0 bc 0 0 0 0 0 0 0 0 0 0)] sz (fun (r : Int32) (u : Unit) => r = (-2)) (fun _ : Unit => [(h0, oX9 b), (b 1, oX0 bc 0 0 0 0 0 0 0 0 0 0)]) 0 0 := by
  refine CI.go (cc := cX9_rate) (maxL := 4) (ret := (some .int)) (by decide) rfl (Nat.le_of_ble_eq_true rfl) ?_
  intro p e s m below meth c A ls Q hBd hret
  obtain ⟨hx, hb, hr, hml, hts, hown, hlk, hnm, hP, hK, hD, hA, hZ, hl⟩ := hBd
  have hown : s.vm.findClass RX9 = some m.cls := hown
  have hl : lv_has ls 4 [(0, .ref h0), (1, .int p0), (2, .int p1)] := hl
  have hS : va_S A s.heap s.heap [] := va_S.rf
  refine lv_aload_n hx hb dX9_rate_0 rfl (lv_at hl 0 rfl) ?_
  refine va_get (D := G) (ci := 9) (v := .ref (b 1)) (C := RX9) (T := TX9) (N := 11) hx hb hts iG_X9 hown hK hP 0 rfl rfl 1 (by decide) (hts _ w_352) (fun _ h9 => h9) rfl dX9_rate_1 ?_
  refine lv_iload_n hx hb dX9_rate_4 rfl (lv_at hl 1 rfl) ?_
  obtain ⟨v1, ev1⟩ : ∃ y : Int64, p0.toInt64 = y := ⟨_, rfl⟩
  have tv1 : v1.toInt = p0.toInt := ti_wide rfl ev1
  refine lv_i2l (v := v1) hx hb dX9_rate_5 ev1 ?_
  refine k_i (wc := [(b 1, oX0 bc 0 0 0 0 0 0 0 0 0 0)]) (wr := [(h0, oX9 b)]) hP hD hS hA [1] [0] rfl rfl rfl (by decide) (va_runVN (As := [.long v1]) (rest := []) ⟨hx, hb, hml, hown, hts⟩ (f_X0_hasWidow l G cI cJ cZ cB cQ _ (b 1) bc v1) ⟨va_cnB (host := "WidowRoads") 1 hts (gW w_671) rfl rfl rfl (nz_nw hZ nw_668 rfl) (hts _ w_4) hd_X0_hasWidow ⟨Nat.le_of_ble_eq_true rfl, Nat.le_of_ble_eq_true rfl⟩, (hts _ w_670), (hts _ wp_35)⟩ (mV hK hZ hP hD [1] rfl rfl [.long v1] 1 0 rfl rfl) rfl rfl hl.1 rfl (lv_room (Nat.le_of_ble_eq_true rfl)) dX9_rate_6 ⟨Nat.le_of_ble_eq_true rfl, Nat.le_of_ble_eq_true rfl⟩) (fun r2 u3 H locs hw4 hP hD hS => ?_)
  try dsimp only at hw4
  have hP : va_P G vwCl [(h0, oX9 b), (b 1, oX0 bc 0 0 0 0 0 0 0 0 0 0)] H := hP
  have hD : va_D A [(h0, oX9 b), (b 1, oX0 bc 0 0 0 0 0 0 0 0 0 0)] := hD
  obtain rfl : r2 = 0 := hw4
  refine lv_if_eq (tgt := 23) hx hb dX9_rate_9 (by decide) (fun c5 => ?_) (fun c5 => absurd (by decide) c5)
  refine lv_bipush (v := (-2)) hx hb dX9_rate_23 (by decide) ?_
  exact hret _ _ _ _ (-2) () hP hD hS dX9_rate_25 rfl
set_option maxHeartbeats 4000000 in
set_option maxRecDepth 100000 in
theorem f_X9_feed (l : Launch) (G : va_G) (cI cJ cZ cB cQ : ClassId) (sz : Nat) (h0 : Nat) (b : Nat → Nat) (br : Nat → Nat) (bt : Nat → Nat) (p0 : Int32) (p1 : Int32) (p2 : Int32) (p3 : Int32) (p4 : Int32) : CI l yX9_feed (wl_ yX9_feed cX9_feed 6 (some .int)) ({ frames := 1, cells := 0, slots := 0, locals := 22 } : Room) G (TY cI cJ cZ cB cQ) [.ref h0, .int p0, .int p1, .int p2, .int p3, .int p4] [(h0, oX9 b), (b 0, oX4 br 0 (-1) 0 0 0), (br 2, oX8 bt 0), (bt 0, .inl (cB, 900, .inl (fun _ => 0)))] sz (fun (r : Int32) (u : Int32 × (Nat → Int32)) => r = 20) (fun u : Int32 × (Nat → Int32) => [(h0, oX9 b), (b 0, oX4 br 0 (-1) 0 0 0), (br 2, oX8 bt u.1), (bt 0, .inl (cB, 900, .inl u.2))]) 0 0 := by
  refine CI.go (cc := cX9_feed) (maxL := 6) (ret := (some .int)) (by decide) rfl (Nat.le_of_ble_eq_true rfl) ?_
  intro p e s m below meth c A ls Q hBd hret
  obtain ⟨hx, hb, hr, hml, hts, hown, hlk, hnm, hP, hK, hD, hA, hZ, hl⟩ := hBd
  have hown : s.vm.findClass RX9 = some m.cls := hown
  have hl : lv_has ls 6 [(0, .ref h0), (1, .int p0), (2, .int p1), (3, .int p2), (4, .int p3), (5, .int p4)] := hl
  have hS : va_S A s.heap s.heap [] := va_S.rf
  refine lv_aload_n hx hb dX9_feed_0 rfl (lv_at hl 0 rfl) ?_
  refine va_get (D := G) (ci := 9) (v := .ref (b 0)) (C := RX9) (T := TX9) (N := 11) hx hb hts iG_X9 hown hK hP 0 rfl rfl 0 (by decide) (hts _ w_351) (fun _ h9 => h9) rfl dX9_feed_1 ?_
  refine va_getN (D := G) (ci := 4) (v := .ref (br 2)) (C := RX4) (T := TX4) (N := 7) hx hb hts iG_X4 hown hK hP 1 rfl rfl 2 (by decide) (nz_use hZ nw_168 rfl) (fun _ h9 => h9) rfl dX9_feed_4 ?_
  refine va_getN (D := G) (ci := 8) (v := .int 0) (C := RX8) (T := TX8) (N := 2) hx hb hts iG_X8 hown hK hP 2 rfl rfl 1 (by decide) (nz_use hZ nw_41 rfl) (fun _ h9 => h9) rfl dX9_feed_7 ?_
  refine lv_sipush (v := 880) hx hb dX9_feed_10 (by decide) ?_
  refine lv_icmp_le (tgt := 18) hx hb dX9_feed_13 (by decide) (fun c1 => ?_) (fun c1 => absurd (by decide) c1)
  refine lv_aload_n hx hb dX9_feed_18 rfl (lv_at hl 0 rfl) ?_
  refine va_get (D := G) (ci := 9) (v := .ref (b 0)) (C := RX9) (T := TX9) (N := 11) hx hb hts iG_X9 hown hK hP 0 rfl rfl 0 (by decide) (hts _ w_351) (fun _ h9 => h9) rfl dX9_feed_19 ?_
  refine va_getN (D := G) (ci := 4) (v := .ref (br 2)) (C := RX4) (T := TX4) (N := 7) hx hb hts iG_X4 hown hK hP 1 rfl rfl 2 (by decide) (nz_use hZ nw_168 rfl) (fun _ h9 => h9) rfl dX9_feed_22 ?_
  refine lv_iload_n hx hb dX9_feed_25 rfl (lv_at hl 1 rfl) ?_
  refine k_v (wc := [(br 2, oX8 bt 0), (bt 0, .inl (cB, 900, .inl (fun _ => 0)))]) (wr := [(h0, oX9 b), (b 0, oX4 br 0 (-1) 0 0 0)]) hP hD hS hA [2, 3] [0, 1] rfl rfl rfl (by decide) (va_runVN (As := [.int p0]) (rest := []) ⟨hx, hb, hml, hown, hts⟩ (f_X8_put l G cI cJ cZ cB cQ _ (br 2) bt p0 0 (fun _ => 0) 0 ki_0 (by omega) (by omega)) ⟨va_cnB (host := "WidowRoads") 1 hts (gW w_392) rfl rfl rfl (nz_nw hZ nw_389 rfl) (hts _ w_3) hd_X8_put ⟨Nat.le_of_ble_eq_true rfl, Nat.le_of_ble_eq_true rfl⟩, (hts _ w_391), (hts _ wp_0)⟩ (mV hK hZ hP hD [2, 3] rfl rfl [.int p0] 2 8 rfl rfl) rfl rfl hl.1 rfl (lv_room (Nat.le_of_ble_eq_true rfl)) dX9_feed_26 ⟨Nat.le_of_ble_eq_true rfl, Nat.le_of_ble_eq_true rfl⟩) (fun u3 H locs hw4 hP hD hS => ?_)
  obtain ⟨l15, f16⟩ := u3
  try dsimp only at hw4
  have hP : va_P G vwCl [(h0, oX9 b), (b 0, oX4 br 0 (-1) 0 0 0), (br 2, oX8 bt l15), (bt 0, .inl (cB, 900, .inl f16))] H := hP
  have hD : va_D A [(h0, oX9 b), (b 0, oX4 br 0 (-1) 0 0 0), (br 2, oX8 bt l15), (bt 0, .inl (cB, 900, .inl f16))] := hD
  refine lv_aload_n hx hb dX9_feed_29 rfl (lv_at hl 0 rfl) ?_
  refine va_get (D := G) (ci := 9) (v := .ref (b 0)) (C := RX9) (T := TX9) (N := 11) hx hb hts iG_X9 hown hK hP 0 rfl rfl 0 (by decide) (hts _ w_351) (fun _ h9 => h9) rfl dX9_feed_30 ?_
  refine va_getN (D := G) (ci := 4) (v := .ref (br 2)) (C := RX4) (T := TX4) (N := 7) hx hb hts iG_X4 hown hK hP 1 rfl rfl 2 (by decide) (nz_use hZ nw_168 rfl) (fun _ h9 => h9) rfl dX9_feed_33 ?_
  refine lv_iload_n hx hb dX9_feed_36 rfl (lv_at hl 2 rfl) ?_
  refine k_v (wc := [(br 2, oX8 bt l15), (bt 0, .inl (cB, 900, .inl f16))]) (wr := [(h0, oX9 b), (b 0, oX4 br 0 (-1) 0 0 0)]) hP hD hS hA [2, 3] [0, 1] rfl rfl rfl (by decide) (va_runVN (As := [.int p1]) (rest := []) ⟨hx, hb, hml, hown, hts⟩ (f_X8_put l G cI cJ cZ cB cQ _ (br 2) bt p1 l15 f16 (0 + 4) hw4 (by omega) (by omega)) ⟨va_cnB (host := "WidowRoads") 1 hts (gW w_392) rfl rfl rfl (nz_nw hZ nw_389 rfl) (hts _ w_3) hd_X8_put ⟨Nat.le_of_ble_eq_true rfl, Nat.le_of_ble_eq_true rfl⟩, (hts _ w_391), (hts _ wp_0)⟩ (mV hK hZ hP hD [2, 3] rfl rfl [.int p1] 2 8 rfl rfl) rfl rfl hl.1 rfl (lv_room (Nat.le_of_ble_eq_true rfl)) dX9_feed_37 ⟨Nat.le_of_ble_eq_true rfl, Nat.le_of_ble_eq_true rfl⟩) (fun u8 H locs hw9 hP hD hS => ?_)
  obtain ⟨l110, f111⟩ := u8
  try dsimp only at hw9
  have hP : va_P G vwCl [(h0, oX9 b), (b 0, oX4 br 0 (-1) 0 0 0), (br 2, oX8 bt l110), (bt 0, .inl (cB, 900, .inl f111))] H := hP
  have hD : va_D A [(h0, oX9 b), (b 0, oX4 br 0 (-1) 0 0 0), (br 2, oX8 bt l110), (bt 0, .inl (cB, 900, .inl f111))] := hD
  refine lv_aload_n hx hb dX9_feed_40 rfl (lv_at hl 0 rfl) ?_
  refine va_get (D := G) (ci := 9) (v := .ref (b 0)) (C := RX9) (T := TX9) (N := 11) hx hb hts iG_X9 hown hK hP 0 rfl rfl 0 (by decide) (hts _ w_351) (fun _ h9 => h9) rfl dX9_feed_41 ?_
  refine va_getN (D := G) (ci := 4) (v := .ref (br 2)) (C := RX4) (T := TX4) (N := 7) hx hb hts iG_X4 hown hK hP 1 rfl rfl 2 (by decide) (nz_use hZ nw_168 rfl) (fun _ h9 => h9) rfl dX9_feed_44 ?_
  refine lv_iload_n hx hb dX9_feed_47 rfl (lv_at hl 3 rfl) ?_
  refine k_v (wc := [(br 2, oX8 bt l110), (bt 0, .inl (cB, 900, .inl f111))]) (wr := [(h0, oX9 b), (b 0, oX4 br 0 (-1) 0 0 0)]) hP hD hS hA [2, 3] [0, 1] rfl rfl rfl (by decide) (va_runVN (As := [.int p2]) (rest := []) ⟨hx, hb, hml, hown, hts⟩ (f_X8_put l G cI cJ cZ cB cQ _ (br 2) bt p2 l110 f111 (0 + 4 + 4) hw9 (by omega) (by omega)) ⟨va_cnB (host := "WidowRoads") 1 hts (gW w_392) rfl rfl rfl (nz_nw hZ nw_389 rfl) (hts _ w_3) hd_X8_put ⟨Nat.le_of_ble_eq_true rfl, Nat.le_of_ble_eq_true rfl⟩, (hts _ w_391), (hts _ wp_0)⟩ (mV hK hZ hP hD [2, 3] rfl rfl [.int p2] 2 8 rfl rfl) rfl rfl hl.1 rfl (lv_room (Nat.le_of_ble_eq_true rfl)) dX9_feed_48 ⟨Nat.le_of_ble_eq_true rfl, Nat.le_of_ble_eq_true rfl⟩) (fun u13 H locs hw14 hP hD hS => ?_)
  obtain ⟨l115, f116⟩ := u13
  try dsimp only at hw14
  have hP : va_P G vwCl [(h0, oX9 b), (b 0, oX4 br 0 (-1) 0 0 0), (br 2, oX8 bt l115), (bt 0, .inl (cB, 900, .inl f116))] H := hP
  have hD : va_D A [(h0, oX9 b), (b 0, oX4 br 0 (-1) 0 0 0), (br 2, oX8 bt l115), (bt 0, .inl (cB, 900, .inl f116))] := hD
  refine lv_aload_n hx hb dX9_feed_51 rfl (lv_at hl 0 rfl) ?_
  refine va_get (D := G) (ci := 9) (v := .ref (b 0)) (C := RX9) (T := TX9) (N := 11) hx hb hts iG_X9 hown hK hP 0 rfl rfl 0 (by decide) (hts _ w_351) (fun _ h9 => h9) rfl dX9_feed_52 ?_
  refine va_getN (D := G) (ci := 4) (v := .ref (br 2)) (C := RX4) (T := TX4) (N := 7) hx hb hts iG_X4 hown hK hP 1 rfl rfl 2 (by decide) (nz_use hZ nw_168 rfl) (fun _ h9 => h9) rfl dX9_feed_55 ?_
  refine lv_iload hx hb dX9_feed_58 (lv_at hl 4 rfl) ?_
  refine k_v (wc := [(br 2, oX8 bt l115), (bt 0, .inl (cB, 900, .inl f116))]) (wr := [(h0, oX9 b), (b 0, oX4 br 0 (-1) 0 0 0)]) hP hD hS hA [2, 3] [0, 1] rfl rfl rfl (by decide) (va_runVN (As := [.int p3]) (rest := []) ⟨hx, hb, hml, hown, hts⟩ (f_X8_put l G cI cJ cZ cB cQ _ (br 2) bt p3 l115 f116 (0 + 4 + 4 + 4) hw14 (by omega) (by omega)) ⟨va_cnB (host := "WidowRoads") 1 hts (gW w_392) rfl rfl rfl (nz_nw hZ nw_389 rfl) (hts _ w_3) hd_X8_put ⟨Nat.le_of_ble_eq_true rfl, Nat.le_of_ble_eq_true rfl⟩, (hts _ w_391), (hts _ wp_0)⟩ (mV hK hZ hP hD [2, 3] rfl rfl [.int p3] 2 8 rfl rfl) rfl rfl hl.1 rfl (lv_room (Nat.le_of_ble_eq_true rfl)) dX9_feed_60 ⟨Nat.le_of_ble_eq_true rfl, Nat.le_of_ble_eq_true rfl⟩) (fun u18 H locs hw19 hP hD hS => ?_)
  obtain ⟨l120, f121⟩ := u18
  try dsimp only at hw19
  have hP : va_P G vwCl [(h0, oX9 b), (b 0, oX4 br 0 (-1) 0 0 0), (br 2, oX8 bt l120), (bt 0, .inl (cB, 900, .inl f121))] H := hP
  have hD : va_D A [(h0, oX9 b), (b 0, oX4 br 0 (-1) 0 0 0), (br 2, oX8 bt l120), (bt 0, .inl (cB, 900, .inl f121))] := hD
  refine lv_aload_n hx hb dX9_feed_63 rfl (lv_at hl 0 rfl) ?_
  refine va_get (D := G) (ci := 9) (v := .ref (b 0)) (C := RX9) (T := TX9) (N := 11) hx hb hts iG_X9 hown hK hP 0 rfl rfl 0 (by decide) (hts _ w_351) (fun _ h9 => h9) rfl dX9_feed_64 ?_
  refine va_getN (D := G) (ci := 4) (v := .ref (br 2)) (C := RX4) (T := TX4) (N := 7) hx hb hts iG_X4 hown hK hP 1 rfl rfl 2 (by decide) (nz_use hZ nw_168 rfl) (fun _ h9 => h9) rfl dX9_feed_67 ?_
  refine lv_iload hx hb dX9_feed_70 (lv_at hl 5 rfl) ?_
  refine k_v (wc := [(br 2, oX8 bt l120), (bt 0, .inl (cB, 900, .inl f121))]) (wr := [(h0, oX9 b), (b 0, oX4 br 0 (-1) 0 0 0)]) hP hD hS hA [2, 3] [0, 1] rfl rfl rfl (by decide) (va_runVN (As := [.int p4]) (rest := []) ⟨hx, hb, hml, hown, hts⟩ (f_X8_put l G cI cJ cZ cB cQ _ (br 2) bt p4 l120 f121 (0 + 4 + 4 + 4 + 4) hw19 (by omega) (by omega)) ⟨va_cnB (host := "WidowRoads") 1 hts (gW w_392) rfl rfl rfl (nz_nw hZ nw_389 rfl) (hts _ w_3) hd_X8_put ⟨Nat.le_of_ble_eq_true rfl, Nat.le_of_ble_eq_true rfl⟩, (hts _ w_391), (hts _ wp_0)⟩ (mV hK hZ hP hD [2, 3] rfl rfl [.int p4] 2 8 rfl rfl) rfl rfl hl.1 rfl (lv_room (Nat.le_of_ble_eq_true rfl)) dX9_feed_72 ⟨Nat.le_of_ble_eq_true rfl, Nat.le_of_ble_eq_true rfl⟩) (fun u23 H locs hw24 hP hD hS => ?_)
  obtain ⟨l125, f126⟩ := u23
  try dsimp only at hw24
  have hP : va_P G vwCl [(h0, oX9 b), (b 0, oX4 br 0 (-1) 0 0 0), (br 2, oX8 bt l125), (bt 0, .inl (cB, 900, .inl f126))] H := hP
  have hD : va_D A [(h0, oX9 b), (b 0, oX4 br 0 (-1) 0 0 0), (br 2, oX8 bt l125), (bt 0, .inl (cB, 900, .inl f126))] := hD
  refine lv_aload_n hx hb dX9_feed_75 rfl (lv_at hl 0 rfl) ?_
  refine va_get (D := G) (ci := 9) (v := .ref (b 0)) (C := RX9) (T := TX9) (N := 11) hx hb hts iG_X9 hown hK hP 0 rfl rfl 0 (by decide) (hts _ w_351) (fun _ h9 => h9) rfl dX9_feed_76 ?_
  refine va_getN (D := G) (ci := 4) (v := .ref (br 2)) (C := RX4) (T := TX4) (N := 7) hx hb hts iG_X4 hown hK hP 1 rfl rfl 2 (by decide) (nz_use hZ nw_168 rfl) (fun _ h9 => h9) rfl dX9_feed_79 ?_
  refine va_getN (D := G) (ci := 8) (v := .int l125) (C := RX8) (T := TX8) (N := 2) hx hb hts iG_X8 hown hK hP 2 rfl rfl 1 (by decide) (nz_use hZ nw_41 rfl) (fun _ h9 => h9) rfl dX9_feed_82 ?_
  exact hret _ _ _ _ l125 (l125, f126) hP hD hS dX9_feed_85 ((fa_eq _ _).mpr (by rw [ki_20, hw24]; omega))
set_option maxHeartbeats 4000000 in
set_option maxRecDepth 100000 in
theorem f_X9_end (l : Launch) (G : va_G) (cI cJ cZ cB cQ : ClassId) (sz : Nat) (h0 : Nat) (b : Nat → Nat) (br : Nat → Nat) (bt : Nat → Nat) (p0 : Int32) : CI l yX9_end (wl_ yX9_end cX9_end 2 (some .int)) ({ frames := 0, cells := 0, slots := 0, locals := 0 } : Room) G (TY cI cJ cZ cB cQ) [.ref h0, .int p0] [(h0, oX9 b), (b 0, oX4 br 0 (-1) 0 0 0), (br 2, oX8 bt 0)] sz (fun (r : Int32) (u : Int32) => r = if p0.toInt = 0 then 0 else -1) (fun u : Int32 => [(h0, oX9 b), (b 0, oX4 br 0 (-1) 0 0 0), (br 2, oX8 bt u)]) 0 0 := by
  refine CI.go (cc := cX9_end) (maxL := 2) (ret := (some .int)) (by decide) rfl (Nat.le_of_ble_eq_true rfl) ?_
  intro p e s m below meth c A ls Q hBd hret
  obtain ⟨hx, hb, hr, hml, hts, hown, hlk, hnm, hP, hK, hD, hA, hZ, hl⟩ := hBd
  have hown : s.vm.findClass RX9 = some m.cls := hown
  have hl : lv_has ls 2 [(0, .ref h0), (1, .int p0)] := hl
  have hS : va_S A s.heap s.heap [] := va_S.rf
  refine lv_iload_n hx hb dX9_end_0 rfl (lv_at hl 1 rfl) ?_
  refine lv_if_lt (tgt := 18) hx hb dX9_end_1 (by decide) (fun c1 => ?_) (fun c1 => ?_)
  · have c1 := i_lt rfl ki_0 c1
    refine lv_iconst (v := (-1)) hx hb dX9_end_18 (by decide) ?_
    exact hret _ _ _ _ (-1) 0 hP hD hS dX9_end_19 (by (repeat' split) <;> first | exact rfl | (exfalso; omega))
  · have c1 := i_nlt rfl ki_0 c1
    refine lv_iload_n hx hb dX9_end_4 rfl (lv_at hl 1 rfl) ?_
    refine lv_aload_n hx hb dX9_end_5 rfl (lv_at hl 0 rfl) ?_
    refine va_get (D := G) (ci := 9) (v := .ref (b 0)) (C := RX9) (T := TX9) (N := 11) hx hb hts iG_X9 hown hK hP 0 rfl rfl 0 (by decide) (hts _ w_351) (fun _ h9 => h9) rfl dX9_end_6 ?_
    refine va_getN (D := G) (ci := 4) (v := .ref (br 2)) (C := RX4) (T := TX4) (N := 7) hx hb hts iG_X4 hown hK hP 1 rfl rfl 2 (by decide) (nz_use hZ nw_168 rfl) (fun _ h9 => h9) rfl dX9_end_9 ?_
    refine va_getN (D := G) (ci := 8) (v := .int 0) (C := RX8) (T := TX8) (N := 2) hx hb hts iG_X8 hown hK hP 2 rfl rfl 1 (by decide) (nz_use hZ nw_41 rfl) (fun _ h9 => h9) rfl dX9_end_12 ?_
    refine lv_icmp_le (tgt := 20) hx hb dX9_end_15 (by decide) (fun c2 => ?_) (fun c2 => ?_)
    · have c2 := i_le rfl ki_0 c2
      refine lv_aload_n hx hb dX9_end_20 rfl (lv_at hl 0 rfl) ?_
      refine va_get (D := G) (ci := 9) (v := .ref (b 0)) (C := RX9) (T := TX9) (N := 11) hx hb hts iG_X9 hown hK hP 0 rfl rfl 0 (by decide) (hts _ w_351) (fun _ h9 => h9) rfl dX9_end_21 ?_
      refine va_getN (D := G) (ci := 4) (v := .ref (br 2)) (C := RX4) (T := TX4) (N := 7) hx hb hts iG_X4 hown hK hP 1 rfl rfl 2 (by decide) (nz_use hZ nw_168 rfl) (fun _ h9 => h9) rfl dX9_end_24 ?_
      refine lv_iload_n hx hb dX9_end_27 rfl (lv_at hl 1 rfl) ?_
      refine va_putN (D := G) (ci := 8) (v := .int p0) (ty := .int) (C := RX8) (T := TX8) (N := 2) hx hb hts iG_X8 tyX8 tyX8_ok nmX8 hown hK hP hD hS 2 rfl rfl 1 (by decide) (nz_use hZ nw_41 rfl) (fun _ h9 => h9) rfl (by decide +kernel) rfl rfl (Nat.le_of_ble_eq_true rfl) dX9_end_28 (fun H locs hP hD hS => ?_)
      have hP : va_P G vwCl [(h0, oX9 b), (b 0, oX4 br 0 (-1) 0 0 0), (br 2, oX8 bt p0)] H := hP
      have hD : va_D A [(h0, oX9 b), (b 0, oX4 br 0 (-1) 0 0 0), (br 2, oX8 bt p0)] := hD
      refine lv_iload_n hx hb dX9_end_31 rfl (lv_at hl 1 rfl) ?_
      exact hret _ _ _ _ p0 p0 hP hD hS dX9_end_32 (by (repeat' split) <;> first | exact ((fa_eq _ _).mpr (by rw [ki_0]; omega)) | (exfalso; omega))
    · have c2 := i_nle rfl ki_0 c2
      refine lv_iconst (v := (-1)) hx hb dX9_end_18 (by decide) ?_
      exact hret _ _ _ _ (-1) 0 hP hD hS dX9_end_19 (by (repeat' split) <;> first | exact rfl | (exfalso; omega))
set_option maxHeartbeats 4000000 in
set_option maxRecDepth 100000 in
theorem f_X9_fault (l : Launch) (G : va_G) (cI cJ cZ cB cQ : ClassId) (sz : Nat) (h0 : Nat) (b : Nat → Nat) (br : Nat → Nat) (p0 : Int32) : CI l yX9_fault (wl_ yX9_fault cX9_fault 2 (some .int)) ({ frames := 0, cells := 0, slots := 0, locals := 0 } : Room) G (TY cI cJ cZ cB cQ) [.ref h0, .int p0] [(h0, oX9 b), (b 0, oX4 br 0 (-1) 0 0 0)] sz (fun (r : Int32) (u : Unit) => r = if p0.toInt = 0 then 0 else -1) (fun _ : Unit => [(h0, oX9 b), (b 0, oX4 br 0 (-1) 0 0 0)]) 0 0 := by
  refine CI.go (cc := cX9_fault) (maxL := 2) (ret := (some .int)) (by decide) rfl (Nat.le_of_ble_eq_true rfl) ?_
  intro p e s m below meth c A ls Q hBd hret
  obtain ⟨hx, hb, hr, hml, hts, hown, hlk, hnm, hP, hK, hD, hA, hZ, hl⟩ := hBd
  have hown : s.vm.findClass RX9 = some m.cls := hown
  have hl : lv_has ls 2 [(0, .ref h0), (1, .int p0)] := hl
  have hS : va_S A s.heap s.heap [] := va_S.rf
  refine lv_iload_n hx hb dX9_fault_0 rfl (lv_at hl 1 rfl) ?_
  refine lv_if_ne (tgt := 12) hx hb dX9_fault_1 (by decide) (fun c1 => ?_) (fun c1 => ?_)
  · have c1 := i_ne rfl ki_0 c1
    refine lv_iload_n hx hb dX9_fault_12 rfl (lv_at hl 1 rfl) ?_
    refine lv_iconst (v := 1) hx hb dX9_fault_13 (by decide) ?_
    refine lv_icmp_ne (tgt := 27) hx hb dX9_fault_14 (by decide) (fun c2 => ?_) (fun c2 => ?_)
    · have c2 := i_ne rfl ki_1 c2
      refine lv_iconst (v := (-1)) hx hb dX9_fault_27 (by decide) ?_
      exact hret _ _ _ _ (-1) () hP hD hS dX9_fault_28 (by (repeat' split) <;> first | exact rfl | (exfalso; omega))
    · have c2 := i_eq rfl ki_1 c2
      refine lv_aload_n hx hb dX9_fault_17 rfl (lv_at hl 0 rfl) ?_
      refine va_get (D := G) (ci := 9) (v := .ref (b 0)) (C := RX9) (T := TX9) (N := 11) hx hb hts iG_X9 hown hK hP 0 rfl rfl 0 (by decide) (hts _ w_351) (fun _ h9 => h9) rfl dX9_fault_18 ?_
      refine va_getN (D := G) (ci := 4) (v := .int (-1)) (C := RX4) (T := TX4) (N := 7) hx hb hts iG_X4 hown hK hP 1 rfl rfl 1 (by decide) (nz_use hZ nw_166 rfl) (fun _ h9 => h9) rfl dX9_fault_21 ?_
      refine lv_goto (tgt := 28) hx hb dX9_fault_24 (by decide) ?_
      exact hret _ _ _ _ (-1) () hP hD hS dX9_fault_28 (by (repeat' split) <;> first | exact rfl | (exfalso; omega))
  · have c1 := i_eq rfl ki_0 c1
    refine lv_aload_n hx hb dX9_fault_4 rfl (lv_at hl 0 rfl) ?_
    refine va_get (D := G) (ci := 9) (v := .ref (b 0)) (C := RX9) (T := TX9) (N := 11) hx hb hts iG_X9 hown hK hP 0 rfl rfl 0 (by decide) (hts _ w_351) (fun _ h9 => h9) rfl dX9_fault_5 ?_
    refine va_getN (D := G) (ci := 4) (v := .int 0) (C := RX4) (T := TX4) (N := 7) hx hb hts iG_X4 hown hK hP 1 rfl rfl 0 (by decide) (nz_use hZ nw_164 rfl) (fun _ h9 => h9) rfl dX9_fault_8 ?_
    exact hret _ _ _ _ 0 () hP hD hS dX9_fault_11 (by (repeat' split) <;> first | exact rfl | (exfalso; omega))
set_option maxHeartbeats 4000000 in
set_option maxRecDepth 100000 in
theorem f_X9_walkAnew (l : Launch) (G : va_G) (cI cJ cZ cB cQ : ClassId) (sz : Nat) (h0 : Nat) (b : Nat → Nat) (bc : Nat → Nat) (bn : Nat → Nat) (be : Nat → Nat) : CV l yX9_walkAnew (wl_ yX9_walkAnew cX9_walkAnew 1 none) ({ frames := 3, cells := 0, slots := 0, locals := 69 } : Room) G (TY cI cJ cZ cB cQ) [.ref h0] [(h0, oX9 b), (b 1, oX0 bc 0 0 0 0 0 0 0 0 0 0), (b 3, oX7 z0 0 0 0 0 0 0), (b 4, oX6 bn 0 0), (bn 1, .inl (cI, 7, .inl (fun _ => 0))), (bn 2, .inl (cI, 7, .inl (fun _ => 0))), (bn 3, .inl (cJ, 7, .inr (.inl (fun _ => 0)))), (bn 4, .inl (cI, 7, .inl (fun _ => 0))), (bn 5, .inl (cI, 6, .inl (fun _ => 0))), (bn 6, .inl (cI, 78, .inl (fun _ => 0))), (bn 7, .inl (cJ, 13, .inr (.inl (fun _ => 0)))), (bn 8, .inl (cJ, 13, .inr (.inl (fun _ => 0)))), (bn 9, .inl (cJ, 13, .inr (.inl (fun _ => 0)))), (b 6, oX1 be 0)] sz (fun (u : (Nat → Int32) × (Nat → Int32)) => True) (fun u : (Nat → Int32) × (Nat → Int32) => [(h0, oX9 b), (b 1, oX0 bc 0 0 0 0 0 0 0 0 0 0), (b 3, oX7 z0 0 0 0 (-1) (-1) (-1)), (b 4, oX6 bn 0 0), (bn 1, .inl (cI, 7, .inl u.1)), (bn 2, .inl (cI, 7, .inl (fun _ => 0))), (bn 3, .inl (cJ, 7, .inr (.inl (fun _ => 0)))), (bn 4, .inl (cI, 7, .inl (fun _ => 0))), (bn 5, .inl (cI, 6, .inl (fun _ => 0))), (bn 6, .inl (cI, 78, .inl u.2)), (bn 7, .inl (cJ, 13, .inr (.inl (fun _ => 0)))), (bn 8, .inl (cJ, 13, .inr (.inl (fun _ => 0)))), (bn 9, .inl (cJ, 13, .inr (.inl (fun _ => 0)))), (b 6, oX1 be 0)]) 0 0 := by
  refine CV.go (cc := cX9_walkAnew) (maxL := 1) (ret := none) (by decide) rfl (Nat.le_of_ble_eq_true rfl) ?_
  intro p e s m below meth c A ls Q hBd hret
  obtain ⟨hx, hb, hr, hml, hts, hown, hlk, hnm, hP, hK, hD, hA, hZ, hl⟩ := hBd
  have hown : s.vm.findClass RX9 = some m.cls := hown
  have hl : lv_has ls 1 [(0, .ref h0)] := hl
  have hS : va_S A s.heap s.heap [] := va_S.rf
  refine lv_aload_n hx hb dX9_walkAnew_0 rfl (lv_at hl 0 rfl) ?_
  refine va_get (D := G) (ci := 9) (v := .ref (b 3)) (C := RX9) (T := TX9) (N := 11) hx hb hts iG_X9 hown hK hP 0 rfl rfl 3 (by decide) (hts _ w_354) (fun _ h9 => h9) rfl dX9_walkAnew_1 ?_
  refine lv_aload_n hx hb dX9_walkAnew_4 rfl (lv_at hl 0 rfl) ?_
  refine va_get (D := G) (ci := 9) (v := .ref (b 1)) (C := RX9) (T := TX9) (N := 11) hx hb hts iG_X9 hown hK hP 0 rfl rfl 1 (by decide) (hts _ w_352) (fun _ h9 => h9) rfl dX9_walkAnew_5 ?_
  refine k_v (wc := [(b 3, oX7 z0 0 0 0 0 0 0), (b 1, oX0 bc 0 0 0 0 0 0 0 0 0 0)]) (wr := [(h0, oX9 b), (b 4, oX6 bn 0 0), (bn 1, .inl (cI, 7, .inl (fun _ => 0))), (bn 2, .inl (cI, 7, .inl (fun _ => 0))), (bn 3, .inl (cJ, 7, .inr (.inl (fun _ => 0)))), (bn 4, .inl (cI, 7, .inl (fun _ => 0))), (bn 5, .inl (cI, 6, .inl (fun _ => 0))), (bn 6, .inl (cI, 78, .inl (fun _ => 0))), (bn 7, .inl (cJ, 13, .inr (.inl (fun _ => 0)))), (bn 8, .inl (cJ, 13, .inr (.inl (fun _ => 0)))), (bn 9, .inl (cJ, 13, .inr (.inl (fun _ => 0)))), (b 6, oX1 be 0)]) hP hD hS hA [2, 1] [0, 3, 4, 5, 6, 7, 8, 9, 10, 11, 12, 13] rfl rfl rfl (by decide) (va_runVN (As := [.ref (b 1)]) (rest := []) ⟨hx, hb, hml, hown, hts⟩ (f_X7_asNow l G cI cJ cZ cB cQ _ (b 3) (b 1) bc) ⟨va_cnB (host := "WidowRoads") 1 hts (gW w_576) rfl rfl rfl (nz_nw hZ nw_573 rfl) (hts _ w_5) hd_X7_asNow ⟨Nat.le_of_ble_eq_true rfl, Nat.le_of_ble_eq_true rfl⟩, (hts _ w_575), (hts _ wp_22)⟩ (mV hK hZ hP hD [2, 1] rfl rfl [.ref (b 1)] 2 7 rfl rfl) rfl rfl hl.1 rfl (lv_room (Nat.le_of_ble_eq_true rfl)) dX9_walkAnew_8 ⟨Nat.le_of_ble_eq_true rfl, Nat.le_of_ble_eq_true rfl⟩) (fun u2 H locs hw3 hP hD hS => ?_)
  have hP : va_P G vwCl [(h0, oX9 b), (b 4, oX6 bn 0 0), (bn 1, .inl (cI, 7, .inl (fun _ => 0))), (bn 2, .inl (cI, 7, .inl (fun _ => 0))), (bn 3, .inl (cJ, 7, .inr (.inl (fun _ => 0)))), (bn 4, .inl (cI, 7, .inl (fun _ => 0))), (bn 5, .inl (cI, 6, .inl (fun _ => 0))), (bn 6, .inl (cI, 78, .inl (fun _ => 0))), (bn 7, .inl (cJ, 13, .inr (.inl (fun _ => 0)))), (bn 8, .inl (cJ, 13, .inr (.inl (fun _ => 0)))), (bn 9, .inl (cJ, 13, .inr (.inl (fun _ => 0)))), (b 6, oX1 be 0), (b 3, oX7 z0 0 0 0 (-1) (-1) (-1)), (b 1, oX0 bc 0 0 0 0 0 0 0 0 0 0)] H := hP
  have hD : va_D A [(h0, oX9 b), (b 4, oX6 bn 0 0), (bn 1, .inl (cI, 7, .inl (fun _ => 0))), (bn 2, .inl (cI, 7, .inl (fun _ => 0))), (bn 3, .inl (cJ, 7, .inr (.inl (fun _ => 0)))), (bn 4, .inl (cI, 7, .inl (fun _ => 0))), (bn 5, .inl (cI, 6, .inl (fun _ => 0))), (bn 6, .inl (cI, 78, .inl (fun _ => 0))), (bn 7, .inl (cJ, 13, .inr (.inl (fun _ => 0)))), (bn 8, .inl (cJ, 13, .inr (.inl (fun _ => 0)))), (bn 9, .inl (cJ, 13, .inr (.inl (fun _ => 0)))), (b 6, oX1 be 0), (b 3, oX7 z0 0 0 0 (-1) (-1) (-1)), (b 1, oX0 bc 0 0 0 0 0 0 0 0 0 0)] := hD
  refine lv_aload_n hx hb dX9_walkAnew_11 rfl (lv_at hl 0 rfl) ?_
  refine va_get (D := G) (ci := 9) (v := .ref (b 4)) (C := RX9) (T := TX9) (N := 11) hx hb hts iG_X9 hown hK hP 0 rfl rfl 4 (by decide) (hts _ w_355) (fun _ h9 => h9) rfl dX9_walkAnew_12 ?_
  refine lv_aload_n hx hb dX9_walkAnew_15 rfl (lv_at hl 0 rfl) ?_
  refine va_get (D := G) (ci := 9) (v := .ref (b 1)) (C := RX9) (T := TX9) (N := 11) hx hb hts iG_X9 hown hK hP 0 rfl rfl 1 (by decide) (hts _ w_352) (fun _ h9 => h9) rfl dX9_walkAnew_16 ?_
  refine lv_aload_n hx hb dX9_walkAnew_19 rfl (lv_at hl 0 rfl) ?_
  refine va_get (D := G) (ci := 9) (v := .ref (b 3)) (C := RX9) (T := TX9) (N := 11) hx hb hts iG_X9 hown hK hP 0 rfl rfl 3 (by decide) (hts _ w_354) (fun _ h9 => h9) rfl dX9_walkAnew_20 ?_
  refine k_v (wc := [(b 4, oX6 bn 0 0), (bn 1, .inl (cI, 7, .inl (fun _ => 0))), (bn 2, .inl (cI, 7, .inl (fun _ => 0))), (bn 3, .inl (cJ, 7, .inr (.inl (fun _ => 0)))), (bn 4, .inl (cI, 7, .inl (fun _ => 0))), (bn 5, .inl (cI, 6, .inl (fun _ => 0))), (bn 6, .inl (cI, 78, .inl (fun _ => 0))), (bn 7, .inl (cJ, 13, .inr (.inl (fun _ => 0)))), (bn 8, .inl (cJ, 13, .inr (.inl (fun _ => 0)))), (bn 9, .inl (cJ, 13, .inr (.inl (fun _ => 0)))), (b 1, oX0 bc 0 0 0 0 0 0 0 0 0 0)]) (wr := [(h0, oX9 b), (b 6, oX1 be 0), (b 3, oX7 z0 0 0 0 (-1) (-1) (-1))]) hP hD hS hA [1, 2, 3, 4, 5, 6, 7, 8, 9, 10, 13] [0, 11, 12] rfl rfl rfl (by decide) (va_runVN (As := [.ref (b 1), .ref (b 3)]) (rest := []) ⟨hx, hb, hml, hown, hts⟩ (f_X6_tell l G cI cJ cZ cB cQ _ (b 4) bn (b 1) bc (b 3)) ⟨va_cnB (host := "WidowRoads") 2 hts (gW w_585) rfl rfl rfl (nz_nw hZ nw_582 rfl) (hts _ w_6) hd_X6_tell ⟨Nat.le_of_ble_eq_true rfl, Nat.le_of_ble_eq_true rfl⟩, (hts _ w_584), (hts _ wp_24)⟩ (mV hK hZ hP hD [1, 2, 3, 4, 5, 6, 7, 8, 9, 10, 13] rfl rfl [.ref (b 1), .ref (b 3)] 1 6 rfl rfl) rfl rfl hl.1 rfl (lv_room (Nat.le_of_ble_eq_true rfl)) dX9_walkAnew_23 ⟨Nat.le_of_ble_eq_true rfl, Nat.le_of_ble_eq_true rfl⟩) (fun u5 H locs hw6 hP hD hS => ?_)
  obtain ⟨f17, f68⟩ := u5
  have hP : va_P G vwCl [(h0, oX9 b), (b 6, oX1 be 0), (b 3, oX7 z0 0 0 0 (-1) (-1) (-1)), (b 4, oX6 bn 0 0), (bn 1, .inl (cI, 7, .inl f17)), (bn 2, .inl (cI, 7, .inl (fun _ => 0))), (bn 3, .inl (cJ, 7, .inr (.inl (fun _ => 0)))), (bn 4, .inl (cI, 7, .inl (fun _ => 0))), (bn 5, .inl (cI, 6, .inl (fun _ => 0))), (bn 6, .inl (cI, 78, .inl f68)), (bn 7, .inl (cJ, 13, .inr (.inl (fun _ => 0)))), (bn 8, .inl (cJ, 13, .inr (.inl (fun _ => 0)))), (bn 9, .inl (cJ, 13, .inr (.inl (fun _ => 0)))), (b 1, oX0 bc 0 0 0 0 0 0 0 0 0 0)] H := hP
  have hD : va_D A [(h0, oX9 b), (b 6, oX1 be 0), (b 3, oX7 z0 0 0 0 (-1) (-1) (-1)), (b 4, oX6 bn 0 0), (bn 1, .inl (cI, 7, .inl f17)), (bn 2, .inl (cI, 7, .inl (fun _ => 0))), (bn 3, .inl (cJ, 7, .inr (.inl (fun _ => 0)))), (bn 4, .inl (cI, 7, .inl (fun _ => 0))), (bn 5, .inl (cI, 6, .inl (fun _ => 0))), (bn 6, .inl (cI, 78, .inl f68)), (bn 7, .inl (cJ, 13, .inr (.inl (fun _ => 0)))), (bn 8, .inl (cJ, 13, .inr (.inl (fun _ => 0)))), (bn 9, .inl (cJ, 13, .inr (.inl (fun _ => 0)))), (b 1, oX0 bc 0 0 0 0 0 0 0 0 0 0)] := hD
  refine lv_aload_n hx hb dX9_walkAnew_26 rfl (lv_at hl 0 rfl) ?_
  refine va_get (D := G) (ci := 9) (v := .ref (b 6)) (C := RX9) (T := TX9) (N := 11) hx hb hts iG_X9 hown hK hP 0 rfl rfl 6 (by decide) (hts _ w_357) (fun _ h9 => h9) rfl dX9_walkAnew_27 ?_
  refine lv_iconst (v := 0) hx hb dX9_walkAnew_30 (by decide) ?_
  refine va_putN (D := G) (ci := 1) (v := .int 0) (ty := .boolean) (C := RX1) (T := TX1) (N := 3) hx hb hts iG_X1 tyX1 tyX1_ok nmX1 hown hK hP hD hS 1 rfl rfl 2 (by decide) (nz_use hZ nw_292 rfl) (fun _ h9 => h9) rfl (by decide +kernel) rfl rfl (Nat.le_of_ble_eq_true rfl) dX9_walkAnew_31 (fun H locs hP hD hS => ?_)
  have hP : va_P G vwCl [(h0, oX9 b), (b 6, oX1 be 0), (b 3, oX7 z0 0 0 0 (-1) (-1) (-1)), (b 4, oX6 bn 0 0), (bn 1, .inl (cI, 7, .inl f17)), (bn 2, .inl (cI, 7, .inl (fun _ => 0))), (bn 3, .inl (cJ, 7, .inr (.inl (fun _ => 0)))), (bn 4, .inl (cI, 7, .inl (fun _ => 0))), (bn 5, .inl (cI, 6, .inl (fun _ => 0))), (bn 6, .inl (cI, 78, .inl f68)), (bn 7, .inl (cJ, 13, .inr (.inl (fun _ => 0)))), (bn 8, .inl (cJ, 13, .inr (.inl (fun _ => 0)))), (bn 9, .inl (cJ, 13, .inr (.inl (fun _ => 0)))), (b 1, oX0 bc 0 0 0 0 0 0 0 0 0 0)] H := hP
  have hD : va_D A [(h0, oX9 b), (b 6, oX1 be 0), (b 3, oX7 z0 0 0 0 (-1) (-1) (-1)), (b 4, oX6 bn 0 0), (bn 1, .inl (cI, 7, .inl f17)), (bn 2, .inl (cI, 7, .inl (fun _ => 0))), (bn 3, .inl (cJ, 7, .inr (.inl (fun _ => 0)))), (bn 4, .inl (cI, 7, .inl (fun _ => 0))), (bn 5, .inl (cI, 6, .inl (fun _ => 0))), (bn 6, .inl (cI, 78, .inl f68)), (bn 7, .inl (cJ, 13, .inr (.inl (fun _ => 0)))), (bn 8, .inl (cJ, 13, .inr (.inl (fun _ => 0)))), (bn 9, .inl (cJ, 13, .inr (.inl (fun _ => 0)))), (b 1, oX0 bc 0 0 0 0 0 0 0 0 0 0)] := hD
  exact hret _ _ _ _ (f17, f68) (hP.sub (ws' := [(h0, oX9 b), (b 1, oX0 bc 0 0 0 0 0 0 0 0 0 0), (b 3, oX7 z0 0 0 0 (-1) (-1) (-1)), (b 4, oX6 bn 0 0), (bn 1, .inl (cI, 7, .inl f17)), (bn 2, .inl (cI, 7, .inl (fun _ => 0))), (bn 3, .inl (cJ, 7, .inr (.inl (fun _ => 0)))), (bn 4, .inl (cI, 7, .inl (fun _ => 0))), (bn 5, .inl (cI, 6, .inl (fun _ => 0))), (bn 6, .inl (cI, 78, .inl f68)), (bn 7, .inl (cJ, 13, .inr (.inl (fun _ => 0)))), (bn 8, .inl (cJ, 13, .inr (.inl (fun _ => 0)))), (bn 9, .inl (cJ, 13, .inr (.inl (fun _ => 0)))), (b 6, oX1 be 0)]) [0, 13, 2, 3, 4, 5, 6, 7, 8, 9, 10, 11, 12, 1] rfl) (hD.sub (ws' := [(h0, oX9 b), (b 1, oX0 bc 0 0 0 0 0 0 0 0 0 0), (b 3, oX7 z0 0 0 0 (-1) (-1) (-1)), (b 4, oX6 bn 0 0), (bn 1, .inl (cI, 7, .inl f17)), (bn 2, .inl (cI, 7, .inl (fun _ => 0))), (bn 3, .inl (cJ, 7, .inr (.inl (fun _ => 0)))), (bn 4, .inl (cI, 7, .inl (fun _ => 0))), (bn 5, .inl (cI, 6, .inl (fun _ => 0))), (bn 6, .inl (cI, 78, .inl f68)), (bn 7, .inl (cJ, 13, .inr (.inl (fun _ => 0)))), (bn 8, .inl (cJ, 13, .inr (.inl (fun _ => 0)))), (bn 9, .inl (cJ, 13, .inr (.inl (fun _ => 0)))), (b 6, oX1 be 0)]) [0, 13, 2, 3, 4, 5, 6, 7, 8, 9, 10, 11, 12, 1] rfl rfl) hS dX9_walkAnew_34 trivial
set_option maxHeartbeats 4000000 in
set_option maxRecDepth 100000 in
theorem f_X9_colony (l : Launch) (G : va_G) (cI cJ cZ cB cQ : ClassId) (sz : Nat) (h0 : Nat) (b : Nat → Nat) (br : Nat → Nat) (bt : Nat → Nat) (bi : Nat → Nat) (bc : Nat → Nat) (bn : Nat → Nat) (be : Nat → Nat) : CI l yX9_colony (wl_ yX9_colony cX9_colony 1 (some .int)) ({ frames := 4, cells := 0, slots := 0, locals := 89 } : Room) G (TY cI cJ cZ cB cQ) [.ref h0] [(h0, oX9 b), (b 0, oX4 br 0 (-1) 0 0 0), (br 2, oX8 bt 0), (br 3, oX0 bi 0 0 0 0 0 0 0 0 0 0), (bi 10, .inl (cI, 12, .inl (fun _ => 0))), (bi 11, .inl (cI, 6, .inl (fun _ => 0))), (bi 12, .inl (cI, 7, .inl (fun _ => 0))), (bi 13, .inl (cI, 7, .inl (fun _ => 0))), (bi 14, .inl (cI, 7, .inl (fun _ => 0))), (bi 15, .inl (cI, 7, .inl (fun _ => 0))), (bi 16, .inl (cI, 7, .inl (fun _ => 0))), (bi 17, .inl (cI, 56, .inl (fun _ => 0))), (bi 18, .inl (cI, 30, .inl (fun _ => 0))), (b 1, oX0 bc 0 0 0 0 0 0 0 0 0 0), (bc 10, .inl (cI, 12, .inl (fun _ => 0))), (bc 11, .inl (cI, 6, .inl (fun _ => 0))), (bc 12, .inl (cI, 7, .inl (fun _ => 0))), (bc 13, .inl (cI, 7, .inl (fun _ => 0))), (bc 14, .inl (cI, 7, .inl (fun _ => 0))), (bc 15, .inl (cI, 7, .inl (fun _ => 0))), (bc 16, .inl (cI, 7, .inl (fun _ => 0))), (bc 17, .inl (cI, 56, .inl (fun _ => 0))), (bc 18, .inl (cI, 30, .inl (fun _ => 0))), (b 3, oX7 z0 0 0 0 0 0 0), (b 4, oX6 bn 0 0), (bn 1, .inl (cI, 7, .inl (fun _ => 0))), (bn 2, .inl (cI, 7, .inl (fun _ => 0))), (bn 3, .inl (cJ, 7, .inr (.inl (fun _ => 0)))), (bn 4, .inl (cI, 7, .inl (fun _ => 0))), (bn 5, .inl (cI, 6, .inl (fun _ => 0))), (bn 6, .inl (cI, 78, .inl (fun _ => 0))), (bn 7, .inl (cJ, 13, .inr (.inl (fun _ => 0)))), (bn 8, .inl (cJ, 13, .inr (.inl (fun _ => 0)))), (bn 9, .inl (cJ, 13, .inr (.inl (fun _ => 0)))), (b 6, oX1 be 0)] sz (fun (r : Int32) (u : (Nat → Int32) × (Nat → Int32)) => r = 0) (fun u : (Nat → Int32) × (Nat → Int32) => [(h0, oX9 b), (b 0, oX4 br 0 (-1) 0 0 1), (br 2, oX8 bt 0), (br 3, oX0 bi 0 0 0 0 0 0 0 0 0 0), (bi 10, .inl (cI, 12, .inl (fun _ => 0))), (bi 11, .inl (cI, 6, .inl (fun _ => 0))), (bi 12, .inl (cI, 7, .inl (fun _ => 0))), (bi 13, .inl (cI, 7, .inl (fun _ => 0))), (bi 14, .inl (cI, 7, .inl (fun _ => 0))), (bi 15, .inl (cI, 7, .inl (fun _ => 0))), (bi 16, .inl (cI, 7, .inl (fun _ => 0))), (bi 17, .inl (cI, 56, .inl (fun _ => 0))), (bi 18, .inl (cI, 30, .inl (fun _ => 0))), (b 1, oX0 bc 0 0 0 0 0 0 0 0 0 0), (bc 10, .inl (cI, 12, .inl (fun _ => 0))), (bc 11, .inl (cI, 6, .inl (fun _ => 0))), (bc 12, .inl (cI, 7, .inl (fun _ => 0))), (bc 13, .inl (cI, 7, .inl (fun _ => 0))), (bc 14, .inl (cI, 7, .inl (fun _ => 0))), (bc 15, .inl (cI, 7, .inl (fun _ => 0))), (bc 16, .inl (cI, 7, .inl (fun _ => 0))), (bc 17, .inl (cI, 56, .inl (fun _ => 0))), (bc 18, .inl (cI, 30, .inl (fun _ => 0))), (b 3, oX7 z0 0 0 0 (-1) (-1) (-1)), (b 4, oX6 bn 0 0), (bn 1, .inl (cI, 7, .inl u.1)), (bn 2, .inl (cI, 7, .inl (fun _ => 0))), (bn 3, .inl (cJ, 7, .inr (.inl (fun _ => 0)))), (bn 4, .inl (cI, 7, .inl (fun _ => 0))), (bn 5, .inl (cI, 6, .inl (fun _ => 0))), (bn 6, .inl (cI, 78, .inl u.2)), (bn 7, .inl (cJ, 13, .inr (.inl (fun _ => 0)))), (bn 8, .inl (cJ, 13, .inr (.inl (fun _ => 0)))), (bn 9, .inl (cJ, 13, .inr (.inl (fun _ => 0)))), (b 6, oX1 be 0)]) 0 0 := by
  refine CI.go (cc := cX9_colony) (maxL := 1) (ret := (some .int)) (by decide) rfl (Nat.le_of_ble_eq_true rfl) ?_
  intro p e s m below meth c A ls Q hBd hret
  obtain ⟨hx, hb, hr, hml, hts, hown, hlk, hnm, hP, hK, hD, hA, hZ, hl⟩ := hBd
  have hown : s.vm.findClass RX9 = some m.cls := hown
  have hl : lv_has ls 1 [(0, .ref h0)] := hl
  have hS : va_S A s.heap s.heap [] := va_S.rf
  refine lv_aload_n hx hb dX9_colony_0 rfl (lv_at hl 0 rfl) ?_
  refine va_get (D := G) (ci := 9) (v := .ref (b 0)) (C := RX9) (T := TX9) (N := 11) hx hb hts iG_X9 hown hK hP 0 rfl rfl 0 (by decide) (hts _ w_351) (fun _ h9 => h9) rfl dX9_colony_1 ?_
  refine k_v (wc := [(b 0, oX4 br 0 (-1) 0 0 0), (br 2, oX8 bt 0), (br 3, oX0 bi 0 0 0 0 0 0 0 0 0 0)]) (wr := [(h0, oX9 b), (bi 10, .inl (cI, 12, .inl (fun _ => 0))), (bi 11, .inl (cI, 6, .inl (fun _ => 0))), (bi 12, .inl (cI, 7, .inl (fun _ => 0))), (bi 13, .inl (cI, 7, .inl (fun _ => 0))), (bi 14, .inl (cI, 7, .inl (fun _ => 0))), (bi 15, .inl (cI, 7, .inl (fun _ => 0))), (bi 16, .inl (cI, 7, .inl (fun _ => 0))), (bi 17, .inl (cI, 56, .inl (fun _ => 0))), (bi 18, .inl (cI, 30, .inl (fun _ => 0))), (b 1, oX0 bc 0 0 0 0 0 0 0 0 0 0), (bc 10, .inl (cI, 12, .inl (fun _ => 0))), (bc 11, .inl (cI, 6, .inl (fun _ => 0))), (bc 12, .inl (cI, 7, .inl (fun _ => 0))), (bc 13, .inl (cI, 7, .inl (fun _ => 0))), (bc 14, .inl (cI, 7, .inl (fun _ => 0))), (bc 15, .inl (cI, 7, .inl (fun _ => 0))), (bc 16, .inl (cI, 7, .inl (fun _ => 0))), (bc 17, .inl (cI, 56, .inl (fun _ => 0))), (bc 18, .inl (cI, 30, .inl (fun _ => 0))), (b 3, oX7 z0 0 0 0 0 0 0), (b 4, oX6 bn 0 0), (bn 1, .inl (cI, 7, .inl (fun _ => 0))), (bn 2, .inl (cI, 7, .inl (fun _ => 0))), (bn 3, .inl (cJ, 7, .inr (.inl (fun _ => 0)))), (bn 4, .inl (cI, 7, .inl (fun _ => 0))), (bn 5, .inl (cI, 6, .inl (fun _ => 0))), (bn 6, .inl (cI, 78, .inl (fun _ => 0))), (bn 7, .inl (cJ, 13, .inr (.inl (fun _ => 0)))), (bn 8, .inl (cJ, 13, .inr (.inl (fun _ => 0)))), (bn 9, .inl (cJ, 13, .inr (.inl (fun _ => 0)))), (b 6, oX1 be 0)]) hP hD hS hA [1, 2, 3] [0, 4, 5, 6, 7, 8, 9, 10, 11, 12, 13, 14, 15, 16, 17, 18, 19, 20, 21, 22, 23, 24, 25, 26, 27, 28, 29, 30, 31, 32, 33, 34] rfl rfl rfl (by decide) (va_runVN (As := []) (rest := []) ⟨hx, hb, hml, hown, hts⟩ (f_X4_read l G cI cJ cZ cB cQ _ (b 0) br bt bi) ⟨va_cnB (host := "WidowRoads") 0 hts (gW w_404) rfl rfl rfl (nz_nw hZ nw_401 rfl) (hts _ w_2) hd_X4_read ⟨Nat.le_of_ble_eq_true rfl, Nat.le_of_ble_eq_true rfl⟩, (hts _ w_403), (hts _ wp_1)⟩ (mV hK hZ hP hD [1, 2, 3] rfl rfl [] 1 4 rfl rfl) rfl rfl hl.1 rfl (lv_room (Nat.le_of_ble_eq_true rfl)) dX9_colony_4 ⟨Nat.le_of_ble_eq_true rfl, Nat.le_of_ble_eq_true rfl⟩) (fun u2 H locs hw3 hP hD hS => ?_)
  have hP : va_P G vwCl [(h0, oX9 b), (bi 10, .inl (cI, 12, .inl (fun _ => 0))), (bi 11, .inl (cI, 6, .inl (fun _ => 0))), (bi 12, .inl (cI, 7, .inl (fun _ => 0))), (bi 13, .inl (cI, 7, .inl (fun _ => 0))), (bi 14, .inl (cI, 7, .inl (fun _ => 0))), (bi 15, .inl (cI, 7, .inl (fun _ => 0))), (bi 16, .inl (cI, 7, .inl (fun _ => 0))), (bi 17, .inl (cI, 56, .inl (fun _ => 0))), (bi 18, .inl (cI, 30, .inl (fun _ => 0))), (b 1, oX0 bc 0 0 0 0 0 0 0 0 0 0), (bc 10, .inl (cI, 12, .inl (fun _ => 0))), (bc 11, .inl (cI, 6, .inl (fun _ => 0))), (bc 12, .inl (cI, 7, .inl (fun _ => 0))), (bc 13, .inl (cI, 7, .inl (fun _ => 0))), (bc 14, .inl (cI, 7, .inl (fun _ => 0))), (bc 15, .inl (cI, 7, .inl (fun _ => 0))), (bc 16, .inl (cI, 7, .inl (fun _ => 0))), (bc 17, .inl (cI, 56, .inl (fun _ => 0))), (bc 18, .inl (cI, 30, .inl (fun _ => 0))), (b 3, oX7 z0 0 0 0 0 0 0), (b 4, oX6 bn 0 0), (bn 1, .inl (cI, 7, .inl (fun _ => 0))), (bn 2, .inl (cI, 7, .inl (fun _ => 0))), (bn 3, .inl (cJ, 7, .inr (.inl (fun _ => 0)))), (bn 4, .inl (cI, 7, .inl (fun _ => 0))), (bn 5, .inl (cI, 6, .inl (fun _ => 0))), (bn 6, .inl (cI, 78, .inl (fun _ => 0))), (bn 7, .inl (cJ, 13, .inr (.inl (fun _ => 0)))), (bn 8, .inl (cJ, 13, .inr (.inl (fun _ => 0)))), (bn 9, .inl (cJ, 13, .inr (.inl (fun _ => 0)))), (b 6, oX1 be 0), (b 0, oX4 br 0 (-1) 0 0 1), (br 2, oX8 bt 0), (br 3, oX0 bi 0 0 0 0 0 0 0 0 0 0)] H := hP
  have hD : va_D A [(h0, oX9 b), (bi 10, .inl (cI, 12, .inl (fun _ => 0))), (bi 11, .inl (cI, 6, .inl (fun _ => 0))), (bi 12, .inl (cI, 7, .inl (fun _ => 0))), (bi 13, .inl (cI, 7, .inl (fun _ => 0))), (bi 14, .inl (cI, 7, .inl (fun _ => 0))), (bi 15, .inl (cI, 7, .inl (fun _ => 0))), (bi 16, .inl (cI, 7, .inl (fun _ => 0))), (bi 17, .inl (cI, 56, .inl (fun _ => 0))), (bi 18, .inl (cI, 30, .inl (fun _ => 0))), (b 1, oX0 bc 0 0 0 0 0 0 0 0 0 0), (bc 10, .inl (cI, 12, .inl (fun _ => 0))), (bc 11, .inl (cI, 6, .inl (fun _ => 0))), (bc 12, .inl (cI, 7, .inl (fun _ => 0))), (bc 13, .inl (cI, 7, .inl (fun _ => 0))), (bc 14, .inl (cI, 7, .inl (fun _ => 0))), (bc 15, .inl (cI, 7, .inl (fun _ => 0))), (bc 16, .inl (cI, 7, .inl (fun _ => 0))), (bc 17, .inl (cI, 56, .inl (fun _ => 0))), (bc 18, .inl (cI, 30, .inl (fun _ => 0))), (b 3, oX7 z0 0 0 0 0 0 0), (b 4, oX6 bn 0 0), (bn 1, .inl (cI, 7, .inl (fun _ => 0))), (bn 2, .inl (cI, 7, .inl (fun _ => 0))), (bn 3, .inl (cJ, 7, .inr (.inl (fun _ => 0)))), (bn 4, .inl (cI, 7, .inl (fun _ => 0))), (bn 5, .inl (cI, 6, .inl (fun _ => 0))), (bn 6, .inl (cI, 78, .inl (fun _ => 0))), (bn 7, .inl (cJ, 13, .inr (.inl (fun _ => 0)))), (bn 8, .inl (cJ, 13, .inr (.inl (fun _ => 0)))), (bn 9, .inl (cJ, 13, .inr (.inl (fun _ => 0)))), (b 6, oX1 be 0), (b 0, oX4 br 0 (-1) 0 0 1), (br 2, oX8 bt 0), (br 3, oX0 bi 0 0 0 0 0 0 0 0 0 0)] := hD
  refine lv_aload_n hx hb dX9_colony_7 rfl (lv_at hl 0 rfl) ?_
  refine va_get (D := G) (ci := 9) (v := .ref (b 0)) (C := RX9) (T := TX9) (N := 11) hx hb hts iG_X9 hown hK hP 0 rfl rfl 0 (by decide) (hts _ w_351) (fun _ h9 => h9) rfl dX9_colony_8 ?_
  refine va_getN (D := G) (ci := 4) (v := .int 0) (C := RX4) (T := TX4) (N := 7) hx hb hts iG_X4 hown hK hP 32 rfl rfl 0 (by decide) (nz_use hZ nw_164 rfl) (fun _ h9 => h9) rfl dX9_colony_11 ?_
  refine lv_if_eq (tgt := 20) hx hb dX9_colony_14 (by decide) (fun c4 => ?_) (fun c4 => absurd (by decide) c4)
  refine lv_aload_n hx hb dX9_colony_20 rfl (lv_at hl 0 rfl) ?_
  refine va_get (D := G) (ci := 9) (v := .ref (b 0)) (C := RX9) (T := TX9) (N := 11) hx hb hts iG_X9 hown hK hP 0 rfl rfl 0 (by decide) (hts _ w_351) (fun _ h9 => h9) rfl dX9_colony_21 ?_
  refine va_getN (D := G) (ci := 4) (v := .ref (br 2)) (C := RX4) (T := TX4) (N := 7) hx hb hts iG_X4 hown hK hP 32 rfl rfl 2 (by decide) (nz_use hZ nw_168 rfl) (fun _ h9 => h9) rfl dX9_colony_24 ?_
  refine lv_iconst (v := 0) hx hb dX9_colony_27 (by decide) ?_
  refine va_putN (D := G) (ci := 8) (v := .int 0) (ty := .int) (C := RX8) (T := TX8) (N := 2) hx hb hts iG_X8 tyX8 tyX8_ok nmX8 hown hK hP hD hS 33 rfl rfl 1 (by decide) (nz_use hZ nw_41 rfl) (fun _ h9 => h9) rfl (by decide +kernel) rfl rfl (Nat.le_of_ble_eq_true rfl) dX9_colony_28 (fun H locs hP hD hS => ?_)
  have hP : va_P G vwCl [(h0, oX9 b), (bi 10, .inl (cI, 12, .inl (fun _ => 0))), (bi 11, .inl (cI, 6, .inl (fun _ => 0))), (bi 12, .inl (cI, 7, .inl (fun _ => 0))), (bi 13, .inl (cI, 7, .inl (fun _ => 0))), (bi 14, .inl (cI, 7, .inl (fun _ => 0))), (bi 15, .inl (cI, 7, .inl (fun _ => 0))), (bi 16, .inl (cI, 7, .inl (fun _ => 0))), (bi 17, .inl (cI, 56, .inl (fun _ => 0))), (bi 18, .inl (cI, 30, .inl (fun _ => 0))), (b 1, oX0 bc 0 0 0 0 0 0 0 0 0 0), (bc 10, .inl (cI, 12, .inl (fun _ => 0))), (bc 11, .inl (cI, 6, .inl (fun _ => 0))), (bc 12, .inl (cI, 7, .inl (fun _ => 0))), (bc 13, .inl (cI, 7, .inl (fun _ => 0))), (bc 14, .inl (cI, 7, .inl (fun _ => 0))), (bc 15, .inl (cI, 7, .inl (fun _ => 0))), (bc 16, .inl (cI, 7, .inl (fun _ => 0))), (bc 17, .inl (cI, 56, .inl (fun _ => 0))), (bc 18, .inl (cI, 30, .inl (fun _ => 0))), (b 3, oX7 z0 0 0 0 0 0 0), (b 4, oX6 bn 0 0), (bn 1, .inl (cI, 7, .inl (fun _ => 0))), (bn 2, .inl (cI, 7, .inl (fun _ => 0))), (bn 3, .inl (cJ, 7, .inr (.inl (fun _ => 0)))), (bn 4, .inl (cI, 7, .inl (fun _ => 0))), (bn 5, .inl (cI, 6, .inl (fun _ => 0))), (bn 6, .inl (cI, 78, .inl (fun _ => 0))), (bn 7, .inl (cJ, 13, .inr (.inl (fun _ => 0)))), (bn 8, .inl (cJ, 13, .inr (.inl (fun _ => 0)))), (bn 9, .inl (cJ, 13, .inr (.inl (fun _ => 0)))), (b 6, oX1 be 0), (b 0, oX4 br 0 (-1) 0 0 1), (br 2, oX8 bt 0), (br 3, oX0 bi 0 0 0 0 0 0 0 0 0 0)] H := hP
  have hD : va_D A [(h0, oX9 b), (bi 10, .inl (cI, 12, .inl (fun _ => 0))), (bi 11, .inl (cI, 6, .inl (fun _ => 0))), (bi 12, .inl (cI, 7, .inl (fun _ => 0))), (bi 13, .inl (cI, 7, .inl (fun _ => 0))), (bi 14, .inl (cI, 7, .inl (fun _ => 0))), (bi 15, .inl (cI, 7, .inl (fun _ => 0))), (bi 16, .inl (cI, 7, .inl (fun _ => 0))), (bi 17, .inl (cI, 56, .inl (fun _ => 0))), (bi 18, .inl (cI, 30, .inl (fun _ => 0))), (b 1, oX0 bc 0 0 0 0 0 0 0 0 0 0), (bc 10, .inl (cI, 12, .inl (fun _ => 0))), (bc 11, .inl (cI, 6, .inl (fun _ => 0))), (bc 12, .inl (cI, 7, .inl (fun _ => 0))), (bc 13, .inl (cI, 7, .inl (fun _ => 0))), (bc 14, .inl (cI, 7, .inl (fun _ => 0))), (bc 15, .inl (cI, 7, .inl (fun _ => 0))), (bc 16, .inl (cI, 7, .inl (fun _ => 0))), (bc 17, .inl (cI, 56, .inl (fun _ => 0))), (bc 18, .inl (cI, 30, .inl (fun _ => 0))), (b 3, oX7 z0 0 0 0 0 0 0), (b 4, oX6 bn 0 0), (bn 1, .inl (cI, 7, .inl (fun _ => 0))), (bn 2, .inl (cI, 7, .inl (fun _ => 0))), (bn 3, .inl (cJ, 7, .inr (.inl (fun _ => 0)))), (bn 4, .inl (cI, 7, .inl (fun _ => 0))), (bn 5, .inl (cI, 6, .inl (fun _ => 0))), (bn 6, .inl (cI, 78, .inl (fun _ => 0))), (bn 7, .inl (cJ, 13, .inr (.inl (fun _ => 0)))), (bn 8, .inl (cJ, 13, .inr (.inl (fun _ => 0)))), (bn 9, .inl (cJ, 13, .inr (.inl (fun _ => 0)))), (b 6, oX1 be 0), (b 0, oX4 br 0 (-1) 0 0 1), (br 2, oX8 bt 0), (br 3, oX0 bi 0 0 0 0 0 0 0 0 0 0)] := hD
  refine lv_aload_n hx hb dX9_colony_31 rfl (lv_at hl 0 rfl) ?_
  refine va_get (D := G) (ci := 9) (v := .ref (b 1)) (C := RX9) (T := TX9) (N := 11) hx hb hts iG_X9 hown hK hP 0 rfl rfl 1 (by decide) (hts _ w_352) (fun _ h9 => h9) rfl dX9_colony_32 ?_
  refine lv_aload_n hx hb dX9_colony_35 rfl (lv_at hl 0 rfl) ?_
  refine va_get (D := G) (ci := 9) (v := .ref (b 0)) (C := RX9) (T := TX9) (N := 11) hx hb hts iG_X9 hown hK hP 0 rfl rfl 0 (by decide) (hts _ w_351) (fun _ h9 => h9) rfl dX9_colony_36 ?_
  refine va_getN (D := G) (ci := 4) (v := .ref (br 3)) (C := RX4) (T := TX4) (N := 7) hx hb hts iG_X4 hown hK hP 32 rfl rfl 3 (by decide) (nz_use hZ nw_170 rfl) (fun _ h9 => h9) rfl dX9_colony_39 ?_
  refine k_v (wc := [(b 1, oX0 bc 0 0 0 0 0 0 0 0 0 0), (bc 10, .inl (cI, 12, .inl (fun _ => 0))), (bc 11, .inl (cI, 6, .inl (fun _ => 0))), (bc 12, .inl (cI, 7, .inl (fun _ => 0))), (bc 13, .inl (cI, 7, .inl (fun _ => 0))), (bc 14, .inl (cI, 7, .inl (fun _ => 0))), (bc 15, .inl (cI, 7, .inl (fun _ => 0))), (bc 16, .inl (cI, 7, .inl (fun _ => 0))), (bc 17, .inl (cI, 56, .inl (fun _ => 0))), (bc 18, .inl (cI, 30, .inl (fun _ => 0))), (br 3, oX0 bi 0 0 0 0 0 0 0 0 0 0), (bi 10, .inl (cI, 12, .inl (fun _ => 0))), (bi 11, .inl (cI, 6, .inl (fun _ => 0))), (bi 12, .inl (cI, 7, .inl (fun _ => 0))), (bi 13, .inl (cI, 7, .inl (fun _ => 0))), (bi 14, .inl (cI, 7, .inl (fun _ => 0))), (bi 15, .inl (cI, 7, .inl (fun _ => 0))), (bi 16, .inl (cI, 7, .inl (fun _ => 0))), (bi 17, .inl (cI, 56, .inl (fun _ => 0))), (bi 18, .inl (cI, 30, .inl (fun _ => 0)))]) (wr := [(h0, oX9 b), (b 3, oX7 z0 0 0 0 0 0 0), (b 4, oX6 bn 0 0), (bn 1, .inl (cI, 7, .inl (fun _ => 0))), (bn 2, .inl (cI, 7, .inl (fun _ => 0))), (bn 3, .inl (cJ, 7, .inr (.inl (fun _ => 0)))), (bn 4, .inl (cI, 7, .inl (fun _ => 0))), (bn 5, .inl (cI, 6, .inl (fun _ => 0))), (bn 6, .inl (cI, 78, .inl (fun _ => 0))), (bn 7, .inl (cJ, 13, .inr (.inl (fun _ => 0)))), (bn 8, .inl (cJ, 13, .inr (.inl (fun _ => 0)))), (bn 9, .inl (cJ, 13, .inr (.inl (fun _ => 0)))), (b 6, oX1 be 0), (b 0, oX4 br 0 (-1) 0 0 1), (br 2, oX8 bt 0)]) hP hD hS hA [10, 11, 12, 13, 14, 15, 16, 17, 18, 19, 34, 1, 2, 3, 4, 5, 6, 7, 8, 9] [0, 20, 21, 22, 23, 24, 25, 26, 27, 28, 29, 30, 31, 32, 33] rfl rfl rfl (by decide) (va_runVN (As := [.ref (br 3)]) (rest := []) ⟨hx, hb, hml, hown, hts⟩ (f_X0_become l G cI cJ cZ cB cQ _ (b 1) bc (br 3) bi) ⟨va_cnB (host := "WidowRoads") 1 hts (gW w_565) rfl rfl rfl (nz_nw hZ nw_562 rfl) (hts _ w_4) hd_X0_become ⟨Nat.le_of_ble_eq_true rfl, Nat.le_of_ble_eq_true rfl⟩, (hts _ w_564), (hts _ wp_20)⟩ (mV hK hZ hP hD [10, 11, 12, 13, 14, 15, 16, 17, 18, 19, 34, 1, 2, 3, 4, 5, 6, 7, 8, 9] rfl rfl [.ref (br 3)] 10 0 rfl rfl) rfl rfl hl.1 rfl (lv_room (Nat.le_of_ble_eq_true rfl)) dX9_colony_42 ⟨Nat.le_of_ble_eq_true rfl, Nat.le_of_ble_eq_true rfl⟩) (fun u6 H locs hw7 hP hD hS => ?_)
  have hP : va_P G vwCl [(h0, oX9 b), (b 3, oX7 z0 0 0 0 0 0 0), (b 4, oX6 bn 0 0), (bn 1, .inl (cI, 7, .inl (fun _ => 0))), (bn 2, .inl (cI, 7, .inl (fun _ => 0))), (bn 3, .inl (cJ, 7, .inr (.inl (fun _ => 0)))), (bn 4, .inl (cI, 7, .inl (fun _ => 0))), (bn 5, .inl (cI, 6, .inl (fun _ => 0))), (bn 6, .inl (cI, 78, .inl (fun _ => 0))), (bn 7, .inl (cJ, 13, .inr (.inl (fun _ => 0)))), (bn 8, .inl (cJ, 13, .inr (.inl (fun _ => 0)))), (bn 9, .inl (cJ, 13, .inr (.inl (fun _ => 0)))), (b 6, oX1 be 0), (b 0, oX4 br 0 (-1) 0 0 1), (br 2, oX8 bt 0), (b 1, oX0 bc 0 0 0 0 0 0 0 0 0 0), (bc 10, .inl (cI, 12, .inl (fun _ => 0))), (bc 11, .inl (cI, 6, .inl (fun _ => 0))), (bc 12, .inl (cI, 7, .inl (fun _ => 0))), (bc 13, .inl (cI, 7, .inl (fun _ => 0))), (bc 14, .inl (cI, 7, .inl (fun _ => 0))), (bc 15, .inl (cI, 7, .inl (fun _ => 0))), (bc 16, .inl (cI, 7, .inl (fun _ => 0))), (bc 17, .inl (cI, 56, .inl (fun _ => 0))), (bc 18, .inl (cI, 30, .inl (fun _ => 0))), (br 3, oX0 bi 0 0 0 0 0 0 0 0 0 0), (bi 10, .inl (cI, 12, .inl (fun _ => 0))), (bi 11, .inl (cI, 6, .inl (fun _ => 0))), (bi 12, .inl (cI, 7, .inl (fun _ => 0))), (bi 13, .inl (cI, 7, .inl (fun _ => 0))), (bi 14, .inl (cI, 7, .inl (fun _ => 0))), (bi 15, .inl (cI, 7, .inl (fun _ => 0))), (bi 16, .inl (cI, 7, .inl (fun _ => 0))), (bi 17, .inl (cI, 56, .inl (fun _ => 0))), (bi 18, .inl (cI, 30, .inl (fun _ => 0)))] H := hP
  have hD : va_D A [(h0, oX9 b), (b 3, oX7 z0 0 0 0 0 0 0), (b 4, oX6 bn 0 0), (bn 1, .inl (cI, 7, .inl (fun _ => 0))), (bn 2, .inl (cI, 7, .inl (fun _ => 0))), (bn 3, .inl (cJ, 7, .inr (.inl (fun _ => 0)))), (bn 4, .inl (cI, 7, .inl (fun _ => 0))), (bn 5, .inl (cI, 6, .inl (fun _ => 0))), (bn 6, .inl (cI, 78, .inl (fun _ => 0))), (bn 7, .inl (cJ, 13, .inr (.inl (fun _ => 0)))), (bn 8, .inl (cJ, 13, .inr (.inl (fun _ => 0)))), (bn 9, .inl (cJ, 13, .inr (.inl (fun _ => 0)))), (b 6, oX1 be 0), (b 0, oX4 br 0 (-1) 0 0 1), (br 2, oX8 bt 0), (b 1, oX0 bc 0 0 0 0 0 0 0 0 0 0), (bc 10, .inl (cI, 12, .inl (fun _ => 0))), (bc 11, .inl (cI, 6, .inl (fun _ => 0))), (bc 12, .inl (cI, 7, .inl (fun _ => 0))), (bc 13, .inl (cI, 7, .inl (fun _ => 0))), (bc 14, .inl (cI, 7, .inl (fun _ => 0))), (bc 15, .inl (cI, 7, .inl (fun _ => 0))), (bc 16, .inl (cI, 7, .inl (fun _ => 0))), (bc 17, .inl (cI, 56, .inl (fun _ => 0))), (bc 18, .inl (cI, 30, .inl (fun _ => 0))), (br 3, oX0 bi 0 0 0 0 0 0 0 0 0 0), (bi 10, .inl (cI, 12, .inl (fun _ => 0))), (bi 11, .inl (cI, 6, .inl (fun _ => 0))), (bi 12, .inl (cI, 7, .inl (fun _ => 0))), (bi 13, .inl (cI, 7, .inl (fun _ => 0))), (bi 14, .inl (cI, 7, .inl (fun _ => 0))), (bi 15, .inl (cI, 7, .inl (fun _ => 0))), (bi 16, .inl (cI, 7, .inl (fun _ => 0))), (bi 17, .inl (cI, 56, .inl (fun _ => 0))), (bi 18, .inl (cI, 30, .inl (fun _ => 0)))] := hD
  refine lv_aload_n hx hb dX9_colony_45 rfl (lv_at hl 0 rfl) ?_
  refine k_v (wc := [(h0, oX9 b), (b 1, oX0 bc 0 0 0 0 0 0 0 0 0 0), (b 3, oX7 z0 0 0 0 0 0 0), (b 4, oX6 bn 0 0), (bn 1, .inl (cI, 7, .inl (fun _ => 0))), (bn 2, .inl (cI, 7, .inl (fun _ => 0))), (bn 3, .inl (cJ, 7, .inr (.inl (fun _ => 0)))), (bn 4, .inl (cI, 7, .inl (fun _ => 0))), (bn 5, .inl (cI, 6, .inl (fun _ => 0))), (bn 6, .inl (cI, 78, .inl (fun _ => 0))), (bn 7, .inl (cJ, 13, .inr (.inl (fun _ => 0)))), (bn 8, .inl (cJ, 13, .inr (.inl (fun _ => 0)))), (bn 9, .inl (cJ, 13, .inr (.inl (fun _ => 0)))), (b 6, oX1 be 0)]) (wr := [(b 0, oX4 br 0 (-1) 0 0 1), (br 2, oX8 bt 0), (bc 10, .inl (cI, 12, .inl (fun _ => 0))), (bc 11, .inl (cI, 6, .inl (fun _ => 0))), (bc 12, .inl (cI, 7, .inl (fun _ => 0))), (bc 13, .inl (cI, 7, .inl (fun _ => 0))), (bc 14, .inl (cI, 7, .inl (fun _ => 0))), (bc 15, .inl (cI, 7, .inl (fun _ => 0))), (bc 16, .inl (cI, 7, .inl (fun _ => 0))), (bc 17, .inl (cI, 56, .inl (fun _ => 0))), (bc 18, .inl (cI, 30, .inl (fun _ => 0))), (br 3, oX0 bi 0 0 0 0 0 0 0 0 0 0), (bi 10, .inl (cI, 12, .inl (fun _ => 0))), (bi 11, .inl (cI, 6, .inl (fun _ => 0))), (bi 12, .inl (cI, 7, .inl (fun _ => 0))), (bi 13, .inl (cI, 7, .inl (fun _ => 0))), (bi 14, .inl (cI, 7, .inl (fun _ => 0))), (bi 15, .inl (cI, 7, .inl (fun _ => 0))), (bi 16, .inl (cI, 7, .inl (fun _ => 0))), (bi 17, .inl (cI, 56, .inl (fun _ => 0))), (bi 18, .inl (cI, 30, .inl (fun _ => 0)))]) hP hD hS hA [0, 15, 1, 2, 3, 4, 5, 6, 7, 8, 9, 10, 11, 12] [13, 14, 16, 17, 18, 19, 20, 21, 22, 23, 24, 25, 26, 27, 28, 29, 30, 31, 32, 33, 34] rfl rfl rfl (by decide) (va_runV (As := []) (rest := []) ⟨hx, hb, hml, hown, hts⟩ (f_X9_walkAnew l G cI cJ cZ cB cQ _ h0 b bc bn be) (cwV 0 hts (gV w_569 w_571 wp_21 w_1 w_572) rfl rfl rfl ⟨rfl, hd_X9_walkAnew⟩ ⟨Nat.le_of_ble_eq_true rfl, Nat.le_of_ble_eq_true rfl⟩) (mV hK hZ hP hD [0, 15, 1, 2, 3, 4, 5, 6, 7, 8, 9, 10, 11, 12] rfl rfl [] 0 9 rfl rfl) rfl rfl hl.1 rfl (lv_room (Nat.le_of_ble_eq_true rfl)) dX9_colony_46 ⟨Nat.le_of_ble_eq_true rfl, Nat.le_of_ble_eq_true rfl⟩) (fun u9 H locs hw10 hP hD hS => ?_)
  obtain ⟨f111, f612⟩ := u9
  have hP : va_P G vwCl [(b 0, oX4 br 0 (-1) 0 0 1), (br 2, oX8 bt 0), (bc 10, .inl (cI, 12, .inl (fun _ => 0))), (bc 11, .inl (cI, 6, .inl (fun _ => 0))), (bc 12, .inl (cI, 7, .inl (fun _ => 0))), (bc 13, .inl (cI, 7, .inl (fun _ => 0))), (bc 14, .inl (cI, 7, .inl (fun _ => 0))), (bc 15, .inl (cI, 7, .inl (fun _ => 0))), (bc 16, .inl (cI, 7, .inl (fun _ => 0))), (bc 17, .inl (cI, 56, .inl (fun _ => 0))), (bc 18, .inl (cI, 30, .inl (fun _ => 0))), (br 3, oX0 bi 0 0 0 0 0 0 0 0 0 0), (bi 10, .inl (cI, 12, .inl (fun _ => 0))), (bi 11, .inl (cI, 6, .inl (fun _ => 0))), (bi 12, .inl (cI, 7, .inl (fun _ => 0))), (bi 13, .inl (cI, 7, .inl (fun _ => 0))), (bi 14, .inl (cI, 7, .inl (fun _ => 0))), (bi 15, .inl (cI, 7, .inl (fun _ => 0))), (bi 16, .inl (cI, 7, .inl (fun _ => 0))), (bi 17, .inl (cI, 56, .inl (fun _ => 0))), (bi 18, .inl (cI, 30, .inl (fun _ => 0))), (h0, oX9 b), (b 1, oX0 bc 0 0 0 0 0 0 0 0 0 0), (b 3, oX7 z0 0 0 0 (-1) (-1) (-1)), (b 4, oX6 bn 0 0), (bn 1, .inl (cI, 7, .inl f111)), (bn 2, .inl (cI, 7, .inl (fun _ => 0))), (bn 3, .inl (cJ, 7, .inr (.inl (fun _ => 0)))), (bn 4, .inl (cI, 7, .inl (fun _ => 0))), (bn 5, .inl (cI, 6, .inl (fun _ => 0))), (bn 6, .inl (cI, 78, .inl f612)), (bn 7, .inl (cJ, 13, .inr (.inl (fun _ => 0)))), (bn 8, .inl (cJ, 13, .inr (.inl (fun _ => 0)))), (bn 9, .inl (cJ, 13, .inr (.inl (fun _ => 0)))), (b 6, oX1 be 0)] H := hP
  have hD : va_D A [(b 0, oX4 br 0 (-1) 0 0 1), (br 2, oX8 bt 0), (bc 10, .inl (cI, 12, .inl (fun _ => 0))), (bc 11, .inl (cI, 6, .inl (fun _ => 0))), (bc 12, .inl (cI, 7, .inl (fun _ => 0))), (bc 13, .inl (cI, 7, .inl (fun _ => 0))), (bc 14, .inl (cI, 7, .inl (fun _ => 0))), (bc 15, .inl (cI, 7, .inl (fun _ => 0))), (bc 16, .inl (cI, 7, .inl (fun _ => 0))), (bc 17, .inl (cI, 56, .inl (fun _ => 0))), (bc 18, .inl (cI, 30, .inl (fun _ => 0))), (br 3, oX0 bi 0 0 0 0 0 0 0 0 0 0), (bi 10, .inl (cI, 12, .inl (fun _ => 0))), (bi 11, .inl (cI, 6, .inl (fun _ => 0))), (bi 12, .inl (cI, 7, .inl (fun _ => 0))), (bi 13, .inl (cI, 7, .inl (fun _ => 0))), (bi 14, .inl (cI, 7, .inl (fun _ => 0))), (bi 15, .inl (cI, 7, .inl (fun _ => 0))), (bi 16, .inl (cI, 7, .inl (fun _ => 0))), (bi 17, .inl (cI, 56, .inl (fun _ => 0))), (bi 18, .inl (cI, 30, .inl (fun _ => 0))), (h0, oX9 b), (b 1, oX0 bc 0 0 0 0 0 0 0 0 0 0), (b 3, oX7 z0 0 0 0 (-1) (-1) (-1)), (b 4, oX6 bn 0 0), (bn 1, .inl (cI, 7, .inl f111)), (bn 2, .inl (cI, 7, .inl (fun _ => 0))), (bn 3, .inl (cJ, 7, .inr (.inl (fun _ => 0)))), (bn 4, .inl (cI, 7, .inl (fun _ => 0))), (bn 5, .inl (cI, 6, .inl (fun _ => 0))), (bn 6, .inl (cI, 78, .inl f612)), (bn 7, .inl (cJ, 13, .inr (.inl (fun _ => 0)))), (bn 8, .inl (cJ, 13, .inr (.inl (fun _ => 0)))), (bn 9, .inl (cJ, 13, .inr (.inl (fun _ => 0)))), (b 6, oX1 be 0)] := hD
  refine lv_aload_n hx hb dX9_colony_49 rfl (lv_at hl 0 rfl) ?_
  refine va_get (D := G) (ci := 9) (v := .ref (b 1)) (C := RX9) (T := TX9) (N := 11) hx hb hts iG_X9 hown hK hP 21 rfl rfl 1 (by decide) (hts _ w_352) (fun _ h9 => h9) rfl dX9_colony_50 ?_
  refine va_getN (D := G) (ci := 0) (v := .int 0) (C := RX0) (T := TX0) (N := 19) hx hb hts iG_X0 hown hK hP 22 rfl rfl 0 (by decide) (nz_use hZ nw_57 rfl) (fun _ h9 => h9) rfl dX9_colony_53 ?_
  exact hret _ _ _ _ 0 (f111, f612) (hP.sub (ws' := [(h0, oX9 b), (b 0, oX4 br 0 (-1) 0 0 1), (br 2, oX8 bt 0), (br 3, oX0 bi 0 0 0 0 0 0 0 0 0 0), (bi 10, .inl (cI, 12, .inl (fun _ => 0))), (bi 11, .inl (cI, 6, .inl (fun _ => 0))), (bi 12, .inl (cI, 7, .inl (fun _ => 0))), (bi 13, .inl (cI, 7, .inl (fun _ => 0))), (bi 14, .inl (cI, 7, .inl (fun _ => 0))), (bi 15, .inl (cI, 7, .inl (fun _ => 0))), (bi 16, .inl (cI, 7, .inl (fun _ => 0))), (bi 17, .inl (cI, 56, .inl (fun _ => 0))), (bi 18, .inl (cI, 30, .inl (fun _ => 0))), (b 1, oX0 bc 0 0 0 0 0 0 0 0 0 0), (bc 10, .inl (cI, 12, .inl (fun _ => 0))), (bc 11, .inl (cI, 6, .inl (fun _ => 0))), (bc 12, .inl (cI, 7, .inl (fun _ => 0))), (bc 13, .inl (cI, 7, .inl (fun _ => 0))), (bc 14, .inl (cI, 7, .inl (fun _ => 0))), (bc 15, .inl (cI, 7, .inl (fun _ => 0))), (bc 16, .inl (cI, 7, .inl (fun _ => 0))), (bc 17, .inl (cI, 56, .inl (fun _ => 0))), (bc 18, .inl (cI, 30, .inl (fun _ => 0))), (b 3, oX7 z0 0 0 0 (-1) (-1) (-1)), (b 4, oX6 bn 0 0), (bn 1, .inl (cI, 7, .inl f111)), (bn 2, .inl (cI, 7, .inl (fun _ => 0))), (bn 3, .inl (cJ, 7, .inr (.inl (fun _ => 0)))), (bn 4, .inl (cI, 7, .inl (fun _ => 0))), (bn 5, .inl (cI, 6, .inl (fun _ => 0))), (bn 6, .inl (cI, 78, .inl f612)), (bn 7, .inl (cJ, 13, .inr (.inl (fun _ => 0)))), (bn 8, .inl (cJ, 13, .inr (.inl (fun _ => 0)))), (bn 9, .inl (cJ, 13, .inr (.inl (fun _ => 0)))), (b 6, oX1 be 0)]) [21, 0, 1, 11, 12, 13, 14, 15, 16, 17, 18, 19, 20, 22, 2, 3, 4, 5, 6, 7, 8, 9, 10, 23, 24, 25, 26, 27, 28, 29, 30, 31, 32, 33, 34] rfl) (hD.sub (ws' := [(h0, oX9 b), (b 0, oX4 br 0 (-1) 0 0 1), (br 2, oX8 bt 0), (br 3, oX0 bi 0 0 0 0 0 0 0 0 0 0), (bi 10, .inl (cI, 12, .inl (fun _ => 0))), (bi 11, .inl (cI, 6, .inl (fun _ => 0))), (bi 12, .inl (cI, 7, .inl (fun _ => 0))), (bi 13, .inl (cI, 7, .inl (fun _ => 0))), (bi 14, .inl (cI, 7, .inl (fun _ => 0))), (bi 15, .inl (cI, 7, .inl (fun _ => 0))), (bi 16, .inl (cI, 7, .inl (fun _ => 0))), (bi 17, .inl (cI, 56, .inl (fun _ => 0))), (bi 18, .inl (cI, 30, .inl (fun _ => 0))), (b 1, oX0 bc 0 0 0 0 0 0 0 0 0 0), (bc 10, .inl (cI, 12, .inl (fun _ => 0))), (bc 11, .inl (cI, 6, .inl (fun _ => 0))), (bc 12, .inl (cI, 7, .inl (fun _ => 0))), (bc 13, .inl (cI, 7, .inl (fun _ => 0))), (bc 14, .inl (cI, 7, .inl (fun _ => 0))), (bc 15, .inl (cI, 7, .inl (fun _ => 0))), (bc 16, .inl (cI, 7, .inl (fun _ => 0))), (bc 17, .inl (cI, 56, .inl (fun _ => 0))), (bc 18, .inl (cI, 30, .inl (fun _ => 0))), (b 3, oX7 z0 0 0 0 (-1) (-1) (-1)), (b 4, oX6 bn 0 0), (bn 1, .inl (cI, 7, .inl f111)), (bn 2, .inl (cI, 7, .inl (fun _ => 0))), (bn 3, .inl (cJ, 7, .inr (.inl (fun _ => 0)))), (bn 4, .inl (cI, 7, .inl (fun _ => 0))), (bn 5, .inl (cI, 6, .inl (fun _ => 0))), (bn 6, .inl (cI, 78, .inl f612)), (bn 7, .inl (cJ, 13, .inr (.inl (fun _ => 0)))), (bn 8, .inl (cJ, 13, .inr (.inl (fun _ => 0)))), (bn 9, .inl (cJ, 13, .inr (.inl (fun _ => 0)))), (b 6, oX1 be 0)]) [21, 0, 1, 11, 12, 13, 14, 15, 16, 17, 18, 19, 20, 22, 2, 3, 4, 5, 6, 7, 8, 9, 10, 23, 24, 25, 26, 27, 28, 29, 30, 31, 32, 33, 34] rfl rfl) hS dX9_colony_56 rfl
set_option maxHeartbeats 4000000 in
set_option maxRecDepth 100000 in
theorem f_X9_count (l : Launch) (G : va_G) (cI cJ cZ cB cQ : ClassId) (sz : Nat) (h0 : Nat) (b : Nat → Nat) (bc : Nat → Nat) (br : Nat → Nat) (bt : Nat → Nat) (bw : Nat → Nat) (p0 : Int32) : CI l yX9_count (wl_ yX9_count cX9_count 2 (some .int)) ({ frames := 2, cells := 0, slots := 0, locals := 42 } : Room) G (TY cI cJ cZ cB cQ) [.ref h0, .int p0] [(h0, oX9 b), (b 1, oX0 bc 0 0 0 0 0 0 0 0 0 0), (b 0, oX4 br 0 (-1) 0 0 0), (br 2, oX8 bt 0), (b 8, oX5 bw), (bw 1, .inl (cZ, 4, .inl (fun _ => 0)))] sz (fun (r : Int32) (u : Unit) => r = if 0 ≤ p0.toInt ∧ p0.toInt ≤ 11 then 0 else -1) (fun _ : Unit => [(h0, oX9 b), (b 1, oX0 bc 0 0 0 0 0 0 0 0 0 0), (b 0, oX4 br 0 (-1) 0 0 0), (br 2, oX8 bt 0), (b 8, oX5 bw), (bw 1, .inl (cZ, 4, .inl (fun _ => 0)))]) 0 0 := by
  refine CI.go (cc := cX9_count) (maxL := 2) (ret := (some .int)) (by decide) rfl (Nat.le_of_ble_eq_true rfl) ?_
  intro p e s m below meth c A ls Q hBd hret
  obtain ⟨hx, hb, hr, hml, hts, hown, hlk, hnm, hP, hK, hD, hA, hZ, hl⟩ := hBd
  have hown : s.vm.findClass RX9 = some m.cls := hown
  have hl : lv_has ls 2 [(0, .ref h0), (1, .int p0)] := hl
  have hS : va_S A s.heap s.heap [] := va_S.rf
  refine lv_iload_n hx hb dX9_count_0 rfl (lv_at hl 1 rfl) ?_
  have c1 : (p0.toInt < 0 ∨ 11 < p0.toInt) ∨ p0.toInt = 0 ∨ p0.toInt = 1 ∨ p0.toInt = 2 ∨ p0.toInt = 3 ∨ p0.toInt = 4 ∨ p0.toInt = 5 ∨ p0.toInt = 6 ∨ p0.toInt = 7 ∨ p0.toInt = 8 ∨ p0.toInt = 9 ∨ p0.toInt = 10 ∨ p0.toInt = 11 := by omega
  rcases c1 with c1 | c1 | c1 | c1 | c1 | c1 | c1 | c1 | c1 | c1 | c1 | c1 | c1
  · refine lv_tableOut (tgt := 163) hx hb dX9_count_1 c1 (by decide) ?_
    refine lv_iconst (v := (-1)) hx hb dX9_count_163 (by decide) ?_
    exact hret _ _ _ _ (-1) () hP hD hS dX9_count_164 (by (repeat' split) <;> first | exact rfl | (exfalso; omega))
  · have zc1 : p0.toInt = 0 := c1
    refine lv_tableIn (off := 63) (tgt := 64) hx hb dX9_count_1 (by rw [zc1]; decide) (by rw [zc1]; decide) (by rw [zc1]; rfl) (by decide) ?_
    refine lv_aload_n hx hb dX9_count_64 rfl (lv_at hl 0 rfl) ?_
    refine va_get (D := G) (ci := 9) (v := .ref (b 1)) (C := RX9) (T := TX9) (N := 11) hx hb hts iG_X9 hown hK hP 0 rfl rfl 1 (by decide) (hts _ w_352) (fun _ h9 => h9) rfl dX9_count_65 ?_
    refine va_getN (D := G) (ci := 0) (v := .int 0) (C := RX0) (T := TX0) (N := 19) hx hb hts iG_X0 hown hK hP 1 rfl rfl 1 (by decide) (nz_use hZ nw_62 rfl) (fun _ h9 => h9) rfl dX9_count_68 ?_
    exact hret _ _ _ _ 0 () hP hD hS dX9_count_71 (by (repeat' split) <;> first | exact rfl | (exfalso; omega))
  · have zc1 : p0.toInt = 1 := c1
    refine lv_tableIn (off := 71) (tgt := 72) hx hb dX9_count_1 (by rw [zc1]; decide) (by rw [zc1]; decide) (by rw [zc1]; rfl) (by decide) ?_
    refine lv_aload_n hx hb dX9_count_72 rfl (lv_at hl 0 rfl) ?_
    refine va_get (D := G) (ci := 9) (v := .ref (b 1)) (C := RX9) (T := TX9) (N := 11) hx hb hts iG_X9 hown hK hP 0 rfl rfl 1 (by decide) (hts _ w_352) (fun _ h9 => h9) rfl dX9_count_73 ?_
    refine va_getN (D := G) (ci := 0) (v := .int 0) (C := RX0) (T := TX0) (N := 19) hx hb hts iG_X0 hown hK hP 1 rfl rfl 2 (by decide) (nz_use hZ nw_66 rfl) (fun _ h9 => h9) rfl dX9_count_76 ?_
    exact hret _ _ _ _ 0 () hP hD hS dX9_count_79 (by (repeat' split) <;> first | exact rfl | (exfalso; omega))
  · have zc1 : p0.toInt = 2 := c1
    refine lv_tableIn (off := 79) (tgt := 80) hx hb dX9_count_1 (by rw [zc1]; decide) (by rw [zc1]; decide) (by rw [zc1]; rfl) (by decide) ?_
    refine lv_aload_n hx hb dX9_count_80 rfl (lv_at hl 0 rfl) ?_
    refine va_get (D := G) (ci := 9) (v := .ref (b 1)) (C := RX9) (T := TX9) (N := 11) hx hb hts iG_X9 hown hK hP 0 rfl rfl 1 (by decide) (hts _ w_352) (fun _ h9 => h9) rfl dX9_count_81 ?_
    refine va_getN (D := G) (ci := 0) (v := .int 0) (C := RX0) (T := TX0) (N := 19) hx hb hts iG_X0 hown hK hP 1 rfl rfl 3 (by decide) (nz_use hZ nw_70 rfl) (fun _ h9 => h9) rfl dX9_count_84 ?_
    exact hret _ _ _ _ 0 () hP hD hS dX9_count_87 (by (repeat' split) <;> first | exact rfl | (exfalso; omega))
  · have zc1 : p0.toInt = 3 := c1
    refine lv_tableIn (off := 87) (tgt := 88) hx hb dX9_count_1 (by rw [zc1]; decide) (by rw [zc1]; decide) (by rw [zc1]; rfl) (by decide) ?_
    refine lv_aload_n hx hb dX9_count_88 rfl (lv_at hl 0 rfl) ?_
    refine va_get (D := G) (ci := 9) (v := .ref (b 1)) (C := RX9) (T := TX9) (N := 11) hx hb hts iG_X9 hown hK hP 0 rfl rfl 1 (by decide) (hts _ w_352) (fun _ h9 => h9) rfl dX9_count_89 ?_
    refine va_getN (D := G) (ci := 0) (v := .int 0) (C := RX0) (T := TX0) (N := 19) hx hb hts iG_X0 hown hK hP 1 rfl rfl 4 (by decide) (nz_use hZ nw_73 rfl) (fun _ h9 => h9) rfl dX9_count_92 ?_
    exact hret _ _ _ _ 0 () hP hD hS dX9_count_95 (by (repeat' split) <;> first | exact rfl | (exfalso; omega))
  · have zc1 : p0.toInt = 4 := c1
    refine lv_tableIn (off := 95) (tgt := 96) hx hb dX9_count_1 (by rw [zc1]; decide) (by rw [zc1]; decide) (by rw [zc1]; rfl) (by decide) ?_
    refine lv_aload_n hx hb dX9_count_96 rfl (lv_at hl 0 rfl) ?_
    refine va_get (D := G) (ci := 9) (v := .ref (b 1)) (C := RX9) (T := TX9) (N := 11) hx hb hts iG_X9 hown hK hP 0 rfl rfl 1 (by decide) (hts _ w_352) (fun _ h9 => h9) rfl dX9_count_97 ?_
    refine va_getN (D := G) (ci := 0) (v := .int 0) (C := RX0) (T := TX0) (N := 19) hx hb hts iG_X0 hown hK hP 1 rfl rfl 5 (by decide) (nz_use hZ nw_76 rfl) (fun _ h9 => h9) rfl dX9_count_100 ?_
    exact hret _ _ _ _ 0 () hP hD hS dX9_count_103 (by (repeat' split) <;> first | exact rfl | (exfalso; omega))
  · have zc1 : p0.toInt = 5 := c1
    refine lv_tableIn (off := 103) (tgt := 104) hx hb dX9_count_1 (by rw [zc1]; decide) (by rw [zc1]; decide) (by rw [zc1]; rfl) (by decide) ?_
    refine lv_aload_n hx hb dX9_count_104 rfl (lv_at hl 0 rfl) ?_
    refine va_get (D := G) (ci := 9) (v := .ref (b 1)) (C := RX9) (T := TX9) (N := 11) hx hb hts iG_X9 hown hK hP 0 rfl rfl 1 (by decide) (hts _ w_352) (fun _ h9 => h9) rfl dX9_count_105 ?_
    refine va_getN (D := G) (ci := 0) (v := .int 0) (C := RX0) (T := TX0) (N := 19) hx hb hts iG_X0 hown hK hP 1 rfl rfl 6 (by decide) (nz_use hZ nw_79 rfl) (fun _ h9 => h9) rfl dX9_count_108 ?_
    exact hret _ _ _ _ 0 () hP hD hS dX9_count_111 (by (repeat' split) <;> first | exact rfl | (exfalso; omega))
  · have zc1 : p0.toInt = 6 := c1
    refine lv_tableIn (off := 111) (tgt := 112) hx hb dX9_count_1 (by rw [zc1]; decide) (by rw [zc1]; decide) (by rw [zc1]; rfl) (by decide) ?_
    refine lv_aload_n hx hb dX9_count_112 rfl (lv_at hl 0 rfl) ?_
    refine va_get (D := G) (ci := 9) (v := .ref (b 1)) (C := RX9) (T := TX9) (N := 11) hx hb hts iG_X9 hown hK hP 0 rfl rfl 1 (by decide) (hts _ w_352) (fun _ h9 => h9) rfl dX9_count_113 ?_
    refine va_getN (D := G) (ci := 0) (v := .int 0) (C := RX0) (T := TX0) (N := 19) hx hb hts iG_X0 hown hK hP 1 rfl rfl 7 (by decide) (nz_use hZ nw_83 rfl) (fun _ h9 => h9) rfl dX9_count_116 ?_
    exact hret _ _ _ _ 0 () hP hD hS dX9_count_119 (by (repeat' split) <;> first | exact rfl | (exfalso; omega))
  · have zc1 : p0.toInt = 7 := c1
    refine lv_tableIn (off := 119) (tgt := 120) hx hb dX9_count_1 (by rw [zc1]; decide) (by rw [zc1]; decide) (by rw [zc1]; rfl) (by decide) ?_
    refine lv_aload_n hx hb dX9_count_120 rfl (lv_at hl 0 rfl) ?_
    refine va_get (D := G) (ci := 9) (v := .ref (b 1)) (C := RX9) (T := TX9) (N := 11) hx hb hts iG_X9 hown hK hP 0 rfl rfl 1 (by decide) (hts _ w_352) (fun _ h9 => h9) rfl dX9_count_121 ?_
    refine va_getN (D := G) (ci := 0) (v := .int 0) (C := RX0) (T := TX0) (N := 19) hx hb hts iG_X0 hown hK hP 1 rfl rfl 8 (by decide) (nz_use hZ nw_88 rfl) (fun _ h9 => h9) rfl dX9_count_124 ?_
    exact hret _ _ _ _ 0 () hP hD hS dX9_count_127 (by (repeat' split) <;> first | exact rfl | (exfalso; omega))
  · have zc1 : p0.toInt = 8 := c1
    refine lv_tableIn (off := 127) (tgt := 128) hx hb dX9_count_1 (by rw [zc1]; decide) (by rw [zc1]; decide) (by rw [zc1]; rfl) (by decide) ?_
    refine lv_aload_n hx hb dX9_count_128 rfl (lv_at hl 0 rfl) ?_
    refine va_get (D := G) (ci := 9) (v := .ref (b 1)) (C := RX9) (T := TX9) (N := 11) hx hb hts iG_X9 hown hK hP 0 rfl rfl 1 (by decide) (hts _ w_352) (fun _ h9 => h9) rfl dX9_count_129 ?_
    refine va_getN (D := G) (ci := 0) (v := .int 0) (C := RX0) (T := TX0) (N := 19) hx hb hts iG_X0 hown hK hP 1 rfl rfl 9 (by decide) (nz_use hZ nw_90 rfl) (fun _ h9 => h9) rfl dX9_count_132 ?_
    exact hret _ _ _ _ 0 () hP hD hS dX9_count_135 (by (repeat' split) <;> first | exact rfl | (exfalso; omega))
  · have zc1 : p0.toInt = 9 := c1
    refine lv_tableIn (off := 135) (tgt := 136) hx hb dX9_count_1 (by rw [zc1]; decide) (by rw [zc1]; decide) (by rw [zc1]; rfl) (by decide) ?_
    refine lv_aload_n hx hb dX9_count_136 rfl (lv_at hl 0 rfl) ?_
    refine va_get (D := G) (ci := 9) (v := .ref (b 1)) (C := RX9) (T := TX9) (N := 11) hx hb hts iG_X9 hown hK hP 0 rfl rfl 1 (by decide) (hts _ w_352) (fun _ h9 => h9) rfl dX9_count_137 ?_
    refine va_getN (D := G) (ci := 0) (v := .int 0) (C := RX0) (T := TX0) (N := 19) hx hb hts iG_X0 hown hK hP 1 rfl rfl 0 (by decide) (nz_use hZ nw_57 rfl) (fun _ h9 => h9) rfl dX9_count_140 ?_
    exact hret _ _ _ _ 0 () hP hD hS dX9_count_143 (by (repeat' split) <;> first | exact rfl | (exfalso; omega))
  · have zc1 : p0.toInt = 10 := c1
    refine lv_tableIn (off := 143) (tgt := 144) hx hb dX9_count_1 (by rw [zc1]; decide) (by rw [zc1]; decide) (by rw [zc1]; rfl) (by decide) ?_
    refine lv_aload_n hx hb dX9_count_144 rfl (lv_at hl 0 rfl) ?_
    refine va_get (D := G) (ci := 9) (v := .ref (b 0)) (C := RX9) (T := TX9) (N := 11) hx hb hts iG_X9 hown hK hP 0 rfl rfl 0 (by decide) (hts _ w_351) (fun _ h9 => h9) rfl dX9_count_145 ?_
    refine va_getN (D := G) (ci := 4) (v := .ref (br 2)) (C := RX4) (T := TX4) (N := 7) hx hb hts iG_X4 hown hK hP 2 rfl rfl 2 (by decide) (nz_use hZ nw_168 rfl) (fun _ h9 => h9) rfl dX9_count_148 ?_
    refine va_getN (D := G) (ci := 8) (v := .int 0) (C := RX8) (T := TX8) (N := 2) hx hb hts iG_X8 hown hK hP 3 rfl rfl 1 (by decide) (nz_use hZ nw_41 rfl) (fun _ h9 => h9) rfl dX9_count_151 ?_
    exact hret _ _ _ _ 0 () hP hD hS dX9_count_154 (by (repeat' split) <;> first | exact rfl | (exfalso; omega))
  · have zc1 : p0.toInt = 11 := c1
    refine lv_tableIn (off := 154) (tgt := 155) hx hb dX9_count_1 (by rw [zc1]; decide) (by rw [zc1]; decide) (by rw [zc1]; rfl) (by decide) ?_
    refine lv_aload_n hx hb dX9_count_155 rfl (lv_at hl 0 rfl) ?_
    refine va_get (D := G) (ci := 9) (v := .ref (b 8)) (C := RX9) (T := TX9) (N := 11) hx hb hts iG_X9 hown hK hP 0 rfl rfl 8 (by decide) (hts _ w_359) (fun _ h9 => h9) rfl dX9_count_156 ?_
    refine k_i (wc := [(b 8, oX5 bw), (bw 1, .inl (cZ, 4, .inl (fun _ => 0)))]) (wr := [(h0, oX9 b), (b 1, oX0 bc 0 0 0 0 0 0 0 0 0 0), (b 0, oX4 br 0 (-1) 0 0 0), (br 2, oX8 bt 0)]) hP hD hS hA [4, 5] [0, 1, 2, 3] rfl rfl rfl (by decide) (va_runVN (As := []) (rest := []) ⟨hx, hb, hml, hown, hts⟩ (f_X5_many l G cI cJ cZ cB cQ _ (b 8) bw) ⟨va_cnB (host := "WidowRoads") 0 hts (gW w_1145) rfl rfl rfl (nz_nw hZ nw_1142 rfl) (hts _ w_9) hd_X5_many ⟨Nat.le_of_ble_eq_true rfl, Nat.le_of_ble_eq_true rfl⟩, (hts _ w_1144), (hts _ wp_78)⟩ (mV hK hZ hP hD [4, 5] rfl rfl [] 4 5 rfl rfl) rfl rfl hl.1 rfl (lv_room (Nat.le_of_ble_eq_true rfl)) dX9_count_159 ⟨Nat.le_of_ble_eq_true rfl, Nat.le_of_ble_eq_true rfl⟩) (fun r2 u3 H locs hw4 hP hD hS => ?_)
    try dsimp only at hw4
    have hP : va_P G vwCl [(h0, oX9 b), (b 1, oX0 bc 0 0 0 0 0 0 0 0 0 0), (b 0, oX4 br 0 (-1) 0 0 0), (br 2, oX8 bt 0), (b 8, oX5 bw), (bw 1, .inl (cZ, 4, .inl (fun _ => 0)))] H := hP
    have hD : va_D A [(h0, oX9 b), (b 1, oX0 bc 0 0 0 0 0 0 0 0 0 0), (b 0, oX4 br 0 (-1) 0 0 0), (br 2, oX8 bt 0), (b 8, oX5 bw), (bw 1, .inl (cZ, 4, .inl (fun _ => 0)))] := hD
    obtain rfl : r2 = 0 := hw4
    exact hret _ _ _ _ 0 () hP hD hS dX9_count_162 (by (repeat' split) <;> first | exact rfl | (exfalso; omega))
set_option maxHeartbeats 4000000 in
set_option maxRecDepth 100000 in
theorem f_X9_row (l : Launch) (G : va_G) (cI cJ cZ cB cQ : ClassId) (sz : Nat) (h0 : Nat) (b : Nat → Nat) (bw : Nat → Nat) (p0 : Int32) (p1 : Int32) (p2 : Int32) : CI l yX9_row (wl_ yX9_row cX9_row 4 (some .int)) ({ frames := 1, cells := 0, slots := 0, locals := 24 } : Room) G (TY cI cJ cZ cB cQ) [.ref h0, .int p0, .int p1, .int p2] [(h0, oX9 b), (b 8, oX5 bw), (bw 0, .inl (cJ, 240, .inr (.inl (fun _ => 0)))), (bw 1, .inl (cZ, 4, .inl (fun _ => 0))), (bw 2, .inl (cI, 4, .inl (fun _ => 0))), (bw 3, .inl (cI, 4, .inl (fun _ => 0)))] sz (fun (r : Int32) (u : (Nat → Int32) × (Nat → Int32) × (Nat → Int32)) => r = if p0.toInt < 0 ∨ 3 < p0.toInt ∨ p1.toInt < 0 ∨ 3 < p1.toInt ∨ 60 < p2.toInt then -2 else if p2.toInt < 0 then -3 else 0) (fun u : (Nat → Int32) × (Nat → Int32) × (Nat → Int32) => [(h0, oX9 b), (b 8, oX5 bw), (bw 0, .inl (cJ, 240, .inr (.inl (fun _ => 0)))), (bw 1, .inl (cZ, 4, .inl u.1)), (bw 2, .inl (cI, 4, .inl u.2.1)), (bw 3, .inl (cI, 4, .inl u.2.2))]) 0 0 := by
  refine CI.go (cc := cX9_row) (maxL := 4) (ret := (some .int)) (by decide) rfl (Nat.le_of_ble_eq_true rfl) ?_
  intro p e s m below meth c A ls Q hBd hret
  obtain ⟨hx, hb, hr, hml, hts, hown, hlk, hnm, hP, hK, hD, hA, hZ, hl⟩ := hBd
  have hown : s.vm.findClass RX9 = some m.cls := hown
  have hl : lv_has ls 4 [(0, .ref h0), (1, .int p0), (2, .int p1), (3, .int p2)] := hl
  have hS : va_S A s.heap s.heap [] := va_S.rf
  refine lv_iload_n hx hb dX9_row_0 rfl (lv_at hl 1 rfl) ?_
  refine k_i (wc := []) (wr := [(h0, oX9 b), (b 8, oX5 bw), (bw 0, .inl (cJ, 240, .inr (.inl (fun _ => 0)))), (bw 1, .inl (cZ, 4, .inl (fun _ => 0))), (bw 2, .inl (cI, 4, .inl (fun _ => 0))), (bw 3, .inl (cI, 4, .inl (fun _ => 0)))]) hP hD hS hA [] [0, 1, 2, 3, 4, 5] rfl rfl rfl (by decide) (va_runS (As := [.int p0]) (rest := []) ⟨hx, hb, hml, hown, hts⟩ (f_X9_isSlot l G cI cJ cZ cB cQ _ p0 p0.toInt rfl) (va_cwS 1 hts (gS w_951 w_952 w_1 w_953) rfl rfl rfl hd_X9_isSlot ⟨Nat.le_of_ble_eq_true rfl, Nat.le_of_ble_eq_true rfl⟩) (mS hK hZ hP hD [] rfl rfl [.int p0]) rfl rfl hl.1 rfl (lv_room (Nat.le_of_ble_eq_true rfl)) dX9_row_1 ⟨Nat.le_of_ble_eq_true rfl, Nat.le_of_ble_eq_true rfl⟩) (fun r1 u2 H locs hw3 hP hD hS => ?_)
  try dsimp only at hw3
  have hP : va_P G vwCl [(h0, oX9 b), (b 8, oX5 bw), (bw 0, .inl (cJ, 240, .inr (.inl (fun _ => 0)))), (bw 1, .inl (cZ, 4, .inl (fun _ => 0))), (bw 2, .inl (cI, 4, .inl (fun _ => 0))), (bw 3, .inl (cI, 4, .inl (fun _ => 0)))] H := hP
  have hD : va_D A [(h0, oX9 b), (b 8, oX5 bw), (bw 0, .inl (cJ, 240, .inr (.inl (fun _ => 0)))), (bw 1, .inl (cZ, 4, .inl (fun _ => 0))), (bw 2, .inl (cI, 4, .inl (fun _ => 0))), (bw 3, .inl (cI, 4, .inl (fun _ => 0)))] := hD
  rcases hw3 with ⟨rfl, a4, b5⟩ | ⟨rfl, a4⟩
  · skip
    refine lv_if_eq (tgt := 22) hx hb dX9_row_4 (by decide) (fun c6 => absurd c6 (by decide)) (fun c6 => ?_)
    refine lv_iload_n hx hb dX9_row_7 rfl (lv_at hl 2 rfl) ?_
    refine lv_if_lt (tgt := 22) hx hb dX9_row_8 (by decide) (fun c7 => ?_) (fun c7 => ?_)
    · have c7 := i_lt rfl ki_0 c7
      refine lv_bipush (v := (-2)) hx hb dX9_row_22 (by decide) ?_
      exact hret _ _ _ _ (-2) ((fun _ => 0), (fun _ => 0), (fun _ => 0)) hP hD hS dX9_row_24 (by (repeat' split) <;> first | exact rfl | (exfalso; omega))
    · have c7 := i_nlt rfl ki_0 c7
      refine lv_iload_n hx hb dX9_row_11 rfl (lv_at hl 2 rfl) ?_
      refine lv_iconst (v := 3) hx hb dX9_row_12 (by decide) ?_
      refine lv_icmp_gt (tgt := 22) hx hb dX9_row_13 (by decide) (fun c8 => ?_) (fun c8 => ?_)
      · have c8 := i_lt ki_3 rfl c8
        refine lv_bipush (v := (-2)) hx hb dX9_row_22 (by decide) ?_
        exact hret _ _ _ _ (-2) ((fun _ => 0), (fun _ => 0), (fun _ => 0)) hP hD hS dX9_row_24 (by (repeat' split) <;> first | exact rfl | (exfalso; omega))
      · have c8 := i_nlt ki_3 rfl c8
        refine lv_iload_n hx hb dX9_row_16 rfl (lv_at hl 3 rfl) ?_
        refine lv_bipush (v := 60) hx hb dX9_row_17 (by decide) ?_
        refine lv_icmp_le (tgt := 25) hx hb dX9_row_19 (by decide) (fun c9 => ?_) (fun c9 => ?_)
        · have c9 := i_le rfl ki_60 c9
          refine lv_iload_n hx hb dX9_row_25 rfl (lv_at hl 3 rfl) ?_
          refine lv_if_ge (tgt := 32) hx hb dX9_row_26 (by decide) (fun c10 => ?_) (fun c10 => ?_)
          · have c10 := i_le ki_0 rfl c10
            refine lv_aload_n hx hb dX9_row_32 rfl (lv_at hl 0 rfl) ?_
            refine va_get (D := G) (ci := 9) (v := .ref (b 8)) (C := RX9) (T := TX9) (N := 11) hx hb hts iG_X9 hown hK hP 0 rfl rfl 8 (by decide) (hts _ w_359) (fun _ h9 => h9) rfl dX9_row_33 ?_
            refine lv_iload_n hx hb dX9_row_36 rfl (lv_at hl 1 rfl) ?_
            refine lv_iload_n hx hb dX9_row_37 rfl (lv_at hl 2 rfl) ?_
            refine lv_iload_n hx hb dX9_row_38 rfl (lv_at hl 3 rfl) ?_
            refine k_v (wc := [(b 8, oX5 bw), (bw 0, .inl (cJ, 240, .inr (.inl (fun _ => 0)))), (bw 1, .inl (cZ, 4, .inl (fun _ => 0))), (bw 2, .inl (cI, 4, .inl (fun _ => 0))), (bw 3, .inl (cI, 4, .inl (fun _ => 0)))]) (wr := [(h0, oX9 b)]) hP hD hS hA [1, 2, 3, 4, 5] [0] rfl rfl rfl (by decide) (va_runVN (As := [.int p0, .int p1, .int p2]) (rest := []) ⟨hx, hb, hml, hown, hts⟩ (f_X5_clear l G cI cJ cZ cB cQ _ (b 8) bw p0 p1 p2 (by omega) (by omega)) ⟨va_cnB (host := "WidowRoads") 3 hts (gW w_1162) rfl rfl rfl (nz_nw hZ nw_1159 rfl) (hts _ w_9) hd_X5_clear ⟨Nat.le_of_ble_eq_true rfl, Nat.le_of_ble_eq_true rfl⟩, (hts _ w_1161), (hts _ wp_79)⟩ (mV hK hZ hP hD [1, 2, 3, 4, 5] rfl rfl [.int p0, .int p1, .int p2] 1 5 rfl rfl) rfl rfl hl.1 rfl (lv_room (Nat.le_of_ble_eq_true rfl)) dX9_row_39 ⟨Nat.le_of_ble_eq_true rfl, Nat.le_of_ble_eq_true rfl⟩) (fun u12 H locs hw13 hP hD hS => ?_)
            obtain ⟨f114, f215, f316⟩ := u12
            have hP : va_P G vwCl [(h0, oX9 b), (b 8, oX5 bw), (bw 0, .inl (cJ, 240, .inr (.inl (fun _ => 0)))), (bw 1, .inl (cZ, 4, .inl f114)), (bw 2, .inl (cI, 4, .inl f215)), (bw 3, .inl (cI, 4, .inl f316))] H := hP
            have hD : va_D A [(h0, oX9 b), (b 8, oX5 bw), (bw 0, .inl (cJ, 240, .inr (.inl (fun _ => 0)))), (bw 1, .inl (cZ, 4, .inl f114)), (bw 2, .inl (cI, 4, .inl f215)), (bw 3, .inl (cI, 4, .inl f316))] := hD
            refine lv_iconst (v := 0) hx hb dX9_row_42 (by decide) ?_
            exact hret _ _ _ _ 0 (f114, f215, f316) hP hD hS dX9_row_43 (by (repeat' split) <;> first | exact rfl | (exfalso; omega))
          · have c10 := i_nle ki_0 rfl c10
            refine lv_bipush (v := (-3)) hx hb dX9_row_29 (by decide) ?_
            exact hret _ _ _ _ (-3) ((fun _ => 0), (fun _ => 0), (fun _ => 0)) hP hD hS dX9_row_31 (by (repeat' split) <;> first | exact rfl | (exfalso; omega))
        · have c9 := i_nle rfl ki_60 c9
          refine lv_bipush (v := (-2)) hx hb dX9_row_22 (by decide) ?_
          exact hret _ _ _ _ (-2) ((fun _ => 0), (fun _ => 0), (fun _ => 0)) hP hD hS dX9_row_24 (by (repeat' split) <;> first | exact rfl | (exfalso; omega))
  · skip
    refine lv_if_eq (tgt := 22) hx hb dX9_row_4 (by decide) (fun c17 => ?_) (fun c17 => absurd (by decide) c17)
    refine lv_bipush (v := (-2)) hx hb dX9_row_22 (by decide) ?_
    exact hret _ _ _ _ (-2) ((fun _ => 0), (fun _ => 0), (fun _ => 0)) hP hD hS dX9_row_24 (by (repeat' split) <;> first | exact rfl | (exfalso; omega))
set_option maxHeartbeats 4000000 in
set_option maxRecDepth 100000 in
theorem f_X9_write (l : Launch) (G : va_G) (cI cJ cZ cB cQ : ClassId) (sz : Nat) (h0 : Nat) (b : Nat → Nat) (bw : Nat → Nat) (p0 : Int32) (p1 : Int32) (p2 : Int64) : CI l yX9_write (wl_ yX9_write cX9_write 5 (some .int)) ({ frames := 1, cells := 0, slots := 0, locals := 21 } : Room) G (TY cI cJ cZ cB cQ) [.ref h0, .int p0, .int p1, .long p2] [(h0, oX9 b), (b 8, oX5 bw), (bw 1, .inl (cZ, 4, .inl (fun _ => 0)))] sz (fun (r : Int32) (u : Unit) => r = if 0 ≤ p0.toInt ∧ p0.toInt ≤ 3 then -6 else -2) (fun _ : Unit => [(h0, oX9 b), (b 8, oX5 bw), (bw 1, .inl (cZ, 4, .inl (fun _ => 0)))]) 0 0 := by
  refine CI.go (cc := cX9_write) (maxL := 5) (ret := (some .int)) (by decide) rfl (Nat.le_of_ble_eq_true rfl) ?_
  intro p e s m below meth c A ls Q hBd hret
  obtain ⟨hx, hb, hr, hml, hts, hown, hlk, hnm, hP, hK, hD, hA, hZ, hl⟩ := hBd
  have hown : s.vm.findClass RX9 = some m.cls := hown
  have hl : lv_has ls 5 [(0, .ref h0), (1, .int p0), (2, .int p1), (3, .long p2)] := hl
  have hS : va_S A s.heap s.heap [] := va_S.rf
  refine lv_iload_n hx hb dX9_write_0 rfl (lv_at hl 1 rfl) ?_
  refine k_i (wc := []) (wr := [(h0, oX9 b), (b 8, oX5 bw), (bw 1, .inl (cZ, 4, .inl (fun _ => 0)))]) hP hD hS hA [] [0, 1, 2] rfl rfl rfl (by decide) (va_runS (As := [.int p0]) (rest := []) ⟨hx, hb, hml, hown, hts⟩ (f_X9_isSlot l G cI cJ cZ cB cQ _ p0 p0.toInt rfl) (va_cwS 1 hts (gS w_951 w_952 w_1 w_953) rfl rfl rfl hd_X9_isSlot ⟨Nat.le_of_ble_eq_true rfl, Nat.le_of_ble_eq_true rfl⟩) (mS hK hZ hP hD [] rfl rfl [.int p0]) rfl rfl hl.1 rfl (lv_room (Nat.le_of_ble_eq_true rfl)) dX9_write_1 ⟨Nat.le_of_ble_eq_true rfl, Nat.le_of_ble_eq_true rfl⟩) (fun r1 u2 H locs hw3 hP hD hS => ?_)
  try dsimp only at hw3
  have hP : va_P G vwCl [(h0, oX9 b), (b 8, oX5 bw), (bw 1, .inl (cZ, 4, .inl (fun _ => 0)))] H := hP
  have hD : va_D A [(h0, oX9 b), (b 8, oX5 bw), (bw 1, .inl (cZ, 4, .inl (fun _ => 0)))] := hD
  rcases hw3 with ⟨rfl, a4, b5⟩ | ⟨rfl, a4⟩
  · skip
    refine lv_if_ne (tgt := 10) hx hb dX9_write_4 (by decide) (fun c6 => ?_) (fun c6 => absurd c6 (by decide))
    refine lv_aload_n hx hb dX9_write_10 rfl (lv_at hl 0 rfl) ?_
    refine va_get (D := G) (ci := 9) (v := .ref (b 8)) (C := RX9) (T := TX9) (N := 11) hx hb hts iG_X9 hown hK hP 0 rfl rfl 8 (by decide) (hts _ w_359) (fun _ h9 => h9) rfl dX9_write_11 ?_
    refine lv_iload_n hx hb dX9_write_14 rfl (lv_at hl 1 rfl) ?_
    refine k_i (wc := [(b 8, oX5 bw), (bw 1, .inl (cZ, 4, .inl (fun _ => 0)))]) (wr := [(h0, oX9 b)]) hP hD hS hA [1, 2] [0] rfl rfl rfl (by decide) (va_runVN (As := [.int p0]) (rest := []) ⟨hx, hb, hml, hown, hts⟩ (f_X5_empty l G cI cJ cZ cB cQ _ (b 8) bw p0 (by omega) (by omega)) ⟨va_cnB (host := "WidowRoads") 1 hts (gW w_957) rfl rfl rfl (nz_nw hZ nw_954 rfl) (hts _ w_9) hd_X5_empty ⟨Nat.le_of_ble_eq_true rfl, Nat.le_of_ble_eq_true rfl⟩, (hts _ w_956), (hts _ wp_60)⟩ (mV hK hZ hP hD [1, 2] rfl rfl [.int p0] 1 5 rfl rfl) rfl rfl hl.1 rfl (lv_room (Nat.le_of_ble_eq_true rfl)) dX9_write_15 ⟨Nat.le_of_ble_eq_true rfl, Nat.le_of_ble_eq_true rfl⟩) (fun r7 u8 H locs hw9 hP hD hS => ?_)
    try dsimp only at hw9
    have hP : va_P G vwCl [(h0, oX9 b), (b 8, oX5 bw), (bw 1, .inl (cZ, 4, .inl (fun _ => 0)))] H := hP
    have hD : va_D A [(h0, oX9 b), (b 8, oX5 bw), (bw 1, .inl (cZ, 4, .inl (fun _ => 0)))] := hD
    obtain rfl : r7 = 1 := hw9
    refine lv_if_eq (tgt := 24) hx hb dX9_write_18 (by decide) (fun c10 => absurd c10 (by decide)) (fun c10 => ?_)
    refine lv_bipush (v := (-6)) hx hb dX9_write_21 (by decide) ?_
    exact hret _ _ _ _ (-6) () hP hD hS dX9_write_23 (by (repeat' split) <;> first | exact rfl | (exfalso; omega))
  · skip
    refine lv_if_ne (tgt := 10) hx hb dX9_write_4 (by decide) (fun c11 => absurd (by decide) c11) (fun c11 => ?_)
    refine lv_bipush (v := (-2)) hx hb dX9_write_7 (by decide) ?_
    exact hret _ _ _ _ (-2) () hP hD hS dX9_write_9 (by (repeat' split) <;> first | exact rfl | (exfalso; omega))
set_option maxHeartbeats 4000000 in
set_option maxRecDepth 100000 in
theorem f_X9_paste (l : Launch) (G : va_G) (cI cJ cZ cB cQ : ClassId) (sz : Nat) (h0 : Nat) (b : Nat → Nat) (bw : Nat → Nat) (p0 : Int32) (p1 : Int32) (p2 : Int32) (p3 : Int32) (p4 : Int32) : CI l yX9_paste (wl_ yX9_paste cX9_paste 6 (some .int)) ({ frames := 1, cells := 0, slots := 0, locals := 21 } : Room) G (TY cI cJ cZ cB cQ) [.ref h0, .int p0, .int p1, .int p2, .int p3, .int p4] [(h0, oX9 b), (b 8, oX5 bw), (bw 1, .inl (cZ, 4, .inl (fun _ => 0)))] sz (fun (r : Int32) (u : Unit) => r = if (0 ≤ p0.toInt ∧ p0.toInt ≤ 3) ∧ (0 ≤ p2.toInt ∧ p2.toInt ≤ 3) then -6 else -2) (fun _ : Unit => [(h0, oX9 b), (b 8, oX5 bw), (bw 1, .inl (cZ, 4, .inl (fun _ => 0)))]) 0 0 := by
  refine CI.go (cc := cX9_paste) (maxL := 6) (ret := (some .int)) (by decide) rfl (Nat.le_of_ble_eq_true rfl) ?_
  intro p e s m below meth c A ls Q hBd hret
  obtain ⟨hx, hb, hr, hml, hts, hown, hlk, hnm, hP, hK, hD, hA, hZ, hl⟩ := hBd
  have hown : s.vm.findClass RX9 = some m.cls := hown
  have hl : lv_has ls 6 [(0, .ref h0), (1, .int p0), (2, .int p1), (3, .int p2), (4, .int p3), (5, .int p4)] := hl
  have hS : va_S A s.heap s.heap [] := va_S.rf
  refine lv_iload_n hx hb dX9_paste_0 rfl (lv_at hl 1 rfl) ?_
  refine k_i (wc := []) (wr := [(h0, oX9 b), (b 8, oX5 bw), (bw 1, .inl (cZ, 4, .inl (fun _ => 0)))]) hP hD hS hA [] [0, 1, 2] rfl rfl rfl (by decide) (va_runS (As := [.int p0]) (rest := []) ⟨hx, hb, hml, hown, hts⟩ (f_X9_isSlot l G cI cJ cZ cB cQ _ p0 p0.toInt rfl) (va_cwS 1 hts (gS w_951 w_952 w_1 w_953) rfl rfl rfl hd_X9_isSlot ⟨Nat.le_of_ble_eq_true rfl, Nat.le_of_ble_eq_true rfl⟩) (mS hK hZ hP hD [] rfl rfl [.int p0]) rfl rfl hl.1 rfl (lv_room (Nat.le_of_ble_eq_true rfl)) dX9_paste_1 ⟨Nat.le_of_ble_eq_true rfl, Nat.le_of_ble_eq_true rfl⟩) (fun r1 u2 H locs hw3 hP hD hS => ?_)
  try dsimp only at hw3
  have hP : va_P G vwCl [(h0, oX9 b), (b 8, oX5 bw), (bw 1, .inl (cZ, 4, .inl (fun _ => 0)))] H := hP
  have hD : va_D A [(h0, oX9 b), (b 8, oX5 bw), (bw 1, .inl (cZ, 4, .inl (fun _ => 0)))] := hD
  rcases hw3 with ⟨rfl, a4, b5⟩ | ⟨rfl, a4⟩
  · skip
    refine lv_if_eq (tgt := 14) hx hb dX9_paste_4 (by decide) (fun c6 => absurd c6 (by decide)) (fun c6 => ?_)
    refine lv_iload_n hx hb dX9_paste_7 rfl (lv_at hl 3 rfl) ?_
    refine k_i (wc := []) (wr := [(h0, oX9 b), (b 8, oX5 bw), (bw 1, .inl (cZ, 4, .inl (fun _ => 0)))]) hP hD hS hA [] [0, 1, 2] rfl rfl rfl (by decide) (va_runS (As := [.int p2]) (rest := []) ⟨hx, hb, hml, hown, hts⟩ (f_X9_isSlot l G cI cJ cZ cB cQ _ p2 p2.toInt rfl) (va_cwS 1 hts (gS w_951 w_952 w_1 w_953) rfl rfl rfl hd_X9_isSlot ⟨Nat.le_of_ble_eq_true rfl, Nat.le_of_ble_eq_true rfl⟩) (mS hK hZ hP hD [] rfl rfl [.int p2]) rfl rfl hl.1 rfl (lv_room (Nat.le_of_ble_eq_true rfl)) dX9_paste_8 ⟨Nat.le_of_ble_eq_true rfl, Nat.le_of_ble_eq_true rfl⟩) (fun r7 u8 H locs hw9 hP hD hS => ?_)
    try dsimp only at hw9
    have hP : va_P G vwCl [(h0, oX9 b), (b 8, oX5 bw), (bw 1, .inl (cZ, 4, .inl (fun _ => 0)))] H := hP
    have hD : va_D A [(h0, oX9 b), (b 8, oX5 bw), (bw 1, .inl (cZ, 4, .inl (fun _ => 0)))] := hD
    rcases hw9 with ⟨rfl, a10, b11⟩ | ⟨rfl, a10⟩
    · skip
      refine lv_if_ne (tgt := 17) hx hb dX9_paste_11 (by decide) (fun c12 => ?_) (fun c12 => absurd c12 (by decide))
      refine lv_aload_n hx hb dX9_paste_17 rfl (lv_at hl 0 rfl) ?_
      refine va_get (D := G) (ci := 9) (v := .ref (b 8)) (C := RX9) (T := TX9) (N := 11) hx hb hts iG_X9 hown hK hP 0 rfl rfl 8 (by decide) (hts _ w_359) (fun _ h9 => h9) rfl dX9_paste_18 ?_
      refine lv_iload_n hx hb dX9_paste_21 rfl (lv_at hl 1 rfl) ?_
      refine k_i (wc := [(b 8, oX5 bw), (bw 1, .inl (cZ, 4, .inl (fun _ => 0)))]) (wr := [(h0, oX9 b)]) hP hD hS hA [1, 2] [0] rfl rfl rfl (by decide) (va_runVN (As := [.int p0]) (rest := []) ⟨hx, hb, hml, hown, hts⟩ (f_X5_empty l G cI cJ cZ cB cQ _ (b 8) bw p0 (by omega) (by omega)) ⟨va_cnB (host := "WidowRoads") 1 hts (gW w_957) rfl rfl rfl (nz_nw hZ nw_954 rfl) (hts _ w_9) hd_X5_empty ⟨Nat.le_of_ble_eq_true rfl, Nat.le_of_ble_eq_true rfl⟩, (hts _ w_956), (hts _ wp_60)⟩ (mV hK hZ hP hD [1, 2] rfl rfl [.int p0] 1 5 rfl rfl) rfl rfl hl.1 rfl (lv_room (Nat.le_of_ble_eq_true rfl)) dX9_paste_22 ⟨Nat.le_of_ble_eq_true rfl, Nat.le_of_ble_eq_true rfl⟩) (fun r13 u14 H locs hw15 hP hD hS => ?_)
      try dsimp only at hw15
      have hP : va_P G vwCl [(h0, oX9 b), (b 8, oX5 bw), (bw 1, .inl (cZ, 4, .inl (fun _ => 0)))] H := hP
      have hD : va_D A [(h0, oX9 b), (b 8, oX5 bw), (bw 1, .inl (cZ, 4, .inl (fun _ => 0)))] := hD
      obtain rfl : r13 = 1 := hw15
      refine lv_if_ne (tgt := 39) hx hb dX9_paste_25 (by decide) (fun c16 => ?_) (fun c16 => absurd c16 (by decide))
      refine lv_bipush (v := (-6)) hx hb dX9_paste_39 (by decide) ?_
      exact hret _ _ _ _ (-6) () hP hD hS dX9_paste_41 (by (repeat' split) <;> first | exact rfl | (exfalso; omega))
    · skip
      refine lv_if_ne (tgt := 17) hx hb dX9_paste_11 (by decide) (fun c17 => absurd (by decide) c17) (fun c17 => ?_)
      refine lv_bipush (v := (-2)) hx hb dX9_paste_14 (by decide) ?_
      exact hret _ _ _ _ (-2) () hP hD hS dX9_paste_16 (by (repeat' split) <;> first | exact rfl | (exfalso; omega))
  · skip
    refine lv_if_eq (tgt := 14) hx hb dX9_paste_4 (by decide) (fun c18 => ?_) (fun c18 => absurd (by decide) c18)
    refine lv_bipush (v := (-2)) hx hb dX9_paste_14 (by decide) ?_
    exact hret _ _ _ _ (-2) () hP hD hS dX9_paste_16 (by (repeat' split) <;> first | exact rfl | (exfalso; omega))
set_option maxHeartbeats 4000000 in
set_option maxRecDepth 100000 in
theorem f_X9_image (l : Launch) (G : va_G) (cI cJ cZ cB cQ : ClassId) (sz : Nat) (h0 : Nat) (b : Nat → Nat) (bc : Nat → Nat) (p0 : Int32) : CI l yX9_image (wl_ yX9_image cX9_image 2 (some .int)) ({ frames := 2, cells := 10, slots := 158, locals := 61 } : Room) G (TY cI cJ cZ cB cQ) [.ref h0, .int p0] [(h0, oX9 b), (b 1, oX0 bc 0 0 0 0 0 0 0 0 0 0), (bc 10, .inl (cI, 12, .inl (fun _ => 0))), (bc 11, .inl (cI, 6, .inl (fun _ => 0))), (bc 12, .inl (cI, 7, .inl (fun _ => 0))), (bc 13, .inl (cI, 7, .inl (fun _ => 0))), (bc 14, .inl (cI, 7, .inl (fun _ => 0))), (bc 15, .inl (cI, 7, .inl (fun _ => 0))), (bc 16, .inl (cI, 7, .inl (fun _ => 0))), (bc 17, .inl (cI, 56, .inl (fun _ => 0))), (bc 18, .inl (cI, 30, .inl (fun _ => 0))), (b 2, .inl (cQ, 3, .inr (.inr (.inr (.inr (fun _ => none))))))] sz (fun (r : Int32) (u : (Nat → Option Nat)) => (r = if 0 ≤ p0.toInt ∧ p0.toInt ≤ 2 then 0 else -2)) (fun u : (Nat → Option Nat) => [(h0, oX9 b), (b 1, oX0 bc 0 0 0 0 0 0 0 0 0 0), (bc 10, .inl (cI, 12, .inl (fun _ => 0))), (bc 11, .inl (cI, 6, .inl (fun _ => 0))), (bc 12, .inl (cI, 7, .inl (fun _ => 0))), (bc 13, .inl (cI, 7, .inl (fun _ => 0))), (bc 14, .inl (cI, 7, .inl (fun _ => 0))), (bc 15, .inl (cI, 7, .inl (fun _ => 0))), (bc 16, .inl (cI, 7, .inl (fun _ => 0))), (bc 17, .inl (cI, 56, .inl (fun _ => 0))), (bc 18, .inl (cI, 30, .inl (fun _ => 0))), (b 2, .inl (cQ, 3, .inr (.inr (.inr (.inr u)))))]) 10 158 := by
  refine CI.go (cc := cX9_image) (maxL := 2) (ret := (some .int)) (by decide) rfl (Nat.le_of_ble_eq_true rfl) ?_
  intro p e s m below meth c A ls Q hBd hret
  obtain ⟨hx, hb, hr, hml, hts, hown, hlk, hnm, hP, hK, hD, hA, hZ, hl⟩ := hBd
  have hown : s.vm.findClass RX9 = some m.cls := hown
  have hl : lv_has ls 2 [(0, .ref h0), (1, .int p0)] := hl
  have hS : va_S A s.heap s.heap [] := va_S.rf
  refine lv_iload_n hx hb dX9_image_0 rfl (lv_at hl 1 rfl) ?_
  refine lv_if_lt (tgt := 9) hx hb dX9_image_1 (by decide) (fun c1 => ?_) (fun c1 => ?_)
  · have c1 := i_lt rfl ki_0 c1
    refine lv_bipush (v := (-2)) hx hb dX9_image_9 (by decide) ?_
    refine W.widen (k := 10) (n := 158) (by decide) (by decide) ?_
    exact hret _ _ _ _ (-2) (fun _ => none) hP hD hS dX9_image_11 (by (repeat' split) <;> first | exact rfl | (exfalso; omega))
  · have c1 := i_nlt rfl ki_0 c1
    refine lv_iload_n hx hb dX9_image_4 rfl (lv_at hl 1 rfl) ?_
    refine lv_iconst (v := 3) hx hb dX9_image_5 (by decide) ?_
    refine lv_icmp_lt (tgt := 12) hx hb dX9_image_6 (by decide) (fun c2 => ?_) (fun c2 => ?_)
    · have c2 := i_lt rfl ki_3 c2
      refine lv_aload_n hx hb dX9_image_12 rfl (lv_at hl 0 rfl) ?_
      refine va_get (D := G) (ci := 9) (v := .ref (b 2)) (C := RX9) (T := TX9) (N := 11) hx hb hts iG_X9 hown hK hP 0 rfl rfl 2 (by decide) (hts _ w_353) (fun _ h9 => h9) rfl dX9_image_13 ?_
      refine lv_iload_n hx hb dX9_image_16 rfl (lv_at hl 1 rfl) ?_
      refine va_aldq hx hb hK hP 11 4 rfl rfl (ix_in rfl (by omega) (by omega)) dX9_image_17 ?_
      refine W.eq (g2 := F0 m 18 ls [.null]) rfl ?_
      refine lv_ifnonnullN hx hb dX9_image_18 ?_
      refine lv_aload_n hx hb dX9_image_21 rfl (lv_at hl 0 rfl) ?_
      refine va_get (D := G) (ci := 9) (v := .ref (b 2)) (C := RX9) (T := TX9) (N := 11) hx hb hts iG_X9 hown hK hP 0 rfl rfl 2 (by decide) (hts _ w_353) (fun _ h9 => h9) rfl dX9_image_22 ?_
      refine lv_iload_n hx hb dX9_image_25 rfl (lv_at hl 1 rfl) ?_
      refine va_new (ci := 0) (fs := [.int 0, .int 0, .int 0, .int 0, .int 0, .int 0, .int 0, .int 0, .int 0, .int 0, .null, .null, .null, .null, .null, .null, .null, .null, .null]) (C := RX0) (T := TX0) (N := 19) hx hb hts iG_X0 tyX0 tyX0_ok hown (hts _ w_189) (hts _ w_50) (hts _ w_4) hK hP hD hS hA rfl (nf_X0) (Nat.le_of_ble_eq_true rfl) (Nat.le_of_ble_eq_true rfl) dX9_image_26 (fun q3 H hP hD hS => ?_)
      have hP : va_P G vwCl [(h0, oX9 b), (b 1, oX0 bc 0 0 0 0 0 0 0 0 0 0), (bc 10, .inl (cI, 12, .inl (fun _ => 0))), (bc 11, .inl (cI, 6, .inl (fun _ => 0))), (bc 12, .inl (cI, 7, .inl (fun _ => 0))), (bc 13, .inl (cI, 7, .inl (fun _ => 0))), (bc 14, .inl (cI, 7, .inl (fun _ => 0))), (bc 15, .inl (cI, 7, .inl (fun _ => 0))), (bc 16, .inl (cI, 7, .inl (fun _ => 0))), (bc 17, .inl (cI, 56, .inl (fun _ => 0))), (bc 18, .inl (cI, 30, .inl (fun _ => 0))), (b 2, .inl (cQ, 3, .inr (.inr (.inr (.inr (fun _ => none)))))), (q3, .inr (0, [.int 0, .int 0, .int 0, .int 0, .int 0, .int 0, .int 0, .int 0, .int 0, .int 0, .null, .null, .null, .null, .null, .null, .null, .null, .null]))] H := hP
      have hD : va_D A [(h0, oX9 b), (b 1, oX0 bc 0 0 0 0 0 0 0 0 0 0), (bc 10, .inl (cI, 12, .inl (fun _ => 0))), (bc 11, .inl (cI, 6, .inl (fun _ => 0))), (bc 12, .inl (cI, 7, .inl (fun _ => 0))), (bc 13, .inl (cI, 7, .inl (fun _ => 0))), (bc 14, .inl (cI, 7, .inl (fun _ => 0))), (bc 15, .inl (cI, 7, .inl (fun _ => 0))), (bc 16, .inl (cI, 7, .inl (fun _ => 0))), (bc 17, .inl (cI, 56, .inl (fun _ => 0))), (bc 18, .inl (cI, 30, .inl (fun _ => 0))), (b 2, .inl (cQ, 3, .inr (.inr (.inr (.inr (fun _ => none)))))), (q3, .inr (0, [.int 0, .int 0, .int 0, .int 0, .int 0, .int 0, .int 0, .int 0, .int 0, .int 0, .null, .null, .null, .null, .null, .null, .null, .null, .null]))] := hD
      refine lv_dup hx hb dX9_image_29 rfl ?_
      refine k_v (wc := [(q3, .inr (0, [.int 0, .int 0, .int 0, .int 0, .int 0, .int 0, .int 0, .int 0, .int 0, .int 0, .null, .null, .null, .null, .null, .null, .null, .null, .null]))]) (wr := [(h0, oX9 b), (b 1, oX0 bc 0 0 0 0 0 0 0 0 0 0), (bc 10, .inl (cI, 12, .inl (fun _ => 0))), (bc 11, .inl (cI, 6, .inl (fun _ => 0))), (bc 12, .inl (cI, 7, .inl (fun _ => 0))), (bc 13, .inl (cI, 7, .inl (fun _ => 0))), (bc 14, .inl (cI, 7, .inl (fun _ => 0))), (bc 15, .inl (cI, 7, .inl (fun _ => 0))), (bc 16, .inl (cI, 7, .inl (fun _ => 0))), (bc 17, .inl (cI, 56, .inl (fun _ => 0))), (bc 18, .inl (cI, 30, .inl (fun _ => 0))), (b 2, .inl (cQ, 3, .inr (.inr (.inr (.inr (fun _ => none))))))]) hP hD hS hA [12] [0, 1, 2, 3, 4, 5, 6, 7, 8, 9, 10, 11] rfl rfl rfl (by decide) (va_runIN (As := []) (rest := [.ref q3, .int p0, .ref (b 2)]) ⟨hx, hb, hml, hown, hts⟩ (f_X0_init l G cI cJ cZ cB cQ _ q3) ⟨va_cnB (host := "WidowRoads") 0 hts (gW w_53) rfl rfl rfl (nz_nw hZ nw_190 rfl) (hts _ w_4) hd_X0_init ⟨Nat.le_of_ble_eq_true rfl, Nat.le_of_ble_eq_true rfl⟩, rfl, (hts _ w_52)⟩ (mS hK hZ hP hD [12] rfl rfl [.ref q3]) rfl rfl hl.1 rfl (lv_room (Nat.le_of_ble_eq_true rfl)) dX9_image_30 ⟨Nat.le_of_ble_eq_true rfl, Nat.le_of_ble_eq_true rfl⟩) (fun u5 H locs hw6 hP hD hS => ?_)
      obtain ⟨b7, rfl⟩ : ∃ z, z = u5 := ⟨_, rfl⟩
      have hP : va_P G vwCl [(h0, oX9 b), (b 1, oX0 bc 0 0 0 0 0 0 0 0 0 0), (bc 10, .inl (cI, 12, .inl (fun _ => 0))), (bc 11, .inl (cI, 6, .inl (fun _ => 0))), (bc 12, .inl (cI, 7, .inl (fun _ => 0))), (bc 13, .inl (cI, 7, .inl (fun _ => 0))), (bc 14, .inl (cI, 7, .inl (fun _ => 0))), (bc 15, .inl (cI, 7, .inl (fun _ => 0))), (bc 16, .inl (cI, 7, .inl (fun _ => 0))), (bc 17, .inl (cI, 56, .inl (fun _ => 0))), (bc 18, .inl (cI, 30, .inl (fun _ => 0))), (b 2, .inl (cQ, 3, .inr (.inr (.inr (.inr (fun _ => none)))))), (q3, oX0 b7 0 0 0 0 0 0 0 0 0 0), (b7 10, .inl (cI, 12, .inl (fun _ => 0))), (b7 11, .inl (cI, 6, .inl (fun _ => 0))), (b7 12, .inl (cI, 7, .inl (fun _ => 0))), (b7 13, .inl (cI, 7, .inl (fun _ => 0))), (b7 14, .inl (cI, 7, .inl (fun _ => 0))), (b7 15, .inl (cI, 7, .inl (fun _ => 0))), (b7 16, .inl (cI, 7, .inl (fun _ => 0))), (b7 17, .inl (cI, 56, .inl (fun _ => 0))), (b7 18, .inl (cI, 30, .inl (fun _ => 0)))] H := hP
      have hD : va_D A [(h0, oX9 b), (b 1, oX0 bc 0 0 0 0 0 0 0 0 0 0), (bc 10, .inl (cI, 12, .inl (fun _ => 0))), (bc 11, .inl (cI, 6, .inl (fun _ => 0))), (bc 12, .inl (cI, 7, .inl (fun _ => 0))), (bc 13, .inl (cI, 7, .inl (fun _ => 0))), (bc 14, .inl (cI, 7, .inl (fun _ => 0))), (bc 15, .inl (cI, 7, .inl (fun _ => 0))), (bc 16, .inl (cI, 7, .inl (fun _ => 0))), (bc 17, .inl (cI, 56, .inl (fun _ => 0))), (bc 18, .inl (cI, 30, .inl (fun _ => 0))), (b 2, .inl (cQ, 3, .inr (.inr (.inr (.inr (fun _ => none)))))), (q3, oX0 b7 0 0 0 0 0 0 0 0 0 0), (b7 10, .inl (cI, 12, .inl (fun _ => 0))), (b7 11, .inl (cI, 6, .inl (fun _ => 0))), (b7 12, .inl (cI, 7, .inl (fun _ => 0))), (b7 13, .inl (cI, 7, .inl (fun _ => 0))), (b7 14, .inl (cI, 7, .inl (fun _ => 0))), (b7 15, .inl (cI, 7, .inl (fun _ => 0))), (b7 16, .inl (cI, 7, .inl (fun _ => 0))), (b7 17, .inl (cI, 56, .inl (fun _ => 0))), (b7 18, .inl (cI, 30, .inl (fun _ => 0)))] := hD
      refine va_astq hx hb hK hP hD hS 11 4 12 0 rfl rfl rfl rfl (ix_in rfl (by omega) (by omega)) dX9_image_33 (fun H locs hP hD hS => ?_)
      have hP : va_P G vwCl [(h0, oX9 b), (b 1, oX0 bc 0 0 0 0 0 0 0 0 0 0), (bc 10, .inl (cI, 12, .inl (fun _ => 0))), (bc 11, .inl (cI, 6, .inl (fun _ => 0))), (bc 12, .inl (cI, 7, .inl (fun _ => 0))), (bc 13, .inl (cI, 7, .inl (fun _ => 0))), (bc 14, .inl (cI, 7, .inl (fun _ => 0))), (bc 15, .inl (cI, 7, .inl (fun _ => 0))), (bc 16, .inl (cI, 7, .inl (fun _ => 0))), (bc 17, .inl (cI, 56, .inl (fun _ => 0))), (bc 18, .inl (cI, 30, .inl (fun _ => 0))), (b 2, .inl (cQ, 3, .inr (.inr (.inr (.inr (va_up (fun _ => none) p0.toNatClampNeg (some q3))))))), (q3, oX0 b7 0 0 0 0 0 0 0 0 0 0), (b7 10, .inl (cI, 12, .inl (fun _ => 0))), (b7 11, .inl (cI, 6, .inl (fun _ => 0))), (b7 12, .inl (cI, 7, .inl (fun _ => 0))), (b7 13, .inl (cI, 7, .inl (fun _ => 0))), (b7 14, .inl (cI, 7, .inl (fun _ => 0))), (b7 15, .inl (cI, 7, .inl (fun _ => 0))), (b7 16, .inl (cI, 7, .inl (fun _ => 0))), (b7 17, .inl (cI, 56, .inl (fun _ => 0))), (b7 18, .inl (cI, 30, .inl (fun _ => 0)))] H := hP
      have hD : va_D A [(h0, oX9 b), (b 1, oX0 bc 0 0 0 0 0 0 0 0 0 0), (bc 10, .inl (cI, 12, .inl (fun _ => 0))), (bc 11, .inl (cI, 6, .inl (fun _ => 0))), (bc 12, .inl (cI, 7, .inl (fun _ => 0))), (bc 13, .inl (cI, 7, .inl (fun _ => 0))), (bc 14, .inl (cI, 7, .inl (fun _ => 0))), (bc 15, .inl (cI, 7, .inl (fun _ => 0))), (bc 16, .inl (cI, 7, .inl (fun _ => 0))), (bc 17, .inl (cI, 56, .inl (fun _ => 0))), (bc 18, .inl (cI, 30, .inl (fun _ => 0))), (b 2, .inl (cQ, 3, .inr (.inr (.inr (.inr (va_up (fun _ => none) p0.toNatClampNeg (some q3))))))), (q3, oX0 b7 0 0 0 0 0 0 0 0 0 0), (b7 10, .inl (cI, 12, .inl (fun _ => 0))), (b7 11, .inl (cI, 6, .inl (fun _ => 0))), (b7 12, .inl (cI, 7, .inl (fun _ => 0))), (b7 13, .inl (cI, 7, .inl (fun _ => 0))), (b7 14, .inl (cI, 7, .inl (fun _ => 0))), (b7 15, .inl (cI, 7, .inl (fun _ => 0))), (b7 16, .inl (cI, 7, .inl (fun _ => 0))), (b7 17, .inl (cI, 56, .inl (fun _ => 0))), (b7 18, .inl (cI, 30, .inl (fun _ => 0)))] := hD
      refine lv_aload_n hx hb dX9_image_34 rfl (lv_at hl 0 rfl) ?_
      refine va_get (D := G) (ci := 9) (v := .ref (b 2)) (C := RX9) (T := TX9) (N := 11) hx hb hts iG_X9 hown hK hP 0 rfl rfl 2 (by decide) (hts _ w_353) (fun _ h9 => h9) rfl dX9_image_35 ?_
      refine lv_iload_n hx hb dX9_image_38 rfl (lv_at hl 1 rfl) ?_
      refine va_aldq hx hb hK hP 11 4 rfl rfl (ix_in rfl (by omega) (by omega)) dX9_image_39 ?_
      refine W.eq (g2 := F0 m 40 ls [.ref q3]) (by rw [va_up_s]; rfl) ?_
      refine lv_aload_n hx hb dX9_image_40 rfl (lv_at hl 0 rfl) ?_
      refine va_get (D := G) (ci := 9) (v := .ref (b 1)) (C := RX9) (T := TX9) (N := 11) hx hb hts iG_X9 hown hK hP 0 rfl rfl 1 (by decide) (hts _ w_352) (fun _ h9 => h9) rfl dX9_image_41 ?_
      refine k_v (wc := [(q3, oX0 b7 0 0 0 0 0 0 0 0 0 0), (b7 10, .inl (cI, 12, .inl (fun _ => 0))), (b7 11, .inl (cI, 6, .inl (fun _ => 0))), (b7 12, .inl (cI, 7, .inl (fun _ => 0))), (b7 13, .inl (cI, 7, .inl (fun _ => 0))), (b7 14, .inl (cI, 7, .inl (fun _ => 0))), (b7 15, .inl (cI, 7, .inl (fun _ => 0))), (b7 16, .inl (cI, 7, .inl (fun _ => 0))), (b7 17, .inl (cI, 56, .inl (fun _ => 0))), (b7 18, .inl (cI, 30, .inl (fun _ => 0))), (b 1, oX0 bc 0 0 0 0 0 0 0 0 0 0), (bc 10, .inl (cI, 12, .inl (fun _ => 0))), (bc 11, .inl (cI, 6, .inl (fun _ => 0))), (bc 12, .inl (cI, 7, .inl (fun _ => 0))), (bc 13, .inl (cI, 7, .inl (fun _ => 0))), (bc 14, .inl (cI, 7, .inl (fun _ => 0))), (bc 15, .inl (cI, 7, .inl (fun _ => 0))), (bc 16, .inl (cI, 7, .inl (fun _ => 0))), (bc 17, .inl (cI, 56, .inl (fun _ => 0))), (bc 18, .inl (cI, 30, .inl (fun _ => 0)))]) (wr := [(h0, oX9 b), (b 2, .inl (cQ, 3, .inr (.inr (.inr (.inr (va_up (fun _ => none) p0.toNatClampNeg (some q3)))))))]) hP hD hS hA [12, 13, 14, 15, 16, 17, 18, 19, 20, 21, 1, 2, 3, 4, 5, 6, 7, 8, 9, 10] [0, 11] rfl rfl rfl (by decide) (va_runVN (As := [.ref (b 1)]) (rest := []) ⟨hx, hb, hml, hown, hts⟩ (f_X0_become l G cI cJ cZ cB cQ _ q3 b7 (b 1) bc) ⟨va_cnB (host := "WidowRoads") 1 hts (gW w_565) rfl rfl rfl (nz_nw hZ nw_562 rfl) (hts _ w_4) hd_X0_become ⟨Nat.le_of_ble_eq_true rfl, Nat.le_of_ble_eq_true rfl⟩, (hts _ w_564), (hts _ wp_20)⟩ (mV hK hZ hP hD [12, 13, 14, 15, 16, 17, 18, 19, 20, 21, 1, 2, 3, 4, 5, 6, 7, 8, 9, 10] rfl rfl [.ref (b 1)] 12 0 rfl rfl) rfl rfl hl.1 rfl (lv_room (Nat.le_of_ble_eq_true rfl)) dX9_image_44 ⟨Nat.le_of_ble_eq_true rfl, Nat.le_of_ble_eq_true rfl⟩) (fun u9 H locs hw10 hP hD hS => ?_)
      have hP : va_P G vwCl [(h0, oX9 b), (b 2, .inl (cQ, 3, .inr (.inr (.inr (.inr (va_up (fun _ => none) p0.toNatClampNeg (some q3))))))), (q3, oX0 b7 0 0 0 0 0 0 0 0 0 0), (b7 10, .inl (cI, 12, .inl (fun _ => 0))), (b7 11, .inl (cI, 6, .inl (fun _ => 0))), (b7 12, .inl (cI, 7, .inl (fun _ => 0))), (b7 13, .inl (cI, 7, .inl (fun _ => 0))), (b7 14, .inl (cI, 7, .inl (fun _ => 0))), (b7 15, .inl (cI, 7, .inl (fun _ => 0))), (b7 16, .inl (cI, 7, .inl (fun _ => 0))), (b7 17, .inl (cI, 56, .inl (fun _ => 0))), (b7 18, .inl (cI, 30, .inl (fun _ => 0))), (b 1, oX0 bc 0 0 0 0 0 0 0 0 0 0), (bc 10, .inl (cI, 12, .inl (fun _ => 0))), (bc 11, .inl (cI, 6, .inl (fun _ => 0))), (bc 12, .inl (cI, 7, .inl (fun _ => 0))), (bc 13, .inl (cI, 7, .inl (fun _ => 0))), (bc 14, .inl (cI, 7, .inl (fun _ => 0))), (bc 15, .inl (cI, 7, .inl (fun _ => 0))), (bc 16, .inl (cI, 7, .inl (fun _ => 0))), (bc 17, .inl (cI, 56, .inl (fun _ => 0))), (bc 18, .inl (cI, 30, .inl (fun _ => 0)))] H := hP
      have hD : va_D A [(h0, oX9 b), (b 2, .inl (cQ, 3, .inr (.inr (.inr (.inr (va_up (fun _ => none) p0.toNatClampNeg (some q3))))))), (q3, oX0 b7 0 0 0 0 0 0 0 0 0 0), (b7 10, .inl (cI, 12, .inl (fun _ => 0))), (b7 11, .inl (cI, 6, .inl (fun _ => 0))), (b7 12, .inl (cI, 7, .inl (fun _ => 0))), (b7 13, .inl (cI, 7, .inl (fun _ => 0))), (b7 14, .inl (cI, 7, .inl (fun _ => 0))), (b7 15, .inl (cI, 7, .inl (fun _ => 0))), (b7 16, .inl (cI, 7, .inl (fun _ => 0))), (b7 17, .inl (cI, 56, .inl (fun _ => 0))), (b7 18, .inl (cI, 30, .inl (fun _ => 0))), (b 1, oX0 bc 0 0 0 0 0 0 0 0 0 0), (bc 10, .inl (cI, 12, .inl (fun _ => 0))), (bc 11, .inl (cI, 6, .inl (fun _ => 0))), (bc 12, .inl (cI, 7, .inl (fun _ => 0))), (bc 13, .inl (cI, 7, .inl (fun _ => 0))), (bc 14, .inl (cI, 7, .inl (fun _ => 0))), (bc 15, .inl (cI, 7, .inl (fun _ => 0))), (bc 16, .inl (cI, 7, .inl (fun _ => 0))), (bc 17, .inl (cI, 56, .inl (fun _ => 0))), (bc 18, .inl (cI, 30, .inl (fun _ => 0)))] := hD
      refine lv_iconst (v := 0) hx hb dX9_image_47 (by decide) ?_
      exact hret _ _ _ _ 0 (va_up (fun _ => none) p0.toNatClampNeg (some q3)) (hP.sub (ws' := [(h0, oX9 b), (b 1, oX0 bc 0 0 0 0 0 0 0 0 0 0), (bc 10, .inl (cI, 12, .inl (fun _ => 0))), (bc 11, .inl (cI, 6, .inl (fun _ => 0))), (bc 12, .inl (cI, 7, .inl (fun _ => 0))), (bc 13, .inl (cI, 7, .inl (fun _ => 0))), (bc 14, .inl (cI, 7, .inl (fun _ => 0))), (bc 15, .inl (cI, 7, .inl (fun _ => 0))), (bc 16, .inl (cI, 7, .inl (fun _ => 0))), (bc 17, .inl (cI, 56, .inl (fun _ => 0))), (bc 18, .inl (cI, 30, .inl (fun _ => 0))), (b 2, .inl (cQ, 3, .inr (.inr (.inr (.inr (va_up (fun _ => none) p0.toNatClampNeg (some q3)))))))]) [0, 12, 13, 14, 15, 16, 17, 18, 19, 20, 21, 1] rfl) (hD.sub (ws' := [(h0, oX9 b), (b 1, oX0 bc 0 0 0 0 0 0 0 0 0 0), (bc 10, .inl (cI, 12, .inl (fun _ => 0))), (bc 11, .inl (cI, 6, .inl (fun _ => 0))), (bc 12, .inl (cI, 7, .inl (fun _ => 0))), (bc 13, .inl (cI, 7, .inl (fun _ => 0))), (bc 14, .inl (cI, 7, .inl (fun _ => 0))), (bc 15, .inl (cI, 7, .inl (fun _ => 0))), (bc 16, .inl (cI, 7, .inl (fun _ => 0))), (bc 17, .inl (cI, 56, .inl (fun _ => 0))), (bc 18, .inl (cI, 30, .inl (fun _ => 0))), (b 2, .inl (cQ, 3, .inr (.inr (.inr (.inr (va_up (fun _ => none) p0.toNatClampNeg (some q3)))))))]) [0, 12, 13, 14, 15, 16, 17, 18, 19, 20, 21, 1] rfl rfl) hS dX9_image_48 (by (repeat' split) <;> first | exact rfl | (exfalso; omega))
    · have c2 := i_nlt rfl ki_3 c2
      refine lv_bipush (v := (-2)) hx hb dX9_image_9 (by decide) ?_
      refine W.widen (k := 10) (n := 158) (by decide) (by decide) ?_
      exact hret _ _ _ _ (-2) (fun _ => none) hP hD hS dX9_image_11 (by (repeat' split) <;> first | exact rfl | (exfalso; omega))
set_option maxHeartbeats 4000000 in
set_option maxRecDepth 100000 in
theorem f_X9_back (l : Launch) (G : va_G) (cI cJ cZ cB cQ : ClassId) (sz : Nat) (h0 : Nat) (b : Nat → Nat) (p0 : Int32) : CI l yX9_back (wl_ yX9_back cX9_back 2 (some .int)) ({ frames := 0, cells := 0, slots := 0, locals := 0 } : Room) G (TY cI cJ cZ cB cQ) [.ref h0, .int p0] [(h0, oX9 b), (b 2, .inl (cQ, 3, .inr (.inr (.inr (.inr (fun _ => none))))))] sz (fun (r : Int32) (u : Unit) => (r = if 0 ≤ p0.toInt ∧ p0.toInt ≤ 2 then -6 else -2)) (fun _ : Unit => [(h0, oX9 b), (b 2, .inl (cQ, 3, .inr (.inr (.inr (.inr (fun _ => none))))))]) 0 0 := by
  refine CI.go (cc := cX9_back) (maxL := 2) (ret := (some .int)) (by decide) rfl (Nat.le_of_ble_eq_true rfl) ?_
  intro p e s m below meth c A ls Q hBd hret
  obtain ⟨hx, hb, hr, hml, hts, hown, hlk, hnm, hP, hK, hD, hA, hZ, hl⟩ := hBd
  have hown : s.vm.findClass RX9 = some m.cls := hown
  have hl : lv_has ls 2 [(0, .ref h0), (1, .int p0)] := hl
  have hS : va_S A s.heap s.heap [] := va_S.rf
  refine lv_iload_n hx hb dX9_back_0 rfl (lv_at hl 1 rfl) ?_
  refine lv_if_lt (tgt := 9) hx hb dX9_back_1 (by decide) (fun c1 => ?_) (fun c1 => ?_)
  · have c1 := i_lt rfl ki_0 c1
    refine lv_bipush (v := (-2)) hx hb dX9_back_9 (by decide) ?_
    exact hret _ _ _ _ (-2) () hP hD hS dX9_back_11 (by (repeat' split) <;> first | exact rfl | (exfalso; omega))
  · have c1 := i_nlt rfl ki_0 c1
    refine lv_iload_n hx hb dX9_back_4 rfl (lv_at hl 1 rfl) ?_
    refine lv_iconst (v := 3) hx hb dX9_back_5 (by decide) ?_
    refine lv_icmp_lt (tgt := 12) hx hb dX9_back_6 (by decide) (fun c2 => ?_) (fun c2 => ?_)
    · have c2 := i_lt rfl ki_3 c2
      refine lv_aload_n hx hb dX9_back_12 rfl (lv_at hl 0 rfl) ?_
      refine va_get (D := G) (ci := 9) (v := .ref (b 2)) (C := RX9) (T := TX9) (N := 11) hx hb hts iG_X9 hown hK hP 0 rfl rfl 2 (by decide) (hts _ w_353) (fun _ h9 => h9) rfl dX9_back_13 ?_
      refine lv_iload_n hx hb dX9_back_16 rfl (lv_at hl 1 rfl) ?_
      refine va_aldq hx hb hK hP 1 4 rfl rfl (ix_in rfl (by omega) (by omega)) dX9_back_17 ?_
      refine W.eq (g2 := F0 m 18 ls [.null]) rfl ?_
      refine lv_ifnonnullN hx hb dX9_back_18 ?_
      refine lv_bipush (v := (-6)) hx hb dX9_back_21 (by decide) ?_
      exact hret _ _ _ _ (-6) () hP hD hS dX9_back_23 (by (repeat' split) <;> first | exact rfl | (exfalso; omega))
    · have c2 := i_nlt rfl ki_3 c2
      refine lv_bipush (v := (-2)) hx hb dX9_back_9 (by decide) ?_
      exact hret _ _ _ _ (-2) () hP hD hS dX9_back_11 (by (repeat' split) <;> first | exact rfl | (exfalso; omega))
end
