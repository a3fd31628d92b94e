theorem wp_79 : Cond.selects "WidowRoads$Rows" yX5_clear yX5_clear ∈ GW := GW_p 79 (by decide +kernel) rfl
theorem wp_80 : Cond.selects "WidowRoads$Rows" yX5_put yX5_put ∈ GW := GW_p 80 (by decide +kernel) rfl
theorem wp_81 : Cond.selects "WidowRoads$Rows" yX5_holds yX5_holds ∈ GW := GW_p 81 (by decide +kernel) rfl
theorem wp_82 : Cond.selects "WidowRoads$Rows" yX5_move yX5_move ∈ GW := GW_p 82 (by decide +kernel) rfl
theorem w_1161 : Jvm.Cond.instanceMethod ({ cls := "WidowRoads$Rows", name := "clear", desc := "(III)V" } : Jvm.MethodName) ∈ GW := GW_t 1161 (by decide +kernel) rfl
theorem w_1162 : Jvm.Cond.code ({ cls := "WidowRoads$Rows", name := "clear", desc := "(III)V" } : Jvm.MethodName) prog_7_method_4_code (5 : Nat) (Option.none : Option Jvm.ClassFile.FieldType) ∈ GW := GW_t 1162 (by decide +kernel) rfl
theorem w_1169 : Jvm.Cond.instanceMethod ({ cls := "WidowRoads$Rows", name := "put", desc := "(IIJ)V" } : Jvm.MethodName) ∈ GW := GW_t 1169 (by decide +kernel) rfl
theorem w_1170 : Jvm.Cond.code ({ cls := "WidowRoads$Rows", name := "put", desc := "(IIJ)V" } : Jvm.MethodName) prog_7_method_5_code (5 : Nat) (Option.none : Option Jvm.ClassFile.FieldType) ∈ GW := GW_t 1170 (by decide +kernel) rfl
theorem w_1180 : Jvm.Cond.instanceMethod ({ cls := "WidowRoads$Rows", name := "holds", desc := "(III)Z" } : Jvm.MethodName) ∈ GW := GW_t 1180 (by decide +kernel) rfl
theorem w_1181 : Jvm.Cond.code ({ cls := "WidowRoads$Rows", name := "holds", desc := "(III)Z" } : Jvm.MethodName) prog_7_method_7_code (4 : Nat) (Option.some Jvm.ClassFile.FieldType.boolean) ∈ GW := GW_t 1181 (by decide +kernel) rfl
theorem w_1184 : Jvm.Cond.instanceMethod ({ cls := "WidowRoads$Rows", name := "move", desc := "(IIIII)V" } : Jvm.MethodName) ∈ GW := GW_t 1184 (by decide +kernel) rfl
theorem w_1185 : Jvm.Cond.code ({ cls := "WidowRoads$Rows", name := "move", desc := "(IIIII)V" } : Jvm.MethodName) prog_7_method_8_code (6 : Nat) (Option.none : Option Jvm.ClassFile.FieldType) ∈ GW := GW_t 1185 (by decide +kernel) rfl
theorem nw_325 : Jvm.Cond.fieldLinkNest "WidowRoads" (404 : Nat) "WidowRoads$Rows" "widths" "[I" "WidowRoads" ∈ tables_1 := List.mem_of_getElem? (i := 325) (by decide +kernel)
theorem nw_327 : Jvm.Cond.fieldLinkNest "WidowRoads" (398 : Nat) "WidowRoads$Rows" "sizes" "[I" "WidowRoads" ∈ tables_1 := List.mem_of_getElem? (i := 327) (by decide +kernel)
theorem nw_1159 : Jvm.Cond.methodLinkNest "WidowRoads" (391 : Nat) ({ cls := "WidowRoads$Rows", name := "clear", desc := "(III)V" } : Jvm.MethodName) "WidowRoads" ∈ tables_1 := List.mem_of_getElem? (i := 1159) (by decide +kernel)
theorem nw_1167 : Jvm.Cond.methodLinkNest "WidowRoads" (401 : Nat) ({ cls := "WidowRoads$Rows", name := "put", desc := "(IIJ)V" } : Jvm.MethodName) "WidowRoads" ∈ tables_1 := List.mem_of_getElem? (i := 1167) (by decide +kernel)
theorem nw_1178 : Jvm.Cond.methodLinkNest "WidowRoads" (407 : Nat) ({ cls := "WidowRoads$Rows", name := "holds", desc := "(III)Z" } : Jvm.MethodName) "WidowRoads" ∈ tables_1 := List.mem_of_getElem? (i := 1178) (by decide +kernel)
theorem nw_1182 : Jvm.Cond.methodLinkNest "WidowRoads" (411 : Nat) ({ cls := "WidowRoads$Rows", name := "move", desc := "(IIIII)V" } : Jvm.MethodName) "WidowRoads" ∈ tables_1 := List.mem_of_getElem? (i := 1182) (by decide +kernel)
theorem hd_X5_clear : yX5_clear.cls ≠ "java/lang/invoke/MethodHandle" ∧ yX5_clear.cls ≠ "java/lang/invoke/VarHandle" ∧ (parseMethodDescriptor yX5_clear.desc).map (fun d => d.parameters.length) = some 3 := by decide +kernel
theorem hd_X5_holds : yX5_holds.cls ≠ "java/lang/invoke/MethodHandle" ∧ yX5_holds.cls ≠ "java/lang/invoke/VarHandle" ∧ (parseMethodDescriptor yX5_holds.desc).map (fun d => d.parameters.length) = some 3 := by decide +kernel
theorem hd_X5_move : yX5_move.cls ≠ "java/lang/invoke/MethodHandle" ∧ yX5_move.cls ≠ "java/lang/invoke/VarHandle" ∧ (parseMethodDescriptor yX5_move.desc).map (fun d => d.parameters.length) = some 5 := by decide +kernel
theorem hd_X5_put : yX5_put.cls ≠ "java/lang/invoke/MethodHandle" ∧ yX5_put.cls ≠ "java/lang/invoke/VarHandle" ∧ (parseMethodDescriptor yX5_put.desc).map (fun d => d.parameters.length) = some 3 := by decide +kernel
theorem dX9_paste_0 : decode cX9_paste 0 = .ok (.iload_n 1, 1) := by decide +kernel
theorem dX9_paste_1 : decode cX9_paste 1 = .ok (.invokestatic 388, 3) := by decide +kernel
theorem dX9_paste_4 : decode cX9_paste 4 = .ok (.ifCond .eq 10, 3) := by decide +kernel
theorem dX9_paste_7 : decode cX9_paste 7 = .ok (.iload_n 3, 1) := by decide +kernel
theorem dX9_paste_8 : decode cX9_paste 8 = .ok (.invokestatic 388, 3) := by decide +kernel
theorem dX9_paste_11 : decode cX9_paste 11 = .ok (.ifCond .ne 6, 3) := by decide +kernel
theorem dX9_paste_14 : decode cX9_paste 14 = .ok (.bipush (-2), 2) := by decide +kernel
theorem dX9_paste_16 : decode cX9_paste 16 = .ok (.ireturn, 1) := by decide +kernel
theorem dX9_paste_17 : decode cX9_paste 17 = .ok (.aload_n 0, 1) := by decide +kernel
theorem dX9_paste_18 : decode cX9_paste 18 = .ok (.getfield 61, 3) := by decide +kernel
theorem dX9_paste_21 : decode cX9_paste 21 = .ok (.iload_n 1, 1) := by decide +kernel
theorem dX9_paste_22 : decode cX9_paste 22 = .ok (.invokevirtual 395, 3) := by decide +kernel
theorem dX9_paste_25 : decode cX9_paste 25 = .ok (.ifCond .ne 14, 3) := by decide +kernel
theorem dX9_paste_28 : decode cX9_paste 28 = .ok (.aload_n 0, 1) := by decide +kernel
theorem dX9_paste_29 : decode cX9_paste 29 = .ok (.getfield 61, 3) := by decide +kernel
theorem dX9_paste_32 : decode cX9_paste 32 = .ok (.iload_n 3, 1) := by decide +kernel
theorem dX9_paste_33 : decode cX9_paste 33 = .ok (.invokevirtual 395, 3) := by decide +kernel
theorem dX9_paste_36 : decode cX9_paste 36 = .ok (.ifCond .eq 6, 3) := by decide +kernel
theorem dX9_paste_39 : decode cX9_paste 39 = .ok (.bipush (-6), 2) := by decide +kernel
theorem dX9_paste_41 : decode cX9_paste 41 = .ok (.ireturn, 1) := by decide +kernel
theorem dX9_paste_42 : decode cX9_paste 42 = .ok (.aload_n 0, 1) := by decide +kernel
theorem dX9_paste_43 : decode cX9_paste 43 = .ok (.getfield 61, 3) := by decide +kernel
theorem dX9_paste_46 : decode cX9_paste 46 = .ok (.getfield 404, 3) := by decide +kernel
theorem dX9_paste_49 : decode cX9_paste 49 = .ok (.iload_n 1, 1) := by decide +kernel
theorem dX9_paste_50 : decode cX9_paste 50 = .ok (.iaload, 1) := by decide +kernel
theorem dX9_paste_51 : decode cX9_paste 51 = .ok (.aload_n 0, 1) := by decide +kernel
theorem dX9_paste_52 : decode cX9_paste 52 = .ok (.getfield 61, 3) := by decide +kernel
theorem dX9_paste_55 : decode cX9_paste 55 = .ok (.getfield 404, 3) := by decide +kernel
theorem dX9_paste_58 : decode cX9_paste 58 = .ok (.iload_n 3, 1) := by decide +kernel
theorem dX9_paste_59 : decode cX9_paste 59 = .ok (.iaload, 1) := by decide +kernel
theorem dX9_paste_60 : decode cX9_paste 60 = .ok (.if_icmp .eq 6, 3) := by decide +kernel
theorem dX9_paste_63 : decode cX9_paste 63 = .ok (.bipush (-8), 2) := by decide +kernel
theorem dX9_paste_65 : decode cX9_paste 65 = .ok (.ireturn, 1) := by decide +kernel
theorem dX9_paste_66 : decode cX9_paste 66 = .ok (.aload_n 0, 1) := by decide +kernel
theorem dX9_paste_67 : decode cX9_paste 67 = .ok (.getfield 61, 3) := by decide +kernel
theorem dX9_paste_70 : decode cX9_paste 70 = .ok (.iload_n 1, 1) := by decide +kernel
theorem dX9_paste_71 : decode cX9_paste 71 = .ok (.iload_n 2, 1) := by decide +kernel
theorem dX9_paste_72 : decode cX9_paste 72 = .ok (.iload 5, 2) := by decide +kernel
theorem dX9_paste_74 : decode cX9_paste 74 = .ok (.invokevirtual 407, 3) := by decide +kernel
theorem dX9_paste_77 : decode cX9_paste 77 = .ok (.ifCond .eq 18, 3) := by decide +kernel
theorem dX9_paste_80 : decode cX9_paste 80 = .ok (.aload_n 0, 1) := by decide +kernel
theorem dX9_paste_81 : decode cX9_paste 81 = .ok (.getfield 61, 3) := by decide +kernel
theorem dX9_paste_84 : decode cX9_paste 84 = .ok (.iload_n 3, 1) := by decide +kernel
theorem dX9_paste_85 : decode cX9_paste 85 = .ok (.iload 4, 2) := by decide +kernel
theorem dX9_paste_87 : decode cX9_paste 87 = .ok (.iload 5, 2) := by decide +kernel
theorem dX9_paste_89 : decode cX9_paste 89 = .ok (.invokevirtual 407, 3) := by decide +kernel
theorem dX9_paste_92 : decode cX9_paste 92 = .ok (.ifCond .ne 6, 3) := by decide +kernel
theorem dX9_paste_95 : decode cX9_paste 95 = .ok (.bipush (-7), 2) := by decide +kernel
theorem dX9_paste_97 : decode cX9_paste 97 = .ok (.ireturn, 1) := by decide +kernel
theorem dX9_paste_98 : decode cX9_paste 98 = .ok (.aload_n 0, 1) := by decide +kernel
theorem dX9_paste_99 : decode cX9_paste 99 = .ok (.getfield 61, 3) := by decide +kernel
theorem dX9_paste_102 : decode cX9_paste 102 = .ok (.iload_n 1, 1) := by decide +kernel
theorem dX9_paste_103 : decode cX9_paste 103 = .ok (.iload_n 2, 1) := by decide +kernel
theorem dX9_paste_104 : decode cX9_paste 104 = .ok (.iload_n 3, 1) := by decide +kernel
theorem dX9_paste_105 : decode cX9_paste 105 = .ok (.iload 4, 2) := by decide +kernel
theorem dX9_paste_107 : decode cX9_paste 107 = .ok (.iload 5, 2) := by decide +kernel
theorem dX9_paste_109 : decode cX9_paste 109 = .ok (.invokevirtual 411, 3) := by decide +kernel
theorem dX9_paste_112 : decode cX9_paste 112 = .ok (.iconst 0, 1) := by decide +kernel
theorem dX9_paste_113 : decode cX9_paste 113 = .ok (.ireturn, 1) := by decide +kernel
theorem dX9_row_0 : decode cX9_row 0 = .ok (.iload_n 1, 1) := by decide +kernel
theorem dX9_row_1 : decode cX9_row 1 = .ok (.invokestatic 388, 3) := by decide +kernel
theorem dX9_row_4 : decode cX9_row 4 = .ok (.ifCond .eq 18, 3) := by decide +kernel
theorem dX9_row_7 : decode cX9_row 7 = .ok (.iload_n 2, 1) := by decide +kernel
theorem dX9_row_8 : decode cX9_row 8 = .ok (.ifCond .lt 14, 3) := by decide +kernel
theorem dX9_row_11 : decode cX9_row 11 = .ok (.iload_n 2, 1) := by decide +kernel
theorem dX9_row_12 : decode cX9_row 12 = .ok (.iconst 3, 1) := by decide +kernel
theorem dX9_row_13 : decode cX9_row 13 = .ok (.if_icmp .gt 9, 3) := by decide +kernel
theorem dX9_row_16 : decode cX9_row 16 = .ok (.iload_n 3, 1) := by decide +kernel
theorem dX9_row_17 : decode cX9_row 17 = .ok (.bipush 60, 2) := by decide +kernel
theorem dX9_row_19 : decode cX9_row 19 = .ok (.if_icmp .le 6, 3) := by decide +kernel
theorem dX9_row_22 : decode cX9_row 22 = .ok (.bipush (-2), 2) := by decide +kernel
theorem dX9_row_24 : decode cX9_row 24 = .ok (.ireturn, 1) := by decide +kernel
theorem dX9_row_25 : decode cX9_row 25 = .ok (.iload_n 3, 1) := by decide +kernel
theorem dX9_row_26 : decode cX9_row 26 = .ok (.ifCond .ge 6, 3) := by decide +kernel
theorem dX9_row_29 : decode cX9_row 29 = .ok (.bipush (-3), 2) := by decide +kernel
theorem dX9_row_31 : decode cX9_row 31 = .ok (.ireturn, 1) := by decide +kernel
theorem dX9_row_32 : decode cX9_row 32 = .ok (.aload_n 0, 1) := by decide +kernel
theorem dX9_row_33 : decode cX9_row 33 = .ok (.getfield 61, 3) := by decide +kernel
theorem dX9_row_36 : decode cX9_row 36 = .ok (.iload_n 1, 1) := by decide +kernel
theorem dX9_row_37 : decode cX9_row 37 = .ok (.iload_n 2, 1) := by decide +kernel
theorem dX9_row_38 : decode cX9_row 38 = .ok (.iload_n 3, 1) := by decide +kernel
theorem dX9_row_39 : decode cX9_row 39 = .ok (.invokevirtual 391, 3) := by decide +kernel
theorem dX9_row_42 : decode cX9_row 42 = .ok (.iconst 0, 1) := by decide +kernel
theorem dX9_row_43 : decode cX9_row 43 = .ok (.ireturn, 1) := by decide +kernel
theorem dX9_write_0 : decode cX9_write 0 = .ok (.iload_n 1, 1) := by decide +kernel
theorem dX9_write_1 : decode cX9_write 1 = .ok (.invokestatic 388, 3) := by decide +kernel
theorem dX9_write_4 : decode cX9_write 4 = .ok (.ifCond .ne 6, 3) := by decide +kernel
theorem dX9_write_7 : decode cX9_write 7 = .ok (.bipush (-2), 2) := by decide +kernel
theorem dX9_write_9 : decode cX9_write 9 = .ok (.ireturn, 1) := by decide +kernel
theorem dX9_write_10 : decode cX9_write 10 = .ok (.aload_n 0, 1) := by decide +kernel
theorem dX9_write_11 : decode cX9_write 11 = .ok (.getfield 61, 3) := by decide +kernel
theorem dX9_write_14 : decode cX9_write 14 = .ok (.iload_n 1, 1) := by decide +kernel
theorem dX9_write_15 : decode cX9_write 15 = .ok (.invokevirtual 395, 3) := by decide +kernel
theorem dX9_write_18 : decode cX9_write 18 = .ok (.ifCond .eq 6, 3) := by decide +kernel
theorem dX9_write_21 : decode cX9_write 21 = .ok (.bipush (-6), 2) := by decide +kernel
theorem dX9_write_23 : decode cX9_write 23 = .ok (.ireturn, 1) := by decide +kernel
theorem dX9_write_24 : decode cX9_write 24 = .ok (.iload_n 2, 1) := by decide +kernel
theorem dX9_write_25 : decode cX9_write 25 = .ok (.ifCond .lt 16, 3) := by decide +kernel
theorem dX9_write_28 : decode cX9_write 28 = .ok (.iload_n 2, 1) := by decide +kernel
theorem dX9_write_29 : decode cX9_write 29 = .ok (.aload_n 0, 1) := by decide +kernel
theorem dX9_write_30 : decode cX9_write 30 = .ok (.getfield 61, 3) := by decide +kernel
theorem dX9_write_33 : decode cX9_write 33 = .ok (.getfield 398, 3) := by decide +kernel
theorem dX9_write_36 : decode cX9_write 36 = .ok (.iload_n 1, 1) := by decide +kernel
theorem dX9_write_37 : decode cX9_write 37 = .ok (.iaload, 1) := by decide +kernel
theorem dX9_write_38 : decode cX9_write 38 = .ok (.if_icmp .lt 6, 3) := by decide +kernel
theorem dX9_write_41 : decode cX9_write 41 = .ok (.bipush (-7), 2) := by decide +kernel
theorem dX9_write_43 : decode cX9_write 43 = .ok (.ireturn, 1) := by decide +kernel
theorem dX9_write_44 : decode cX9_write 44 = .ok (.aload_n 0, 1) := by decide +kernel
theorem dX9_write_45 : decode cX9_write 45 = .ok (.getfield 61, 3) := by decide +kernel
theorem dX9_write_48 : decode cX9_write 48 = .ok (.iload_n 1, 1) := by decide +kernel
theorem dX9_write_49 : decode cX9_write 49 = .ok (.iload_n 2, 1) := by decide +kernel
theorem dX9_write_50 : decode cX9_write 50 = .ok (.lload_n 3, 1) := by decide +kernel
theorem dX9_write_51 : decode cX9_write 51 = .ok (.invokevirtual 401, 3) := by decide +kernel
theorem dX9_write_54 : decode cX9_write 54 = .ok (.iconst 0, 1) := by decide +kernel
theorem dX9_write_55 : decode cX9_write 55 = .ok (.ireturn, 1) := by decide +kernel
set_option maxHeartbeats 4000000 in
set_option maxRecDepth 100000 in
theorem f_X9_row (l : Launch) (G : va_G) (cI cJ cZ cB cQ : ClassId) (sz : Nat) (h0 : Nat) (p0 : Int32) (p1 : Int32) (p2 : Int32) (b : Nat → Nat) (bw : Nat → Nat) (w_f0 : Nat → Int64) (w_f1 : Nat → Int32) (w_f2 : Nat → Int32) (w_f3 : Nat → Int32) (ha_w_f1 : ai w_f1 4 0 1) (ha_w_f3 : ai w_f3 4 0 60) : CI l yX9_row (wl_ yX9_row cX9_row 4 (some .int)) ({ frames := 1, cells := 0, slots := 0, locals := 24 } : Room) G (TY cI cJ cZ cB cQ) [.ref h0, .int p0, .int p1, .int p2] [(h0, oX9 b), (b 8, oX5 bw), (bw 0, .inl (cJ, 240, .inr (.inl w_f0))), (bw 1, .inl (cZ, 4, .inl w_f1)), (bw 2, .inl (cI, 4, .inl w_f2)), (bw 3, .inl (cI, 4, .inl w_f3))] sz (fun (r : Int32) (u : (Nat → Int64) × (Nat → Int32) × (Nat → Int32) × (Nat → Int32)) => ai u.2.1 4 0 1 ∧ ai u.2.2.2 4 0 60 ∧ (r = (if p0.toInt < 0 ∨ 3 < p0.toInt ∨ p1.toInt < 0 ∨ 3 < p1.toInt ∨ 60 < p2.toInt then -2 else if p2.toInt < 0 then -3 else 0) ∧ ((r = 0 ∧ 0 ≤ p0.toInt ∧ p0.toInt ≤ 3 ∧ 0 ≤ p2.toInt ∧ p2.toInt ≤ 60 ∧ u.2.1 = upd w_f1 p0.toNatClampNeg 1 ∧ u.2.2.1 = upd w_f2 p0.toNatClampNeg p1 ∧ u.2.2.2 = upd w_f3 p0.toNatClampNeg p2) ∨ (¬ r = 0 ∧ u.2.1 = w_f1 ∧ u.2.2.1 = w_f2 ∧ u.2.2.2 = w_f3)))) (fun u : (Nat → Int64) × (Nat → Int32) × (Nat → Int32) × (Nat → Int32) => [(h0, oX9 b), (b 8, oX5 bw), (bw 0, .inl (cJ, 240, .inr (.inl u.1))), (bw 1, .inl (cZ, 4, .inl u.2.1)), (bw 2, .inl (cI, 4, .inl u.2.2.1)), (bw 3, .inl (cI, 4, .inl u.2.2.2))]) 0 0 := by
  refine CI.go (cc := cX9_row) (maxL := 4) (ret := (some .int)) (by decide) rfl (Nat.le_of_ble_eq_true rfl) ?_
  intro p e s m below meth c A ls Q hBd hret
  obtain ⟨hx, hb, hr, hml, hts, hown, hlk, hnm, hP, hK, hD, hA, hZ, hl⟩ := hBd
  have hown : s.vm.findClass RX9 = some m.cls := hown
  have hl : lv_has ls 4 [(0, .ref h0), (1, .int p0), (2, .int p1), (3, .int p2)] := hl
  have hS : va_S A s.heap s.heap [] := va_S.rf
  refine lv_iload_n hx hb dX9_row_0 rfl (lv_at hl 1 rfl) ?_
  refine k_i (wc := []) (wr := [(h0, oX9 b), (b 8, oX5 bw), (bw 0, .inl (cJ, 240, .inr (.inl w_f0))), (bw 1, .inl (cZ, 4, .inl w_f1)), (bw 2, .inl (cI, 4, .inl w_f2)), (bw 3, .inl (cI, 4, .inl w_f3))]) hP hD hS hA [] [0, 1, 2, 3, 4, 5] rfl rfl rfl (by decide) (va_runS (As := [.int p0]) (rest := []) ⟨hx, hb, hml, hown, hts⟩ (f_X9_isSlot l G cI cJ cZ cB cQ _ p0 p0.toInt rfl) (va_cwS 1 hts (gS w_951 w_952 w_1 w_953) rfl rfl rfl hd_X9_isSlot ⟨Nat.le_of_ble_eq_true rfl, Nat.le_of_ble_eq_true rfl⟩) (mS hK hZ hP hD [] rfl rfl [.int p0]) rfl rfl hl.1 rfl (lv_room (Nat.le_of_ble_eq_true rfl)) dX9_row_1 ⟨Nat.le_of_ble_eq_true rfl, Nat.le_of_ble_eq_true rfl⟩) (fun r1 u2 H locs hw3 hP hD hS => ?_)
  try dsimp only at hw3
  have hP : va_P G vwCl [(h0, oX9 b), (b 8, oX5 bw), (bw 0, .inl (cJ, 240, .inr (.inl w_f0))), (bw 1, .inl (cZ, 4, .inl w_f1)), (bw 2, .inl (cI, 4, .inl w_f2)), (bw 3, .inl (cI, 4, .inl w_f3))] H := hP
  have hD : va_D A [(h0, oX9 b), (b 8, oX5 bw), (bw 0, .inl (cJ, 240, .inr (.inl w_f0))), (bw 1, .inl (cZ, 4, .inl w_f1)), (bw 2, .inl (cI, 4, .inl w_f2)), (bw 3, .inl (cI, 4, .inl w_f3))] := hD
  rcases hw3 with ⟨rfl, a5, a6⟩ | ⟨rfl, a7⟩
  · skip
    refine lv_if_eq (tgt := 22) hx hb dX9_row_4 (by decide) (fun c8 => absurd c8 (by decide)) (fun c8 => ?_)
    refine lv_iload_n hx hb dX9_row_7 rfl (lv_at hl 2 rfl) ?_
    refine lv_if_lt (tgt := 22) hx hb dX9_row_8 (by decide) (fun c9 => ?_) (fun c9 => ?_)
    · have c9 := i_lt rfl ki_0 c9
      refine lv_bipush (v := (-2)) hx hb dX9_row_22 (by decide) ?_
      exact hret _ _ _ _ (-2) (w_f0, w_f1, w_f2, w_f3) hP hD hS dX9_row_24 (show ai w_f1 4 0 1 ∧ ai w_f3 4 0 60 ∧ (((-2) : Int32) = (if p0.toInt < 0 ∨ 3 < p0.toInt ∨ p1.toInt < 0 ∨ 3 < p1.toInt ∨ 60 < p2.toInt then -2 else if p2.toInt < 0 then -3 else 0) ∧ ((((-2) : Int32) = 0 ∧ 0 ≤ p0.toInt ∧ p0.toInt ≤ 3 ∧ 0 ≤ p2.toInt ∧ p2.toInt ≤ 60 ∧ w_f1 = upd w_f1 p0.toNatClampNeg 1 ∧ w_f2 = upd w_f2 p0.toNatClampNeg p1 ∧ w_f3 = upd w_f3 p0.toNatClampNeg p2) ∨ (¬ ((-2) : Int32) = 0 ∧ w_f1 = w_f1 ∧ w_f2 = w_f2 ∧ w_f3 = w_f3))) from ⟨ha_w_f1, ha_w_f3, ⟨(by (repeat' split) <;> first | rfl | (exfalso; omega)), Or.inr ⟨by decide, rfl, rfl, rfl⟩⟩⟩)
    · have c9 := i_nlt rfl ki_0 c9
      refine lv_iload_n hx hb dX9_row_11 rfl (lv_at hl 2 rfl) ?_
      refine lv_iconst (v := 3) hx hb dX9_row_12 (by decide) ?_
      refine lv_icmp_gt (tgt := 22) hx hb dX9_row_13 (by decide) (fun c10 => ?_) (fun c10 => ?_)
      · have c10 := i_lt ki_3 rfl c10
        refine lv_bipush (v := (-2)) hx hb dX9_row_22 (by decide) ?_
        exact hret _ _ _ _ (-2) (w_f0, w_f1, w_f2, w_f3) hP hD hS dX9_row_24 (show ai w_f1 4 0 1 ∧ ai w_f3 4 0 60 ∧ (((-2) : Int32) = (if p0.toInt < 0 ∨ 3 < p0.toInt ∨ p1.toInt < 0 ∨ 3 < p1.toInt ∨ 60 < p2.toInt then -2 else if p2.toInt < 0 then -3 else 0) ∧ ((((-2) : Int32) = 0 ∧ 0 ≤ p0.toInt ∧ p0.toInt ≤ 3 ∧ 0 ≤ p2.toInt ∧ p2.toInt ≤ 60 ∧ w_f1 = upd w_f1 p0.toNatClampNeg 1 ∧ w_f2 = upd w_f2 p0.toNatClampNeg p1 ∧ w_f3 = upd w_f3 p0.toNatClampNeg p2) ∨ (¬ ((-2) : Int32) = 0 ∧ w_f1 = w_f1 ∧ w_f2 = w_f2 ∧ w_f3 = w_f3))) from ⟨ha_w_f1, ha_w_f3, ⟨(by (repeat' split) <;> first | rfl | (exfalso; omega)), Or.inr ⟨by decide, rfl, rfl, rfl⟩⟩⟩)
      · have c10 := i_nlt ki_3 rfl c10
        refine lv_iload_n hx hb dX9_row_16 rfl (lv_at hl 3 rfl) ?_
        refine lv_bipush (v := 60) hx hb dX9_row_17 (by decide) ?_
        refine lv_icmp_le (tgt := 25) hx hb dX9_row_19 (by decide) (fun c11 => ?_) (fun c11 => ?_)
        · have c11 := i_le rfl ki_60 c11
          refine lv_iload_n hx hb dX9_row_25 rfl (lv_at hl 3 rfl) ?_
          refine lv_if_ge (tgt := 32) hx hb dX9_row_26 (by decide) (fun c12 => ?_) (fun c12 => ?_)
          · have c12 := i_le ki_0 rfl c12
            refine lv_aload_n hx hb dX9_row_32 rfl (lv_at hl 0 rfl) ?_
            refine va_get (D := G) (ci := 9) (v := .ref (b 8)) (C := RX9) (T := TX9) (N := 11) hx hb hts iG_X9 hown hK hP 0 rfl rfl 8 (by decide) (hts _ w_359) (fun _ h9 => h9) rfl dX9_row_33 ?_
            refine lv_iload_n hx hb dX9_row_36 rfl (lv_at hl 1 rfl) ?_
            refine lv_iload_n hx hb dX9_row_37 rfl (lv_at hl 2 rfl) ?_
            refine lv_iload_n hx hb dX9_row_38 rfl (lv_at hl 3 rfl) ?_
            refine k_v (wc := [(b 8, oX5 bw), (bw 0, .inl (cJ, 240, .inr (.inl w_f0))), (bw 1, .inl (cZ, 4, .inl w_f1)), (bw 2, .inl (cI, 4, .inl w_f2)), (bw 3, .inl (cI, 4, .inl w_f3))]) (wr := [(h0, oX9 b)]) hP hD hS hA [1, 2, 3, 4, 5] [0] rfl rfl rfl (by decide) (va_runVN (As := [.int p0, .int p1, .int p2]) (rest := []) ⟨hx, hb, hml, hown, hts⟩ (f_X5_clear l G cI cJ cZ cB cQ _ (b 8) p0 p1 p2 bw w_f0 w_f1 w_f2 w_f3 (by omega) (by omega) (by omega) (by omega) ha_w_f1 ha_w_f3) ⟨va_cnB (host := "WidowRoads") 3 hts (gW w_1162) rfl rfl rfl (nz_nw hZ nw_1159 rfl) (hts _ w_9) hd_X5_clear ⟨Nat.le_of_ble_eq_true rfl, Nat.le_of_ble_eq_true rfl⟩, (hts _ w_1161), (hts _ wp_79)⟩ (mV hK hZ hP hD [1, 2, 3, 4, 5] rfl rfl [.int p0, .int p1, .int p2] 1 5 rfl rfl) rfl rfl hl.1 rfl (lv_room (Nat.le_of_ble_eq_true rfl)) dX9_row_39 ⟨Nat.le_of_ble_eq_true rfl, Nat.le_of_ble_eq_true rfl⟩) (fun u14 H locs hw15 hP hD hS => ?_)
            obtain ⟨o_f0o16, o_f1o17, o_f2o18, o_f3o19⟩ := u14
            try dsimp only at hw15
            have hP : va_P G vwCl [(h0, oX9 b), (b 8, oX5 bw), (bw 0, .inl (cJ, 240, .inr (.inl o_f0o16))), (bw 1, .inl (cZ, 4, .inl o_f1o17)), (bw 2, .inl (cI, 4, .inl o_f2o18)), (bw 3, .inl (cI, 4, .inl o_f3o19))] H := hP
            have hD : va_D A [(h0, oX9 b), (b 8, oX5 bw), (bw 0, .inl (cJ, 240, .inr (.inl o_f0o16))), (bw 1, .inl (cZ, 4, .inl o_f1o17)), (bw 2, .inl (cI, 4, .inl o_f2o18)), (bw 3, .inl (cI, 4, .inl o_f3o19))] := hD
            obtain ⟨w20, w21, w22⟩ : ai o_f1o17 4 0 1 ∧ ai o_f3o19 4 0 60 ∧ (o_f1o17 = upd w_f1 p0.toNatClampNeg 1 ∧ o_f2o18 = upd w_f2 p0.toNatClampNeg p1 ∧ o_f3o19 = upd w_f3 p0.toNatClampNeg p2) := hw15
            refine lv_iconst (v := 0) hx hb dX9_row_42 (by decide) ?_
            exact hret _ _ _ _ 0 (o_f0o16, o_f1o17, o_f2o18, o_f3o19) hP hD hS dX9_row_43 (show ai o_f1o17 4 0 1 ∧ ai o_f3o19 4 0 60 ∧ ((0 : Int32) = (if p0.toInt < 0 ∨ 3 < p0.toInt ∨ p1.toInt < 0 ∨ 3 < p1.toInt ∨ 60 < p2.toInt then -2 else if p2.toInt < 0 then -3 else 0) ∧ (((0 : Int32) = 0 ∧ 0 ≤ p0.toInt ∧ p0.toInt ≤ 3 ∧ 0 ≤ p2.toInt ∧ p2.toInt ≤ 60 ∧ o_f1o17 = upd w_f1 p0.toNatClampNeg 1 ∧ o_f2o18 = upd w_f2 p0.toNatClampNeg p1 ∧ o_f3o19 = upd w_f3 p0.toNatClampNeg p2) ∨ (¬ (0 : Int32) = 0 ∧ o_f1o17 = w_f1 ∧ o_f2o18 = w_f2 ∧ o_f3o19 = w_f3))) from ⟨w20, w21, ⟨(by (repeat' split) <;> first | rfl | (exfalso; omega)), Or.inl ⟨rfl, by omega, by omega, by omega, by omega, w22⟩⟩⟩)
          · have c12 := i_nle ki_0 rfl c12
            refine lv_bipush (v := (-3)) hx hb dX9_row_29 (by decide) ?_
            exact hret _ _ _ _ (-3) (w_f0, w_f1, w_f2, w_f3) hP hD hS dX9_row_31 (show ai w_f1 4 0 1 ∧ ai w_f3 4 0 60 ∧ (((-3) : Int32) = (if p0.toInt < 0 ∨ 3 < p0.toInt ∨ p1.toInt < 0 ∨ 3 < p1.toInt ∨ 60 < p2.toInt then -2 else if p2.toInt < 0 then -3 else 0) ∧ ((((-3) : Int32) = 0 ∧ 0 ≤ p0.toInt ∧ p0.toInt ≤ 3 ∧ 0 ≤ p2.toInt ∧ p2.toInt ≤ 60 ∧ w_f1 = upd w_f1 p0.toNatClampNeg 1 ∧ w_f2 = upd w_f2 p0.toNatClampNeg p1 ∧ w_f3 = upd w_f3 p0.toNatClampNeg p2) ∨ (¬ ((-3) : Int32) = 0 ∧ w_f1 = w_f1 ∧ w_f2 = w_f2 ∧ w_f3 = w_f3))) from ⟨ha_w_f1, ha_w_f3, ⟨(by (repeat' split) <;> first | rfl | (exfalso; omega)), Or.inr ⟨by decide, rfl, rfl, rfl⟩⟩⟩)
        · have c11 := i_nle rfl ki_60 c11
          refine lv_bipush (v := (-2)) hx hb dX9_row_22 (by decide) ?_
          exact hret _ _ _ _ (-2) (w_f0, w_f1, w_f2, w_f3) hP hD hS dX9_row_24 (show ai w_f1 4 0 1 ∧ ai w_f3 4 0 60 ∧ (((-2) : Int32) = (if p0.toInt < 0 ∨ 3 < p0.toInt ∨ p1.toInt < 0 ∨ 3 < p1.toInt ∨ 60 < p2.toInt then -2 else if p2.toInt < 0 then -3 else 0) ∧ ((((-2) : Int32) = 0 ∧ 0 ≤ p0.toInt ∧ p0.toInt ≤ 3 ∧ 0 ≤ p2.toInt ∧ p2.toInt ≤ 60 ∧ w_f1 = upd w_f1 p0.toNatClampNeg 1 ∧ w_f2 = upd w_f2 p0.toNatClampNeg p1 ∧ w_f3 = upd w_f3 p0.toNatClampNeg p2) ∨ (¬ ((-2) : Int32) = 0 ∧ w_f1 = w_f1 ∧ w_f2 = w_f2 ∧ w_f3 = w_f3))) from ⟨ha_w_f1, ha_w_f3, ⟨(by (repeat' split) <;> first | rfl | (exfalso; omega)), Or.inr ⟨by decide, rfl, rfl, rfl⟩⟩⟩)
  · skip
    refine lv_if_eq (tgt := 22) hx hb dX9_row_4 (by decide) (fun c23 => ?_) (fun c23 => absurd (by decide) c23)
    refine lv_bipush (v := (-2)) hx hb dX9_row_22 (by decide) ?_
    exact hret _ _ _ _ (-2) (w_f0, w_f1, w_f2, w_f3) hP hD hS dX9_row_24 (show ai w_f1 4 0 1 ∧ ai w_f3 4 0 60 ∧ (((-2) : Int32) = (if p0.toInt < 0 ∨ 3 < p0.toInt ∨ p1.toInt < 0 ∨ 3 < p1.toInt ∨ 60 < p2.toInt then -2 else if p2.toInt < 0 then -3 else 0) ∧ ((((-2) : Int32) = 0 ∧ 0 ≤ p0.toInt ∧ p0.toInt ≤ 3 ∧ 0 ≤ p2.toInt ∧ p2.toInt ≤ 60 ∧ w_f1 = upd w_f1 p0.toNatClampNeg 1 ∧ w_f2 = upd w_f2 p0.toNatClampNeg p1 ∧ w_f3 = upd w_f3 p0.toNatClampNeg p2) ∨ (¬ ((-2) : Int32) = 0 ∧ w_f1 = w_f1 ∧ w_f2 = w_f2 ∧ w_f3 = w_f3))) from ⟨ha_w_f1, ha_w_f3, ⟨(by (repeat' split) <;> first | rfl | (exfalso; omega)), Or.inr ⟨by decide, rfl, rfl, rfl⟩⟩⟩)
set_option maxHeartbeats 4000000 in
set_option maxRecDepth 100000 in
theorem f_X9_write (l : Launch) (G : va_G) (cI cJ cZ cB cQ : ClassId) (sz : Nat) (h0 : Nat) (p0 : Int32) (p1 : Int32) (p2 : Int64) (b : Nat → Nat) (bw : Nat → Nat) (w_f0 : Nat → Int64) (w_f1 : Nat → Int32) (w_f2 : Nat → Int32) (w_f3 : Nat → Int32) (ha_w_f1 : ai w_f1 4 0 1) (ha_w_f3 : ai w_f3 4 0 60) : CI l yX9_write (wl_ yX9_write cX9_write 5 (some .int)) ({ frames := 2, cells := 0, slots := 0, locals := 46 } : Room) G (TY cI cJ cZ cB cQ) [.ref h0, .int p0, .int p1, .long p2] [(h0, oX9 b), (b 8, oX5 bw), (bw 0, .inl (cJ, 240, .inr (.inl w_f0))), (bw 1, .inl (cZ, 4, .inl w_f1)), (bw 2, .inl (cI, 4, .inl w_f2)), (bw 3, .inl (cI, 4, .inl w_f3))] sz (fun (r : Int32) (u : (Nat → Int64)) => (r = (if p0.toInt < 0 ∨ 3 < p0.toInt then -2 else if (w_f1 p0.toNatClampNeg).toInt = 0 then -6 else if p1.toInt < 0 ∨ (w_f3 p0.toNatClampNeg).toInt ≤ p1.toInt then -7 else 0))) (fun u : (Nat → Int64) => [(h0, oX9 b), (b 8, oX5 bw), (bw 0, .inl (cJ, 240, .inr (.inl u))), (bw 1, .inl (cZ, 4, .inl w_f1)), (bw 2, .inl (cI, 4, .inl w_f2)), (bw 3, .inl (cI, 4, .inl w_f3))]) 0 0 := by
  refine CI.go (cc := cX9_write) (maxL := 5) (ret := (some .int)) (by decide) rfl (Nat.le_of_ble_eq_true rfl) ?_
  intro p e s m below meth c A ls Q hBd hret
  obtain ⟨hx, hb, hr, hml, hts, hown, hlk, hnm, hP, hK, hD, hA, hZ, hl⟩ := hBd
  have hown : s.vm.findClass RX9 = some m.cls := hown
  have hl : lv_has ls 5 [(0, .ref h0), (1, .int p0), (2, .int p1), (3, .long p2)] := hl
  have hS : va_S A s.heap s.heap [] := va_S.rf
  refine lv_iload_n hx hb dX9_write_0 rfl (lv_at hl 1 rfl) ?_
  refine k_i (wc := []) (wr := [(h0, oX9 b), (b 8, oX5 bw), (bw 0, .inl (cJ, 240, .inr (.inl w_f0))), (bw 1, .inl (cZ, 4, .inl w_f1)), (bw 2, .inl (cI, 4, .inl w_f2)), (bw 3, .inl (cI, 4, .inl w_f3))]) hP hD hS hA [] [0, 1, 2, 3, 4, 5] rfl rfl rfl (by decide) (va_runS (As := [.int p0]) (rest := []) ⟨hx, hb, hml, hown, hts⟩ (f_X9_isSlot l G cI cJ cZ cB cQ _ p0 p0.toInt rfl) (va_cwS 1 hts (gS w_951 w_952 w_1 w_953) rfl rfl rfl hd_X9_isSlot ⟨Nat.le_of_ble_eq_true rfl, Nat.le_of_ble_eq_true rfl⟩) (mS hK hZ hP hD [] rfl rfl [.int p0]) rfl rfl hl.1 rfl (lv_room (Nat.le_of_ble_eq_true rfl)) dX9_write_1 ⟨Nat.le_of_ble_eq_true rfl, Nat.le_of_ble_eq_true rfl⟩) (fun r1 u2 H locs hw3 hP hD hS => ?_)
  try dsimp only at hw3
  have hP : va_P G vwCl [(h0, oX9 b), (b 8, oX5 bw), (bw 0, .inl (cJ, 240, .inr (.inl w_f0))), (bw 1, .inl (cZ, 4, .inl w_f1)), (bw 2, .inl (cI, 4, .inl w_f2)), (bw 3, .inl (cI, 4, .inl w_f3))] H := hP
  have hD : va_D A [(h0, oX9 b), (b 8, oX5 bw), (bw 0, .inl (cJ, 240, .inr (.inl w_f0))), (bw 1, .inl (cZ, 4, .inl w_f1)), (bw 2, .inl (cI, 4, .inl w_f2)), (bw 3, .inl (cI, 4, .inl w_f3))] := hD
  rcases hw3 with ⟨rfl, a5, a6⟩ | ⟨rfl, a7⟩
  · skip
    refine lv_if_ne (tgt := 10) hx hb dX9_write_4 (by decide) (fun c8 => ?_) (fun c8 => absurd c8 (by decide))
    refine lv_aload_n hx hb dX9_write_10 rfl (lv_at hl 0 rfl) ?_
    refine va_get (D := G) (ci := 9) (v := .ref (b 8)) (C := RX9) (T := TX9) (N := 11) hx hb hts iG_X9 hown hK hP 0 rfl rfl 8 (by decide) (hts _ w_359) (fun _ h9 => h9) rfl dX9_write_11 ?_
    refine lv_iload_n hx hb dX9_write_14 rfl (lv_at hl 1 rfl) ?_
    refine k_i (wc := [(b 8, oX5 bw), (bw 1, .inl (cZ, 4, .inl w_f1))]) (wr := [(h0, oX9 b), (bw 0, .inl (cJ, 240, .inr (.inl w_f0))), (bw 2, .inl (cI, 4, .inl w_f2)), (bw 3, .inl (cI, 4, .inl w_f3))]) hP hD hS hA [1, 3] [0, 2, 4, 5] rfl rfl rfl (by decide) (va_runVN (As := [.int p0]) (rest := []) ⟨hx, hb, hml, hown, hts⟩ (f_X5_empty l G cI cJ cZ cB cQ _ (b 8) p0 bw w_f1 (by omega) (by omega) ha_w_f1) ⟨va_cnB (host := "WidowRoads") 1 hts (gW w_957) rfl rfl rfl (nz_nw hZ nw_954 rfl) (hts _ w_9) hd_X5_empty ⟨Nat.le_of_ble_eq_true rfl, Nat.le_of_ble_eq_true rfl⟩, (hts _ w_956), (hts _ wp_60)⟩ (mV hK hZ hP hD [1, 3] rfl rfl [.int p0] 1 5 rfl rfl) rfl rfl hl.1 rfl (lv_room (Nat.le_of_ble_eq_true rfl)) dX9_write_15 ⟨Nat.le_of_ble_eq_true rfl, Nat.le_of_ble_eq_true rfl⟩) (fun r9 u10 H locs hw11 hP hD hS => ?_)
    try dsimp only at hw11
    have hP : va_P G vwCl [(h0, oX9 b), (bw 0, .inl (cJ, 240, .inr (.inl w_f0))), (bw 2, .inl (cI, 4, .inl w_f2)), (bw 3, .inl (cI, 4, .inl w_f3)), (b 8, oX5 bw), (bw 1, .inl (cZ, 4, .inl w_f1))] H := hP
    have hD : va_D A [(h0, oX9 b), (bw 0, .inl (cJ, 240, .inr (.inl w_f0))), (bw 2, .inl (cI, 4, .inl w_f2)), (bw 3, .inl (cI, 4, .inl w_f3)), (b 8, oX5 bw), (bw 1, .inl (cZ, 4, .inl w_f1))] := hD
    rcases hw11 with ⟨rfl, a13⟩ | ⟨rfl, a14⟩
    · skip
      refine lv_if_eq (tgt := 24) hx hb dX9_write_18 (by decide) (fun c15 => absurd c15 (by decide)) (fun c15 => ?_)
      refine lv_bipush (v := (-6)) hx hb dX9_write_21 (by decide) ?_
      exact hret _ _ _ _ (-6) w_f0 (hP.sub (ws' := [(h0, oX9 b), (b 8, oX5 bw), (bw 0, .inl (cJ, 240, .inr (.inl w_f0))), (bw 1, .inl (cZ, 4, .inl w_f1)), (bw 2, .inl (cI, 4, .inl w_f2)), (bw 3, .inl (cI, 4, .inl w_f3))]) [0, 4, 1, 5, 2, 3] rfl) (hD.sub (ws' := [(h0, oX9 b), (b 8, oX5 bw), (bw 0, .inl (cJ, 240, .inr (.inl w_f0))), (bw 1, .inl (cZ, 4, .inl w_f1)), (bw 2, .inl (cI, 4, .inl w_f2)), (bw 3, .inl (cI, 4, .inl w_f3))]) [0, 4, 1, 5, 2, 3] rfl rfl) hS dX9_write_23 (show (((-6) : Int32) = (if p0.toInt < 0 ∨ 3 < p0.toInt then -2 else if (w_f1 p0.toNatClampNeg).toInt = 0 then -6 else if p1.toInt < 0 ∨ (w_f3 p0.toNatClampNeg).toInt ≤ p1.toInt then -7 else 0)) from (by (repeat' split) <;> first | rfl | (exfalso; omega)))
    · skip
      refine lv_if_eq (tgt := 24) hx hb dX9_write_18 (by decide) (fun c16 => ?_) (fun c16 => absurd (by decide) c16)
      refine lv_iload_n hx hb dX9_write_24 rfl (lv_at hl 2 rfl) ?_
      refine lv_if_lt (tgt := 41) hx hb dX9_write_25 (by decide) (fun c17 => ?_) (fun c17 => ?_)
      · have c17 := i_lt rfl ki_0 c17
        refine lv_bipush (v := (-7)) hx hb dX9_write_41 (by decide) ?_
        exact hret _ _ _ _ (-7) w_f0 (hP.sub (ws' := [(h0, oX9 b), (b 8, oX5 bw), (bw 0, .inl (cJ, 240, .inr (.inl w_f0))), (bw 1, .inl (cZ, 4, .inl w_f1)), (bw 2, .inl (cI, 4, .inl w_f2)), (bw 3, .inl (cI, 4, .inl w_f3))]) [0, 4, 1, 5, 2, 3] rfl) (hD.sub (ws' := [(h0, oX9 b), (b 8, oX5 bw), (bw 0, .inl (cJ, 240, .inr (.inl w_f0))), (bw 1, .inl (cZ, 4, .inl w_f1)), (bw 2, .inl (cI, 4, .inl w_f2)), (bw 3, .inl (cI, 4, .inl w_f3))]) [0, 4, 1, 5, 2, 3] rfl rfl) hS dX9_write_43 (show (((-7) : Int32) = (if p0.toInt < 0 ∨ 3 < p0.toInt then -2 else if (w_f1 p0.toNatClampNeg).toInt = 0 then -6 else if p1.toInt < 0 ∨ (w_f3 p0.toNatClampNeg).toInt ≤ p1.toInt then -7 else 0)) from (by (repeat' split) <;> first | rfl | (exfalso; omega)))
      · have c17 := i_nlt rfl ki_0 c17
        refine lv_iload_n hx hb dX9_write_28 rfl (lv_at hl 2 rfl) ?_
        refine lv_aload_n hx hb dX9_write_29 rfl (lv_at hl 0 rfl) ?_
        refine va_get (D := G) (ci := 9) (v := .ref (b 8)) (C := RX9) (T := TX9) (N := 11) hx hb hts iG_X9 hown hK hP 0 rfl rfl 8 (by decide) (hts _ w_359) (fun _ h9 => h9) rfl dX9_write_30 ?_
        refine va_getN (D := G) (ci := 5) (v := .ref (bw 3)) (C := RX5) (T := TX5) (N := 4) hx hb hts iG_X5 hown hK hP 4 rfl rfl 3 (by decide) (nz_use hZ nw_327 rfl) (fun _ h9 => h9) rfl dX9_write_33 ?_
        refine lv_iload_n hx hb dX9_write_36 rfl (lv_at hl 1 rfl) ?_
        refine va_iald hx hb hK hP 3 0 rfl rfl (ix_in rfl (by omega) (by omega)) dX9_write_37 ?_
        refine lv_topi (fun v18 ev18 => ?_)
        obtain ⟨ia19, ib20⟩ := ai_get ha_w_f3 rfl (by omega) (by omega) ev18
        have lkv18 : v18.toInt = (w_f3 p0.toNatClampNeg).toInt := by rw [ev18]
        refine lv_icmp_lt (tgt := 44) hx hb dX9_write_38 (by decide) (fun c21 => ?_) (fun c21 => ?_)
        · have c21 := i_lt rfl rfl c21
          refine lv_aload_n hx hb dX9_write_44 rfl (lv_at hl 0 rfl) ?_
          refine va_get (D := G) (ci := 9) (v := .ref (b 8)) (C := RX9) (T := TX9) (N := 11) hx hb hts iG_X9 hown hK hP 0 rfl rfl 8 (by decide) (hts _ w_359) (fun _ h9 => h9) rfl dX9_write_45 ?_
          refine lv_iload_n hx hb dX9_write_48 rfl (lv_at hl 1 rfl) ?_
          refine lv_iload_n hx hb dX9_write_49 rfl (lv_at hl 2 rfl) ?_
          refine lv_lload_n hx hb dX9_write_50 rfl (lv_at hl 3 rfl) ?_
          refine k_v (wc := [(b 8, oX5 bw), (bw 0, .inl (cJ, 240, .inr (.inl w_f0))), (bw 2, .inl (cI, 4, .inl w_f2))]) (wr := [(h0, oX9 b), (bw 3, .inl (cI, 4, .inl w_f3)), (bw 1, .inl (cZ, 4, .inl w_f1))]) hP hD hS hA [4, 1, 2] [0, 3, 5] rfl rfl rfl (by decide) (va_runVN (As := [.int p0, .int p1, .long p2]) (rest := []) ⟨hx, hb, hml, hown, hts⟩ (f_X5_put l G cI cJ cZ cB cQ _ (b 8) p0 p1 p2 bw w_f0 w_f2 (by omega) (by omega) (by omega) (by omega)) ⟨va_cnB (host := "WidowRoads") 3 hts (gW w_1170) rfl rfl rfl (nz_nw hZ nw_1167 rfl) (hts _ w_9) hd_X5_put ⟨Nat.le_of_ble_eq_true rfl, Nat.le_of_ble_eq_true rfl⟩, (hts _ w_1169), (hts _ wp_80)⟩ (mV hK hZ hP hD [4, 1, 2] rfl rfl [.int p0, .int p1, .long p2] 4 5 rfl rfl) rfl rfl hl.1 rfl (lv_room (Nat.le_of_ble_eq_true rfl)) dX9_write_51 ⟨Nat.le_of_ble_eq_true rfl, Nat.le_of_ble_eq_true rfl⟩) (fun u23 H locs hw24 hP hD hS => ?_)
          obtain ⟨o_f0o25, rfl⟩ : ∃ z, z = u23 := ⟨_, rfl⟩
          try dsimp only at hw24
          have hP : va_P G vwCl [(h0, oX9 b), (bw 3, .inl (cI, 4, .inl w_f3)), (bw 1, .inl (cZ, 4, .inl w_f1)), (b 8, oX5 bw), (bw 0, .inl (cJ, 240, .inr (.inl o_f0o25))), (bw 2, .inl (cI, 4, .inl w_f2))] H := hP
          have hD : va_D A [(h0, oX9 b), (bw 3, .inl (cI, 4, .inl w_f3)), (bw 1, .inl (cZ, 4, .inl w_f1)), (b 8, oX5 bw), (bw 0, .inl (cJ, 240, .inr (.inl o_f0o25))), (bw 2, .inl (cI, 4, .inl w_f2))] := hD
          refine lv_iconst (v := 0) hx hb dX9_write_54 (by decide) ?_
          exact hret _ _ _ _ 0 o_f0o25 (hP.sub (ws' := [(h0, oX9 b), (b 8, oX5 bw), (bw 0, .inl (cJ, 240, .inr (.inl o_f0o25))), (bw 1, .inl (cZ, 4, .inl w_f1)), (bw 2, .inl (cI, 4, .inl w_f2)), (bw 3, .inl (cI, 4, .inl w_f3))]) [0, 3, 4, 2, 5, 1] rfl) (hD.sub (ws' := [(h0, oX9 b), (b 8, oX5 bw), (bw 0, .inl (cJ, 240, .inr (.inl o_f0o25))), (bw 1, .inl (cZ, 4, .inl w_f1)), (bw 2, .inl (cI, 4, .inl w_f2)), (bw 3, .inl (cI, 4, .inl w_f3))]) [0, 3, 4, 2, 5, 1] rfl rfl) hS dX9_write_55 (show ((0 : Int32) = (if p0.toInt < 0 ∨ 3 < p0.toInt then -2 else if (w_f1 p0.toNatClampNeg).toInt = 0 then -6 else if p1.toInt < 0 ∨ (w_f3 p0.toNatClampNeg).toInt ≤ p1.toInt then -7 else 0)) from (by (repeat' split) <;> first | rfl | (exfalso; omega)))
        · have c21 := i_nlt rfl rfl c21
          refine lv_bipush (v := (-7)) hx hb dX9_write_41 (by decide) ?_
          exact hret _ _ _ _ (-7) w_f0 (hP.sub (ws' := [(h0, oX9 b), (b 8, oX5 bw), (bw 0, .inl (cJ, 240, .inr (.inl w_f0))), (bw 1, .inl (cZ, 4, .inl w_f1)), (bw 2, .inl (cI, 4, .inl w_f2)), (bw 3, .inl (cI, 4, .inl w_f3))]) [0, 4, 1, 5, 2, 3] rfl) (hD.sub (ws' := [(h0, oX9 b), (b 8, oX5 bw), (bw 0, .inl (cJ, 240, .inr (.inl w_f0))), (bw 1, .inl (cZ, 4, .inl w_f1)), (bw 2, .inl (cI, 4, .inl w_f2)), (bw 3, .inl (cI, 4, .inl w_f3))]) [0, 4, 1, 5, 2, 3] rfl rfl) hS dX9_write_43 (show (((-7) : Int32) = (if p0.toInt < 0 ∨ 3 < p0.toInt then -2 else if (w_f1 p0.toNatClampNeg).toInt = 0 then -6 else if p1.toInt < 0 ∨ (w_f3 p0.toNatClampNeg).toInt ≤ p1.toInt then -7 else 0)) from (by (repeat' split) <;> first | rfl | (exfalso; omega)))
  · skip
    refine lv_if_ne (tgt := 10) hx hb dX9_write_4 (by decide) (fun c26 => absurd (by decide) c26) (fun c26 => ?_)
    refine lv_bipush (v := (-2)) hx hb dX9_write_7 (by decide) ?_
    exact hret _ _ _ _ (-2) w_f0 hP hD hS dX9_write_9 (show (((-2) : Int32) = (if p0.toInt < 0 ∨ 3 < p0.toInt then -2 else if (w_f1 p0.toNatClampNeg).toInt = 0 then -6 else if p1.toInt < 0 ∨ (w_f3 p0.toNatClampNeg).toInt ≤ p1.toInt then -7 else 0)) from (by (repeat' split) <;> first | rfl | (exfalso; omega)))
set_option maxHeartbeats 4000000 in
set_option maxRecDepth 100000 in
theorem f_X9_paste (l : Launch) (G : va_G) (cI cJ cZ cB cQ : ClassId) (sz : Nat) (h0 : Nat) (p0 : Int32) (p1 : Int32) (p2 : Int32) (p3 : Int32) (p4 : Int32) (b : Nat → Nat) (bw : Nat → Nat) (w_f0 : Nat → Int64) (w_f1 : Nat → Int32) (w_f2 : Nat → Int32) (w_f3 : Nat → Int32) (ha_w_f1 : ai w_f1 4 0 1) (ha_w_f3 : ai w_f3 4 0 60) : CI l yX9_paste (wl_ yX9_paste cX9_paste 6 (some .int)) ({ frames := 2, cells := 0, slots := 0, locals := 65 } : Room) G (TY cI cJ cZ cB cQ) [.ref h0, .int p0, .int p1, .int p2, .int p3, .int p4] [(h0, oX9 b), (b 8, oX5 bw), (bw 0, .inl (cJ, 240, .inr (.inl w_f0))), (bw 1, .inl (cZ, 4, .inl w_f1)), (bw 2, .inl (cI, 4, .inl w_f2)), (bw 3, .inl (cI, 4, .inl w_f3))] sz (fun (r : Int32) (u : (Nat → Int64)) => (r = (if p0.toInt < 0 ∨ 3 < p0.toInt ∨ p2.toInt < 0 ∨ 3 < p2.toInt then -2 else if (w_f1 p0.toNatClampNeg).toInt = 0 ∨ (w_f1 p2.toNatClampNeg).toInt = 0 then -6 else if ¬ (w_f2 p0.toNatClampNeg).toInt = (w_f2 p2.toNatClampNeg).toInt then -8 else if p1.toInt < 0 ∨ p3.toInt < 0 ∨ p4.toInt < 0 ∨ (w_f3 p0.toNatClampNeg).toInt < p1.toInt + p4.toInt ∨ (w_f3 p2.toNatClampNeg).toInt < p3.toInt + p4.toInt then -7 else 0))) (fun u : (Nat → Int64) => [(h0, oX9 b), (b 8, oX5 bw), (bw 0, .inl (cJ, 240, .inr (.inl u))), (bw 1, .inl (cZ, 4, .inl w_f1)), (bw 2, .inl (cI, 4, .inl w_f2)), (bw 3, .inl (cI, 4, .inl w_f3))]) 0 0 := by
  refine CI.go (cc := cX9_paste) (maxL := 6) (ret := (some .int)) (by decide) rfl (Nat.le_of_ble_eq_true rfl) ?_
  intro p e s m below meth c A ls Q hBd hret
  obtain ⟨hx, hb, hr, hml, hts, hown, hlk, hnm, hP, hK, hD, hA, hZ, hl⟩ := hBd
  have hown : s.vm.findClass RX9 = some m.cls := hown
  have hl : lv_has ls 6 [(0, .ref h0), (1, .int p0), (2, .int p1), (3, .int p2), (4, .int p3), (5, .int p4)] := hl
  have hS : va_S A s.heap s.heap [] := va_S.rf
  refine lv_iload_n hx hb dX9_paste_0 rfl (lv_at hl 1 rfl) ?_
  refine k_i (wc := []) (wr := [(h0, oX9 b), (b 8, oX5 bw), (bw 0, .inl (cJ, 240, .inr (.inl w_f0))), (bw 1, .inl (cZ, 4, .inl w_f1)), (bw 2, .inl (cI, 4, .inl w_f2)), (bw 3, .inl (cI, 4, .inl w_f3))]) hP hD hS hA [] [0, 1, 2, 3, 4, 5] rfl rfl rfl (by decide) (va_runS (As := [.int p0]) (rest := []) ⟨hx, hb, hml, hown, hts⟩ (f_X9_isSlot l G cI cJ cZ cB cQ _ p0 p0.toInt rfl) (va_cwS 1 hts (gS w_951 w_952 w_1 w_953) rfl rfl rfl hd_X9_isSlot ⟨Nat.le_of_ble_eq_true rfl, Nat.le_of_ble_eq_true rfl⟩) (mS hK hZ hP hD [] rfl rfl [.int p0]) rfl rfl hl.1 rfl (lv_room (Nat.le_of_ble_eq_true rfl)) dX9_paste_1 ⟨Nat.le_of_ble_eq_true rfl, Nat.le_of_ble_eq_true rfl⟩) (fun r1 u2 H locs hw3 hP hD hS => ?_)
  try dsimp only at hw3
  have hP : va_P G vwCl [(h0, oX9 b), (b 8, oX5 bw), (bw 0, .inl (cJ, 240, .inr (.inl w_f0))), (bw 1, .inl (cZ, 4, .inl w_f1)), (bw 2, .inl (cI, 4, .inl w_f2)), (bw 3, .inl (cI, 4, .inl w_f3))] H := hP
  have hD : va_D A [(h0, oX9 b), (b 8, oX5 bw), (bw 0, .inl (cJ, 240, .inr (.inl w_f0))), (bw 1, .inl (cZ, 4, .inl w_f1)), (bw 2, .inl (cI, 4, .inl w_f2)), (bw 3, .inl (cI, 4, .inl w_f3))] := hD
  rcases hw3 with ⟨rfl, a5, a6⟩ | ⟨rfl, a7⟩
  · skip
    refine lv_if_eq (tgt := 14) hx hb dX9_paste_4 (by decide) (fun c8 => absurd c8 (by decide)) (fun c8 => ?_)
    refine lv_iload_n hx hb dX9_paste_7 rfl (lv_at hl 3 rfl) ?_
    refine k_i (wc := []) (wr := [(h0, oX9 b), (b 8, oX5 bw), (bw 0, .inl (cJ, 240, .inr (.inl w_f0))), (bw 1, .inl (cZ, 4, .inl w_f1)), (bw 2, .inl (cI, 4, .inl w_f2)), (bw 3, .inl (cI, 4, .inl w_f3))]) hP hD hS hA [] [0, 1, 2, 3, 4, 5] rfl rfl rfl (by decide) (va_runS (As := [.int p2]) (rest := []) ⟨hx, hb, hml, hown, hts⟩ (f_X9_isSlot l G cI cJ cZ cB cQ _ p2 p2.toInt rfl) (va_cwS 1 hts (gS w_951 w_952 w_1 w_953) rfl rfl rfl hd_X9_isSlot ⟨Nat.le_of_ble_eq_true rfl, Nat.le_of_ble_eq_true rfl⟩) (mS hK hZ hP hD [] rfl rfl [.int p2]) rfl rfl hl.1 rfl (lv_room (Nat.le_of_ble_eq_true rfl)) dX9_paste_8 ⟨Nat.le_of_ble_eq_true rfl, Nat.le_of_ble_eq_true rfl⟩) (fun r9 u10 H locs hw11 hP hD hS => ?_)
    try dsimp only at hw11
    have hP : va_P G vwCl [(h0, oX9 b), (b 8, oX5 bw), (bw 0, .inl (cJ, 240, .inr (.inl w_f0))), (bw 1, .inl (cZ, 4, .inl w_f1)), (bw 2, .inl (cI, 4, .inl w_f2)), (bw 3, .inl (cI, 4, .inl w_f3))] H := hP
    have hD : va_D A [(h0, oX9 b), (b 8, oX5 bw), (bw 0, .inl (cJ, 240, .inr (.inl w_f0))), (bw 1, .inl (cZ, 4, .inl w_f1)), (bw 2, .inl (cI, 4, .inl w_f2)), (bw 3, .inl (cI, 4, .inl w_f3))] := hD
    rcases hw11 with ⟨rfl, a13, a14⟩ | ⟨rfl, a15⟩
    · skip
      refine lv_if_ne (tgt := 17) hx hb dX9_paste_11 (by decide) (fun c16 => ?_) (fun c16 => absurd c16 (by decide))
      refine lv_aload_n hx hb dX9_paste_17 rfl (lv_at hl 0 rfl) ?_
      refine va_get (D := G) (ci := 9) (v := .ref (b 8)) (C := RX9) (T := TX9) (N := 11) hx hb hts iG_X9 hown hK hP 0 rfl rfl 8 (by decide) (hts _ w_359) (fun _ h9 => h9) rfl dX9_paste_18 ?_
      refine lv_iload_n hx hb dX9_paste_21 rfl (lv_at hl 1 rfl) ?_
      refine k_i (wc := [(b 8, oX5 bw), (bw 1, .inl (cZ, 4, .inl w_f1))]) (wr := [(h0, oX9 b), (bw 0, .inl (cJ, 240, .inr (.inl w_f0))), (bw 2, .inl (cI, 4, .inl w_f2)), (bw 3, .inl (cI, 4, .inl w_f3))]) hP hD hS hA [1, 3] [0, 2, 4, 5] rfl rfl rfl (by decide) (va_runVN (As := [.int p0]) (rest := []) ⟨hx, hb, hml, hown, hts⟩ (f_X5_empty l G cI cJ cZ cB cQ _ (b 8) p0 bw w_f1 (by omega) (by omega) ha_w_f1) ⟨va_cnB (host := "WidowRoads") 1 hts (gW w_957) rfl rfl rfl (nz_nw hZ nw_954 rfl) (hts _ w_9) hd_X5_empty ⟨Nat.le_of_ble_eq_true rfl, Nat.le_of_ble_eq_true rfl⟩, (hts _ w_956), (hts _ wp_60)⟩ (mV hK hZ hP hD [1, 3] rfl rfl [.int p0] 1 5 rfl rfl) rfl rfl hl.1 rfl (lv_room (Nat.le_of_ble_eq_true rfl)) dX9_paste_22 ⟨Nat.le_of_ble_eq_true rfl, Nat.le_of_ble_eq_true rfl⟩) (fun r17 u18 H locs hw19 hP hD hS => ?_)
      try dsimp only at hw19
      have hP : va_P G vwCl [(h0, oX9 b), (bw 0, .inl (cJ, 240, .inr (.inl w_f0))), (bw 2, .inl (cI, 4, .inl w_f2)), (bw 3, .inl (cI, 4, .inl w_f3)), (b 8, oX5 bw), (bw 1, .inl (cZ, 4, .inl w_f1))] H := hP
      have hD : va_D A [(h0, oX9 b), (bw 0, .inl (cJ, 240, .inr (.inl w_f0))), (bw 2, .inl (cI, 4, .inl w_f2)), (bw 3, .inl (cI, 4, .inl w_f3)), (b 8, oX5 bw), (bw 1, .inl (cZ, 4, .inl w_f1))] := hD
      rcases hw19 with ⟨rfl, a21⟩ | ⟨rfl, a22⟩
      · skip
        refine lv_if_ne (tgt := 39) hx hb dX9_paste_25 (by decide) (fun c23 => ?_) (fun c23 => absurd c23 (by decide))
        refine lv_bipush (v := (-6)) hx hb dX9_paste_39 (by decide) ?_
        exact hret _ _ _ _ (-6) w_f0 (hP.sub (ws' := [(h0, oX9 b), (b 8, oX5 bw), (bw 0, .inl (cJ, 240, .inr (.inl w_f0))), (bw 1, .inl (cZ, 4, .inl w_f1)), (bw 2, .inl (cI, 4, .inl w_f2)), (bw 3, .inl (cI, 4, .inl w_f3))]) [0, 4, 1, 5, 2, 3] rfl) (hD.sub (ws' := [(h0, oX9 b), (b 8, oX5 bw), (bw 0, .inl (cJ, 240, .inr (.inl w_f0))), (bw 1, .inl (cZ, 4, .inl w_f1)), (bw 2, .inl (cI, 4, .inl w_f2)), (bw 3, .inl (cI, 4, .inl w_f3))]) [0, 4, 1, 5, 2, 3] rfl rfl) hS dX9_paste_41 (show (((-6) : Int32) = (if p0.toInt < 0 ∨ 3 < p0.toInt ∨ p2.toInt < 0 ∨ 3 < p2.toInt then -2 else if (w_f1 p0.toNatClampNeg).toInt = 0 ∨ (w_f1 p2.toNatClampNeg).toInt = 0 then -6 else if ¬ (w_f2 p0.toNatClampNeg).toInt = (w_f2 p2.toNatClampNeg).toInt then -8 else if p1.toInt < 0 ∨ p3.toInt < 0 ∨ p4.toInt < 0 ∨ (w_f3 p0.toNatClampNeg).toInt < p1.toInt + p4.toInt ∨ (w_f3 p2.toNatClampNeg).toInt < p3.toInt + p4.toInt then -7 else 0)) from (by (repeat' split) <;> first | rfl | (exfalso; omega)))
      · skip
        refine lv_if_ne (tgt := 39) hx hb dX9_paste_25 (by decide) (fun c24 => absurd (by decide) c24) (fun c24 => ?_)
        refine lv_aload_n hx hb dX9_paste_28 rfl (lv_at hl 0 rfl) ?_
        refine va_get (D := G) (ci := 9) (v := .ref (b 8)) (C := RX9) (T := TX9) (N := 11) hx hb hts iG_X9 hown hK hP 0 rfl rfl 8 (by decide) (hts _ w_359) (fun _ h9 => h9) rfl dX9_paste_29 ?_
        refine lv_iload_n hx hb dX9_paste_32 rfl (lv_at hl 3 rfl) ?_
        refine k_i (wc := [(b 8, oX5 bw), (bw 1, .inl (cZ, 4, .inl w_f1))]) (wr := [(h0, oX9 b), (bw 0, .inl (cJ, 240, .inr (.inl w_f0))), (bw 2, .inl (cI, 4, .inl w_f2)), (bw 3, .inl (cI, 4, .inl w_f3))]) hP hD hS hA [4, 5] [0, 1, 2, 3] rfl rfl rfl (by decide) (va_runVN (As := [.int p2]) (rest := []) ⟨hx, hb, hml, hown, hts⟩ (f_X5_empty l G cI cJ cZ cB cQ _ (b 8) p2 bw w_f1 (by omega) (by omega) ha_w_f1) ⟨va_cnB (host := "WidowRoads") 1 hts (gW w_957) rfl rfl rfl (nz_nw hZ nw_954 rfl) (hts _ w_9) hd_X5_empty ⟨Nat.le_of_ble_eq_true rfl, Nat.le_of_ble_eq_true rfl⟩, (hts _ w_956), (hts _ wp_60)⟩ (mV hK hZ hP hD [4, 5] rfl rfl [.int p2] 4 5 rfl rfl) rfl rfl hl.1 rfl (lv_room (Nat.le_of_ble_eq_true rfl)) dX9_paste_33 ⟨Nat.le_of_ble_eq_true rfl, Nat.le_of_ble_eq_true rfl⟩) (fun r25 u26 H locs hw27 hP hD hS => ?_)
        try dsimp only at hw27
        have hP : va_P G vwCl [(h0, oX9 b), (bw 0, .inl (cJ, 240, .inr (.inl w_f0))), (bw 2, .inl (cI, 4, .inl w_f2)), (bw 3, .inl (cI, 4, .inl w_f3)), (b 8, oX5 bw), (bw 1, .inl (cZ, 4, .inl w_f1))] H := hP
        have hD : va_D A [(h0, oX9 b), (bw 0, .inl (cJ, 240, .inr (.inl w_f0))), (bw 2, .inl (cI, 4, .inl w_f2)), (bw 3, .inl (cI, 4, .inl w_f3)), (b 8, oX5 bw), (bw 1, .inl (cZ, 4, .inl w_f1))] := hD
        rcases hw27 with ⟨rfl, a29⟩ | ⟨rfl, a30⟩
        · skip
          refine lv_if_eq (tgt := 42) hx hb dX9_paste_36 (by decide) (fun c31 => absurd c31 (by decide)) (fun c31 => ?_)
          refine lv_bipush (v := (-6)) hx hb dX9_paste_39 (by decide) ?_
          exact hret _ _ _ _ (-6) w_f0 (hP.sub (ws' := [(h0, oX9 b), (b 8, oX5 bw), (bw 0, .inl (cJ, 240, .inr (.inl w_f0))), (bw 1, .inl (cZ, 4, .inl w_f1)), (bw 2, .inl (cI, 4, .inl w_f2)), (bw 3, .inl (cI, 4, .inl w_f3))]) [0, 4, 1, 5, 2, 3] rfl) (hD.sub (ws' := [(h0, oX9 b), (b 8, oX5 bw), (bw 0, .inl (cJ, 240, .inr (.inl w_f0))), (bw 1, .inl (cZ, 4, .inl w_f1)), (bw 2, .inl (cI, 4, .inl w_f2)), (bw 3, .inl (cI, 4, .inl w_f3))]) [0, 4, 1, 5, 2, 3] rfl rfl) hS dX9_paste_41 (show (((-6) : Int32) = (if p0.toInt < 0 ∨ 3 < p0.toInt ∨ p2.toInt < 0 ∨ 3 < p2.toInt then -2 else if (w_f1 p0.toNatClampNeg).toInt = 0 ∨ (w_f1 p2.toNatClampNeg).toInt = 0 then -6 else if ¬ (w_f2 p0.toNatClampNeg).toInt = (w_f2 p2.toNatClampNeg).toInt then -8 else if p1.toInt < 0 ∨ p3.toInt < 0 ∨ p4.toInt < 0 ∨ (w_f3 p0.toNatClampNeg).toInt < p1.toInt + p4.toInt ∨ (w_f3 p2.toNatClampNeg).toInt < p3.toInt + p4.toInt then -7 else 0)) from (by (repeat' split) <;> first | rfl | (exfalso; omega)))
        · skip
          refine lv_if_eq (tgt := 42) hx hb dX9_paste_36 (by decide) (fun c32 => ?_) (fun c32 => absurd (by decide) c32)
          refine lv_aload_n hx hb dX9_paste_42 rfl (lv_at hl 0 rfl) ?_
          refine va_get (D := G) (ci := 9) (v := .ref (b 8)) (C := RX9) (T := TX9) (N := 11) hx hb hts iG_X9 hown hK hP 0 rfl rfl 8 (by decide) (hts _ w_359) (fun _ h9 => h9) rfl dX9_paste_43 ?_
          refine va_getN (D := G) (ci := 5) (v := .ref (bw 2)) (C := RX5) (T := TX5) (N := 4) hx hb hts iG_X5 hown hK hP 4 rfl rfl 2 (by decide) (nz_use hZ nw_325 rfl) (fun _ h9 => h9) rfl dX9_paste_46 ?_
          refine lv_iload_n hx hb dX9_paste_49 rfl (lv_at hl 1 rfl) ?_
          refine va_iald hx hb hK hP 2 0 rfl rfl (ix_in rfl (by omega) (by omega)) dX9_paste_50 ?_
          refine lv_topi (fun v33 ev33 => ?_)
          have lkv33 : v33.toInt = (w_f2 p0.toNatClampNeg).toInt := by rw [ev33]
          refine lv_aload_n hx hb dX9_paste_51 rfl (lv_at hl 0 rfl) ?_
          refine va_get (D := G) (ci := 9) (v := .ref (b 8)) (C := RX9) (T := TX9) (N := 11) hx hb hts iG_X9 hown hK hP 0 rfl rfl 8 (by decide) (hts _ w_359) (fun _ h9 => h9) rfl dX9_paste_52 ?_
          refine va_getN (D := G) (ci := 5) (v := .ref (bw 2)) (C := RX5) (T := TX5) (N := 4) hx hb hts iG_X5 hown hK hP 4 rfl rfl 2 (by decide) (nz_use hZ nw_325 rfl) (fun _ h9 => h9) rfl dX9_paste_55 ?_
          refine lv_iload_n hx hb dX9_paste_58 rfl (lv_at hl 3 rfl) ?_
          refine va_iald hx hb hK hP 2 0 rfl rfl (ix_in rfl (by omega) (by omega)) dX9_paste_59 ?_
          refine lv_topi (fun v34 ev34 => ?_)
          have lkv34 : v34.toInt = (w_f2 p2.toNatClampNeg).toInt := by rw [ev34]
          refine lv_icmp_eq (tgt := 66) hx hb dX9_paste_60 (by decide) (fun c35 => ?_) (fun c35 => ?_)
          · have c35 := i_eq rfl rfl c35
            refine lv_aload_n hx hb dX9_paste_66 rfl (lv_at hl 0 rfl) ?_
            refine va_get (D := G) (ci := 9) (v := .ref (b 8)) (C := RX9) (T := TX9) (N := 11) hx hb hts iG_X9 hown hK hP 0 rfl rfl 8 (by decide) (hts _ w_359) (fun _ h9 => h9) rfl dX9_paste_67 ?_
            refine lv_iload_n hx hb dX9_paste_70 rfl (lv_at hl 1 rfl) ?_
            refine lv_iload_n hx hb dX9_paste_71 rfl (lv_at hl 2 rfl) ?_
            refine lv_iload hx hb dX9_paste_72 (lv_at hl 5 rfl) ?_
            refine k_i (wc := [(b 8, oX5 bw), (bw 3, .inl (cI, 4, .inl w_f3))]) (wr := [(h0, oX9 b), (bw 0, .inl (cJ, 240, .inr (.inl w_f0))), (bw 2, .inl (cI, 4, .inl w_f2)), (bw 1, .inl (cZ, 4, .inl w_f1))]) hP hD hS hA [4, 3] [0, 1, 2, 5] rfl rfl rfl (by decide) (va_runVN (As := [.int p0, .int p1, .int p4]) (rest := []) ⟨hx, hb, hml, hown, hts⟩ (f_X5_holds l G cI cJ cZ cB cQ _ (b 8) p0 p1 p4 bw w_f3 (by omega) (by omega) ha_w_f3) ⟨va_cnB (host := "WidowRoads") 3 hts (gW w_1181) rfl rfl rfl (nz_nw hZ nw_1178 rfl) (hts _ w_9) hd_X5_holds ⟨Nat.le_of_ble_eq_true rfl, Nat.le_of_ble_eq_true rfl⟩, (hts _ w_1180), (hts _ wp_81)⟩ (mV hK hZ hP hD [4, 3] rfl rfl [.int p0, .int p1, .int p4] 4 5 rfl rfl) rfl rfl hl.1 rfl (lv_room (Nat.le_of_ble_eq_true rfl)) dX9_paste_74 ⟨Nat.le_of_ble_eq_true rfl, Nat.le_of_ble_eq_true rfl⟩) (fun r36 u37 H locs hw38 hP hD hS => ?_)
            try dsimp only at hw38
            have hP : va_P G vwCl [(h0, oX9 b), (bw 0, .inl (cJ, 240, .inr (.inl w_f0))), (bw 2, .inl (cI, 4, .inl w_f2)), (bw 1, .inl (cZ, 4, .inl w_f1)), (b 8, oX5 bw), (bw 3, .inl (cI, 4, .inl w_f3))] H := hP
            have hD : va_D A [(h0, oX9 b), (bw 0, .inl (cJ, 240, .inr (.inl w_f0))), (bw 2, .inl (cI, 4, .inl w_f2)), (bw 1, .inl (cZ, 4, .inl w_f1)), (b 8, oX5 bw), (bw 3, .inl (cI, 4, .inl w_f3))] := hD
            rcases hw38 with ⟨rfl, a40, a41, a42, a43, a44, a45⟩ | ⟨rfl, a46⟩
            · skip
              refine lv_if_eq (tgt := 95) hx hb dX9_paste_77 (by decide) (fun c47 => absurd c47 (by decide)) (fun c47 => ?_)
              refine lv_aload_n hx hb dX9_paste_80 rfl (lv_at hl 0 rfl) ?_
              refine va_get (D := G) (ci := 9) (v := .ref (b 8)) (C := RX9) (T := TX9) (N := 11) hx hb hts iG_X9 hown hK hP 0 rfl rfl 8 (by decide) (hts _ w_359) (fun _ h9 => h9) rfl dX9_paste_81 ?_
              refine lv_iload_n hx hb dX9_paste_84 rfl (lv_at hl 3 rfl) ?_
              refine lv_iload hx hb dX9_paste_85 (lv_at hl 4 rfl) ?_
              refine lv_iload hx hb dX9_paste_87 (lv_at hl 5 rfl) ?_
              refine k_i (wc := [(b 8, oX5 bw), (bw 3, .inl (cI, 4, .inl w_f3))]) (wr := [(h0, oX9 b), (bw 0, .inl (cJ, 240, .inr (.inl w_f0))), (bw 2, .inl (cI, 4, .inl w_f2)), (bw 1, .inl (cZ, 4, .inl w_f1))]) hP hD hS hA [4, 5] [0, 1, 2, 3] rfl rfl rfl (by decide) (va_runVN (As := [.int p2, .int p3, .int p4]) (rest := []) ⟨hx, hb, hml, hown, hts⟩ (f_X5_holds l G cI cJ cZ cB cQ _ (b 8) p2 p3 p4 bw w_f3 (by omega) (by omega) ha_w_f3) ⟨va_cnB (host := "WidowRoads") 3 hts (gW w_1181) rfl rfl rfl (nz_nw hZ nw_1178 rfl) (hts _ w_9) hd_X5_holds ⟨Nat.le_of_ble_eq_true rfl, Nat.le_of_ble_eq_true rfl⟩, (hts _ w_1180), (hts _ wp_81)⟩ (mV hK hZ hP hD [4, 5] rfl rfl [.int p2, .int p3, .int p4] 4 5 rfl rfl) rfl rfl hl.1 rfl (lv_room (Nat.le_of_ble_eq_true rfl)) dX9_paste_89 ⟨Nat.le_of_ble_eq_true rfl, Nat.le_of_ble_eq_true rfl⟩) (fun r48 u49 H locs hw50 hP hD hS => ?_)
              try dsimp only at hw50
              have hP : va_P G vwCl [(h0, oX9 b), (bw 0, .inl (cJ, 240, .inr (.inl w_f0))), (bw 2, .inl (cI, 4, .inl w_f2)), (bw 1, .inl (cZ, 4, .inl w_f1)), (b 8, oX5 bw), (bw 3, .inl (cI, 4, .inl w_f3))] H := hP
              have hD : va_D A [(h0, oX9 b), (bw 0, .inl (cJ, 240, .inr (.inl w_f0))), (bw 2, .inl (cI, 4, .inl w_f2)), (bw 1, .inl (cZ, 4, .inl w_f1)), (b 8, oX5 bw), (bw 3, .inl (cI, 4, .inl w_f3))] := hD
              rcases hw50 with ⟨rfl, a52, a53, a54, a55, a56, a57⟩ | ⟨rfl, a58⟩
              · skip
                refine lv_if_ne (tgt := 98) hx hb dX9_paste_92 (by decide) (fun c59 => ?_) (fun c59 => absurd c59 (by decide))
                refine lv_aload_n hx hb dX9_paste_98 rfl (lv_at hl 0 rfl) ?_
                refine va_get (D := G) (ci := 9) (v := .ref (b 8)) (C := RX9) (T := TX9) (N := 11) hx hb hts iG_X9 hown hK hP 0 rfl rfl 8 (by decide) (hts _ w_359) (fun _ h9 => h9) rfl dX9_paste_99 ?_
                refine lv_iload_n hx hb dX9_paste_102 rfl (lv_at hl 1 rfl) ?_
                refine lv_iload_n hx hb dX9_paste_103 rfl (lv_at hl 2 rfl) ?_
                refine lv_iload_n hx hb dX9_paste_104 rfl (lv_at hl 3 rfl) ?_
                refine lv_iload hx hb dX9_paste_105 (lv_at hl 4 rfl) ?_
                refine lv_iload hx hb dX9_paste_107 (lv_at hl 5 rfl) ?_
                refine k_v (wc := [(b 8, oX5 bw), (bw 0, .inl (cJ, 240, .inr (.inl w_f0)))]) (wr := [(h0, oX9 b), (bw 2, .inl (cI, 4, .inl w_f2)), (bw 1, .inl (cZ, 4, .inl w_f1)), (bw 3, .inl (cI, 4, .inl w_f3))]) hP hD hS hA [4, 1] [0, 2, 3, 5] rfl rfl rfl (by decide) (va_runVN (As := [.int p0, .int p1, .int p2, .int p3, .int p4]) (rest := []) ⟨hx, hb, hml, hown, hts⟩ (f_X5_move l G cI cJ cZ cB cQ _ (b 8) p0 p1 p2 p3 p4 bw w_f0 (by omega) (by omega) (by omega) (by omega) (by omega) (by omega) (by omega) (by omega) (by omega) (by omega) (by omega) (by omega)) ⟨va_cnB (host := "WidowRoads") 5 hts (gW w_1185) rfl rfl rfl (nz_nw hZ nw_1182 rfl) (hts _ w_9) hd_X5_move ⟨Nat.le_of_ble_eq_true rfl, Nat.le_of_ble_eq_true rfl⟩, (hts _ w_1184), (hts _ wp_82)⟩ (mV hK hZ hP hD [4, 1] rfl rfl [.int p0, .int p1, .int p2, .int p3, .int p4] 4 5 rfl rfl) rfl rfl hl.1 rfl (lv_room (Nat.le_of_ble_eq_true rfl)) dX9_paste_109 ⟨Nat.le_of_ble_eq_true rfl, Nat.le_of_ble_eq_true rfl⟩) (fun u61 H locs hw62 hP hD hS => ?_)
                obtain ⟨o_f0o63, rfl⟩ : ∃ z, z = u61 := ⟨_, rfl⟩
                try dsimp only at hw62
                have hP : va_P G vwCl [(h0, oX9 b), (bw 2, .inl (cI, 4, .inl w_f2)), (bw 1, .inl (cZ, 4, .inl w_f1)), (bw 3, .inl (cI, 4, .inl w_f3)), (b 8, oX5 bw), (bw 0, .inl (cJ, 240, .inr (.inl o_f0o63)))] H := hP
                have hD : va_D A [(h0, oX9 b), (bw 2, .inl (cI, 4, .inl w_f2)), (bw 1, .inl (cZ, 4, .inl w_f1)), (bw 3, .inl (cI, 4, .inl w_f3)), (b 8, oX5 bw), (bw 0, .inl (cJ, 240, .inr (.inl o_f0o63)))] := hD
                refine lv_iconst (v := 0) hx hb dX9_paste_112 (by decide) ?_
                exact hret _ _ _ _ 0 o_f0o63 (hP.sub (ws' := [(h0, oX9 b), (b 8, oX5 bw), (bw 0, .inl (cJ, 240, .inr (.inl o_f0o63))), (bw 1, .inl (cZ, 4, .inl w_f1)), (bw 2, .inl (cI, 4, .inl w_f2)), (bw 3, .inl (cI, 4, .inl w_f3))]) [0, 4, 5, 2, 1, 3] rfl) (hD.sub (ws' := [(h0, oX9 b), (b 8, oX5 bw), (bw 0, .inl (cJ, 240, .inr (.inl o_f0o63))), (bw 1, .inl (cZ, 4, .inl w_f1)), (bw 2, .inl (cI, 4, .inl w_f2)), (bw 3, .inl (cI, 4, .inl w_f3))]) [0, 4, 5, 2, 1, 3] rfl rfl) hS dX9_paste_113 (show ((0 : Int32) = (if p0.toInt < 0 ∨ 3 < p0.toInt ∨ p2.toInt < 0 ∨ 3 < p2.toInt then -2 else if (w_f1 p0.toNatClampNeg).toInt = 0 ∨ (w_f1 p2.toNatClampNeg).toInt = 0 then -6 else if ¬ (w_f2 p0.toNatClampNeg).toInt = (w_f2 p2.toNatClampNeg).toInt then -8 else if p1.toInt < 0 ∨ p3.toInt < 0 ∨ p4.toInt < 0 ∨ (w_f3 p0.toNatClampNeg).toInt < p1.toInt + p4.toInt ∨ (w_f3 p2.toNatClampNeg).toInt < p3.toInt + p4.toInt then -7 else 0)) from (by (repeat' split) <;> first | rfl | (exfalso; omega)))
              · skip
                refine lv_if_ne (tgt := 98) hx hb dX9_paste_92 (by decide) (fun c64 => absurd (by decide) c64) (fun c64 => ?_)
                refine lv_bipush (v := (-7)) hx hb dX9_paste_95 (by decide) ?_
                exact hret _ _ _ _ (-7) w_f0 (hP.sub (ws' := [(h0, oX9 b), (b 8, oX5 bw), (bw 0, .inl (cJ, 240, .inr (.inl w_f0))), (bw 1, .inl (cZ, 4, .inl w_f1)), (bw 2, .inl (cI, 4, .inl w_f2)), (bw 3, .inl (cI, 4, .inl w_f3))]) [0, 4, 1, 3, 2, 5] rfl) (hD.sub (ws' := [(h0, oX9 b), (b 8, oX5 bw), (bw 0, .inl (cJ, 240, .inr (.inl w_f0))), (bw 1, .inl (cZ, 4, .inl w_f1)), (bw 2, .inl (cI, 4, .inl w_f2)), (bw 3, .inl (cI, 4, .inl w_f3))]) [0, 4, 1, 3, 2, 5] rfl rfl) hS dX9_paste_97 (show (((-7) : Int32) = (if p0.toInt < 0 ∨ 3 < p0.toInt ∨ p2.toInt < 0 ∨ 3 < p2.toInt then -2 else if (w_f1 p0.toNatClampNeg).toInt = 0 ∨ (w_f1 p2.toNatClampNeg).toInt = 0 then -6 else if ¬ (w_f2 p0.toNatClampNeg).toInt = (w_f2 p2.toNatClampNeg).toInt then -8 else if p1.toInt < 0 ∨ p3.toInt < 0 ∨ p4.toInt < 0 ∨ (w_f3 p0.toNatClampNeg).toInt < p1.toInt + p4.toInt ∨ (w_f3 p2.toNatClampNeg).toInt < p3.toInt + p4.toInt then -7 else 0)) from (by (repeat' split) <;> first | rfl | (exfalso; omega)))
            · skip
              refine lv_if_eq (tgt := 95) hx hb dX9_paste_77 (by decide) (fun c65 => ?_) (fun c65 => absurd (by decide) c65)
              refine lv_bipush (v := (-7)) hx hb dX9_paste_95 (by decide) ?_
              exact hret _ _ _ _ (-7) w_f0 (hP.sub (ws' := [(h0, oX9 b), (b 8, oX5 bw), (bw 0, .inl (cJ, 240, .inr (.inl w_f0))), (bw 1, .inl (cZ, 4, .inl w_f1)), (bw 2, .inl (cI, 4, .inl w_f2)), (bw 3, .inl (cI, 4, .inl w_f3))]) [0, 4, 1, 3, 2, 5] rfl) (hD.sub (ws' := [(h0, oX9 b), (b 8, oX5 bw), (bw 0, .inl (cJ, 240, .inr (.inl w_f0))), (bw 1, .inl (cZ, 4, .inl w_f1)), (bw 2, .inl (cI, 4, .inl w_f2)), (bw 3, .inl (cI, 4, .inl w_f3))]) [0, 4, 1, 3, 2, 5] rfl rfl) hS dX9_paste_97 (show (((-7) : Int32) = (if p0.toInt < 0 ∨ 3 < p0.toInt ∨ p2.toInt < 0 ∨ 3 < p2.toInt then -2 else if (w_f1 p0.toNatClampNeg).toInt = 0 ∨ (w_f1 p2.toNatClampNeg).toInt = 0 then -6 else if ¬ (w_f2 p0.toNatClampNeg).toInt = (w_f2 p2.toNatClampNeg).toInt then -8 else if p1.toInt < 0 ∨ p3.toInt < 0 ∨ p4.toInt < 0 ∨ (w_f3 p0.toNatClampNeg).toInt < p1.toInt + p4.toInt ∨ (w_f3 p2.toNatClampNeg).toInt < p3.toInt + p4.toInt then -7 else 0)) from (by (repeat' split) <;> first | rfl | (exfalso; omega)))
          · have c35 := i_ne rfl rfl c35
            refine lv_bipush (v := (-8)) hx hb dX9_paste_63 (by decide) ?_
            exact hret _ _ _ _ (-8) w_f0 (hP.sub (ws' := [(h0, oX9 b), (b 8, oX5 bw), (bw 0, .inl (cJ, 240, .inr (.inl w_f0))), (bw 1, .inl (cZ, 4, .inl w_f1)), (bw 2, .inl (cI, 4, .inl w_f2)), (bw 3, .inl (cI, 4, .inl w_f3))]) [0, 4, 1, 5, 2, 3] rfl) (hD.sub (ws' := [(h0, oX9 b), (b 8, oX5 bw), (bw 0, .inl (cJ, 240, .inr (.inl w_f0))), (bw 1, .inl (cZ, 4, .inl w_f1)), (bw 2, .inl (cI, 4, .inl w_f2)), (bw 3, .inl (cI, 4, .inl w_f3))]) [0, 4, 1, 5, 2, 3] rfl rfl) hS dX9_paste_65 (show (((-8) : Int32) = (if p0.toInt < 0 ∨ 3 < p0.toInt ∨ p2.toInt < 0 ∨ 3 < p2.toInt then -2 else if (w_f1 p0.toNatClampNeg).toInt = 0 ∨ (w_f1 p2.toNatClampNeg).toInt = 0 then -6 else if ¬ (w_f2 p0.toNatClampNeg).toInt = (w_f2 p2.toNatClampNeg).toInt then -8 else if p1.toInt < 0 ∨ p3.toInt < 0 ∨ p4.toInt < 0 ∨ (w_f3 p0.toNatClampNeg).toInt < p1.toInt + p4.toInt ∨ (w_f3 p2.toNatClampNeg).toInt < p3.toInt + p4.toInt then -7 else 0)) from (by (repeat' split) <;> first | rfl | (exfalso; omega)))
    · skip
      refine lv_if_ne (tgt := 17) hx hb dX9_paste_11 (by decide) (fun c66 => absurd (by decide) c66) (fun c66 => ?_)
      refine lv_bipush (v := (-2)) hx hb dX9_paste_14 (by decide) ?_
      exact hret _ _ _ _ (-2) w_f0 hP hD hS dX9_paste_16 (show (((-2) : Int32) = (if p0.toInt < 0 ∨ 3 < p0.toInt ∨ p2.toInt < 0 ∨ 3 < p2.toInt then -2 else if (w_f1 p0.toNatClampNeg).toInt = 0 ∨ (w_f1 p2.toNatClampNeg).toInt = 0 then -6 else if ¬ (w_f2 p0.toNatClampNeg).toInt = (w_f2 p2.toNatClampNeg).toInt then -8 else if p1.toInt < 0 ∨ p3.toInt < 0 ∨ p4.toInt < 0 ∨ (w_f3 p0.toNatClampNeg).toInt < p1.toInt + p4.toInt ∨ (w_f3 p2.toNatClampNeg).toInt < p3.toInt + p4.toInt then -7 else 0)) from (by (repeat' split) <;> first | rfl | (exfalso; omega)))
  · skip
    refine lv_if_eq (tgt := 14) hx hb dX9_paste_4 (by decide) (fun c67 => ?_) (fun c67 => absurd (by decide) c67)
    refine lv_bipush (v := (-2)) hx hb dX9_paste_14 (by decide) ?_
    exact hret _ _ _ _ (-2) w_f0 hP hD hS dX9_paste_16 (show (((-2) : Int32) = (if p0.toInt < 0 ∨ 3 < p0.toInt ∨ p2.toInt < 0 ∨ 3 < p2.toInt then -2 else if (w_f1 p0.toNatClampNeg).toInt = 0 ∨ (w_f1 p2.toNatClampNeg).toInt = 0 then -6 else if ¬ (w_f2 p0.toNatClampNeg).toInt = (w_f2 p2.toNatClampNeg).toInt then -8 else if p1.toInt < 0 ∨ p3.toInt < 0 ∨ p4.toInt < 0 ∨ (w_f3 p0.toNatClampNeg).toInt < p1.toInt + p4.toInt ∨ (w_f3 p2.toNatClampNeg).toInt < p3.toInt + p4.toInt then -7 else 0)) from (by (repeat' split) <;> first | rfl | (exfalso; omega)))
