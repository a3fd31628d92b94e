theorem dL_law_18 : decode code 18 = .ok (.iload_n 3, 1) := by decide +kernel
theorem dL_law_19 : decode code 19 = .ok (.aload_n 0, 1) := by decide +kernel
theorem dL_law_20 : decode code 20 = .ok (.arraylength, 1) := by decide +kernel
theorem dL_law_21 : decode code 21 = .ok (.bipush 6, 2) := by decide +kernel
theorem dL_law_23 : decode code 23 = .ok (.isub, 1) := by decide +kernel
theorem dL_law_24 : decode code 24 = .ok (.if_icmp .gt 2206, 3) := by decide +kernel
theorem dL_law_27 : decode code 27 = .ok (.aload_n 0, 1) := by decide +kernel
theorem dL_law_28 : decode code 28 = .ok (.iload_n 3, 1) := by decide +kernel
theorem dL_law_29 : decode code 29 = .ok (.iaload, 1) := by decide +kernel
theorem dL_law_30 : decode code 30 = .ok (.bipush 127, 2) := by decide +kernel
theorem dL_law_32 : decode code 32 = .ok (.iand, 1) := by decide +kernel
theorem dL_law_2230 : decode code 2230 = .ok (.iconst 1, 1) := by decide +kernel
theorem dL_law_2231 : decode code 2231 = .ok (.ireturn, 1) := by decide +kernel
set_option maxHeartbeats 8000000 in
set_option maxRecDepth 100000 in
theorem law_all {p : Program} {e : Env} {s : State} {m : MethodId} {below : List Frame} {meth : Method} {c : Code} {l : Launch} {sb L : Nat} {xs : Nat → Int32} {A : Nat → Prop} {G : va_G} {cI cJ cZ cB cQ : ClassId} {h0 h1 : Nat} {b br bp bi bt bn bs be bw bm : Nat → Nat} {ad : AdS} {fm : Option Nat} (hL : L ≤ 3072) (C0 : lw_At p s m meth c sb L xs) (hAe : A = fun q => s.heap.size ≤ q) (hK : va_K G vwCl (TY cI cJ cZ cB cQ) s) (hZ : nz s) (hE : sE ad fm A s s.heap) {fuel : Nat} (ih : LH p l e s m below meth c sb L A G cI cJ cZ cB cQ h0 h1 b br bp bi bt bn bs be bw bm fuel) : LC p l e s m below meth c sb L A G cI cJ cZ cB cQ h0 h1 b br bp bi bt bn bs be bw bm fuel (fun _ => True) := by
  have hKK := hK
  have hk0 : ∀ K : Nat, K < 68 → LC p l e s m below meth c sb L A G cI cJ cZ cB cQ h0 h1 b br bp bi bt bn bs be bw bm fuel (fun v => v.toInt = (K : Int)) := by
    intro K hK
    match K, hK with
    | 0, _ => exact law_0 hL C0 hAe hKK hZ hE ih
    | 1, _ => exact law_1 hL C0 hAe hKK hZ hE ih
    | 2, _ => exact law_2 hL C0 hAe hKK hZ hE ih
    | 3, _ => exact law_3 hL C0 hAe hKK hZ hE ih
    | 4, _ => exact law_4 hL C0 hAe hKK hZ hE ih
    | 5, _ => exact law_5 hL C0 hAe hKK hZ hE ih
    | 6, _ => exact law_6 hL C0 hAe hKK hZ hE ih
    | 7, _ => exact law_7 hL C0 hAe hKK hZ hE ih
    | 8, _ => exact law_8 hL C0 hAe hKK hZ hE ih
    | 9, _ => exact law_9 hL C0 hAe hKK hZ hE ih
    | 10, _ => exact law_10 hL C0 hAe hKK hZ hE ih
    | 11, _ => exact law_11 hL C0 hAe hKK hZ hE ih
    | 12, _ => exact law_12 hL C0 hAe hKK hZ hE ih
    | 13, _ => exact law_13 hL C0 hAe hKK hZ hE ih
    | 14, _ => exact law_14 hL C0 hAe hKK hZ hE ih
    | 15, _ => exact law_15 hL C0 hAe hKK hZ hE ih
    | 16, _ => exact law_16 hL C0 hAe hKK hZ hE ih
    | 17, _ => exact law_17 hL C0 hAe hKK hZ hE ih
    | 18, _ => exact law_18 hL C0 hAe hKK hZ hE ih
    | 19, _ => exact law_19 hL C0 hAe hKK hZ hE ih
    | 20, _ => exact law_20 hL C0 hAe hKK hZ hE ih
    | 21, _ => exact law_21 hL C0 hAe hKK hZ hE ih
    | 22, _ => exact law_22 hL C0 hAe hKK hZ hE ih
    | 23, _ => exact law_23 hL C0 hAe hKK hZ hE ih
    | 24, _ => exact law_24 hL C0 hAe hKK hZ hE ih
    | 25, _ => exact law_25 hL C0 hAe hKK hZ hE ih
    | 26, _ => exact law_26 hL C0 hAe hKK hZ hE ih
    | 27, _ => exact law_27 hL C0 hAe hKK hZ hE ih
    | 28, _ => exact law_28 hL C0 hAe hKK hZ hE ih
    | 29, _ => exact law_29 hL C0 hAe hKK hZ hE ih
    | 30, _ => exact law_30 hL C0 hAe hKK hZ hE ih
    | 31, _ => exact law_31 hL C0 hAe hKK hZ hE ih
    | 32, _ => exact law_32 hL C0 hAe hKK hZ hE ih
    | 33, _ => exact law_33 hL C0 hAe hKK hZ hE ih
    | 34, _ => exact law_34 hL C0 hAe hKK hZ hE ih
    | 35, _ => exact law_35 hL C0 hAe hKK hZ hE ih
    | 36, _ => exact law_36 hL C0 hAe hKK hZ hE ih
    | 37, _ => exact law_37 hL C0 hAe hKK hZ hE ih
    | 38, _ => exact law_38 hL C0 hAe hKK hZ hE ih
    | 39, _ => exact law_39 hL C0 hAe hKK hZ hE ih
    | 40, _ => exact law_40 hL C0 hAe hKK hZ hE ih
    | 41, _ => exact law_41 hL C0 hAe hKK hZ hE ih
    | 42, _ => exact law_42 hL C0 hAe hKK hZ hE ih
    | 43, _ => exact law_43 hL C0 hAe hKK hZ hE ih
    | 44, _ => exact law_44 hL C0 hAe hKK hZ hE ih
    | 45, _ => exact law_45 hL C0 hAe hKK hZ hE ih
    | 46, _ => exact law_46 hL C0 hAe hKK hZ hE ih
    | 47, _ => exact law_47 hL C0 hAe hKK hZ hE ih
    | 48, _ => exact law_48 hL C0 hAe hKK hZ hE ih
    | 49, _ => exact law_49 hL C0 hAe hKK hZ hE ih
    | 50, _ => exact law_50 hL C0 hAe hKK hZ hE ih
    | 51, _ => exact law_51 hL C0 hAe hKK hZ hE ih
    | 52, _ => exact law_52 hL C0 hAe hKK hZ hE ih
    | 53, _ => exact law_53 hL C0 hAe hKK hZ hE ih
    | 54, _ => exact law_54 hL C0 hAe hKK hZ hE ih
    | 55, _ => exact law_55 hL C0 hAe hKK hZ hE ih
    | 56, _ => exact law_56 hL C0 hAe hKK hZ hE ih
    | 57, _ => exact law_57 hL C0 hAe hKK hZ hE ih
    | 58, _ => exact law_58 hL C0 hAe hKK hZ hE ih
    | 59, _ => exact law_59 hL C0 hAe hKK hZ hE ih
    | 60, _ => exact law_60 hL C0 hAe hKK hZ hE ih
    | 61, _ => exact law_61 hL C0 hAe hKK hZ hE ih
    | 62, _ => exact law_62 hL C0 hAe hKK hZ hE ih
    | 63, _ => exact law_63 hL C0 hAe hKK hZ hE ih
    | 64, _ => exact law_64 hL C0 hAe hKK hZ hE ih
    | 65, _ => exact law_65 hL C0 hAe hKK hZ hE ih
    | 66, _ => exact law_66 hL C0 hAe hKK hZ hE ih
    | 67, _ => exact law_67 hL C0 hAe hKK hZ hE ih
    | K + 68, h => exact absurd h (by omega)
  have ho := law_out hL C0 hAe hK hZ hE ih
  unfold LC at hk0 ho ⊢
  intro i k n o_f10 d_fault d_place d_kind d_start d_stop a_length a_f0 i_lines i_span i_rule i_odds i_wide i_high i_creeks i_houses i_widows i_acts i_f10 i_f11 i_f12 i_f13 i_f14 i_f15 i_f16 i_f17 i_f18 t_lines t_span t_rule t_odds t_wide t_high t_creeks t_houses t_widows t_acts t_f10 t_f11 t_f12 t_f13 t_f14 t_f15 t_f16 t_f17 t_f18 fq u_rule u_walkers u_creeks u_widow u_faces u_turn n_field n_houses n_f0 n_f1 n_f2 n_f3 n_f4 n_f5 n_f6 n_f7 n_f8 n_f9 s_field s_houses s_f0 s_f1 s_f2 s_f3 s_f4 s_f5 s_f6 s_f7 s_f8 s_f9 e_known e_f0 e_f1 k_cells k_across k_down w_f0 w_f1 w_f2 w_f3 r_above r_below m_thrown m_taped m_size m_at m_from m_token m_value m_faultKind m_faultPlace m_lawNow m_walkSet m_oneWidow m_oneTurn m_askWorst m_mayWalk m_oftenAll m_oftenRoad m_oftenPegs m_f1 m_f2 m_f3 m_f4 m_f6 m_f14 m_f15 m_f16 m_f21 m_f22 m_f23 m_f24 m_f25 m_f26 m_f27 m_f28 m_f29 m_f30 m_f31 m_f32 m_f33 m_f34 m_f35 m_f37 m_f42 m_f43 m_f44 m_f45 pl v hv hi6 hi0 hi1 hfu hkb hnb hl_a_length hh_a_length hl_i_span hh_i_span hl_i_rule hh_i_rule hl_i_odds hh_i_odds hl_i_wide hh_i_wide hl_i_high hh_i_high hl_i_creeks hh_i_creeks hl_i_houses hh_i_houses hl_i_widows hh_i_widows hl_i_acts hh_i_acts ha_i_f14 ha_i_f16 hl_t_span hh_t_span hl_t_rule hh_t_rule hl_t_odds hh_t_odds hl_t_wide hh_t_wide hl_t_high hh_t_high hl_t_creeks hh_t_creeks hl_t_houses hh_t_houses hl_t_widows hh_t_widows hl_t_acts hh_t_acts ha_t_f14 ha_t_f16 hl_n_houses hh_n_houses ha_n_f1 hl_s_houses hh_s_houses ha_s_f1 hl_e_known hh_e_known ha_w_f1 ha_w_f3 hl_m_taped hh_m_taped hl_m_size hh_m_size hl_m_at hh_m_at hl_m_from hh_m_from hl_m_oneTurn hh_m_oneTurn ha_m_f1 ha_m_f3 ha_m_f14 ha_m_f15 ha_m_f16 ha_m_f21 ha_m_f22 ha_m_f23 ha_m_f25 ha_m_f26 ha_m_f27 ha_m_f30 ha_m_f32 ha_m_f34 ha_m_f42 hIM hRS hRI hPL
  by_cases hk : v.toInt < 0 ∨ 67 < v.toInt
  · exact ho i k n o_f10 d_fault d_place d_kind d_start d_stop a_length a_f0 i_lines i_span i_rule i_odds i_wide i_high i_creeks i_houses i_widows i_acts i_f10 i_f11 i_f12 i_f13 i_f14 i_f15 i_f16 i_f17 i_f18 t_lines t_span t_rule t_odds t_wide t_high t_creeks t_houses t_widows t_acts t_f10 t_f11 t_f12 t_f13 t_f14 t_f15 t_f16 t_f17 t_f18 fq u_rule u_walkers u_creeks u_widow u_faces u_turn n_field n_houses n_f0 n_f1 n_f2 n_f3 n_f4 n_f5 n_f6 n_f7 n_f8 n_f9 s_field s_houses s_f0 s_f1 s_f2 s_f3 s_f4 s_f5 s_f6 s_f7 s_f8 s_f9 e_known e_f0 e_f1 k_cells k_across k_down w_f0 w_f1 w_f2 w_f3 r_above r_below m_thrown m_taped m_size m_at m_from m_token m_value m_faultKind m_faultPlace m_lawNow m_walkSet m_oneWidow m_oneTurn m_askWorst m_mayWalk m_oftenAll m_oftenRoad m_oftenPegs m_f1 m_f2 m_f3 m_f4 m_f6 m_f14 m_f15 m_f16 m_f21 m_f22 m_f23 m_f24 m_f25 m_f26 m_f27 m_f28 m_f29 m_f30 m_f31 m_f32 m_f33 m_f34 m_f35 m_f37 m_f42 m_f43 m_f44 m_f45 pl v hk hi6 hi0 hi1 hfu hkb hnb hl_a_length hh_a_length hl_i_span hh_i_span hl_i_rule hh_i_rule hl_i_odds hh_i_odds hl_i_wide hh_i_wide hl_i_high hh_i_high hl_i_creeks hh_i_creeks hl_i_houses hh_i_houses hl_i_widows hh_i_widows hl_i_acts hh_i_acts ha_i_f14 ha_i_f16 hl_t_span hh_t_span hl_t_rule hh_t_rule hl_t_odds hh_t_odds hl_t_wide hh_t_wide hl_t_high hh_t_high hl_t_creeks hh_t_creeks hl_t_houses hh_t_houses hl_t_widows hh_t_widows hl_t_acts hh_t_acts ha_t_f14 ha_t_f16 hl_n_houses hh_n_houses ha_n_f1 hl_s_houses hh_s_houses ha_s_f1 hl_e_known hh_e_known ha_w_f1 ha_w_f3 hl_m_taped hh_m_taped hl_m_size hh_m_size hl_m_at hh_m_at hl_m_from hh_m_from hl_m_oneTurn hh_m_oneTurn ha_m_f1 ha_m_f3 ha_m_f14 ha_m_f15 ha_m_f16 ha_m_f21 ha_m_f22 ha_m_f23 ha_m_f25 ha_m_f26 ha_m_f27 ha_m_f30 ha_m_f32 ha_m_f34 ha_m_f42 hIM hRS hRI hPL
  · obtain ⟨K, hK, hkv⟩ : ∃ K : Nat, K < 68 ∧ v.toInt = (K : Int) := ⟨v.toInt.toNat, by omega, by omega⟩
    exact hk0 K hK i k n o_f10 d_fault d_place d_kind d_start d_stop a_length a_f0 i_lines i_span i_rule i_odds i_wide i_high i_creeks i_houses i_widows i_acts i_f10 i_f11 i_f12 i_f13 i_f14 i_f15 i_f16 i_f17 i_f18 t_lines t_span t_rule t_odds t_wide t_high t_creeks t_houses t_widows t_acts t_f10 t_f11 t_f12 t_f13 t_f14 t_f15 t_f16 t_f17 t_f18 fq u_rule u_walkers u_creeks u_widow u_faces u_turn n_field n_houses n_f0 n_f1 n_f2 n_f3 n_f4 n_f5 n_f6 n_f7 n_f8 n_f9 s_field s_houses s_f0 s_f1 s_f2 s_f3 s_f4 s_f5 s_f6 s_f7 s_f8 s_f9 e_known e_f0 e_f1 k_cells k_across k_down w_f0 w_f1 w_f2 w_f3 r_above r_below m_thrown m_taped m_size m_at m_from m_token m_value m_faultKind m_faultPlace m_lawNow m_walkSet m_oneWidow m_oneTurn m_askWorst m_mayWalk m_oftenAll m_oftenRoad m_oftenPegs m_f1 m_f2 m_f3 m_f4 m_f6 m_f14 m_f15 m_f16 m_f21 m_f22 m_f23 m_f24 m_f25 m_f26 m_f27 m_f28 m_f29 m_f30 m_f31 m_f32 m_f33 m_f34 m_f35 m_f37 m_f42 m_f43 m_f44 m_f45 pl v hkv hi6 hi0 hi1 hfu hkb hnb hl_a_length hh_a_length hl_i_span hh_i_span hl_i_rule hh_i_rule hl_i_odds hh_i_odds hl_i_wide hh_i_wide hl_i_high hh_i_high hl_i_creeks hh_i_creeks hl_i_houses hh_i_houses hl_i_widows hh_i_widows hl_i_acts hh_i_acts ha_i_f14 ha_i_f16 hl_t_span hh_t_span hl_t_rule hh_t_rule hl_t_odds hh_t_odds hl_t_wide hh_t_wide hl_t_high hh_t_high hl_t_creeks hh_t_creeks hl_t_houses hh_t_houses hl_t_widows hh_t_widows hl_t_acts hh_t_acts ha_t_f14 ha_t_f16 hl_n_houses hh_n_houses ha_n_f1 hl_s_houses hh_s_houses ha_s_f1 hl_e_known hh_e_known ha_w_f1 ha_w_f3 hl_m_taped hh_m_taped hl_m_size hh_m_size hl_m_at hh_m_at hl_m_from hh_m_from hl_m_oneTurn hh_m_oneTurn ha_m_f1 ha_m_f3 ha_m_f14 ha_m_f15 ha_m_f16 ha_m_f21 ha_m_f22 ha_m_f23 ha_m_f25 ha_m_f26 ha_m_f27 ha_m_f30 ha_m_f32 ha_m_f34 ha_m_f42 hIM hRS hRI hPL
set_option maxHeartbeats 8000000 in
set_option maxRecDepth 100000 in
theorem law_loop {p : Program} {e : Env} {s : State} {m : MethodId} {below : List Frame} {meth : Method} {c : Code} {l : Launch} {sb L : Nat} {xs : Nat → Int32} {A : Nat → Prop} {G : va_G} {cI cJ cZ cB cQ : ClassId} {h0 h1 : Nat} {b br bp bi bt bn bs be bw bm : Nat → Nat} {ad : AdS} {fm : Option Nat} (hL : L ≤ 3072) (C0 : lw_At p s m meth c sb L xs) (hAe : A = fun q => s.heap.size ≤ q) (hK : va_K G vwCl (TY cI cJ cZ cB cQ) s) (hZ : nz s) (hE : sE ad fm A s s.heap) : ∀ fuel : Nat, LH p l e s m below meth c sb L A G cI cJ cZ cB cQ h0 h1 b br bp bi bt bn bs be bw bm fuel := by
  obtain ⟨hx, hb, hr, hml, hown, hts0, hX, hbl, hlocks, hgv⟩ := id C0
  have hown : s.vm.findClass RL = some m.cls := hown
  have hts : ∀ q ∈ GW, q.before #[Value.ref sb] s = true := fun q h => hts0 q (List.mem_filter.mp h).1
  have hA : ∀ q : Nat, s.heap.size ≤ q → A q := fun q h => by rw [hAe]; exact h
  have hbA : ¬ A sb := by rw [hAe]; exact Nat.not_le.mpr hbl
  have hLT : (Int32.ofNat L).toInt = (L : Int) := nI_toInt (by omega)
  have hrc : 600000 ≤ room_1.cells := Nat.le_of_ble_eq_true rfl
  have hrs : 7302249 ≤ room_1.slots := Nat.le_of_ble_eq_true rfl
  intro fuel
  induction fuel with
  | zero =>
    unfold LH
    intro i k n o_f10 d_fault d_place d_kind d_start d_stop a_length a_f0 i_lines i_span i_rule i_odds i_wide i_high i_creeks i_houses i_widows i_acts i_f10 i_f11 i_f12 i_f13 i_f14 i_f15 i_f16 i_f17 i_f18 t_lines t_span t_rule t_odds t_wide t_high t_creeks t_houses t_widows t_acts t_f10 t_f11 t_f12 t_f13 t_f14 t_f15 t_f16 t_f17 t_f18 fq u_rule u_walkers u_creeks u_widow u_faces u_turn n_field n_houses n_f0 n_f1 n_f2 n_f3 n_f4 n_f5 n_f6 n_f7 n_f8 n_f9 s_field s_houses s_f0 s_f1 s_f2 s_f3 s_f4 s_f5 s_f6 s_f7 s_f8 s_f9 e_known e_f0 e_f1 k_cells k_across k_down w_f0 w_f1 w_f2 w_f3 r_above r_below m_thrown m_taped m_size m_at m_from m_token m_value m_faultKind m_faultPlace m_lawNow m_walkSet m_oneWidow m_oneTurn m_askWorst m_mayWalk m_oftenAll m_oftenRoad m_oftenPegs m_f1 m_f2 m_f3 m_f4 m_f6 m_f14 m_f15 m_f16 m_f21 m_f22 m_f23 m_f24 m_f25 m_f26 m_f27 m_f28 m_f29 m_f30 m_f31 m_f32 m_f33 m_f34 m_f35 m_f37 m_f42 m_f43 m_f44 m_f45 pl hi0 hi1 hfu hkb hnb hl_a_length hh_a_length hl_i_span hh_i_span hl_i_rule hh_i_rule hl_i_odds hh_i_odds hl_i_wide hh_i_wide hl_i_high hh_i_high hl_i_creeks hh_i_creeks hl_i_houses hh_i_houses hl_i_widows hh_i_widows hl_i_acts hh_i_acts ha_i_f14 ha_i_f16 hl_t_span hh_t_span hl_t_rule hh_t_rule hl_t_odds hh_t_odds hl_t_wide hh_t_wide hl_t_high hh_t_high hl_t_creeks hh_t_creeks hl_t_houses hh_t_houses hl_t_widows hh_t_widows hl_t_acts hh_t_acts ha_t_f14 ha_t_f16 hl_n_houses hh_n_houses ha_n_f1 hl_s_houses hh_s_houses ha_s_f1 hl_e_known hh_e_known ha_w_f1 ha_w_f3 hl_m_taped hh_m_taped hl_m_size hh_m_size hl_m_at hh_m_at hl_m_from hh_m_from hl_m_oneTurn hh_m_oneTurn ha_m_f1 ha_m_f3 ha_m_f14 ha_m_f15 ha_m_f16 ha_m_f21 ha_m_f22 ha_m_f23 ha_m_f25 ha_m_f26 ha_m_f27 ha_m_f30 ha_m_f32 ha_m_f34 ha_m_f42 hIM hRS hRI hPL H locs hP hD hS ls hl
    refine lv_iload_n hx hb dL_law_18 rfl (lv_at hl 0 rfl) ?_
    refine lv_aload_n hx hb dL_law_19 rfl (lv_at hl 3 rfl) ?_
    refine va_slen hx hb hX hbl hbA hS dL_law_20 ?_
    refine lv_bipush (v := 6) hx hb dL_law_21 (by decide) ?_
    refine lv_isub hx hb dL_law_23 ?_
    refine lv_topi (fun v1 ev1 => ?_)
    have tv1 : v1.toInt = ((L : Int)) - 6 := ti_sub hLT ki_6 ev1 (by omega) (by omega)
    refine lv_icmp_gt (tgt := 2230) hx hb dL_law_24 (by decide) (fun c0 => ?_) (fun c0 => ?_)
    · refine lv_iconst (v := 1) hx hb dL_law_2230 (by decide) ?_
      refine va_forget (fun q hq => by have h := hS.2.2 q hq; rw [hAe] at h; exact h) ?_
      refine W.widen (k := 600000) (n := 7302249) (by omega) (by omega) ?_
      exact lw_ret hx hb hr hlocks dL_law_2231
    · have c0 := i_nlt tv1 rfl c0
      exact absurd c0 (by omega)
  | succ fuel ih =>
    have hall := law_all hL C0 hAe hK hZ hE ih
    unfold LC at hall
    unfold LH
    intro i k n o_f10 d_fault d_place d_kind d_start d_stop a_length a_f0 i_lines i_span i_rule i_odds i_wide i_high i_creeks i_houses i_widows i_acts i_f10 i_f11 i_f12 i_f13 i_f14 i_f15 i_f16 i_f17 i_f18 t_lines t_span t_rule t_odds t_wide t_high t_creeks t_houses t_widows t_acts t_f10 t_f11 t_f12 t_f13 t_f14 t_f15 t_f16 t_f17 t_f18 fq u_rule u_walkers u_creeks u_widow u_faces u_turn n_field n_houses n_f0 n_f1 n_f2 n_f3 n_f4 n_f5 n_f6 n_f7 n_f8 n_f9 s_field s_houses s_f0 s_f1 s_f2 s_f3 s_f4 s_f5 s_f6 s_f7 s_f8 s_f9 e_known e_f0 e_f1 k_cells k_across k_down w_f0 w_f1 w_f2 w_f3 r_above r_below m_thrown m_taped m_size m_at m_from m_token m_value m_faultKind m_faultPlace m_lawNow m_walkSet m_oneWidow m_oneTurn m_askWorst m_mayWalk m_oftenAll m_oftenRoad m_oftenPegs m_f1 m_f2 m_f3 m_f4 m_f6 m_f14 m_f15 m_f16 m_f21 m_f22 m_f23 m_f24 m_f25 m_f26 m_f27 m_f28 m_f29 m_f30 m_f31 m_f32 m_f33 m_f34 m_f35 m_f37 m_f42 m_f43 m_f44 m_f45 pl hi0 hi1 hfu hkb hnb hl_a_length hh_a_length hl_i_span hh_i_span hl_i_rule hh_i_rule hl_i_odds hh_i_odds hl_i_wide hh_i_wide hl_i_high hh_i_high hl_i_creeks hh_i_creeks hl_i_houses hh_i_houses hl_i_widows hh_i_widows hl_i_acts hh_i_acts ha_i_f14 ha_i_f16 hl_t_span hh_t_span hl_t_rule hh_t_rule hl_t_odds hh_t_odds hl_t_wide hh_t_wide hl_t_high hh_t_high hl_t_creeks hh_t_creeks hl_t_houses hh_t_houses hl_t_widows hh_t_widows hl_t_acts hh_t_acts ha_t_f14 ha_t_f16 hl_n_houses hh_n_houses ha_n_f1 hl_s_houses hh_s_houses ha_s_f1 hl_e_known hh_e_known ha_w_f1 ha_w_f3 hl_m_taped hh_m_taped hl_m_size hh_m_size hl_m_at hh_m_at hl_m_from hh_m_from hl_m_oneTurn hh_m_oneTurn ha_m_f1 ha_m_f3 ha_m_f14 ha_m_f15 ha_m_f16 ha_m_f21 ha_m_f22 ha_m_f23 ha_m_f25 ha_m_f26 ha_m_f27 ha_m_f30 ha_m_f32 ha_m_f34 ha_m_f42 hIM hRS hRI hPL H locs hP hD hS ls hl
    refine lv_iload_n hx hb dL_law_18 rfl (lv_at hl 0 rfl) ?_
    refine lv_aload_n hx hb dL_law_19 rfl (lv_at hl 3 rfl) ?_
    refine va_slen hx hb hX hbl hbA hS dL_law_20 ?_
    refine lv_bipush (v := 6) hx hb dL_law_21 (by decide) ?_
    refine lv_isub hx hb dL_law_23 ?_
    refine lv_topi (fun v1 ev1 => ?_)
    have tv1 : v1.toInt = ((L : Int)) - 6 := ti_sub hLT ki_6 ev1 (by omega) (by omega)
    refine lv_icmp_gt (tgt := 2230) hx hb dL_law_24 (by decide) (fun c0 => ?_) (fun c0 => ?_)
    · refine lv_iconst (v := 1) hx hb dL_law_2230 (by decide) ?_
      refine va_forget (fun q hq => by have h := hS.2.2 q hq; rw [hAe] at h; exact h) ?_
      refine W.widen (k := 600000) (n := 7302249) (by omega) (by omega) ?_
      exact lw_ret hx hb hr hlocks dL_law_2231
    · have c0 := i_nlt tv1 rfl c0
      refine lv_aload_n hx hb dL_law_27 rfl (lv_at hl 3 rfl) ?_
      refine lv_iload_n hx hb dL_law_28 rfl (lv_at hl 0 rfl) ?_
      refine va_sld hx hb hX hbl hbA hS (ix_in rfl (by omega) (by omega)) dL_law_29 ?_
      refine lv_topi (fun v2 ev2 => ?_)
      refine lv_bipush (v := 127) hx hb dL_law_30 (by decide) ?_
      refine lv_iand hx hb dL_law_32 ?_
      refine lv_topi (fun v3 ev3 => ?_)
      obtain ⟨sa4, sb5⟩ : 0 ≤ v3.toInt ∧ v3.toInt ≤ 127 := and_m 7 (by decide) (by decide) ev3
      exact hall i k n o_f10 d_fault d_place d_kind d_start d_stop a_length a_f0 i_lines i_span i_rule i_odds i_wide i_high i_creeks i_houses i_widows i_acts i_f10 i_f11 i_f12 i_f13 i_f14 i_f15 i_f16 i_f17 i_f18 t_lines t_span t_rule t_odds t_wide t_high t_creeks t_houses t_widows t_acts t_f10 t_f11 t_f12 t_f13 t_f14 t_f15 t_f16 t_f17 t_f18 fq u_rule u_walkers u_creeks u_widow u_faces u_turn n_field n_houses n_f0 n_f1 n_f2 n_f3 n_f4 n_f5 n_f6 n_f7 n_f8 n_f9 s_field s_houses s_f0 s_f1 s_f2 s_f3 s_f4 s_f5 s_f6 s_f7 s_f8 s_f9 e_known e_f0 e_f1 k_cells k_across k_down w_f0 w_f1 w_f2 w_f3 r_above r_below m_thrown m_taped m_size m_at m_from m_token m_value m_faultKind m_faultPlace m_lawNow m_walkSet m_oneWidow m_oneTurn m_askWorst m_mayWalk m_oftenAll m_oftenRoad m_oftenPegs m_f1 m_f2 m_f3 m_f4 m_f6 m_f14 m_f15 m_f16 m_f21 m_f22 m_f23 m_f24 m_f25 m_f26 m_f27 m_f28 m_f29 m_f30 m_f31 m_f32 m_f33 m_f34 m_f35 m_f37 m_f42 m_f43 m_f44 m_f45 pl v3 trivial (by omega) hi0 hi1 hfu hkb hnb hl_a_length hh_a_length hl_i_span hh_i_span hl_i_rule hh_i_rule hl_i_odds hh_i_odds hl_i_wide hh_i_wide hl_i_high hh_i_high hl_i_creeks hh_i_creeks hl_i_houses hh_i_houses hl_i_widows hh_i_widows hl_i_acts hh_i_acts ha_i_f14 ha_i_f16 hl_t_span hh_t_span hl_t_rule hh_t_rule hl_t_odds hh_t_odds hl_t_wide hh_t_wide hl_t_high hh_t_high hl_t_creeks hh_t_creeks hl_t_houses hh_t_houses hl_t_widows hh_t_widows hl_t_acts hh_t_acts ha_t_f14 ha_t_f16 hl_n_houses hh_n_houses ha_n_f1 hl_s_houses hh_s_houses ha_s_f1 hl_e_known hh_e_known ha_w_f1 ha_w_f3 hl_m_taped hh_m_taped hl_m_size hh_m_size hl_m_at hh_m_at hl_m_from hh_m_from hl_m_oneTurn hh_m_oneTurn ha_m_f1 ha_m_f3 ha_m_f14 ha_m_f15 ha_m_f16 ha_m_f21 ha_m_f22 ha_m_f23 ha_m_f25 ha_m_f26 ha_m_f27 ha_m_f30 ha_m_f32 ha_m_f34 ha_m_f42 hIM hRS hRI hPL H locs hP hD hS ls hl
