theorem dL_law_0 : decode code 0 = .ok (.new 7, 3) := by decide +kernel
theorem dL_law_3 : decode code 3 = .ok (.dup, 1) := by decide +kernel
theorem dL_law_4 : decode code 4 = .ok (.invokespecial 9, 3) := by decide +kernel
theorem dL_law_7 : decode code 7 = .ok (.astore_n 1, 1) := by decide +kernel
theorem dL_law_8 : decode code 8 = .ok (.new 10, 3) := by decide +kernel
theorem dL_law_11 : decode code 11 = .ok (.dup, 1) := by decide +kernel
theorem dL_law_12 : decode code 12 = .ok (.invokespecial 12, 3) := by decide +kernel
theorem dL_law_15 : decode code 15 = .ok (.astore_n 2, 1) := by decide +kernel
theorem dL_law_16 : decode code 16 = .ok (.iconst 0, 1) := by decide +kernel
theorem dL_law_17 : decode code 17 = .ok (.istore_n 3, 1) := by decide +kernel
theorem dL_law_27 : decode code 27 = .ok (.aload_n 0, 1) := by decide +kernel
theorem dL_law_28 : decode code 28 = .ok (.iload_n 3, 1) := by decide +kernel
theorem dL_law_29 : decode code 29 = .ok (.iaload, 1) := by decide +kernel
theorem dL_law_30 : decode code 30 = .ok (.bipush 127, 2) := by decide +kernel
theorem dL_law_32 : decode code 32 = .ok (.iand, 1) := by decide +kernel
set_option maxHeartbeats 8000000 in
set_option maxRecDepth 100000 in
theorem whole_start {p : Program} {e : Env} {s : State} {m : MethodId} {below : List Frame} {meth : Method} {c : Code} (l : Launch) (hflags : l.flags = flags0) {sb L : Nat} {xs : Nat → Int32} (hL0 : L ≤ 6) (C0 : lw_At p s m meth c sb L xs) : W p l e room_1 s m #[Value.ref sb] below meth c s.heap [] 0 0 (lw_Z below #[Value.ref sb] s) (entryFrame m ([Value.ref sb] : List Value).toArray 4) := by
  obtain ⟨A, hAe⟩ : ∃ A : Nat → Prop, A = fun q => s.heap.size ≤ q := ⟨_, rfl⟩
  obtain ⟨hx, hb, hr, hml, hown, hts0, hX, hbl, hlocks, hgv⟩ := id C0
  have hown : s.vm.findClass RL = some m.cls := hown
  have hts : ∀ q ∈ GW, q.before #[Value.ref sb] s = true := fun q h => hts0 q (List.mem_filter.mp h).1
  have hA : ∀ q : Nat, s.heap.size ≤ q → A q := fun q h => by rw [hAe]; exact h
  have hbA : ¬ A sb := by rw [hAe]; exact Nat.not_le.mpr hbl
  have hLT : (Int32.ofNat L).toInt = (L : Int) := nI_toInt (by omega)
  obtain ⟨c0, iS0, hKn0⟩ := u_known (C := RX0) (T := TX0) (N := 19) (n := 19) hts iG_X0 (hts _ w_50)
  obtain ⟨c1, iS1, hKn1⟩ := u_known (C := RX1) (T := TX1) (N := 3) (n := 3) hts iG_X1 (hts _ w_283)
  obtain ⟨c2, iS2, hKn2⟩ := u_known (C := RX2) (T := TX2) (N := 2) (n := 2) hts iG_X2 (hts _ w_339)
  obtain ⟨c3, iS3, hKn3⟩ := u_known (C := RX3) (T := TX3) (N := 3) (n := 3) hts iG_X3 (hts _ w_301)
  obtain ⟨c4, iS4, hKn4⟩ := u_known (C := RX4) (T := TX4) (N := 7) (n := 7) hts iG_X4 (hts _ w_29)
  obtain ⟨c5, iS5, hKn5⟩ := u_known (C := RX5) (T := TX5) (N := 4) (n := 4) hts iG_X5 (hts _ w_317)
  obtain ⟨c6, iS6, hKn6⟩ := u_known (C := RX6) (T := TX6) (N := 12) (n := 12) hts iG_X6 (hts _ w_228)
  obtain ⟨c7, iS7, hKn7⟩ := u_known (C := RX7) (T := TX7) (N := 6) (n := 6) hts iG_X7 (hts _ w_193)
  obtain ⟨c8, iS8, hKn8⟩ := u_known (C := RX8) (T := TX8) (N := 2) (n := 2) hts iG_X8 (hts _ w_35)
  obtain ⟨c9, iS9, hKn9⟩ := u_known (C := RX9) (T := TX9) (N := 11) (n := 11) hts iG_X9 (hts _ w_21)
  obtain ⟨c10, iS10, hKn10⟩ := u_known (C := RX10) (T := TX10) (N := 46) (n := 46) hts iG_X10 (hts _ w_1188)
  obtain ⟨G, hKc⟩ : ∃ G : va_G, ∀ (k : Nat) (q : vw_C), vwCl[k]? = some q → u_Kn s q.1 q.2.1 q.2.2 (G.1 k) (G.2 k) := by
    refine ⟨(fun k => if k = 0 then c0 else if k = 1 then c1 else if k = 2 then c2 else if k = 3 then c3 else if k = 4 then c4 else if k = 5 then c5 else if k = 6 then c6 else if k = 7 then c7 else if k = 8 then c8 else if k = 9 then c9 else c10, fun k => if k = 0 then iS0 else if k = 1 then iS1 else if k = 2 then iS2 else if k = 3 then iS3 else if k = 4 then iS4 else if k = 5 then iS5 else if k = 6 then iS6 else if k = 7 then iS7 else if k = 8 then iS8 else if k = 9 then iS9 else iS10), ?_⟩
    intro k q hq
    match k, hq with
    | 0, hq => cases hq; exact hKn0
    | 1, hq => cases hq; exact hKn1
    | 2, hq => cases hq; exact hKn2
    | 3, hq => cases hq; exact hKn3
    | 4, hq => cases hq; exact hKn4
    | 5, hq => cases hq; exact hKn5
    | 6, hq => cases hq; exact hKn6
    | 7, hq => cases hq; exact hKn7
    | 8, hq => cases hq; exact hKn8
    | 9, hq => cases hq; exact hKn9
    | 10, hq => cases hq; exact hKn10
    | k + 11, hq => simp [vwCl] at hq
  obtain ⟨cI, kI, oI, aI, bI, dI⟩ := Cond.arrayClass_spec (hts _ w_162)
  obtain ⟨cJ, kJ, oJ, aJ, bJ, dJ⟩ := Cond.arrayClass_spec (hts _ w_281)
  obtain ⟨cZ, kZ, oZ, aZ, bZ, dZ⟩ := Cond.arrayClass_spec (hts _ w_337)
  obtain ⟨cB, kB, oB, aB, bB, dB⟩ := Cond.arrayClass_spec (hts _ w_48)
  have hZ : nz s := nz_of (fun q hm _ => hts0 q (List.mem_append_right _ hm)) (hts0 _ (List.mem_append_right _ (List.mem_of_getElem? (i := 191) (by decide +kernel))))
  obtain ⟨oQ, cQ, kQ, e1, e2, e3, e4, e5⟩ := Cond.arrayOver_spec hZ.2
  have hK : va_K G vwCl (TY cI cJ cZ cB cQ) s := by
    refine ⟨hKc, fun k q hq => ?_⟩
    match k, hq with
    | 0, hq => cases hq; exact ⟨fun n z => ⟨fun k h => (by cases h), kI, bI, oI, dI⟩, aI⟩
    | 1, hq => cases hq; exact ⟨fun n z => ⟨fun k h => (by cases h), kJ, bJ, oJ, dJ⟩, aJ⟩
    | 2, hq => cases hq; exact ⟨fun n z => ⟨fun k h => (by cases h), kZ, bZ, oZ, dZ⟩, aZ⟩
    | 3, hq => cases hq; exact ⟨fun n z => ⟨fun k h => (by cases h), kB, bB, oB, dB⟩, aB⟩
    | 4, hq => cases hq; exact ⟨fun n z => ⟨fun k h => (by cases h), kQ, e3, oQ, e4⟩, kQ, oQ, e3, e4, e1, e5⟩
    | k + 5, hq => simp [TY] at hq
  have hP : va_P G vwCl [] s.heap := fun k q h => by simp at h
  have hD : va_D A [] := ⟨fun i j p q h => by simp at h, fun k q h => by simp at h⟩
  have hS : va_S A s.heap s.heap [] := va_S.rf
  have hl := lv_entry ([.ref sb]) (n := 4) (Nat.le_of_ble_eq_true rfl)
  rw [lg_entry_eq]
  generalize (lg_sl ([.ref sb]) ++ List.replicate (4 - (lg_sl ([.ref sb])).length) Slot.unset).toArray = ls at hl ⊢
  have hl : lv_has ls 4 [(0, .ref sb)] := hl
  refine va_new (ci := 9) (fs := [.null, .null, .null, .null, .null, .null, .null, .null, .null, .null, .null]) (C := RX9) (T := TX9) (N := 11) hx hb hts iG_X9 tyX9 tyX9_ok hown (hts _ w_20) (hts _ w_21) (hts _ w_1) hK hP hD hS hA rfl (nf_X9) (Nat.le_of_ble_eq_true rfl) (Nat.le_of_ble_eq_true rfl) dL_law_0 (fun q1 H hP hD hS => ?_)
  have hP : va_P G vwCl [(q1, .inr (9, [.null, .null, .null, .null, .null, .null, .null, .null, .null, .null, .null]))] H := hP
  have hD : va_D A [(q1, .inr (9, [.null, .null, .null, .null, .null, .null, .null, .null, .null, .null, .null]))] := hD
  refine lv_dup hx hb dL_law_3 rfl ?_
  refine k_v (wc := [(q1, .inr (9, [.null, .null, .null, .null, .null, .null, .null, .null, .null, .null, .null]))]) (wr := []) hP hD hS hA [0] [] rfl rfl rfl (by decide) (va_runI (As := []) (rest := [.ref q1]) ⟨hx, hb, hml, hown, hts⟩ (f_X9_init l G cI cJ cZ cB cQ _ q1) (cwI 0 hts (gW w_24) rfl rfl rfl (hts _ w_1) (hts _ w_22) (hts _ w_23) rfl hd_X9_init ⟨Nat.le_of_ble_eq_true rfl, Nat.le_of_ble_eq_true rfl⟩) (mS hK hZ hP hD [0] rfl rfl [.ref q1]) rfl rfl hl.1 rfl (lv_room (Nat.le_of_ble_eq_true rfl)) dL_law_4 ⟨Nat.le_of_ble_eq_true rfl, Nat.le_of_ble_eq_true rfl⟩) (fun u3 H locs hw4 hP hD hS => ?_)
  obtain ⟨b5, br6, bt7, bi8, bc9, bn10, bs11, be12, bw13⟩ := u3
  have hP : va_P G vwCl [(q1, oX9 b5), (b5 0, oX4 br6 0 (-1) 0 0 0), (br6 2, oX8 bt7 0), (bt7 0, .inl (cB, 900, .inl (fun _ => 0))), (br6 3, oX0 bi8 0 0 0 0 0 0 0 0 0 0), (bi8 10, .inl (cI, 12, .inl (fun _ => 0))), (bi8 11, .inl (cI, 6, .inl (fun _ => 0))), (bi8 12, .inl (cI, 7, .inl (fun _ => 0))), (bi8 13, .inl (cI, 7, .inl (fun _ => 0))), (bi8 14, .inl (cI, 7, .inl (fun _ => 0))), (bi8 15, .inl (cI, 7, .inl (fun _ => 0))), (bi8 16, .inl (cI, 7, .inl (fun _ => 0))), (bi8 17, .inl (cI, 56, .inl (fun _ => 0))), (bi8 18, .inl (cI, 30, .inl (fun _ => 0))), (b5 1, oX0 bc9 0 0 0 0 0 0 0 0 0 0), (bc9 10, .inl (cI, 12, .inl (fun _ => 0))), (bc9 11, .inl (cI, 6, .inl (fun _ => 0))), (bc9 12, .inl (cI, 7, .inl (fun _ => 0))), (bc9 13, .inl (cI, 7, .inl (fun _ => 0))), (bc9 14, .inl (cI, 7, .inl (fun _ => 0))), (bc9 15, .inl (cI, 7, .inl (fun _ => 0))), (bc9 16, .inl (cI, 7, .inl (fun _ => 0))), (bc9 17, .inl (cI, 56, .inl (fun _ => 0))), (bc9 18, .inl (cI, 30, .inl (fun _ => 0))), (b5 2, .inl (cQ, 3, .inr (.inr (.inr (.inr (fun _ => none)))))), (b5 3, oX7 z0 0 0 0 0 0 0), (b5 4, oX6 bn10 0 0), (bn10 0, .inl (cI, 287, .inl (fun _ => 0))), (bn10 1, .inl (cI, 7, .inl (fun _ => 0))), (bn10 2, .inl (cI, 7, .inl (fun _ => 0))), (bn10 3, .inl (cJ, 7, .inr (.inl (fun _ => 0)))), (bn10 4, .inl (cI, 7, .inl (fun _ => 0))), (bn10 5, .inl (cI, 6, .inl (fun _ => 0))), (bn10 6, .inl (cI, 78, .inl (fun _ => 0))), (bn10 7, .inl (cJ, 13, .inr (.inl (fun _ => 0)))), (bn10 8, .inl (cJ, 13, .inr (.inl (fun _ => 0)))), (bn10 9, .inl (cJ, 13, .inr (.inl (fun _ => 0)))), (b5 5, oX6 bs11 0 0), (bs11 0, .inl (cI, 287, .inl (fun _ => 0))), (bs11 1, .inl (cI, 7, .inl (fun _ => 0))), (bs11 2, .inl (cI, 7, .inl (fun _ => 0))), (bs11 3, .inl (cJ, 7, .inr (.inl (fun _ => 0)))), (bs11 4, .inl (cI, 7, .inl (fun _ => 0))), (bs11 5, .inl (cI, 6, .inl (fun _ => 0))), (bs11 6, .inl (cI, 78, .inl (fun _ => 0))), (bs11 7, .inl (cJ, 13, .inr (.inl (fun _ => 0)))), (bs11 8, .inl (cJ, 13, .inr (.inl (fun _ => 0)))), (bs11 9, .inl (cJ, 13, .inr (.inl (fun _ => 0)))), (b5 6, oX1 be12 0), (be12 0, .inl (cJ, 128, .inr (.inl (fun _ => 0)))), (be12 1, .inl (cI, 128, .inl (fun _ => 0))), (b5 7, oX3 z0 0 0 0), (b5 8, oX5 bw13), (bw13 0, .inl (cJ, 240, .inr (.inl (fun _ => 0)))), (bw13 1, .inl (cZ, 4, .inl (fun _ => 0))), (bw13 2, .inl (cI, 4, .inl (fun _ => 0))), (bw13 3, .inl (cI, 4, .inl (fun _ => 0))), (b5 9, oX2 z0 0 1), (b5 10, .inl (cI, 164, .inl (fun _ => 0)))] H := hP
  have hD : va_D A [(q1, oX9 b5), (b5 0, oX4 br6 0 (-1) 0 0 0), (br6 2, oX8 bt7 0), (bt7 0, .inl (cB, 900, .inl (fun _ => 0))), (br6 3, oX0 bi8 0 0 0 0 0 0 0 0 0 0), (bi8 10, .inl (cI, 12, .inl (fun _ => 0))), (bi8 11, .inl (cI, 6, .inl (fun _ => 0))), (bi8 12, .inl (cI, 7, .inl (fun _ => 0))), (bi8 13, .inl (cI, 7, .inl (fun _ => 0))), (bi8 14, .inl (cI, 7, .inl (fun _ => 0))), (bi8 15, .inl (cI, 7, .inl (fun _ => 0))), (bi8 16, .inl (cI, 7, .inl (fun _ => 0))), (bi8 17, .inl (cI, 56, .inl (fun _ => 0))), (bi8 18, .inl (cI, 30, .inl (fun _ => 0))), (b5 1, oX0 bc9 0 0 0 0 0 0 0 0 0 0), (bc9 10, .inl (cI, 12, .inl (fun _ => 0))), (bc9 11, .inl (cI, 6, .inl (fun _ => 0))), (bc9 12, .inl (cI, 7, .inl (fun _ => 0))), (bc9 13, .inl (cI, 7, .inl (fun _ => 0))), (bc9 14, .inl (cI, 7, .inl (fun _ => 0))), (bc9 15, .inl (cI, 7, .inl (fun _ => 0))), (bc9 16, .inl (cI, 7, .inl (fun _ => 0))), (bc9 17, .inl (cI, 56, .inl (fun _ => 0))), (bc9 18, .inl (cI, 30, .inl (fun _ => 0))), (b5 2, .inl (cQ, 3, .inr (.inr (.inr (.inr (fun _ => none)))))), (b5 3, oX7 z0 0 0 0 0 0 0), (b5 4, oX6 bn10 0 0), (bn10 0, .inl (cI, 287, .inl (fun _ => 0))), (bn10 1, .inl (cI, 7, .inl (fun _ => 0))), (bn10 2, .inl (cI, 7, .inl (fun _ => 0))), (bn10 3, .inl (cJ, 7, .inr (.inl (fun _ => 0)))), (bn10 4, .inl (cI, 7, .inl (fun _ => 0))), (bn10 5, .inl (cI, 6, .inl (fun _ => 0))), (bn10 6, .inl (cI, 78, .inl (fun _ => 0))), (bn10 7, .inl (cJ, 13, .inr (.inl (fun _ => 0)))), (bn10 8, .inl (cJ, 13, .inr (.inl (fun _ => 0)))), (bn10 9, .inl (cJ, 13, .inr (.inl (fun _ => 0)))), (b5 5, oX6 bs11 0 0), (bs11 0, .inl (cI, 287, .inl (fun _ => 0))), (bs11 1, .inl (cI, 7, .inl (fun _ => 0))), (bs11 2, .inl (cI, 7, .inl (fun _ => 0))), (bs11 3, .inl (cJ, 7, .inr (.inl (fun _ => 0)))), (bs11 4, .inl (cI, 7, .inl (fun _ => 0))), (bs11 5, .inl (cI, 6, .inl (fun _ => 0))), (bs11 6, .inl (cI, 78, .inl (fun _ => 0))), (bs11 7, .inl (cJ, 13, .inr (.inl (fun _ => 0)))), (bs11 8, .inl (cJ, 13, .inr (.inl (fun _ => 0)))), (bs11 9, .inl (cJ, 13, .inr (.inl (fun _ => 0)))), (b5 6, oX1 be12 0), (be12 0, .inl (cJ, 128, .inr (.inl (fun _ => 0)))), (be12 1, .inl (cI, 128, .inl (fun _ => 0))), (b5 7, oX3 z0 0 0 0), (b5 8, oX5 bw13), (bw13 0, .inl (cJ, 240, .inr (.inl (fun _ => 0)))), (bw13 1, .inl (cZ, 4, .inl (fun _ => 0))), (bw13 2, .inl (cI, 4, .inl (fun _ => 0))), (bw13 3, .inl (cI, 4, .inl (fun _ => 0))), (b5 9, oX2 z0 0 1), (b5 10, .inl (cI, 164, .inl (fun _ => 0)))] := hD
  refine lv_astore_n (lv' := [(1, .ref q1), (0, .ref sb)]) hx hb dL_law_7 rfl hl (by decide) rfl (fun ls hl => ?_)
  refine va_new (ci := 10) (fs := [.int 0, .null, .null, .null, .null, .int 0, .null, .int 0, .int 0, .int 0, .int 0, .int 0, .int 0, .int 0, .null, .null, .null, .int 0, .int 0, .int 0, .int 0, .null, .null, .null, .null, .null, .null, .null, .null, .null, .null, .null, .null, .null, .null, .null, .int 0, .null, .int 0, .long 0, .long 0, .long 0, .null, .null, .null, .null]) (C := RX10) (T := TX10) (N := 46) hx hb hts iG_X10 tyX10 tyX10_ok hown (hts _ w_1187) (hts _ w_1188) (hts _ w_11) hK hP hD hS hA rfl (nf_X10) (Nat.le_of_ble_eq_true rfl) (Nat.le_of_ble_eq_true rfl) dL_law_8 (fun q14 H hP hD hS => ?_)
  have hP : va_P G vwCl [(q1, oX9 b5), (b5 0, oX4 br6 0 (-1) 0 0 0), (br6 2, oX8 bt7 0), (bt7 0, .inl (cB, 900, .inl (fun _ => 0))), (br6 3, oX0 bi8 0 0 0 0 0 0 0 0 0 0), (bi8 10, .inl (cI, 12, .inl (fun _ => 0))), (bi8 11, .inl (cI, 6, .inl (fun _ => 0))), (bi8 12, .inl (cI, 7, .inl (fun _ => 0))), (bi8 13, .inl (cI, 7, .inl (fun _ => 0))), (bi8 14, .inl (cI, 7, .inl (fun _ => 0))), (bi8 15, .inl (cI, 7, .inl (fun _ => 0))), (bi8 16, .inl (cI, 7, .inl (fun _ => 0))), (bi8 17, .inl (cI, 56, .inl (fun _ => 0))), (bi8 18, .inl (cI, 30, .inl (fun _ => 0))), (b5 1, oX0 bc9 0 0 0 0 0 0 0 0 0 0), (bc9 10, .inl (cI, 12, .inl (fun _ => 0))), (bc9 11, .inl (cI, 6, .inl (fun _ => 0))), (bc9 12, .inl (cI, 7, .inl (fun _ => 0))), (bc9 13, .inl (cI, 7, .inl (fun _ => 0))), (bc9 14, .inl (cI, 7, .inl (fun _ => 0))), (bc9 15, .inl (cI, 7, .inl (fun _ => 0))), (bc9 16, .inl (cI, 7, .inl (fun _ => 0))), (bc9 17, .inl (cI, 56, .inl (fun _ => 0))), (bc9 18, .inl (cI, 30, .inl (fun _ => 0))), (b5 2, .inl (cQ, 3, .inr (.inr (.inr (.inr (fun _ => none)))))), (b5 3, oX7 z0 0 0 0 0 0 0), (b5 4, oX6 bn10 0 0), (bn10 0, .inl (cI, 287, .inl (fun _ => 0))), (bn10 1, .inl (cI, 7, .inl (fun _ => 0))), (bn10 2, .inl (cI, 7, .inl (fun _ => 0))), (bn10 3, .inl (cJ, 7, .inr (.inl (fun _ => 0)))), (bn10 4, .inl (cI, 7, .inl (fun _ => 0))), (bn10 5, .inl (cI, 6, .inl (fun _ => 0))), (bn10 6, .inl (cI, 78, .inl (fun _ => 0))), (bn10 7, .inl (cJ, 13, .inr (.inl (fun _ => 0)))), (bn10 8, .inl (cJ, 13, .inr (.inl (fun _ => 0)))), (bn10 9, .inl (cJ, 13, .inr (.inl (fun _ => 0)))), (b5 5, oX6 bs11 0 0), (bs11 0, .inl (cI, 287, .inl (fun _ => 0))), (bs11 1, .inl (cI, 7, .inl (fun _ => 0))), (bs11 2, .inl (cI, 7, .inl (fun _ => 0))), (bs11 3, .inl (cJ, 7, .inr (.inl (fun _ => 0)))), (bs11 4, .inl (cI, 7, .inl (fun _ => 0))), (bs11 5, .inl (cI, 6, .inl (fun _ => 0))), (bs11 6, .inl (cI, 78, .inl (fun _ => 0))), (bs11 7, .inl (cJ, 13, .inr (.inl (fun _ => 0)))), (bs11 8, .inl (cJ, 13, .inr (.inl (fun _ => 0)))), (bs11 9, .inl (cJ, 13, .inr (.inl (fun _ => 0)))), (b5 6, oX1 be12 0), (be12 0, .inl (cJ, 128, .inr (.inl (fun _ => 0)))), (be12 1, .inl (cI, 128, .inl (fun _ => 0))), (b5 7, oX3 z0 0 0 0), (b5 8, oX5 bw13), (bw13 0, .inl (cJ, 240, .inr (.inl (fun _ => 0)))), (bw13 1, .inl (cZ, 4, .inl (fun _ => 0))), (bw13 2, .inl (cI, 4, .inl (fun _ => 0))), (bw13 3, .inl (cI, 4, .inl (fun _ => 0))), (b5 9, oX2 z0 0 1), (b5 10, .inl (cI, 164, .inl (fun _ => 0))), (q14, .inr (10, [.int 0, .null, .null, .null, .null, .int 0, .null, .int 0, .int 0, .int 0, .int 0, .int 0, .int 0, .int 0, .null, .null, .null, .int 0, .int 0, .int 0, .int 0, .null, .null, .null, .null, .null, .null, .null, .null, .null, .null, .null, .null, .null, .null, .null, .int 0, .null, .int 0, .long 0, .long 0, .long 0, .null, .null, .null, .null]))] H := hP
  have hD : va_D A [(q1, oX9 b5), (b5 0, oX4 br6 0 (-1) 0 0 0), (br6 2, oX8 bt7 0), (bt7 0, .inl (cB, 900, .inl (fun _ => 0))), (br6 3, oX0 bi8 0 0 0 0 0 0 0 0 0 0), (bi8 10, .inl (cI, 12, .inl (fun _ => 0))), (bi8 11, .inl (cI, 6, .inl (fun _ => 0))), (bi8 12, .inl (cI, 7, .inl (fun _ => 0))), (bi8 13, .inl (cI, 7, .inl (fun _ => 0))), (bi8 14, .inl (cI, 7, .inl (fun _ => 0))), (bi8 15, .inl (cI, 7, .inl (fun _ => 0))), (bi8 16, .inl (cI, 7, .inl (fun _ => 0))), (bi8 17, .inl (cI, 56, .inl (fun _ => 0))), (bi8 18, .inl (cI, 30, .inl (fun _ => 0))), (b5 1, oX0 bc9 0 0 0 0 0 0 0 0 0 0), (bc9 10, .inl (cI, 12, .inl (fun _ => 0))), (bc9 11, .inl (cI, 6, .inl (fun _ => 0))), (bc9 12, .inl (cI, 7, .inl (fun _ => 0))), (bc9 13, .inl (cI, 7, .inl (fun _ => 0))), (bc9 14, .inl (cI, 7, .inl (fun _ => 0))), (bc9 15, .inl (cI, 7, .inl (fun _ => 0))), (bc9 16, .inl (cI, 7, .inl (fun _ => 0))), (bc9 17, .inl (cI, 56, .inl (fun _ => 0))), (bc9 18, .inl (cI, 30, .inl (fun _ => 0))), (b5 2, .inl (cQ, 3, .inr (.inr (.inr (.inr (fun _ => none)))))), (b5 3, oX7 z0 0 0 0 0 0 0), (b5 4, oX6 bn10 0 0), (bn10 0, .inl (cI, 287, .inl (fun _ => 0))), (bn10 1, .inl (cI, 7, .inl (fun _ => 0))), (bn10 2, .inl (cI, 7, .inl (fun _ => 0))), (bn10 3, .inl (cJ, 7, .inr (.inl (fun _ => 0)))), (bn10 4, .inl (cI, 7, .inl (fun _ => 0))), (bn10 5, .inl (cI, 6, .inl (fun _ => 0))), (bn10 6, .inl (cI, 78, .inl (fun _ => 0))), (bn10 7, .inl (cJ, 13, .inr (.inl (fun _ => 0)))), (bn10 8, .inl (cJ, 13, .inr (.inl (fun _ => 0)))), (bn10 9, .inl (cJ, 13, .inr (.inl (fun _ => 0)))), (b5 5, oX6 bs11 0 0), (bs11 0, .inl (cI, 287, .inl (fun _ => 0))), (bs11 1, .inl (cI, 7, .inl (fun _ => 0))), (bs11 2, .inl (cI, 7, .inl (fun _ => 0))), (bs11 3, .inl (cJ, 7, .inr (.inl (fun _ => 0)))), (bs11 4, .inl (cI, 7, .inl (fun _ => 0))), (bs11 5, .inl (cI, 6, .inl (fun _ => 0))), (bs11 6, .inl (cI, 78, .inl (fun _ => 0))), (bs11 7, .inl (cJ, 13, .inr (.inl (fun _ => 0)))), (bs11 8, .inl (cJ, 13, .inr (.inl (fun _ => 0)))), (bs11 9, .inl (cJ, 13, .inr (.inl (fun _ => 0)))), (b5 6, oX1 be12 0), (be12 0, .inl (cJ, 128, .inr (.inl (fun _ => 0)))), (be12 1, .inl (cI, 128, .inl (fun _ => 0))), (b5 7, oX3 z0 0 0 0), (b5 8, oX5 bw13), (bw13 0, .inl (cJ, 240, .inr (.inl (fun _ => 0)))), (bw13 1, .inl (cZ, 4, .inl (fun _ => 0))), (bw13 2, .inl (cI, 4, .inl (fun _ => 0))), (bw13 3, .inl (cI, 4, .inl (fun _ => 0))), (b5 9, oX2 z0 0 1), (b5 10, .inl (cI, 164, .inl (fun _ => 0))), (q14, .inr (10, [.int 0, .null, .null, .null, .null, .int 0, .null, .int 0, .int 0, .int 0, .int 0, .int 0, .int 0, .int 0, .null, .null, .null, .int 0, .int 0, .int 0, .int 0, .null, .null, .null, .null, .null, .null, .null, .null, .null, .null, .null, .null, .null, .null, .null, .int 0, .null, .int 0, .long 0, .long 0, .long 0, .null, .null, .null, .null]))] := hD
  refine lv_dup hx hb dL_law_11 rfl ?_
  refine k_v (wc := [(q14, .inr (10, [.int 0, .null, .null, .null, .null, .int 0, .null, .int 0, .int 0, .int 0, .int 0, .int 0, .int 0, .int 0, .null, .null, .null, .int 0, .int 0, .int 0, .int 0, .null, .null, .null, .null, .null, .null, .null, .null, .null, .null, .null, .null, .null, .null, .null, .int 0, .null, .int 0, .long 0, .long 0, .long 0, .null, .null, .null, .null]))]) (wr := [(q1, oX9 b5), (b5 0, oX4 br6 0 (-1) 0 0 0), (br6 2, oX8 bt7 0), (bt7 0, .inl (cB, 900, .inl (fun _ => 0))), (br6 3, oX0 bi8 0 0 0 0 0 0 0 0 0 0), (bi8 10, .inl (cI, 12, .inl (fun _ => 0))), (bi8 11, .inl (cI, 6, .inl (fun _ => 0))), (bi8 12, .inl (cI, 7, .inl (fun _ => 0))), (bi8 13, .inl (cI, 7, .inl (fun _ => 0))), (bi8 14, .inl (cI, 7, .inl (fun _ => 0))), (bi8 15, .inl (cI, 7, .inl (fun _ => 0))), (bi8 16, .inl (cI, 7, .inl (fun _ => 0))), (bi8 17, .inl (cI, 56, .inl (fun _ => 0))), (bi8 18, .inl (cI, 30, .inl (fun _ => 0))), (b5 1, oX0 bc9 0 0 0 0 0 0 0 0 0 0), (bc9 10, .inl (cI, 12, .inl (fun _ => 0))), (bc9 11, .inl (cI, 6, .inl (fun _ => 0))), (bc9 12, .inl (cI, 7, .inl (fun _ => 0))), (bc9 13, .inl (cI, 7, .inl (fun _ => 0))), (bc9 14, .inl (cI, 7, .inl (fun _ => 0))), (bc9 15, .inl (cI, 7, .inl (fun _ => 0))), (bc9 16, .inl (cI, 7, .inl (fun _ => 0))), (bc9 17, .inl (cI, 56, .inl (fun _ => 0))), (bc9 18, .inl (cI, 30, .inl (fun _ => 0))), (b5 2, .inl (cQ, 3, .inr (.inr (.inr (.inr (fun _ => none)))))), (b5 3, oX7 z0 0 0 0 0 0 0), (b5 4, oX6 bn10 0 0), (bn10 0, .inl (cI, 287, .inl (fun _ => 0))), (bn10 1, .inl (cI, 7, .inl (fun _ => 0))), (bn10 2, .inl (cI, 7, .inl (fun _ => 0))), (bn10 3, .inl (cJ, 7, .inr (.inl (fun _ => 0)))), (bn10 4, .inl (cI, 7, .inl (fun _ => 0))), (bn10 5, .inl (cI, 6, .inl (fun _ => 0))), (bn10 6, .inl (cI, 78, .inl (fun _ => 0))), (bn10 7, .inl (cJ, 13, .inr (.inl (fun _ => 0)))), (bn10 8, .inl (cJ, 13, .inr (.inl (fun _ => 0)))), (bn10 9, .inl (cJ, 13, .inr (.inl (fun _ => 0)))), (b5 5, oX6 bs11 0 0), (bs11 0, .inl (cI, 287, .inl (fun _ => 0))), (bs11 1, .inl (cI, 7, .inl (fun _ => 0))), (bs11 2, .inl (cI, 7, .inl (fun _ => 0))), (bs11 3, .inl (cJ, 7, .inr (.inl (fun _ => 0)))), (bs11 4, .inl (cI, 7, .inl (fun _ => 0))), (bs11 5, .inl (cI, 6, .inl (fun _ => 0))), (bs11 6, .inl (cI, 78, .inl (fun _ => 0))), (bs11 7, .inl (cJ, 13, .inr (.inl (fun _ => 0)))), (bs11 8, .inl (cJ, 13, .inr (.inl (fun _ => 0)))), (bs11 9, .inl (cJ, 13, .inr (.inl (fun _ => 0)))), (b5 6, oX1 be12 0), (be12 0, .inl (cJ, 128, .inr (.inl (fun _ => 0)))), (be12 1, .inl (cI, 128, .inl (fun _ => 0))), (b5 7, oX3 z0 0 0 0), (b5 8, oX5 bw13), (bw13 0, .inl (cJ, 240, .inr (.inl (fun _ => 0)))), (bw13 1, .inl (cZ, 4, .inl (fun _ => 0))), (bw13 2, .inl (cI, 4, .inl (fun _ => 0))), (bw13 3, .inl (cI, 4, .inl (fun _ => 0))), (b5 9, oX2 z0 0 1), (b5 10, .inl (cI, 164, .inl (fun _ => 0)))]) hP hD hS hA [59] [0, 1, 2, 3, 4, 5, 6, 7, 8, 9, 10, 11, 12, 13, 14, 15, 16, 17, 18, 19, 20, 21, 22, 23, 24, 25, 26, 27, 28, 29, 30, 31, 32, 33, 34, 35, 36, 37, 38, 39, 40, 41, 42, 43, 44, 45, 46, 47, 48, 49, 50, 51, 52, 53, 54, 55, 56, 57, 58] rfl rfl rfl (by decide) (va_runI (As := []) (rest := [.ref q14]) ⟨hx, hb, hml, hown, hts⟩ (f_X10_init l G cI cJ cZ cB cQ _ q14) (cwI 0 hts (gW w_1191) rfl rfl rfl (hts _ w_11) (hts _ w_1189) (hts _ w_1190) rfl hd_X10_init ⟨Nat.le_of_ble_eq_true rfl, Nat.le_of_ble_eq_true rfl⟩) (mS hK hZ hP hD [59] rfl rfl [.ref q14]) rfl rfl hl.1 rfl (lv_room (Nat.le_of_ble_eq_true rfl)) dL_law_12 ⟨Nat.le_of_ble_eq_true rfl, Nat.le_of_ble_eq_true rfl⟩) (fun u16 H locs hw17 hP hD hS => ?_)
  obtain ⟨b18, rfl⟩ : ∃ z, z = u16 := ⟨_, rfl⟩
  have hP : va_P G vwCl [(q1, oX9 b5), (b5 0, oX4 br6 0 (-1) 0 0 0), (br6 2, oX8 bt7 0), (bt7 0, .inl (cB, 900, .inl (fun _ => 0))), (br6 3, oX0 bi8 0 0 0 0 0 0 0 0 0 0), (bi8 10, .inl (cI, 12, .inl (fun _ => 0))), (bi8 11, .inl (cI, 6, .inl (fun _ => 0))), (bi8 12, .inl (cI, 7, .inl (fun _ => 0))), (bi8 13, .inl (cI, 7, .inl (fun _ => 0))), (bi8 14, .inl (cI, 7, .inl (fun _ => 0))), (bi8 15, .inl (cI, 7, .inl (fun _ => 0))), (bi8 16, .inl (cI, 7, .inl (fun _ => 0))), (bi8 17, .inl (cI, 56, .inl (fun _ => 0))), (bi8 18, .inl (cI, 30, .inl (fun _ => 0))), (b5 1, oX0 bc9 0 0 0 0 0 0 0 0 0 0), (bc9 10, .inl (cI, 12, .inl (fun _ => 0))), (bc9 11, .inl (cI, 6, .inl (fun _ => 0))), (bc9 12, .inl (cI, 7, .inl (fun _ => 0))), (bc9 13, .inl (cI, 7, .inl (fun _ => 0))), (bc9 14, .inl (cI, 7, .inl (fun _ => 0))), (bc9 15, .inl (cI, 7, .inl (fun _ => 0))), (bc9 16, .inl (cI, 7, .inl (fun _ => 0))), (bc9 17, .inl (cI, 56, .inl (fun _ => 0))), (bc9 18, .inl (cI, 30, .inl (fun _ => 0))), (b5 2, .inl (cQ, 3, .inr (.inr (.inr (.inr (fun _ => none)))))), (b5 3, oX7 z0 0 0 0 0 0 0), (b5 4, oX6 bn10 0 0), (bn10 0, .inl (cI, 287, .inl (fun _ => 0))), (bn10 1, .inl (cI, 7, .inl (fun _ => 0))), (bn10 2, .inl (cI, 7, .inl (fun _ => 0))), (bn10 3, .inl (cJ, 7, .inr (.inl (fun _ => 0)))), (bn10 4, .inl (cI, 7, .inl (fun _ => 0))), (bn10 5, .inl (cI, 6, .inl (fun _ => 0))), (bn10 6, .inl (cI, 78, .inl (fun _ => 0))), (bn10 7, .inl (cJ, 13, .inr (.inl (fun _ => 0)))), (bn10 8, .inl (cJ, 13, .inr (.inl (fun _ => 0)))), (bn10 9, .inl (cJ, 13, .inr (.inl (fun _ => 0)))), (b5 5, oX6 bs11 0 0), (bs11 0, .inl (cI, 287, .inl (fun _ => 0))), (bs11 1, .inl (cI, 7, .inl (fun _ => 0))), (bs11 2, .inl (cI, 7, .inl (fun _ => 0))), (bs11 3, .inl (cJ, 7, .inr (.inl (fun _ => 0)))), (bs11 4, .inl (cI, 7, .inl (fun _ => 0))), (bs11 5, .inl (cI, 6, .inl (fun _ => 0))), (bs11 6, .inl (cI, 78, .inl (fun _ => 0))), (bs11 7, .inl (cJ, 13, .inr (.inl (fun _ => 0)))), (bs11 8, .inl (cJ, 13, .inr (.inl (fun _ => 0)))), (bs11 9, .inl (cJ, 13, .inr (.inl (fun _ => 0)))), (b5 6, oX1 be12 0), (be12 0, .inl (cJ, 128, .inr (.inl (fun _ => 0)))), (be12 1, .inl (cI, 128, .inl (fun _ => 0))), (b5 7, oX3 z0 0 0 0), (b5 8, oX5 bw13), (bw13 0, .inl (cJ, 240, .inr (.inl (fun _ => 0)))), (bw13 1, .inl (cZ, 4, .inl (fun _ => 0))), (bw13 2, .inl (cI, 4, .inl (fun _ => 0))), (bw13 3, .inl (cI, 4, .inl (fun _ => 0))), (b5 9, oX2 z0 0 1), (b5 10, .inl (cI, 164, .inl (fun _ => 0))), (q14, oX10 b18 0 0 0 0 0 0 0 0 (-1) 0 0 0 0 0 0 0 0 0), (b18 1, .inl (cI, 149, .inl (fun _ => 0))), (b18 2, .inl (cI, 447, .inl (fun _ => 0))), (b18 3, .inl (cZ, 3, .inl (fun _ => 0))), (b18 4, .inl (cB, 900, .inl (fun _ => 0))), (b18 6, .inl (cI, 5, .inl (fun _ => 0))), (b18 14, .inl (cI, 149, .inl (fun _ => 0))), (b18 15, .inl (cZ, 80, .inl (fun _ => 0))), (b18 16, .inl (cI, 7, .inl (fun _ => 0))), (b18 21, .inl (cZ, 80, .inl (fun _ => 0))), (b18 22, .inl (cZ, 80, .inl (fun _ => 0))), (b18 23, .inl (cZ, 80, .inl (fun _ => 0))), (b18 24, .inl (cI, 80, .inl (fun _ => 0))), (b18 25, .inl (cI, 6, .inl (fun _ => 0))), (b18 26, .inl (cI, 287, .inl (fun _ => 0))), (b18 27, .inl (cI, 7, .inl (fun _ => 0))), (b18 28, .inl (cI, 7, .inl (fun _ => 0))), (b18 29, .inl (cI, 6, .inl (fun _ => 0))), (b18 30, .inl (cZ, 1040, .inl (fun _ => 0))), (b18 31, .inl (cI, 1040, .inl (fun _ => 0))), (b18 32, .inl (cI, 78, .inl (fun _ => 0))), (b18 33, .inl (cI, 80, .inl (fun _ => 0))), (b18 34, .inl (cZ, 80, .inl (fun _ => 0))), (b18 35, .inl (cI, 164, .inl (fun _ => 0))), (b18 37, .inl (cI, 128, .inl (fun _ => 0))), (b18 42, .inl (cI, 4, .inl (upd (upd (upd (upd (fun _ => 0) 0 (-1)) 1 (-1)) 2 (-1)) 3 (-1)))), (b18 43, .inl (cI, 4, .inl (fun _ => 0))), (b18 44, .inl (cJ, 240, .inr (.inl (fun _ => 0)))), (b18 45, .inl (cJ, 60, .inr (.inl (fun _ => 0))))] H := hP
  have hD : va_D A [(q1, oX9 b5), (b5 0, oX4 br6 0 (-1) 0 0 0), (br6 2, oX8 bt7 0), (bt7 0, .inl (cB, 900, .inl (fun _ => 0))), (br6 3, oX0 bi8 0 0 0 0 0 0 0 0 0 0), (bi8 10, .inl (cI, 12, .inl (fun _ => 0))), (bi8 11, .inl (cI, 6, .inl (fun _ => 0))), (bi8 12, .inl (cI, 7, .inl (fun _ => 0))), (bi8 13, .inl (cI, 7, .inl (fun _ => 0))), (bi8 14, .inl (cI, 7, .inl (fun _ => 0))), (bi8 15, .inl (cI, 7, .inl (fun _ => 0))), (bi8 16, .inl (cI, 7, .inl (fun _ => 0))), (bi8 17, .inl (cI, 56, .inl (fun _ => 0))), (bi8 18, .inl (cI, 30, .inl (fun _ => 0))), (b5 1, oX0 bc9 0 0 0 0 0 0 0 0 0 0), (bc9 10, .inl (cI, 12, .inl (fun _ => 0))), (bc9 11, .inl (cI, 6, .inl (fun _ => 0))), (bc9 12, .inl (cI, 7, .inl (fun _ => 0))), (bc9 13, .inl (cI, 7, .inl (fun _ => 0))), (bc9 14, .inl (cI, 7, .inl (fun _ => 0))), (bc9 15, .inl (cI, 7, .inl (fun _ => 0))), (bc9 16, .inl (cI, 7, .inl (fun _ => 0))), (bc9 17, .inl (cI, 56, .inl (fun _ => 0))), (bc9 18, .inl (cI, 30, .inl (fun _ => 0))), (b5 2, .inl (cQ, 3, .inr (.inr (.inr (.inr (fun _ => none)))))), (b5 3, oX7 z0 0 0 0 0 0 0), (b5 4, oX6 bn10 0 0), (bn10 0, .inl (cI, 287, .inl (fun _ => 0))), (bn10 1, .inl (cI, 7, .inl (fun _ => 0))), (bn10 2, .inl (cI, 7, .inl (fun _ => 0))), (bn10 3, .inl (cJ, 7, .inr (.inl (fun _ => 0)))), (bn10 4, .inl (cI, 7, .inl (fun _ => 0))), (bn10 5, .inl (cI, 6, .inl (fun _ => 0))), (bn10 6, .inl (cI, 78, .inl (fun _ => 0))), (bn10 7, .inl (cJ, 13, .inr (.inl (fun _ => 0)))), (bn10 8, .inl (cJ, 13, .inr (.inl (fun _ => 0)))), (bn10 9, .inl (cJ, 13, .inr (.inl (fun _ => 0)))), (b5 5, oX6 bs11 0 0), (bs11 0, .inl (cI, 287, .inl (fun _ => 0))), (bs11 1, .inl (cI, 7, .inl (fun _ => 0))), (bs11 2, .inl (cI, 7, .inl (fun _ => 0))), (bs11 3, .inl (cJ, 7, .inr (.inl (fun _ => 0)))), (bs11 4, .inl (cI, 7, .inl (fun _ => 0))), (bs11 5, .inl (cI, 6, .inl (fun _ => 0))), (bs11 6, .inl (cI, 78, .inl (fun _ => 0))), (bs11 7, .inl (cJ, 13, .inr (.inl (fun _ => 0)))), (bs11 8, .inl (cJ, 13, .inr (.inl (fun _ => 0)))), (bs11 9, .inl (cJ, 13, .inr (.inl (fun _ => 0)))), (b5 6, oX1 be12 0), (be12 0, .inl (cJ, 128, .inr (.inl (fun _ => 0)))), (be12 1, .inl (cI, 128, .inl (fun _ => 0))), (b5 7, oX3 z0 0 0 0), (b5 8, oX5 bw13), (bw13 0, .inl (cJ, 240, .inr (.inl (fun _ => 0)))), (bw13 1, .inl (cZ, 4, .inl (fun _ => 0))), (bw13 2, .inl (cI, 4, .inl (fun _ => 0))), (bw13 3, .inl (cI, 4, .inl (fun _ => 0))), (b5 9, oX2 z0 0 1), (b5 10, .inl (cI, 164, .inl (fun _ => 0))), (q14, oX10 b18 0 0 0 0 0 0 0 0 (-1) 0 0 0 0 0 0 0 0 0), (b18 1, .inl (cI, 149, .inl (fun _ => 0))), (b18 2, .inl (cI, 447, .inl (fun _ => 0))), (b18 3, .inl (cZ, 3, .inl (fun _ => 0))), (b18 4, .inl (cB, 900, .inl (fun _ => 0))), (b18 6, .inl (cI, 5, .inl (fun _ => 0))), (b18 14, .inl (cI, 149, .inl (fun _ => 0))), (b18 15, .inl (cZ, 80, .inl (fun _ => 0))), (b18 16, .inl (cI, 7, .inl (fun _ => 0))), (b18 21, .inl (cZ, 80, .inl (fun _ => 0))), (b18 22, .inl (cZ, 80, .inl (fun _ => 0))), (b18 23, .inl (cZ, 80, .inl (fun _ => 0))), (b18 24, .inl (cI, 80, .inl (fun _ => 0))), (b18 25, .inl (cI, 6, .inl (fun _ => 0))), (b18 26, .inl (cI, 287, .inl (fun _ => 0))), (b18 27, .inl (cI, 7, .inl (fun _ => 0))), (b18 28, .inl (cI, 7, .inl (fun _ => 0))), (b18 29, .inl (cI, 6, .inl (fun _ => 0))), (b18 30, .inl (cZ, 1040, .inl (fun _ => 0))), (b18 31, .inl (cI, 1040, .inl (fun _ => 0))), (b18 32, .inl (cI, 78, .inl (fun _ => 0))), (b18 33, .inl (cI, 80, .inl (fun _ => 0))), (b18 34, .inl (cZ, 80, .inl (fun _ => 0))), (b18 35, .inl (cI, 164, .inl (fun _ => 0))), (b18 37, .inl (cI, 128, .inl (fun _ => 0))), (b18 42, .inl (cI, 4, .inl (upd (upd (upd (upd (fun _ => 0) 0 (-1)) 1 (-1)) 2 (-1)) 3 (-1)))), (b18 43, .inl (cI, 4, .inl (fun _ => 0))), (b18 44, .inl (cJ, 240, .inr (.inl (fun _ => 0)))), (b18 45, .inl (cJ, 60, .inr (.inl (fun _ => 0))))] := hD
  refine lv_astore_n (lv' := [(2, .ref q14), (1, .ref q1), (0, .ref sb)]) hx hb dL_law_15 rfl hl (by decide) rfl (fun ls hl => ?_)
  refine lv_iconst (v := 0) hx hb dL_law_16 (by decide) ?_
  refine lv_istore_n (lv' := [(3, .int 0), (2, .ref q14), (1, .ref q1), (0, .ref sb)]) hx hb dL_law_17 rfl hl (by decide) rfl (fun ls hl => ?_)
  refine lv_iload_n hx hb dL_law_18 rfl (lv_at hl 0 rfl) ?_
  refine lv_aload_n hx hb dL_law_19 rfl (lv_at hl 3 rfl) ?_
  refine va_slen hx hb hX hbl hbA hS dL_law_20 ?_
  refine lv_bipush (v := 6) hx hb dL_law_21 (by decide) ?_
  refine lv_isub hx hb dL_law_23 ?_
  refine lv_topi (fun v19 ev19 => ?_)
  have tv19 : v19.toInt = ((L : Int)) - 6 := ti_sub hLT ki_6 ev19 (by omega) (by omega)
  refine lv_icmp_gt (tgt := 2232) hx hb dL_law_24 (by decide) (fun c0 => ?_) (fun c0 => ?_)
  · refine lv_iconst (v := 1) hx hb dL_law_2232 (by decide) ?_
    refine va_forget (fun q hq => by have h := hS.2.2 q hq; rw [hAe] at h; exact h) ?_
    refine W.widen (k := 600000) (n := 7302250) (Nat.le_of_ble_eq_true rfl) (Nat.le_of_ble_eq_true rfl) ?_
    exact lw_ret hx hb hr hlocks dL_law_2233
  · have c0 := i_nlt tv19 ki_0 c0
    have hL : L = 6 := by omega
    have hLi : (L : Int) = 6 := by omega
    refine lv_aload_n hx hb dL_law_27 rfl (lv_at hl 3 rfl) ?_
    refine lv_iload_n hx hb dL_law_28 rfl (lv_at hl 0 rfl) ?_
    refine va_sld hx hb hX hbl hbA hS (ix_in ki_0 (by omega) (by omega)) dL_law_29 ?_
    refine W.eq (g2 := F0 m 30 ls [.int (xs 0)]) rfl ?_
    refine lv_bipush (v := 127) hx hb dL_law_30 (by decide) ?_
    refine lv_iand hx hb dL_law_32 ?_
    refine lv_topi (fun v20 ev20 => ?_)
    by_cases hk : v20.toInt < 0 ∨ 67 < v20.toInt
    · exact law_out q1 b5 br6 bt7 bi8 bc9 bn10 bs11 be12 bw13 q14 b18 hL C0 hAe hK hZ hP hD hS ls hl v20 hk
    · obtain ⟨k, hk68, hkv⟩ : ∃ k : Nat, k < 68 ∧ v20.toInt = (k : Int) := ⟨v20.toInt.toNat, by omega, by omega⟩
      match k, hk68, hkv with
      | 0, _, hkv => exact law_0 q1 b5 br6 bt7 bi8 bc9 bn10 bs11 be12 bw13 q14 b18 hL C0 hAe hK hZ hP hD hS ls hl v20 hkv
      | 1, _, hkv => exact law_1 q1 b5 br6 bt7 bi8 bc9 bn10 bs11 be12 bw13 q14 b18 hL C0 hAe hK hZ hP hD hS ls hl v20 hkv
      | 2, _, hkv => exact law_2 q1 b5 br6 bt7 bi8 bc9 bn10 bs11 be12 bw13 q14 b18 hL C0 hAe hK hZ hP hD hS ls hl v20 hkv
      | 3, _, hkv => exact law_3 q1 b5 br6 bt7 bi8 bc9 bn10 bs11 be12 bw13 q14 b18 hL C0 hAe hK hZ hP hD hS ls hl v20 hkv
      | 4, _, hkv => exact law_4 q1 b5 br6 bt7 bi8 bc9 bn10 bs11 be12 bw13 q14 b18 hL C0 hAe hK hZ hP hD hS ls hl v20 hkv
      | 5, _, hkv => exact law_5 q1 b5 br6 bt7 bi8 bc9 bn10 bs11 be12 bw13 q14 b18 hL C0 hAe hK hZ hP hD hS ls hl v20 hkv
      | 6, _, hkv => exact law_6 q1 b5 br6 bt7 bi8 bc9 bn10 bs11 be12 bw13 q14 b18 hL C0 hAe hK hZ hP hD hS ls hl v20 hkv
      | 7, _, hkv => exact law_7 q1 b5 br6 bt7 bi8 bc9 bn10 bs11 be12 bw13 q14 b18 hL C0 hAe hK hZ hP hD hS ls hl v20 hkv
      | 8, _, hkv => exact law_8 q1 b5 br6 bt7 bi8 bc9 bn10 bs11 be12 bw13 q14 b18 hL C0 hAe hK hZ hP hD hS ls hl v20 hkv
      | 9, _, hkv => exact law_9 q1 b5 br6 bt7 bi8 bc9 bn10 bs11 be12 bw13 q14 b18 hL C0 hAe hK hZ hP hD hS ls hl v20 hkv
      | 10, _, hkv => exact law_10 q1 b5 br6 bt7 bi8 bc9 bn10 bs11 be12 bw13 q14 b18 hL C0 hAe hK hZ hP hD hS ls hl v20 hkv
      | 11, _, hkv => exact law_11 q1 b5 br6 bt7 bi8 bc9 bn10 bs11 be12 bw13 q14 b18 hL C0 hAe hK hZ hP hD hS ls hl v20 hkv
      | 12, _, hkv => exact law_12 q1 b5 br6 bt7 bi8 bc9 bn10 bs11 be12 bw13 q14 b18 hL C0 hAe hK hZ hP hD hS ls hl v20 hkv
      | 13, _, hkv => exact law_13 q1 b5 br6 bt7 bi8 bc9 bn10 bs11 be12 bw13 q14 b18 hL C0 hAe hK hZ hP hD hS ls hl v20 hkv
      | 14, _, hkv => exact law_14 q1 b5 br6 bt7 bi8 bc9 bn10 bs11 be12 bw13 q14 b18 hL C0 hAe hK hZ hP hD hS ls hl v20 hkv
      | 15, _, hkv => exact law_15 q1 b5 br6 bt7 bi8 bc9 bn10 bs11 be12 bw13 q14 b18 hL C0 hAe hK hZ hP hD hS ls hl v20 hkv
      | 16, _, hkv => exact law_16 q1 b5 br6 bt7 bi8 bc9 bn10 bs11 be12 bw13 q14 b18 hL C0 hAe hK hZ hP hD hS ls hl v20 hkv
      | 17, _, hkv => exact law_17 q1 b5 br6 bt7 bi8 bc9 bn10 bs11 be12 bw13 q14 b18 hL C0 hAe hK hZ hP hD hS ls hl v20 hkv
      | 18, _, hkv => exact law_18 q1 b5 br6 bt7 bi8 bc9 bn10 bs11 be12 bw13 q14 b18 hL C0 hAe hK hZ hP hD hS ls hl v20 hkv
      | 19, _, hkv => exact law_19 q1 b5 br6 bt7 bi8 bc9 bn10 bs11 be12 bw13 q14 b18 hL C0 hAe hK hZ hP hD hS ls hl v20 hkv
      | 20, _, hkv => exact law_20 q1 b5 br6 bt7 bi8 bc9 bn10 bs11 be12 bw13 q14 b18 hL C0 hAe hK hZ hP hD hS ls hl v20 hkv
      | 21, _, hkv => exact law_21 q1 b5 br6 bt7 bi8 bc9 bn10 bs11 be12 bw13 q14 b18 hL C0 hAe hK hZ hP hD hS ls hl v20 hkv
      | 22, _, hkv => exact law_22 q1 b5 br6 bt7 bi8 bc9 bn10 bs11 be12 bw13 q14 b18 hL C0 hAe hK hZ hP hD hS ls hl v20 hkv
      | 23, _, hkv => exact law_23 q1 b5 br6 bt7 bi8 bc9 bn10 bs11 be12 bw13 q14 b18 hL C0 hAe hK hZ hP hD hS ls hl v20 hkv
      | 24, _, hkv => exact law_24 q1 b5 br6 bt7 bi8 bc9 bn10 bs11 be12 bw13 q14 b18 hL C0 hAe hK hZ hP hD hS ls hl v20 hkv
      | 25, _, hkv => exact law_25 q1 b5 br6 bt7 bi8 bc9 bn10 bs11 be12 bw13 q14 b18 hL C0 hAe hK hZ hP hD hS ls hl v20 hkv
      | 26, _, hkv => exact law_26 q1 b5 br6 bt7 bi8 bc9 bn10 bs11 be12 bw13 q14 b18 hL C0 hAe hK hZ hP hD hS ls hl v20 hkv
      | 27, _, hkv => exact law_27 q1 b5 br6 bt7 bi8 bc9 bn10 bs11 be12 bw13 q14 b18 hL C0 hAe hK hZ hP hD hS ls hl v20 hkv
      | 28, _, hkv => exact law_28 q1 b5 br6 bt7 bi8 bc9 bn10 bs11 be12 bw13 q14 b18 hL C0 hAe hK hZ hP hD hS ls hl v20 hkv
      | 29, _, hkv => exact law_29 q1 b5 br6 bt7 bi8 bc9 bn10 bs11 be12 bw13 q14 b18 hL C0 hAe hK hZ hP hD hS ls hl v20 hkv
      | 30, _, hkv => exact law_30 q1 b5 br6 bt7 bi8 bc9 bn10 bs11 be12 bw13 q14 b18 hL C0 hAe hK hZ hP hD hS ls hl v20 hkv
      | 31, _, hkv => exact law_31 q1 b5 br6 bt7 bi8 bc9 bn10 bs11 be12 bw13 q14 b18 hL C0 hAe hK hZ hP hD hS ls hl v20 hkv
      | 32, _, hkv => exact law_32 q1 b5 br6 bt7 bi8 bc9 bn10 bs11 be12 bw13 q14 b18 hL C0 hAe hK hZ hP hD hS ls hl v20 hkv
      | 33, _, hkv => exact law_33 q1 b5 br6 bt7 bi8 bc9 bn10 bs11 be12 bw13 q14 b18 hL C0 hAe hK hZ hP hD hS ls hl v20 hkv
      | 34, _, hkv => exact law_34 q1 b5 br6 bt7 bi8 bc9 bn10 bs11 be12 bw13 q14 b18 hL C0 hAe hK hZ hP hD hS ls hl v20 hkv
      | 35, _, hkv => exact law_35 q1 b5 br6 bt7 bi8 bc9 bn10 bs11 be12 bw13 q14 b18 hL C0 hAe hK hZ hP hD hS ls hl v20 hkv
      | 36, _, hkv => exact law_36 q1 b5 br6 bt7 bi8 bc9 bn10 bs11 be12 bw13 q14 b18 hL C0 hAe hK hZ hP hD hS ls hl v20 hkv
      | 37, _, hkv => exact law_37 q1 b5 br6 bt7 bi8 bc9 bn10 bs11 be12 bw13 q14 b18 hL C0 hAe hK hZ hP hD hS ls hl v20 hkv
      | 38, _, hkv => exact law_38 q1 b5 br6 bt7 bi8 bc9 bn10 bs11 be12 bw13 q14 b18 hL C0 hAe hK hZ hP hD hS ls hl v20 hkv
      | 39, _, hkv => exact law_39 q1 b5 br6 bt7 bi8 bc9 bn10 bs11 be12 bw13 q14 b18 hL C0 hAe hK hZ hP hD hS ls hl v20 hkv
      | 40, _, hkv => exact law_40 q1 b5 br6 bt7 bi8 bc9 bn10 bs11 be12 bw13 q14 b18 hL C0 hAe hK hZ hP hD hS ls hl v20 hkv
      | 41, _, hkv => exact law_41 q1 b5 br6 bt7 bi8 bc9 bn10 bs11 be12 bw13 q14 b18 hL C0 hAe hK hZ hP hD hS ls hl v20 hkv
      | 42, _, hkv => exact law_42 q1 b5 br6 bt7 bi8 bc9 bn10 bs11 be12 bw13 q14 b18 hL C0 hAe hK hZ hP hD hS ls hl v20 hkv
      | 43, _, hkv => exact law_43 q1 b5 br6 bt7 bi8 bc9 bn10 bs11 be12 bw13 q14 b18 hL C0 hAe hK hZ hP hD hS ls hl v20 hkv
      | 44, _, hkv => exact law_44 q1 b5 br6 bt7 bi8 bc9 bn10 bs11 be12 bw13 q14 b18 hL C0 hAe hK hZ hP hD hS ls hl v20 hkv
      | 45, _, hkv => exact law_45 q1 b5 br6 bt7 bi8 bc9 bn10 bs11 be12 bw13 q14 b18 hL C0 hAe hK hZ hP hD hS ls hl v20 hkv
      | 46, _, hkv => exact law_46 q1 b5 br6 bt7 bi8 bc9 bn10 bs11 be12 bw13 q14 b18 hL C0 hAe hK hZ hP hD hS ls hl v20 hkv
      | 47, _, hkv => exact law_47 q1 b5 br6 bt7 bi8 bc9 bn10 bs11 be12 bw13 q14 b18 hL C0 hAe hK hZ hP hD hS ls hl v20 hkv
      | 48, _, hkv => exact law_48 q1 b5 br6 bt7 bi8 bc9 bn10 bs11 be12 bw13 q14 b18 hL C0 hAe hK hZ hP hD hS ls hl v20 hkv
      | 49, _, hkv => exact law_49 q1 b5 br6 bt7 bi8 bc9 bn10 bs11 be12 bw13 q14 b18 hL C0 hAe hK hZ hP hD hS ls hl v20 hkv
      | 50, _, hkv => exact law_50 q1 b5 br6 bt7 bi8 bc9 bn10 bs11 be12 bw13 q14 b18 hL C0 hAe hK hZ hP hD hS ls hl v20 hkv
      | 51, _, hkv => exact law_51 q1 b5 br6 bt7 bi8 bc9 bn10 bs11 be12 bw13 q14 b18 hL C0 hAe hK hZ hP hD hS ls hl v20 hkv
      | 52, _, hkv => exact law_52 q1 b5 br6 bt7 bi8 bc9 bn10 bs11 be12 bw13 q14 b18 hL C0 hAe hK hZ hP hD hS ls hl v20 hkv
      | 53, _, hkv => exact law_53 q1 b5 br6 bt7 bi8 bc9 bn10 bs11 be12 bw13 q14 b18 hL C0 hAe hK hZ hP hD hS ls hl v20 hkv
      | 54, _, hkv => exact law_54 q1 b5 br6 bt7 bi8 bc9 bn10 bs11 be12 bw13 q14 b18 hL C0 hAe hK hZ hP hD hS ls hl v20 hkv
      | 55, _, hkv => exact law_55 q1 b5 br6 bt7 bi8 bc9 bn10 bs11 be12 bw13 q14 b18 hL C0 hAe hK hZ hP hD hS ls hl v20 hkv
      | 56, _, hkv => exact law_56 q1 b5 br6 bt7 bi8 bc9 bn10 bs11 be12 bw13 q14 b18 hL C0 hAe hK hZ hP hD hS ls hl v20 hkv
      | 57, _, hkv => exact law_57 q1 b5 br6 bt7 bi8 bc9 bn10 bs11 be12 bw13 q14 b18 hL C0 hAe hK hZ hP hD hS ls hl v20 hkv
      | 58, _, hkv => exact law_58 q1 b5 br6 bt7 bi8 bc9 bn10 bs11 be12 bw13 q14 b18 hL C0 hAe hK hZ hP hD hS ls hl v20 hkv
      | 59, _, hkv => exact law_59 q1 b5 br6 bt7 bi8 bc9 bn10 bs11 be12 bw13 q14 b18 hL C0 hAe hK hZ hP hD hS ls hl v20 hkv
      | 60, _, hkv => exact law_60 q1 b5 br6 bt7 bi8 bc9 bn10 bs11 be12 bw13 q14 b18 hL C0 hAe hK hZ hP hD hS ls hl v20 hkv
      | 61, _, hkv => exact law_61 q1 b5 br6 bt7 bi8 bc9 bn10 bs11 be12 bw13 q14 b18 hL C0 hAe hK hZ hP hD hS ls hl v20 hkv
      | 62, _, hkv => exact law_62 q1 b5 br6 bt7 bi8 bc9 bn10 bs11 be12 bw13 q14 b18 hL C0 hAe hK hZ hP hD hS ls hl v20 hkv
      | 63, _, hkv => exact law_63 q1 b5 br6 bt7 bi8 bc9 bn10 bs11 be12 bw13 q14 b18 hL C0 hAe hK hZ hP hD hS ls hl v20 hkv
      | 64, _, hkv => exact law_64 q1 b5 br6 bt7 bi8 bc9 bn10 bs11 be12 bw13 q14 b18 hL C0 hAe hK hZ hP hD hS ls hl v20 hkv
      | 65, _, hkv => exact law_65 q1 b5 br6 bt7 bi8 bc9 bn10 bs11 be12 bw13 q14 b18 hL C0 hAe hK hZ hP hD hS ls hl v20 hkv
      | 66, _, hkv => exact law_66 q1 b5 br6 bt7 bi8 bc9 bn10 bs11 be12 bw13 q14 b18 hL C0 hAe hK hZ hP hD hS ls hl v20 hkv
      | 67, _, hkv => exact law_67 q1 b5 br6 bt7 bi8 bc9 bn10 bs11 be12 bw13 q14 b18 hL C0 hAe hK hZ hP hD hS ls hl v20 hkv
      | k + 68, h, _ => exact absurd h (by omega)
set_option maxHeartbeats 4000000 in
theorem lw_walk (l : Launch) (hflags : l.flags = flags0) (b : Addr) (xs : List Int32) : MetFree l x (headSpec (Jvm.Cond.code x code maxLocals ret :: tables_1) room_1) (lw_P b xs) (fun _ _ _ _ _ => True) lw_Q := by
  refine MetFree.of_bodyS (code := code) (maxLocals := maxLocals) (ret := ret) (by decide) ?_ ?_
  · intro args s m h hn
    obtain ⟨meth, c, h1, h2, h3, h4, h5, h6, -, -⟩ := Cond.code_spec hn (atoms_spec (ws := Jvm.Cond.code x code maxLocals ret :: tables_1) h _ List.mem_cons_self)
    exact ⟨meth, c, h1, h2, h3, h4, h5, h6⟩
  · intro p e s m args below meth c s₁ B hml0 hP _
    obtain ⟨rfl, hx, hbd, hgv⟩ := hP
    obtain ⟨scr, harrAt, hlist, hof, hsmall⟩ := hx
    obtain ⟨hcb, hkn, -, -⟩ := State.arrayAt?_spec harrAt
    have hown : s.vm.findClass R_law = some m.cls := findClass_of_methodNamed B.named
    have hts0 : ∀ c ∈ (Jvm.Cond.code x code maxLocals ret :: tables_1), c.before #[Value.ref b] s = true := atoms_spec (ws := Jvm.Cond.code x code maxLocals ret :: tables_1) B.pre
    have hts : ∀ w ∈ lw_tbl, w.before #[Value.ref b] s = true := k2_hts_sels lw_privs (fun w hw => hts0 w (List.mem_cons_of_mem _ hw)) lw_privs_ok
    have hml : c.maxLocals = 4 := B.maxLocals_eq (hts0 _ List.mem_cons_self)
    have X₀ : Stand p l e room_1 s m #[Value.ref b] below meth c s₁ [] 0 0 := Stand.of_body B
    have hh0 : s₁.heap = s.heap := by rw [B.state]; rfl
    have hsz : scr.slots.size = xs.length := by rw [← Array.length_toList, hlist, List.length_map]
    have hval : ∀ j : Nat, j < xs.length → scr.slots[j]? = some (.int (xs.getD j 0)) := fun j hj => by
      rw [← Array.getElem?_toList, hlist]
      simp [hj]
    have hbl : b < s.heap.size := (Array.getElem?_eq_some_iff.mp hcb).1
    have hX : va_X b xs.length (fun j => xs.getD j 0) s s.heap := ⟨scr, hcb, hof, hkn, hsz, hval⟩
    have K : W p l e room_1 s m #[Value.ref b] below meth c s₁.heap [] 0 0 (lw_Z below #[Value.ref b] s) (entryFrame m ([Value.ref b] : List Value).toArray 4) := by
      rw [hh0]
      exact whole_start l hflags hbd ⟨B.exec, B.bytes, B.returns, hml, hown, hts, hX, hbl, B.notSynchronized, hgv⟩
    obtain ⟨t, a1, o, b1, b2, b3⟩ := K s₁ rfl X₀
    exact ⟨t, o, a1, b1, b2, b3⟩
theorem lw_pre_spec {args : Array Value} {s : State} (h : (Jvm.Cond.and given_1 narrow_1).before args s = true) (hr : rest_1_c.before args s = true) : ∃ (b : Addr) (xs : List Int32), lw_P b xs args s := by
  have hs := flat_of_before _ h
  have hq := flat_of_before _ hr
  have hc : (Cond.count 1).before args s = true := hs _ (by decide +kernel)
  have harr : (Cond.arrayOf (.arg 0) .int).before args s = true := hs _ (by decide +kernel)
  have hle : (Cond.le (.length (.arg 0)) (.int 6)).before args s = true := hs _ (by decide +kernel)
  have hlen : (Cond.isInt (.length (.arg 0))).before args s = true := hq _ (by decide +kernel)
  have hall : (Cond.all (.arg 0) (.isInt (.elem (.arg 0) (.index 0)))).before args s = true := hq _ (by decide +kernel)
  obtain ⟨b, xs, hb, hx⟩ := State.ints_of_pre rfl harr hlen hall
  have hsm : xs.length < 2 ^ 31 := hx.choose_spec.2.2.2
  have hev : (Term.length (.arg 0)).eval args s none [] s = some (.int xs.length.toInt32) := hx.length_eval hb
  have hv := Cond.le_ints hev (show (Term.int 6).eval args s none [] s = some (.int 6) from rfl)
  have hd : xs.length.toInt32 ≤ 6 := by
    simpa [Cond.before, Cond.holds, hv] using hle
  have hN : xs.length ≤ 6 := (Int32.ofNat_le_ofNat hsm (by decide)).mp (show Int32.ofNat xs.length ≤ Int32.ofNat 6 from hd)
  exact ⟨b, xs, Cond.one_arg hc (show args[0]? = some (.ref b) from hb), hx, hN, h⟩
theorem lw_comes (l : Launch) (hflags : l.flags = flags0) : Comes l x (Jvm.Cond.code x code maxLocals ret :: tables_1) room_1 (fun tb e args s => Calls_1 tb e args s ∧ rest_1 tb e args s ∧ Pre_1 tb e args s)
    (fun _ _ args s o t => lw_Q args s o t) := by
  intro p e ha hc hk s m args below hf hfit hheap happ hpre
  obtain ⟨b, xs, hP⟩ := lw_pre_spec hpre.2.2 hpre.2.1
  obtain ⟨k, o, h1, h2, h3, hQ⟩ := lw_walk l hflags b xs p e ha hc hk s m args below hf ((Spec.applies_iff_loose hf).mp happ).1 hP trivial
  exact ⟨k, o, h1, h2, h3, hQ⟩
theorem lw_frame {s t : State} {o : Outcome} {args : Array Value} (h : Framed s o t [] 600000 7302250) :
    Framed s o t (fieldLocs frame_1_writes args s ++ arrayLocs frame_1_arrays args s ++ staticLocs frame_1_statics s) 600000 7302250 := h
theorem lw_limb (L : Cond) (hL : ∀ (args : Array Value) (s t : State), L.after args s (.returned (some (.int 1))) t = true) :
    ArmFor flags0 classFile x code maxLocals ret World_1 tables_1 room_1 Calls_1 rest_1 Pre_1
      (fun tb e a s o t => postC L tb e a s o t ∧ Framed s o t (fieldLocs frame_1_writes a s ++ arrayLocs frame_1_arrays a s ++ staticLocs frame_1_statics s) 600000 7302250) := by
  intro l hflags _ _ p e ha hc hk s m args below hf hfit hheap happ hpre
  obtain ⟨k, o, h1, h2, h3, rfl, hF⟩ := lw_comes l hflags p e ha hc hk s m args below hf hfit hheap happ hpre
  exact ⟨k, _, h1, h2, h3, hL args s _, lw_frame hF⟩
theorem i_vc : Claimed_1_1 ∧ Claimed_1_2 := ⟨lw_limb limb_1_1 (fun args s t => by simp [limb_1_1, Cond.after, Cond.holds, Cond.value]), lw_limb limb_1_2 (fun args s t => Cond.after_iff.mpr (by
  first | (rw [show limb_1_2 = Cond.eq .result (.int 1) from rfl, Cond.eq_ints (x := 1) (y := 1) rfl rfl]; simp; done) | (simp [limb_1_2, Cond.value, Term.eval]; done)))⟩

