/-! THE CLAIM OUT OF ONE WALK OF THE LAW'S BODY. Your part is whole_start (and what it stands on); all else here is the same for every law, but numbers. -/
def R_law : String := "WidowRoadsLaw"
def lw_P (b : Addr) (xs : List Int32) (args : Array Value) (s : State) : Prop := args = #[.ref b] ∧ s.IntsAt b xs ∧ xs.length ≤ 6 ∧ (Jvm.Cond.and given_1 narrow_1).before args s = true
def lw_Q (_ : Array Value) (s : State) (o : Outcome) (t : State) : Prop := o = .returned (some (.int 1)) ∧ Framed s o t [] 600000 7302250
def lw_Z (below : List Frame) (a : Array Value) (s : State) : State → Prop := fun t => ∃ o, t.status = .running ∧ Ended t below o ∧ lw_Q a s o t
/-- the law's own end, with 1 on the stack, nothing written that was there before, its room as the claim has it -/
theorem lw_ret {p : Program} {l : Launch} {e : Env} {s : State} {m : MethodId} {below : List Frame} {meth : Method} {c : Code} {b : Nat} (hx : p.tables.exec = Jvm.exec) (hb : c.code = code) (hr : meth.sig.returnType = ret) (hlocks : meth.locks = false) {pc : Nat} {H : Heap} {ls : Array Slot} (hdg : decode code pc = .ok (.ireturn, 1)) : W p l e room_1 s m #[Value.ref b] below meth c H [] 600000 7302250 (lw_Z below #[Value.ref b] s) (F0 m pc ls [.int 1]) := by
  intro T hT X
  obtain ⟨fs, hret, hrun, hended, hW, hframe⟩ := X.leave (v := some (.int 1)) (hlocks := hlocks) (fun h => by rw [hr] at h; cases h)
  have hmeth' : T.vm.method? m = some meth := X.method'
  refine ⟨T.setFrames fs, ?_, .returned (some (.int 1)), hrun, hended, rfl, ⟨_, rfl⟩, hW, hframe⟩
  jvm_step X.here [X.here.top, hx, hb, hdg, hmeth', hr, ret, narrow_b1]
  (try refine ⟨rfl, ?_⟩); (try refine ⟨rfl, ?_⟩)
  first | (intro acts; rw [hret _ acts rfl rfl rfl]) | rw [hret _ _ rfl rfl rfl]
  exact Steps.refl _
/-- what holds at the law's entry: the machine, the code, the tables' words (any of lw_tbl by 'hts w (by decide +kernel)'), the script of L ints xs at the cell b, what the Statement gives of the start (any of its parts by flat_of_before) -/
def lw_At (p : Program) (s : State) (m : MethodId) (meth : Method) (c : Code) (b L : Nat) (xs : Nat → Int32) : Prop :=
  p.tables.exec = Jvm.exec ∧ c.code = code ∧ meth.sig.returnType = ret ∧ c.maxLocals = 4 ∧ s.vm.findClass R_law = some m.cls ∧ (∀ w ∈ lw_tbl, w.before #[Value.ref b] s = true) ∧ va_X b L xs s s.heap ∧ b < s.heap.size ∧ meth.locks = false ∧ (Jvm.Cond.and given_1 narrow_1).before #[Value.ref b] s = true
abbrev wX (cI cJ cZ cB cQ : ClassId) (h0 : Nat) (b : Nat → Nat) (br : Nat → Nat) (bt : Nat → Nat) (bi : Nat → Nat) (bc : Nat → Nat) (bn : Nat → Nat) (bs : Nat → Nat) (be : Nat → Nat) (bw : Nat → Nat) : va_W := [(h0, oX9 b), (b 0, oX4 br 0 (-1) 0 0 0), (br 2, oX8 bt 0), (bt 0, .inl (cB, 900, .inl (fun _ => 0))), (br 3, oX0 bi 0 0 0 0 0 0 0 0 0 0), (bi 10, .inl (cI, 12, .inl (fun _ => 0))), (bi 11, .inl (cI, 6, .inl (fun _ => 0))), (bi 12, .inl (cI, 7, .inl (fun _ => 0))), (bi 13, .inl (cI, 7, .inl (fun _ => 0))), (bi 14, .inl (cI, 7, .inl (fun _ => 0))), (bi 15, .inl (cI, 7, .inl (fun _ => 0))), (bi 16, .inl (cI, 7, .inl (fun _ => 0))), (bi 17, .inl (cI, 56, .inl (fun _ => 0))), (bi 18, .inl (cI, 30, .inl (fun _ => 0))), (b 1, oX0 bc 0 0 0 0 0 0 0 0 0 0), (bc 10, .inl (cI, 12, .inl (fun _ => 0))), (bc 11, .inl (cI, 6, .inl (fun _ => 0))), (bc 12, .inl (cI, 7, .inl (fun _ => 0))), (bc 13, .inl (cI, 7, .inl (fun _ => 0))), (bc 14, .inl (cI, 7, .inl (fun _ => 0))), (bc 15, .inl (cI, 7, .inl (fun _ => 0))), (bc 16, .inl (cI, 7, .inl (fun _ => 0))), (bc 17, .inl (cI, 56, .inl (fun _ => 0))), (bc 18, .inl (cI, 30, .inl (fun _ => 0))), (b 2, .inl (cQ, 3, .inr (.inr (.inr (.inr (fun _ => none)))))), (b 3, oX7 z0 0 0 0 0 0 0), (b 4, oX6 bn 0 0), (bn 0, .inl (cI, 287, .inl (fun _ => 0))), (bn 1, .inl (cI, 7, .inl (fun _ => 0))), (bn 2, .inl (cI, 7, .inl (fun _ => 0))), (bn 3, .inl (cJ, 7, .inr (.inl (fun _ => 0)))), (bn 4, .inl (cI, 7, .inl (fun _ => 0))), (bn 5, .inl (cI, 6, .inl (fun _ => 0))), (bn 6, .inl (cI, 78, .inl (fun _ => 0))), (bn 7, .inl (cJ, 13, .inr (.inl (fun _ => 0)))), (bn 8, .inl (cJ, 13, .inr (.inl (fun _ => 0)))), (bn 9, .inl (cJ, 13, .inr (.inl (fun _ => 0)))), (b 5, oX6 bs 0 0), (bs 0, .inl (cI, 287, .inl (fun _ => 0))), (bs 1, .inl (cI, 7, .inl (fun _ => 0))), (bs 2, .inl (cI, 7, .inl (fun _ => 0))), (bs 3, .inl (cJ, 7, .inr (.inl (fun _ => 0)))), (bs 4, .inl (cI, 7, .inl (fun _ => 0))), (bs 5, .inl (cI, 6, .inl (fun _ => 0))), (bs 6, .inl (cI, 78, .inl (fun _ => 0))), (bs 7, .inl (cJ, 13, .inr (.inl (fun _ => 0)))), (bs 8, .inl (cJ, 13, .inr (.inl (fun _ => 0)))), (bs 9, .inl (cJ, 13, .inr (.inl (fun _ => 0)))), (b 6, oX1 be 0), (be 0, .inl (cJ, 128, .inr (.inl (fun _ => 0)))), (be 1, .inl (cI, 128, .inl (fun _ => 0))), (b 7, oX3 z0 0 0 0), (b 8, oX5 bw), (bw 0, .inl (cJ, 240, .inr (.inl (fun _ => 0)))), (bw 1, .inl (cZ, 4, .inl (fun _ => 0))), (bw 2, .inl (cI, 4, .inl (fun _ => 0))), (bw 3, .inl (cI, 4, .inl (fun _ => 0))), (b 9, oX2 z0 0 1), (b 10, .inl (cI, 164, .inl (fun _ => 0)))]
abbrev wM (cI cJ cZ cB cQ : ClassId) (h1 : Nat) (bm : Nat → Nat) : va_W := [(h1, oX10 bm 0 0 0 0 0 0 0 0 (-1) 0 0 0 0 0 0 0 0 0), (bm 1, .inl (cI, 149, .inl (fun _ => 0))), (bm 2, .inl (cI, 447, .inl (fun _ => 0))), (bm 3, .inl (cZ, 3, .inl (fun _ => 0))), (bm 4, .inl (cB, 900, .inl (fun _ => 0))), (bm 6, .inl (cI, 5, .inl (fun _ => 0))), (bm 14, .inl (cI, 149, .inl (fun _ => 0))), (bm 15, .inl (cZ, 80, .inl (fun _ => 0))), (bm 16, .inl (cI, 7, .inl (fun _ => 0))), (bm 21, .inl (cZ, 80, .inl (fun _ => 0))), (bm 22, .inl (cZ, 80, .inl (fun _ => 0))), (bm 23, .inl (cZ, 80, .inl (fun _ => 0))), (bm 24, .inl (cI, 80, .inl (fun _ => 0))), (bm 25, .inl (cI, 6, .inl (fun _ => 0))), (bm 26, .inl (cI, 287, .inl (fun _ => 0))), (bm 27, .inl (cI, 7, .inl (fun _ => 0))), (bm 28, .inl (cI, 7, .inl (fun _ => 0))), (bm 29, .inl (cI, 6, .inl (fun _ => 0))), (bm 30, .inl (cZ, 1040, .inl (fun _ => 0))), (bm 31, .inl (cI, 1040, .inl (fun _ => 0))), (bm 32, .inl (cI, 78, .inl (fun _ => 0))), (bm 33, .inl (cI, 80, .inl (fun _ => 0))), (bm 34, .inl (cZ, 80, .inl (fun _ => 0))), (bm 35, .inl (cI, 164, .inl (fun _ => 0))), (bm 37, .inl (cI, 128, .inl (fun _ => 0))), (bm 42, .inl (cI, 4, .inl (upd (upd (upd (upd (fun _ => 0) 0 (-1)) 1 (-1)) 2 (-1)) 3 (-1)))), (bm 43, .inl (cI, 4, .inl (fun _ => 0))), (bm 44, .inl (cJ, 240, .inr (.inl (fun _ => 0)))), (bm 45, .inl (cJ, 60, .inr (.inl (fun _ => 0))))]
theorem dL_law_18 : decode code 18 = .ok (.iload_n 3, 1) := by decide +kernel
theorem dL_law_19 : decode code 19 = .ok (.aload_n 0, 1) := by decide +kernel
theorem dL_law_20 : decode code 20 = .ok (.arraylength, 1) := by decide +kernel
theorem dL_law_21 : decode code 21 = .ok (.bipush 6, 2) := by decide +kernel
theorem dL_law_23 : decode code 23 = .ok (.isub, 1) := by decide +kernel
theorem dL_law_24 : decode code 24 = .ok (.if_icmp .gt 2208, 3) := by decide +kernel
theorem dL_law_33 : decode code 33 = .ok (.tableswitch 2193 0 67 #[287, 350, 373, 386, 409, 432, 465, 498, 531, 554, 577, 600, 623, 646, 669, 702, 725, 758, 781, 804, 837, 870, 893, 916, 939, 962, 995, 1038, 1071, 1104, 1117, 1150, 1173, 1196, 1219, 1252, 1275, 1298, 1321, 1334, 1347, 1360, 1373, 1406, 1439, 1472, 1505, 1528, 1551, 1564, 1587, 1620, 1653, 1706, 1740, 1764, 1787, 1810, 1823, 1836, 1869, 1912, 1945, 1968, 1991, 2014, 2057, 2130], 287) := by decide +kernel
theorem dL_law_2226 : decode code 2226 = .ok (.iinc 3 6, 3) := by decide +kernel
theorem dL_law_2229 : decode code 2229 = .ok (.goto (-2211), 3) := by decide +kernel
theorem dL_law_2232 : decode code 2232 = .ok (.iconst 1, 1) := by decide +kernel
theorem dL_law_2233 : decode code 2233 = .ok (.ireturn, 1) := by decide +kernel
set_option maxHeartbeats 4000000 in
set_option maxRecDepth 100000 in
theorem law_exit {p : Program} {e : Env} {s : State} {m : MethodId} {below : List Frame} {meth : Method} {c : Code} {l : Launch} {sb L : Nat} {xs : Nat → Int32} {A : Nat → Prop} {H : Heap} {locs : List Loc} {k n : Nat} (hL6 : L ≤ 6) (C0 : lw_At p s m meth c sb L xs) (hAe : A = fun q => s.heap.size ≤ q) (hS : va_S A s.heap H locs) (ls : Array Slot) (hl : lv_has ls 4 [(0, .ref sb), (3, .int 6)]) (hk : k ≤ 600000) (hn : n ≤ 7302250) : W p l e room_1 s m #[Value.ref sb] below meth c H locs k n (lw_Z below #[Value.ref sb] s) (F0 m 18 ls []) := by
  obtain ⟨hx, hb, hr, hml, hown, hts0, hX, hbl, hlocks, hgv⟩ := id C0
  have hown : s.vm.findClass RL = some m.cls := hown
  have hts : ∀ q ∈ GW, q.before #[Value.ref sb] s = true := fun q h => hts0 q (List.mem_filter.mp h).1
  have hA : ∀ q : Nat, s.heap.size ≤ q → A q := fun q h => by rw [hAe]; exact h
  have hbA : ¬ A sb := by rw [hAe]; exact Nat.not_le.mpr hbl
  have hLT : (Int32.ofNat L).toInt = (L : Int) := nI_toInt (by omega)
  have hL6i : (L : Int) ≤ 6 := by omega
  refine lv_iload_n hx hb dL_law_18 rfl (lv_at hl 1 rfl) ?_
  refine lv_aload_n hx hb dL_law_19 rfl (lv_at hl 0 rfl) ?_
  refine va_slen hx hb hX hbl hbA hS dL_law_20 ?_
  refine lv_bipush (v := 6) hx hb dL_law_21 (by decide) ?_
  refine lv_isub hx hb dL_law_23 ?_
  refine lv_topi (fun v1 ev1 => ?_)
  have tv1 : v1.toInt = ((L : Int)) - 6 := ti_sub hLT ki_6 ev1 (by omega) (by omega)
  refine lv_icmp_gt (tgt := 2232) hx hb dL_law_24 (by decide) (fun c2 => ?_) (fun c2 => absurd (i_nlt tv1 ki_6 c2) (by omega))
  have c2 := i_lt tv1 ki_6 c2
  refine lv_iconst (v := 1) hx hb dL_law_2232 (by decide) ?_
  refine va_forget (fun q hq => by have h := hS.2.2 q hq; rw [hAe] at h; exact h) ?_
  refine W.widen (k := 600000) (n := 7302250) hk hn ?_
  exact lw_ret hx hb hr hlocks dL_law_2233
