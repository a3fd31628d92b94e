def siteS : List (String × Nat × String) := [("WidowRoads$Reader", 93, "colony"), ("WidowRoads$Reader", 99, "years"), ("WidowRoads$Reader", 108, "law"), ("WidowRoads$Reader", 113, "odds"), ("WidowRoads$Reader", 117, "wide"), ("WidowRoads$Reader", 121, "high"), ("WidowRoads$Reader", 50, "creek"), ("WidowRoads$Reader", 59, "house"), ("WidowRoads$Reader", 64, "widow"), ("WidowRoads$Reader", 158, "faces"), ("WidowRoads$Reader", 162, "steps"), ("WidowRoads$Reader", 166, "at"), ("WidowRoads$Reader", 168, "grief"), ("WidowRoads$Reader", 184, "on"), ("WidowRoads$Reader", 186, "right"), ("WidowRoads$Reader", 188, "back"), ("WidowRoads$Reader", 190, "left"), ("WidowRoadsModel", 196, "colony"), ("WidowRoadsModel", 198, "years"), ("WidowRoadsModel", 203, "law"), ("WidowRoadsModel", 205, "odds"), ("WidowRoadsModel", 207, "wide"), ("WidowRoadsModel", 209, "high"), ("WidowRoadsModel", 240, "creek"), ("WidowRoadsModel", 242, "house"), ("WidowRoadsModel", 244, "widow"), ("WidowRoadsModel", 230, "faces"), ("WidowRoadsModel", 232, "steps"), ("WidowRoadsModel", 234, "at"), ("WidowRoadsModel", 235, "grief"), ("WidowRoadsModel", 215, "on"), ("WidowRoadsModel", 217, "right"), ("WidowRoadsModel", 219, "back"), ("WidowRoadsModel", 221, "left")]
def lenS : List Nat := [6, 5, 3, 4, 4, 4, 5, 5, 5, 5, 5, 2, 5, 2, 5, 4, 4, 6, 5, 3, 4, 4, 4, 5, 5, 5, 5, 5, 2, 5, 2, 5, 4, 4]
def bytS : List (List Int32) := [[99, 111, 108, 111, 110, 121], [121, 101, 97, 114, 115], [108, 97, 119], [111, 100, 100, 115], [119, 105, 100, 101], [104, 105, 103, 104], [99, 114, 101, 101, 107], [104, 111, 117, 115, 101], [119, 105, 100, 111, 119], [102, 97, 99, 101, 115], [115, 116, 101, 112, 115], [97, 116], [103, 114, 105, 101, 102], [111, 110], [114, 105, 103, 104, 116], [98, 97, 99, 107], [108, 101, 102, 116], [99, 111, 108, 111, 110, 121], [121, 101, 97, 114, 115], [108, 97, 119], [111, 100, 100, 115], [119, 105, 100, 101], [104, 105, 103, 104], [99, 114, 101, 101, 107], [104, 111, 117, 115, 101], [119, 105, 100, 111, 119], [102, 97, 99, 101, 115], [115, 116, 101, 112, 115], [97, 116], [103, 114, 105, 101, 102], [111, 110], [114, 105, 103, 104, 116], [98, 97, 99, 107], [108, 101, 102, 116]]
def tmS (i : Nat) : Term := .string (siteS.getD i ("", 0, "")).1 (siteS.getD i ("", 0, "")).2.1
abbrev AdS : Type := (Nat → Nat) × (Nat → Nat)
/-- the String constants lie where nobody writes -/
def sS (ad : AdS) (A : Nat → Prop) (U : State) (H : Heap) : Prop := ∀ i : Nat, i < 34 → va_O "java/lang/String" (ad.1 i) A U H ∧ va_OF "java/lang/String" "coder" "B" (.int 0) (ad.1 i) A U H ∧ va_OF "java/lang/String" "value" "[B" (.ref (ad.2 i)) (ad.1 i) A U H ∧ va_T .byte (ad.2 i) (lenS.getD i 0) (fun j => .int ((bytS.getD i []).getD j 0)) A U H
def sE (ad : AdS) (fm : Option Nat) (A : Nat → Prop) (U : State) (H : Heap) : Prop := sS ad A U H ∧ va_Z "java/lang/String" "COMPACT_STRINGS" "Z" (.int 1) A U H ∧ va_Z "jdk/internal/util/Preconditions" "SIOOBE_FORMATTER" "Ljava/util/function/BiFunction;" (va_rf fm) A U H ∧ ∀ i : Nat, i < 34 → vk_R (siteS.getD i ("", 0, "")).1 (siteS.getD i ("", 0, "")).2.1 (siteS.getD i ("", 0, "")).2.2 (ad.1 i) U
theorem sE.to {ad : AdS} {fm : Option Nat} {A B : Nat → Prop} {s U : State} {H : Heap} {locs : List Loc} (h : sE ad fm A s s.heap) (hS : va_S A s.heap H locs) (hB : ∀ q, B q → A q) (hU : U.heap = H) (hW : s.WarmedH U.vm) : sE ad fm B U U.heap := by
  obtain ⟨h1, h2, h3, h4⟩ := h
  rw [hU]
  exact ⟨fun i hi => ⟨va_O.moved hW.alike (((h1 i hi).1.kept hS.2.1).narrow hB), va_OF.moved hW.alike (((h1 i hi).2.1.kept hS.2.1).narrow hB), va_OF.moved hW.alike (((h1 i hi).2.2.1.kept hS.2.1).narrow hB), va_T.moved hW.alike (((h1 i hi).2.2.2.kept hS.2.1).narrow hB)⟩, va_Z.moved hW.alike ((h2.kept hS.2.1).narrow hB), va_Z.moved hW.alike ((h3.kept hS.2.1).narrow hB), fun i hi => vk_R.warm hW (h4 i hi)⟩
theorem sE.same {ad : AdS} {fm : Option Nat} {A : Nat → Prop} {U V : State} {H : Heap} (e : V.vm = U.vm) (h : sE ad fm A U H) : sE ad fm A V H := by
  obtain ⟨h1, h2, h3, h4⟩ := h
  have ha : U.vm.Alike V.vm := by rw [e]; exact Vm.Alike.refl U.vm
  exact ⟨fun i hi => ⟨va_O.moved ha (h1 i hi).1, va_OF.moved ha (h1 i hi).2.1, va_OF.moved ha (h1 i hi).2.2.1, va_T.moved ha (h1 i hi).2.2.2⟩, va_Z.moved ha h2, va_Z.moved ha h3, fun i hi => vk_R.same e (h4 i hi)⟩
def mPs (G : va_G) (ty : List (ClassId × FieldType)) (ws : va_W) (sz : Nat) (ad : AdS) (fm : Option Nat) (U : State) : Prop := mP G ty ws sz U ∧ sE ad fm (va_A ws sz) U U.heap
theorem mPs_blind {G : va_G} {ty : List (ClassId × FieldType)} {ws : va_W} {sz : Nat} {ad : AdS} {fm : Option Nat} {av : List Value} : FrameBlind (va_Pc av (mPs G ty ws sz ad fm)) := by
  intro a U g mk q
  obtain ⟨q0, q1, q2⟩ := q
  have h := mP_blind (av := av) a U g mk ⟨q0, q1⟩
  exact ⟨h.1, h.2, sE.same (U := U) (V := U.calling g mk a) rfl q2⟩
abbrev CIs (l : Launch) (y : MethodName) (wl : List Cond) (rm : Room) (G : va_G) (ty : List (ClassId × FieldType)) (av : List Value) (ws : va_W) (sz : Nat) (ad : AdS) (fm : Option Nat) {S : Type} (post : Int32 → S → Prop) (w : S → va_W) (mc ms : Nat) : Prop :=
  Met l y wl rm (va_Pc av (mPs G ty ws sz ad fm)) (va_Qi post (fun u t => mB G ty (va_A ws sz) (w u) t) (va_A ws sz)) mc ms (va_A ws sz)
abbrev CVs (l : Launch) (y : MethodName) (wl : List Cond) (rm : Room) (G : va_G) (ty : List (ClassId × FieldType)) (av : List Value) (ws : va_W) (sz : Nat) (ad : AdS) (fm : Option Nat) {S : Type} (post : S → Prop) (w : S → va_W) (mc ms : Nat) : Prop :=
  Met l y wl rm (va_Pc av (mPs G ty ws sz ad fm)) (va_Qv post (fun u t => mB G ty (va_A ws sz) (w u) t) (va_A ws sz)) mc ms (va_A ws sz)
section GOS
variable {l : Launch} {y : MethodName} {rm : Room} {G : va_G} {ty : List (ClassId × FieldType)} {av : List Value} {ws : va_W} {sz : Nat} {ad : AdS} {fm : Option Nat} {S : Type} {w : S → va_W} {mc ms : Nat} {cc : ByteArray} {maxL : Nat} {ret : Option FieldType}
theorem start_ofs {Qf : (Nat → Prop) → Array Value → State → Outcome → State → Prop} (hy : plainName y.cls = true) (hml : (lg_sl av).length ≤ maxL)
    (body : ∀ (p : Program) (e : Env) (s : State) (m : MethodId) (below : List Frame) (meth : Method) (c : Code) (A : Nat → Prop) (ls : Array Slot), Bd p s m meth c cc ret maxL y G ty av ws A ls → sE ad fm A s s.heap → W p l e rm s m av.toArray below meth c s.heap [] 0 0 (MQ below (Qf A) av.toArray s mc ms A) (F0 m 0 ls [])) :
    Met l y (wl_ y cc maxL ret) rm (va_Pc av (mPs G ty ws sz ad fm)) (Qf (va_A ws sz)) mc ms (va_A ws sz) := by
  refine Met.ofW (cc := cc) (maxL := maxL) (ret := ret) hy rfl ?_
  intro p e s m args below meth c s₁ B hm hv
  obtain ⟨rfl, ⟨hsz, hP, hK, hD0, hZ⟩, hE⟩ := hv
  subst hsz
  rw [lg_entry_eq]
  have h0 := atoms_spec (ws := wl_ y cc maxL ret) B.pre
  exact body p e s m below meth c _ _ ⟨B.exec, B.bytes, B.returns, hm, fun q h => h0 q (List.mem_cons_of_mem _ h), findClass_of_methodNamed B.named, B.notSynchronized, (name_of_methodNamed B.named B.method).1, hP, hK, hD0.self, fun q h => Or.inr h, hZ, lv_entry av hml⟩ hE
theorem CIs.go {post : Int32 → S → Prop} (hy : plainName y.cls = true) (hr : ret = some .int) (hml : (lg_sl av).length ≤ maxL)
    (body : ∀ (p : Program) (e : Env) (s : State) (m : MethodId) (below : List Frame) (meth : Method) (c : Code) (A : Nat → Prop) (ls : Array Slot) (Q : State → Prop), Bd p s m meth c cc ret maxL y G ty av ws A ls → sE ad fm A s s.heap →
      (∀ (H : Heap) (locs : List Loc) (pc : Nat) (ls : Array Slot) (v : Int32) (u : S), va_P G vwCl (w u) H → va_D A (w u) → va_S A s.heap H locs → decode cc pc = .ok (.ireturn, 1) → post v u → W p l e rm s m av.toArray below meth c H locs mc ms Q (F0 m pc ls [.int v])) →
      W p l e rm s m av.toArray below meth c s.heap [] 0 0 Q (F0 m 0 ls [])) : CIs l y (wl_ y cc maxL ret) rm G ty av ws sz ad fm post w mc ms :=
  start_ofs (Qf := fun A => va_Qi post (fun u t => mB G ty A (w u) t) A) hy hml (fun p e s m below meth c A ls B hE => body p e s m below meth c A ls _ B hE (fun H locs pc ls v u hP hD hS hd hp =>
    W.iret B.1 B.2.1 (B.2.2.1.trans hr) (fun t ht hW => ⟨⟨v, u, rfl, hp, by rw [ht]; exact hP, va_K.moved hW.alike B.2.2.2.2.2.2.2.2.2.1, hD⟩, hS.F ht⟩) hS.2.2 hd B.2.2.2.2.2.2.1))
theorem CIs.gon {post : Int32 → S → Prop} {rt : FieldType} (hy : plainName y.cls = true) (hr : ret = some rt) (hml : (lg_sl av).length ≤ maxL)
    (body : ∀ (p : Program) (e : Env) (s : State) (m : MethodId) (below : List Frame) (meth : Method) (c : Code) (A : Nat → Prop) (ls : Array Slot) (Q : State → Prop), Bd p s m meth c cc ret maxL y G ty av ws A ls → sE ad fm A s s.heap →
      (∀ (H : Heap) (locs : List Loc) (pc : Nat) (ls : Array Slot) (v : Int32) (u : S), va_P G vwCl (w u) H → va_D A (w u) → va_S A s.heap H locs → decode cc pc = .ok (.ireturn, 1) → narrow rt (.int v) = .int v → post v u → W p l e rm s m av.toArray below meth c H locs mc ms Q (F0 m pc ls [.int v])) →
      W p l e rm s m av.toArray below meth c s.heap [] 0 0 Q (F0 m 0 ls [])) : CIs l y (wl_ y cc maxL ret) rm G ty av ws sz ad fm post w mc ms :=
  start_ofs (Qf := fun A => va_Qi post (fun u t => mB G ty A (w u) t) A) hy hml (fun p e s m below meth c A ls B hE => body p e s m below meth c A ls _ B hE (fun H locs pc ls v u hP hD hS hd hn hp =>
    W.zret B.1 B.2.1 (B.2.2.1.trans hr) hn (fun t ht hW => ⟨⟨v, u, rfl, hp, by rw [ht]; exact hP, va_K.moved hW.alike B.2.2.2.2.2.2.2.2.2.1, hD⟩, hS.F ht⟩) hS.2.2 hd B.2.2.2.2.2.2.1))
theorem CVs.go {post : S → Prop} (hy : plainName y.cls = true) (hr : ret = none) (hml : (lg_sl av).length ≤ maxL)
    (body : ∀ (p : Program) (e : Env) (s : State) (m : MethodId) (below : List Frame) (meth : Method) (c : Code) (A : Nat → Prop) (ls : Array Slot) (Q : State → Prop), Bd p s m meth c cc ret maxL y G ty av ws A ls → sE ad fm A s s.heap →
      (∀ (H : Heap) (locs : List Loc) (pc : Nat) (ls : Array Slot) (u : S), va_P G vwCl (w u) H → va_D A (w u) → va_S A s.heap H locs → decode cc pc = .ok (.return_, 1) → post u → W p l e rm s m av.toArray below meth c H locs mc ms Q (F0 m pc ls [])) →
      W p l e rm s m av.toArray below meth c s.heap [] 0 0 Q (F0 m 0 ls [])) : CVs l y (wl_ y cc maxL ret) rm G ty av ws sz ad fm post w mc ms :=
  start_ofs (Qf := fun A => va_Qv post (fun u t => mB G ty A (w u) t) A) hy hml (fun p e s m below meth c A ls B hE => body p e s m below meth c A ls _ B hE (fun H locs pc ls u hP hD hS hd hp =>
    W.vret B.1 B.2.1 (B.2.2.1.trans hr) (fun t ht hW => ⟨⟨u, rfl, hp, by rw [ht]; exact hP, va_K.moved hW.alike B.2.2.2.2.2.2.2.2.2.1, hD⟩, hS.F ht⟩) hS.2.2 hd B.2.2.2.2.2.2.1))
end GOS
theorem mPcs {G : va_G} {ty : List (ClassId × FieldType)} {ws wc : va_W} {A : Nat → Prop} {s : State} {H : Heap} {locs : List Loc} {ad : AdS} {fm : Option Nat} (hK : va_K G vwCl ty s) (hZ : nz s) (hP : va_P G vwCl ws H) (hD : va_D A ws) (hE : sE ad fm A s s.heap) (hS : va_S A s.heap H locs) (hA : ∀ q, s.heap.size ≤ q → A q) (isC : List Nat) (hn : va_nd isC = true) (hC : isC.map (fun i => ws[i]?) = wc.map some) (av : List Value) : ∀ U : State, U.heap = H → s.WarmedH U.vm → va_Pc av (mPs G ty wc H.size ad fm) av.toArray U := by
  intro U hU hW
  have h := mPc hK hZ hP hD isC hn hC av U hU hW
  exact ⟨h.1, h.2, hE.to hS (va_free hD hS hA isC hC) hU hW⟩
theorem mSs {G : va_G} {ty : List (ClassId × FieldType)} {ws wc : va_W} {A : Nat → Prop} {s : State} {H : Heap} {locs : List Loc} {ad : AdS} {fm : Option Nat} (hK : va_K G vwCl ty s) (hZ : nz s) (hP : va_P G vwCl ws H) (hD : va_D A ws) (hE : sE ad fm A s s.heap) (hS : va_S A s.heap H locs) (hA : ∀ q, s.heap.size ≤ q → A q) (isC : List Nat) (hn : va_nd isC = true) (hC : isC.map (fun i => ws[i]?) = wc.map some) (As : List Value) : PreS s H (va_Pc As (mPs G ty wc H.size ad fm)) As := ⟨mPs_blind, mPcs hK hZ hP hD hE hS hA isC hn hC As⟩
theorem mVs {G : va_G} {ty : List (ClassId × FieldType)} {ws wc : va_W} {A : Nat → Prop} {s : State} {H : Heap} {locs : List Loc} {ad : AdS} {fm : Option Nat} (hK : va_K G vwCl ty s) (hZ : nz s) (hP : va_P G vwCl ws H) (hD : va_D A ws) (hE : sE ad fm A s s.heap) (hS : va_S A s.heap H locs) (hA : ∀ q, s.heap.size ≤ q → A q) (isC : List Nat) (hn : va_nd isC = true) (hC : isC.map (fun i => ws[i]?) = wc.map some) (As : List Value) (q0 ci : Nat) {b : Nat} {fs : List Value} {C : String} {T : u_T} {N : Nat} (hc : vwCl[ci]? = some (C, T, N)) (he : ws[q0]? = some (b, .inr (ci, fs))) : PreV s H C b (va_Pc (.ref b :: As) (mPs G ty wc H.size ad fm)) As := ⟨mPs_blind, va_recv (q := (C, T, N)) hK hP hc he, mPcs hK hZ hP hD hE hS hA isC hn hC (.ref b :: As)⟩
/-- a call on a String constant -/
theorem mVk {G : va_G} {ty : List (ClassId × FieldType)} {ws wc : va_W} {A : Nat → Prop} {s : State} {H : Heap} {locs : List Loc} {ad : AdS} {fm : Option Nat} (hK : va_K G vwCl ty s) (hZ : nz s) (hP : va_P G vwCl ws H) (hD : va_D A ws) (hE : sE ad fm A s s.heap) (hS : va_S A s.heap H locs) (hA : ∀ q, s.heap.size ≤ q → A q) (isC : List Nat) (hn : va_nd isC = true) (hC : isC.map (fun i => ws[i]?) = wc.map some) (As : List Value) {i : Nat} (hi : i < 34) : PreV s H "java/lang/String" (ad.1 i) (va_Pc (.ref (ad.1 i) :: As) (mPs G ty wc H.size ad fm)) As := by
  refine ⟨mPs_blind, ?_, mPcs hK hZ hP hD hE hS hA isC hn hC (.ref (ad.1 i) :: As)⟩
  obtain ⟨cell, h1, h2, h3, -⟩ := (hE.1 i hi).1.kept hS.2.1
  exact ⟨cell, h1, h2, h3⟩
theorem lenS_ok : ∀ i, i < 34 → 2 ≤ lenS.getD i 0 ∧ lenS.getD i 0 ≤ 6 := by decide +kernel
def chS (i j : Nat) : Int32 := (((bytS.getD i []).getD j 0 &&& 255).toUInt32 % 65536).toInt32
theorem chS_nar (i j : Nat) : narrow .char (.int (chS i j)) = .int (chS i j) := pk_nc _
/-- what the Statement says of the String constants at the start -/
theorem sS_of {args : Array Value} {s : State} {A : Nat → Prop} (hex : ∀ i : Nat, i < 34 → (Cond.exactly (tmS i) "java/lang/String").before args s = true) (hco : ∀ i : Nat, i < 34 → (Cond.eq (.field (tmS i) "java/lang/String" "coder" "B") (.int 0)).before args s = true)
    (har : ∀ i : Nat, i < 34 → (Cond.arrayOf (.field (tmS i) "java/lang/String" "value" "[B") .byte).before args s = true) (hle : ∀ i : Nat, i < 34 → (Cond.eq (.length (.field (tmS i) "java/lang/String" "value" "[B")) (.int (Int32.ofNat (lenS.getD i 0)))).before args s = true)
    (hel : ∀ i : Nat, i < 34 → ∀ j : Nat, j < lenS.getD i 0 → (Cond.eq (.elem (.field (tmS i) "java/lang/String" "value" "[B") (.int (Int32.ofNat j))) (.int ((bytS.getD i []).getD j 0))).before args s = true) (hA : ∀ a : Nat, a < s.heap.size → ¬ A a) :
    ∃ ad : AdS, sS ad A s s.heap ∧ ∀ i : Nat, i < 34 → (tmS i).eval args s none [] s = some (.ref (ad.1 i)) := by
  have h0 : ∀ i : Nat, ∃ q : Nat × Nat, i < 34 → (tmS i).eval args s none [] s = some (.ref q.1) ∧ va_O "java/lang/String" q.1 A s s.heap ∧ va_OF "java/lang/String" "coder" "B" (.int 0) q.1 A s s.heap ∧ va_OF "java/lang/String" "value" "[B" (.ref q.2) q.1 A s s.heap ∧ va_T .byte q.2 (lenS.getD i 0) (fun j => .int ((bytS.getD i []).getD j 0)) A s s.heap := by
    intro i
    by_cases hi : i < 34
    · obtain ⟨a, c, cA, kA, q1, q2, q3, q4, q5, q6, -⟩ := Cond.exactly_spec (args := args) (first := s) (o := none) (s := s) (idx := []) (t := tmS i) (cls := "java/lang/String") (hex i hi)
      have hN : lenS.getD i 0 < 2 ^ 31 := Nat.lt_of_le_of_lt (lenS_ok i hi).2 (by decide)
      obtain ⟨t, ht, hT⟩ := va_Tof (f := fun j => .int ((bytS.getD i []).getD j 0)) (A := A) hN (har i hi) (va_eqt (hle i hi)) (fun j hj => va_eqt (hel i hi j hj)) hA
      exact ⟨(a, t), fun _ => ⟨q1, ⟨cA, q3, q5, by rw [q6]; exact q2, hA a (Array.getElem?_eq_some_iff.mp q3).1⟩, vk_OFof q1 (va_eqt (hco i hi)) hA, vk_OFof q1 ht hA, hT⟩⟩
    · exact ⟨(0, 0), fun h => absurd h hi⟩
  obtain ⟨ad, had⟩ := Classical.axiomOfChoice h0
  exact ⟨(fun i => (ad i).1, fun i => (ad i).2), fun i hi => (had i hi).2, fun i hi => (had i hi).1⟩
