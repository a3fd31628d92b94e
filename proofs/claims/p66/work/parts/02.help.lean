theorem fb_rng (x : Int32) : -2147483648 ≤ x.toInt ∧ x.toInt < 2147483648 := by
  have h1 := Int32.le_toInt x
  have h2 := Int32.toInt_lt x
  omega
theorem fb_bmod {z : Int} (h1 : -2147483648 ≤ z) (h2 : z < 2147483648) : z.bmod (2 ^ 32) = z := by
  rw [Int.bmod_eq_of_le (by omega) (by omega)]
theorem fb_addI {x y : Int32} (h1 : -2147483648 ≤ x.toInt + y.toInt) (h2 : x.toInt + y.toInt < 2147483648) : (x + y).toInt = x.toInt + y.toInt := by
  rw [Int32.toInt_add, fb_bmod h1 h2]
theorem fb_subI {x y : Int32} (h1 : -2147483648 ≤ x.toInt - y.toInt) (h2 : x.toInt - y.toInt < 2147483648) : (x - y).toInt = x.toInt - y.toInt := by
  rw [Int32.toInt_sub, fb_bmod h1 h2]
theorem fb_mulI {x y : Int32} (h1 : -2147483648 ≤ x.toInt * y.toInt) (h2 : x.toInt * y.toInt < 2147483648) : (x * y).toInt = x.toInt * y.toInt := by
  rw [Int32.toInt_mul, fb_bmod h1 h2]
theorem fb_negI {x : Int32} (h : x.toInt ≠ -2147483648) : (-x).toInt = -x.toInt := by
  have := fb_rng x
  rw [Int32.toInt_neg, fb_bmod (by omega) (by omega)]
theorem fb_ofI {z : Int} (h1 : -2147483648 ≤ z) (h2 : z < 2147483648) : (Int32.ofInt z).toInt = z := by
  rw [Int32.toInt_ofInt, fb_bmod h1 h2]
theorem fb_asI (x : Int32) : Int32.ofInt x.toInt = x := Int32.ofInt_toInt x
theorem fb_rngL (x : Int64) : -9223372036854775808 ≤ x.toInt ∧ x.toInt < 9223372036854775808 := by
  have h1 := Int64.le_toInt x
  have h2 := Int64.toInt_lt x
  omega
theorem fb_bmodL {z : Int} (h1 : -9223372036854775808 ≤ z) (h2 : z < 9223372036854775808) : z.bmod (2 ^ 64) = z := by
  rw [Int.bmod_eq_of_le (by omega) (by omega)]
theorem fb_addL {x y : Int64} (h1 : -9223372036854775808 ≤ x.toInt + y.toInt) (h2 : x.toInt + y.toInt < 9223372036854775808) : (x + y).toInt = x.toInt + y.toInt := by
  rw [Int64.toInt_add, fb_bmodL h1 h2]
theorem fb_subL {x y : Int64} (h1 : -9223372036854775808 ≤ x.toInt - y.toInt) (h2 : x.toInt - y.toInt < 9223372036854775808) : (x - y).toInt = x.toInt - y.toInt := by
  rw [Int64.toInt_sub, fb_bmodL h1 h2]
theorem fb_mulL {x y : Int64} (h1 : -9223372036854775808 ≤ x.toInt * y.toInt) (h2 : x.toInt * y.toInt < 9223372036854775808) : (x * y).toInt = x.toInt * y.toInt := by
  rw [Int64.toInt_mul, fb_bmodL h1 h2]
theorem fa_lt (a b : Int32) : a < b ↔ a.toInt < b.toInt := Int32.lt_iff_toInt_lt
theorem fa_le (a b : Int32) : a ≤ b ↔ a.toInt ≤ b.toInt := Int32.le_iff_toInt_le
theorem fa_eq (a b : Int32) : a = b ↔ a.toInt = b.toInt := Int32.toInt_inj.symm
theorem fa_lt64 (a b : Int64) : a < b ↔ a.toInt < b.toInt := Int64.lt_iff_toInt_lt
theorem fa_le64 (a b : Int64) : a ≤ b ↔ a.toInt ≤ b.toInt := Int64.le_iff_toInt_le
theorem fa_eq64 (a b : Int64) : a = b ↔ a.toInt = b.toInt := Int64.toInt_inj.symm
/-- a comparison of two ints taken as longs -/
theorem fa_wide_lt (a b : Int32) : a.toInt64 < b.toInt64 ↔ a < b := by rw [fa_lt64, fa_lt, Int32.toInt_toInt64, Int32.toInt_toInt64]
theorem fa_wide_le (a b : Int32) : a.toInt64 ≤ b.toInt64 ↔ a ≤ b := by rw [fa_le64, fa_le, Int32.toInt_toInt64, Int32.toInt_toInt64]
theorem fa_wide_eq (a b : Int32) : a.toInt64 = b.toInt64 ↔ a = b := by rw [fa_eq64, fa_eq, Int32.toInt_toInt64, Int32.toInt_toInt64]
-- ===== ints as whole numbers: a value v with v.toInt = a =====
theorem ti_add {x y v : Int32} {a b : Int} (hx : x.toInt = a) (hy : y.toInt = b) (e : v = x + y) (h1 : -2147483648 ≤ a + b) (h2 : a + b < 2147483648) : v.toInt = a + b := by
  subst hx hy e
  exact fb_addI h1 h2
theorem ti_sub {x y v : Int32} {a b : Int} (hx : x.toInt = a) (hy : y.toInt = b) (e : v = x - y) (h1 : -2147483648 ≤ a - b) (h2 : a - b < 2147483648) : v.toInt = a - b := by
  subst hx hy e
  exact fb_subI h1 h2
theorem ti_mul {x y v : Int32} {a b : Int} (hx : x.toInt = a) (hy : y.toInt = b) (e : v = x * y) (h1 : -2147483648 ≤ a * b) (h2 : a * b < 2147483648) : v.toInt = a * b := by
  subst hx hy e
  exact fb_mulI h1 h2
theorem ti_wide {x : Int32} {v : Int64} {a : Int} (hx : x.toInt = a) (e : x.toInt64 = v) : v.toInt = a := by
  subst hx e
  exact Int32.toInt_toInt64 x
theorem i_le {x y : Int32} {a b : Int} (hx : x.toInt = a) (hy : y.toInt = b) (h : x ≤ y) : a ≤ b := by
  subst hx hy
  exact (fa_le x y).mp h
theorem i_nle {x y : Int32} {a b : Int} (hx : x.toInt = a) (hy : y.toInt = b) (h : ¬ x ≤ y) : b < a := by
  subst hx hy
  exact Int.not_le.mp (fun q => h ((fa_le x y).mpr q))
theorem i_lt {x y : Int32} {a b : Int} (hx : x.toInt = a) (hy : y.toInt = b) (h : x < y) : a < b := by
  subst hx hy
  exact (fa_lt x y).mp h
theorem i_nlt {x y : Int32} {a b : Int} (hx : x.toInt = a) (hy : y.toInt = b) (h : ¬ x < y) : b ≤ a := by
  subst hx hy
  exact Int.not_lt.mp (fun q => h ((fa_lt x y).mpr q))
theorem i_eq {x y : Int32} {a b : Int} (hx : x.toInt = a) (hy : y.toInt = b) (h : x = y) : a = b := by
  subst hx hy
  exact (fa_eq x y).mp h
theorem i_ne {x y : Int32} {a b : Int} (hx : x.toInt = a) (hy : y.toInt = b) (h : ¬ x = y) : ¬ a = b := by
  subst hx hy
  exact fun q => h ((fa_eq x y).mpr q)
theorem l_le {x y : Int64} {a b : Int} (hx : x.toInt = a) (hy : y.toInt = b) (h : x ≤ y) : a ≤ b := by
  subst hx hy
  exact (fa_le64 x y).mp h
theorem l_nle {x y : Int64} {a b : Int} (hx : x.toInt = a) (hy : y.toInt = b) (h : ¬ x ≤ y) : b < a := by
  subst hx hy
  exact Int.not_le.mp (fun q => h ((fa_le64 x y).mpr q))
theorem l_lt {x y : Int64} {a b : Int} (hx : x.toInt = a) (hy : y.toInt = b) (h : x < y) : a < b := by
  subst hx hy
  exact (fa_lt64 x y).mp h
theorem l_nlt {x y : Int64} {a b : Int} (hx : x.toInt = a) (hy : y.toInt = b) (h : ¬ x < y) : b ≤ a := by
  subst hx hy
  exact Int.not_lt.mp (fun q => h ((fa_lt64 x y).mpr q))
theorem l_eq {x y : Int64} {a b : Int} (hx : x.toInt = a) (hy : y.toInt = b) (h : x = y) : a = b := by
  subst hx hy
  exact (fa_eq64 x y).mp h
theorem l_ne {x y : Int64} {a b : Int} (hx : x.toInt = a) (hy : y.toInt = b) (h : ¬ x = y) : ¬ a = b := by
  subst hx hy
  exact fun q => h ((fa_eq64 x y).mpr q)
-- the answer of lcmp, looked at by ifCond
theorem c_lt {x y : Int64} {a b : Int} (hx : x.toInt = a) (hy : y.toInt = b) (h : lg_cmp x y < 0) : a < b := l_lt hx hy ((lg_cmp_lt x y).mp h)
theorem c_nlt {x y : Int64} {a b : Int} (hx : x.toInt = a) (hy : y.toInt = b) (h : ¬ lg_cmp x y < 0) : b ≤ a := l_nlt hx hy (fun q => h ((lg_cmp_lt x y).mpr q))
theorem c_ge {x y : Int64} {a b : Int} (hx : x.toInt = a) (hy : y.toInt = b) (h : 0 ≤ lg_cmp x y) : b ≤ a := l_le hy hx ((lg_cmp_ge x y).mp h)
theorem c_nge {x y : Int64} {a b : Int} (hx : x.toInt = a) (hy : y.toInt = b) (h : ¬ 0 ≤ lg_cmp x y) : a < b := l_nle hy hx (fun q => h ((lg_cmp_ge x y).mpr q))
theorem c_le {x y : Int64} {a b : Int} (hx : x.toInt = a) (hy : y.toInt = b) (h : lg_cmp x y ≤ 0) : a ≤ b := l_le hx hy ((lg_cmp_le x y).mp h)
theorem c_nle {x y : Int64} {a b : Int} (hx : x.toInt = a) (hy : y.toInt = b) (h : ¬ lg_cmp x y ≤ 0) : b < a := l_nle hx hy (fun q => h ((lg_cmp_le x y).mpr q))
theorem c_gt {x y : Int64} {a b : Int} (hx : x.toInt = a) (hy : y.toInt = b) (h : 0 < lg_cmp x y) : b < a := l_lt hy hx ((lg_cmp_gt x y).mp h)
theorem c_ngt {x y : Int64} {a b : Int} (hx : x.toInt = a) (hy : y.toInt = b) (h : ¬ 0 < lg_cmp x y) : a ≤ b := l_nlt hy hx (fun q => h ((lg_cmp_gt x y).mpr q))
theorem ix_in {x : Int32} {a : Int} {n : Nat} (hx : x.toInt = a) (h1 : 0 ≤ a) (h2 : a < n) : vp_in x n := by
  subst hx
  exact vp_in_iff.mpr ⟨h1, h2⟩
theorem ix_nn {x : Int32} {a : Int} (hx : x.toInt = a) (h1 : 0 ≤ a) : ¬ x < 0 := fun h => by
  have := (fa_lt x 0).mp h
  rw [hx] at this
  exact absurd this (Int.not_lt.mpr h1)
-- ===== private members of nest mates, the array class of Colony: told of a state beside the words =====
def isNest : Cond → Bool
  | .fieldLinkNest .. => true
  | .methodLinkNest .. => true
  | _ => false
def nz (U : State) : Prop := (∀ w ∈ tables_1, isNest w = true → va_Nw w U) ∧ va_AO "WidowRoads$Colony" U
theorem nz_use {s : State} {args : Array Value} (h : nz s) {w : Cond} (hm : w ∈ tables_1) (hn : isNest w = true) : w.before args s = true := by
  have h1 := h.1 w hm hn
  cases w <;> first | exact va_Nw.use rfl h1 | (simp [isNest] at hn)
theorem nz_nw {s : State} (h : nz s) {w : Cond} (hm : w ∈ tables_1) (hn : isNest w = true) : va_Nw w s := h.1 w hm hn
theorem nz_warm {s U : State} (hW : s.WarmedH U.vm) (h : nz s) : nz U := by
  refine ⟨?_, va_AO.moved hW.alike h.2⟩
  intro w hm hn
  have h1 := h.1 w hm hn
  cases w <;> first | exact va_Nw.warmF hW h1 | exact va_Nw.warmM hW h1 | (simp [isNest] at hn)
theorem nz_same {s U : State} (e : s.vm = U.vm) (h : nz s) : nz U := by
  refine ⟨?_, va_AO.moved (e ▸ Vm.Alike.refl s.vm) h.2⟩
  intro w hm hn
  have h1 := h.1 w hm hn
  cases w <;> first | exact va_Nw.same rfl e h1 | (simp [isNest] at hn)
-- ===== the form of a contract: cells ws ahead, cells w u behind =====
def mP (G : va_G) (ty : List (ClassId × FieldType)) (ws : va_W) (sz : Nat) (U : State) : Prop := U.heap.size = sz ∧ va_P G vwCl ws U.heap ∧ va_K G vwCl ty U ∧ va_D (fun _ => True) ws ∧ nz U
def mB (G : va_G) (ty : List (ClassId × FieldType)) (A : Nat → Prop) (ws : va_W) (t : State) : Prop := va_P G vwCl ws t.heap ∧ va_K G vwCl ty t ∧ va_D A ws
theorem mP_blind {G : va_G} {ty : List (ClassId × FieldType)} {ws : va_W} {sz : Nat} {av : List Value} : FrameBlind (va_Pc av (mP G ty ws sz)) := by
  intro a U g mk q
  obtain ⟨q0, q1, qP, qK, qD, qZ⟩ := q
  exact ⟨q0, q1, qP, va_K.moved (u := U) (U := U.calling g mk a) (Vm.Alike.refl U.vm) qK, qD, nz_same (s := U) (U := U.calling g mk a) rfl qZ⟩
abbrev CI (l : Launch) (y : MethodName) (wl : List Cond) (rm : Room) (G : va_G) (ty : List (ClassId × FieldType)) (av : List Value) (ws : va_W) (sz : Nat) {S : Type} (post : Int32 → S → Prop) (w : S → va_W) (mc ms : Nat) : Prop :=
  Met l y wl rm (va_Pc av (mP G ty ws sz)) (va_Qi post (fun u t => mB G ty (va_A ws sz) (w u) t) (va_A ws sz)) mc ms (va_A ws sz)
abbrev CL (l : Launch) (y : MethodName) (wl : List Cond) (rm : Room) (G : va_G) (ty : List (ClassId × FieldType)) (av : List Value) (ws : va_W) (sz : Nat) {S : Type} (post : Int64 → S → Prop) (w : S → va_W) (mc ms : Nat) : Prop :=
  Met l y wl rm (va_Pc av (mP G ty ws sz)) (va_Ql post (fun u t => mB G ty (va_A ws sz) (w u) t) (va_A ws sz)) mc ms (va_A ws sz)
abbrev CV (l : Launch) (y : MethodName) (wl : List Cond) (rm : Room) (G : va_G) (ty : List (ClassId × FieldType)) (av : List Value) (ws : va_W) (sz : Nat) {S : Type} (post : S → Prop) (w : S → va_W) (mc ms : Nat) : Prop :=
  Met l y wl rm (va_Pc av (mP G ty ws sz)) (va_Qv post (fun u t => mB G ty (va_A ws sz) (w u) t) (va_A ws sz)) mc ms (va_A ws sz)
/-- every word of the tables that goes over into a callee -/
def GW : List Cond := lw_tbl.filter goodWord
theorem GW_t {w : Cond} (i : Nat) (h : tables_1[i]? = some w) (g : goodWord w = true) : w ∈ GW := List.mem_filter.mpr ⟨List.mem_append_right _ (List.mem_of_getElem? h), g⟩
theorem GW_p {w : Cond} (i : Nat) (h : (k2_sels lw_privs)[i]? = some w) (g : goodWord w = true) : w ∈ GW := List.mem_filter.mpr ⟨List.mem_append_left _ (List.mem_of_getElem? h), g⟩
theorem GW_in {ws : List Cond} (ps : List Nat) (hp : ws = ps.filterMap (fun i => tables_1[i]?)) (h : ws.all goodWord = true) : ∀ w ∈ ws, w ∈ GW := by
  intro w hw
  have h1 := List.all_eq_true.mp h w hw
  rw [hp] at hw
  obtain ⟨i, -, hi⟩ := List.mem_filterMap.mp hw
  exact GW_t i hi h1
theorem GW_good {w : Cond} (h : w ∈ GW) : w ∈ GW ∧ ((w.onTables && w.keeps) = true ∨ ∃ ty, w = .arrayClass ty) := ⟨h, good_of_word (List.mem_filter.mp h).2⟩
abbrev wl_ (y : MethodName) (cc : ByteArray) (n : Nat) (ret : Option FieldType) : List Cond := Cond.code y cc n ret :: GW
theorem gW {w : Cond} (h : w ∈ GW) : GoodIn GW (w :: GW) := fun q hq => (List.mem_cons.mp hq).elim (fun e => e ▸ GW_good h) GW_good
theorem gV {own C : String} {idx : Nat} {y : MethodName} {w : Cond} (h1 : Cond.methodLink own idx y ∈ GW) (h2 : Cond.instanceMethod y ∈ GW) (h3 : Cond.selects C y y ∈ GW) (h4 : Cond.initialized C ∈ GW) (h : w ∈ GW) : GoodIn GW (wsV own idx C y (w :: GW)) := by
  intro q hq
  rcases List.mem_append.mp hq with hq | hq
  · simp only [List.mem_cons, List.not_mem_nil, or_false] at hq
    rcases hq with rfl | rfl | rfl | rfl
    · exact GW_good h1
    · exact GW_good h2
    · exact GW_good h3
    · exact GW_good h4
  · exact gW h q hq
theorem gS {own : String} {idx : Nat} {y : MethodName} {w : Cond} (h1 : Cond.methodLink own idx y ∈ GW) (h2 : Cond.static y ∈ GW) (h3 : Cond.initialized y.cls ∈ GW) (h : w ∈ GW) : GoodIn GW (va_wsS own idx y (w :: GW)) := by
  intro q hq
  rcases List.mem_append.mp hq with hq | hq
  · simp only [List.mem_cons, List.not_mem_nil, or_false] at hq
    rcases hq with rfl | rfl | rfl
    · exact GW_good h1
    · exact GW_good h2
    · exact GW_good h3
  · exact gW h q hq
/-- what holds as a body begins -/
def Bd (p : Program) (s : State) (m : MethodId) (meth : Method) (c : Code) (cc : ByteArray) (ret : Option FieldType) (maxL : Nat) (y : MethodName) (G : va_G) (ty : List (ClassId × FieldType)) (av : List Value) (ws : va_W) (A : Nat → Prop) (ls : Array Slot) : Prop :=
  p.tables.exec = Jvm.exec ∧ c.code = cc ∧ meth.sig.returnType = ret ∧ c.maxLocals = maxL ∧ (∀ q ∈ GW, q.before av.toArray s = true) ∧ s.vm.findClass y.cls = some m.cls ∧ meth.locks = false ∧ meth.name = y.name ∧ va_P G vwCl ws s.heap ∧ va_K G vwCl ty s ∧ va_D A ws ∧ (∀ q : Nat, s.heap.size ≤ q → A q) ∧ nz s ∧ lv_has ls maxL (lv_args 0 av)
section GO
variable {l : Launch} {y : MethodName} {rm : Room} {G : va_G} {ty : List (ClassId × FieldType)} {av : List Value} {ws : va_W} {sz : Nat} {S : Type} {w : S → va_W} {mc ms : Nat} {cc : ByteArray} {maxL : Nat} {ret : Option FieldType}
theorem start_of {Qf : (Nat → Prop) → Array Value → State → Outcome → State → Prop} (hy : plainName y.cls = true) (hml : (lg_sl av).length ≤ maxL)
    (body : ∀ (p : Program) (e : Env) (s : State) (m : MethodId) (below : List Frame) (meth : Method) (c : Code) (A : Nat → Prop) (ls : Array Slot), Bd p s m meth c cc ret maxL y G ty av ws A ls → W p l e rm s m av.toArray below meth c s.heap [] 0 0 (MQ below (Qf A) av.toArray s mc ms A) (F0 m 0 ls [])) :
    Met l y (wl_ y cc maxL ret) rm (va_Pc av (mP G ty ws sz)) (Qf (va_A ws sz)) mc ms (va_A ws sz) := by
  refine Met.ofW (cc := cc) (maxL := maxL) (ret := ret) hy rfl ?_
  intro p e s m args below meth c s₁ B hm hv
  obtain ⟨rfl, hsz, hP, hK, hD0, hZ⟩ := hv
  subst hsz
  rw [lg_entry_eq]
  have h0 := atoms_spec (ws := wl_ y cc maxL ret) B.pre
  exact body p e s m below meth c _ _ ⟨B.exec, B.bytes, B.returns, hm, fun q h => h0 q (List.mem_cons_of_mem _ h), findClass_of_methodNamed B.named, B.notSynchronized, (name_of_methodNamed B.named B.method).1, hP, hK, hD0.self, fun q h => Or.inr h, hZ, lv_entry av hml⟩
theorem CI.go {post : Int32 → S → Prop} (hy : plainName y.cls = true) (hr : ret = some .int) (hml : (lg_sl av).length ≤ maxL)
    (body : ∀ (p : Program) (e : Env) (s : State) (m : MethodId) (below : List Frame) (meth : Method) (c : Code) (A : Nat → Prop) (ls : Array Slot) (Q : State → Prop), Bd p s m meth c cc ret maxL y G ty av ws A ls →
      (∀ (H : Heap) (locs : List Loc) (pc : Nat) (ls : Array Slot) (v : Int32) (u : S), va_P G vwCl (w u) H → va_D A (w u) → va_S A s.heap H locs → decode cc pc = .ok (.ireturn, 1) → post v u → W p l e rm s m av.toArray below meth c H locs mc ms Q (F0 m pc ls [.int v])) →
      W p l e rm s m av.toArray below meth c s.heap [] 0 0 Q (F0 m 0 ls [])) : CI l y (wl_ y cc maxL ret) rm G ty av ws sz post w mc ms :=
  start_of (Qf := fun A => va_Qi post (fun u t => mB G ty A (w u) t) A) hy hml (fun p e s m below meth c A ls B => body p e s m below meth c A ls _ B (fun H locs pc ls v u hP hD hS hd hp =>
    W.iret B.1 B.2.1 (B.2.2.1.trans hr) (fun t ht hW => ⟨⟨v, u, rfl, hp, by rw [ht]; exact hP, va_K.moved hW.alike B.2.2.2.2.2.2.2.2.2.1, hD⟩, hS.F ht⟩) hS.2.2 hd B.2.2.2.2.2.2.1))
theorem CI.goz {post : Int32 → S → Prop} (hy : plainName y.cls = true) (hr : ret = some .boolean) (hml : (lg_sl av).length ≤ maxL)
    (body : ∀ (p : Program) (e : Env) (s : State) (m : MethodId) (below : List Frame) (meth : Method) (c : Code) (A : Nat → Prop) (ls : Array Slot) (Q : State → Prop), Bd p s m meth c cc ret maxL y G ty av ws A ls →
      (∀ (H : Heap) (locs : List Loc) (pc : Nat) (ls : Array Slot) (v : Int32) (u : S), va_P G vwCl (w u) H → va_D A (w u) → va_S A s.heap H locs → decode cc pc = .ok (.ireturn, 1) → narrow .boolean (.int v) = .int v → post v u → W p l e rm s m av.toArray below meth c H locs mc ms Q (F0 m pc ls [.int v])) →
      W p l e rm s m av.toArray below meth c s.heap [] 0 0 Q (F0 m 0 ls [])) : CI l y (wl_ y cc maxL ret) rm G ty av ws sz post w mc ms :=
  start_of (Qf := fun A => va_Qi post (fun u t => mB G ty A (w u) t) A) hy hml (fun p e s m below meth c A ls B => body p e s m below meth c A ls _ B (fun H locs pc ls v u hP hD hS hd hn hp =>
    W.zret B.1 B.2.1 (B.2.2.1.trans hr) hn (fun t ht hW => ⟨⟨v, u, rfl, hp, by rw [ht]; exact hP, va_K.moved hW.alike B.2.2.2.2.2.2.2.2.2.1, hD⟩, hS.F ht⟩) hS.2.2 hd B.2.2.2.2.2.2.1))
theorem CL.go {post : Int64 → S → Prop} (hy : plainName y.cls = true) (hr : ret = some .long) (hml : (lg_sl av).length ≤ maxL)
    (body : ∀ (p : Program) (e : Env) (s : State) (m : MethodId) (below : List Frame) (meth : Method) (c : Code) (A : Nat → Prop) (ls : Array Slot) (Q : State → Prop), Bd p s m meth c cc ret maxL y G ty av ws A ls →
      (∀ (H : Heap) (locs : List Loc) (pc : Nat) (ls : Array Slot) (v : Int64) (u : S), va_P G vwCl (w u) H → va_D A (w u) → va_S A s.heap H locs → decode cc pc = .ok (.lreturn, 1) → post v u → W p l e rm s m av.toArray below meth c H locs mc ms Q (F0 m pc ls [.long v])) →
      W p l e rm s m av.toArray below meth c s.heap [] 0 0 Q (F0 m 0 ls [])) : CL l y (wl_ y cc maxL ret) rm G ty av ws sz post w mc ms :=
  start_of (Qf := fun A => va_Ql post (fun u t => mB G ty A (w u) t) A) hy hml (fun p e s m below meth c A ls B => body p e s m below meth c A ls _ B (fun H locs pc ls v u hP hD hS hd hp =>
    W.lret B.1 B.2.1 (B.2.2.1.trans hr) (fun t ht hW => ⟨⟨v, u, rfl, hp, by rw [ht]; exact hP, va_K.moved hW.alike B.2.2.2.2.2.2.2.2.2.1, hD⟩, hS.F ht⟩) hS.2.2 hd B.2.2.2.2.2.2.1))
theorem CV.go {post : S → Prop} (hy : plainName y.cls = true) (hr : ret = none) (hml : (lg_sl av).length ≤ maxL)
    (body : ∀ (p : Program) (e : Env) (s : State) (m : MethodId) (below : List Frame) (meth : Method) (c : Code) (A : Nat → Prop) (ls : Array Slot) (Q : State → Prop), Bd p s m meth c cc ret maxL y G ty av ws A ls →
      (∀ (H : Heap) (locs : List Loc) (pc : Nat) (ls : Array Slot) (u : S), va_P G vwCl (w u) H → va_D A (w u) → va_S A s.heap H locs → decode cc pc = .ok (.return_, 1) → post u → W p l e rm s m av.toArray below meth c H locs mc ms Q (F0 m pc ls [])) →
      W p l e rm s m av.toArray below meth c s.heap [] 0 0 Q (F0 m 0 ls [])) : CV l y (wl_ y cc maxL ret) rm G ty av ws sz post w mc ms :=
  start_of (Qf := fun A => va_Qv post (fun u t => mB G ty A (w u) t) A) hy hml (fun p e s m below meth c A ls B => body p e s m below meth c A ls _ B (fun H locs pc ls u hP hD hS hd hp =>
    W.vret B.1 B.2.1 (B.2.2.1.trans hr) (fun t ht hW => ⟨⟨u, rfl, hp, by rw [ht]; exact hP, va_K.moved hW.alike B.2.2.2.2.2.2.2.2.2.1, hD⟩, hS.F ht⟩) hS.2.2 hd B.2.2.2.2.2.2.1))
end GO
abbrev TY (cI cJ cZ cB cQ : ClassId) : List (ClassId × FieldType) := [(cI, .int), (cJ, .long), (cZ, .boolean), (cB, .byte), (cQ, .object RX0)]
theorem fm_map {α β : Type} (f : α → Option β) : ∀ (l : List α) (w : List β), l.map f = w.map some → l.filterMap f = w
  | [], w, h => by cases w with
    | nil => rfl
    | cons b w => simp at h
  | a :: l, w, h => by cases w with
    | nil => simp at h
    | cons b w =>
      simp only [List.map_cons, List.cons.injEq] at h
      rw [List.filterMap_cons, h.1, fm_map f l w h.2]
theorem mPc {G : va_G} {ty : List (ClassId × FieldType)} {ws wc : va_W} {A : Nat → Prop} {s : State} {H : Heap} (hK : va_K G vwCl ty s) (hZ : nz s) (hP : va_P G vwCl ws H) (hD : va_D A ws) (isC : List Nat) (hn : va_nd isC = true) (hC : isC.map (fun i => ws[i]?) = wc.map some) (av : List Value) : ∀ U : State, U.heap = H → s.WarmedH U.vm → va_Pc av (mP G ty wc H.size) av.toArray U := by
  intro U hU hW
  exact ⟨rfl, by rw [hU], by rw [hU]; exact hP.sub isC (fm_map _ _ _ hC), va_K.moved hW.alike hK, (hD.sub isC hn hC).weaken (fun _ _ _ _ => trivial), nz_warm hW hZ⟩
theorem mS {G : va_G} {ty : List (ClassId × FieldType)} {ws wc : va_W} {A : Nat → Prop} {s : State} {H : Heap} (hK : va_K G vwCl ty s) (hZ : nz s) (hP : va_P G vwCl ws H) (hD : va_D A ws) (isC : List Nat) (hn : va_nd isC = true) (hC : isC.map (fun i => ws[i]?) = wc.map some) (As : List Value) : PreS s H (va_Pc As (mP G ty wc H.size)) As := ⟨mP_blind, mPc hK hZ hP hD isC hn hC As⟩
theorem mV {G : va_G} {ty : List (ClassId × FieldType)} {ws wc : va_W} {A : Nat → Prop} {s : State} {H : Heap} (hK : va_K G vwCl ty s) (hZ : nz s) (hP : va_P G vwCl ws H) (hD : va_D A ws) (isC : List Nat) (hn : va_nd isC = true) (hC : isC.map (fun i => ws[i]?) = wc.map some) (As : List Value) (q0 ci : Nat) {b : Nat} {fs : List Value} {C : String} {T : u_T} {N : Nat} (hc : vwCl[ci]? = some (C, T, N)) (he : ws[q0]? = some (b, .inr (ci, fs))) : PreV s H C b (va_Pc (.ref b :: As) (mP G ty wc H.size)) As := ⟨mP_blind, va_recv (q := (C, T, N)) hK hP hc he, mPc hK hZ hP hD isC hn hC (.ref b :: As)⟩
section KC
variable {p : Program} {l : Launch} {e : Env} {R : Room} {s : State} {m : MethodId} {args : Array Value} {below : List Frame} {meth : Method} {c : Code} {H H0 : Heap} {locs : List Loc} {cells slots mc ms : Nat} {Q : State → Prop} {G : va_G} {ty : List (ClassId × FieldType)} {A : Nat → Prop} {pc : Nat} {ls : Array Slot} {rest st0 : List Value} {S : Type} {w : S → va_W} {ws wc wr : va_W} {a : Array Value}
theorem k_i {post : Int32 → S → Prop} (hP : va_P G vwCl ws H) (hD : va_D A ws) (hS : va_S A H0 H locs) (hA : ∀ q, H0.size ≤ q → A q) (isC isR : List Nat) (hC : isC.map (fun i => ws[i]?) = wc.map some) (hR : isR.map (fun i => ws[i]?) = wr.map some) (hn : va_nd isR = true) (hd : ∀ i ∈ isR, i ∉ isC)
    (hr : va_Run p l e R s m args below meth c H locs cells slots mc ms (F0 m pc ls st0) rest (va_Qi post (fun u t => mB G ty (va_A wc H.size) (w u) t) (va_A wc H.size) a) (va_A wc H.size))
    (kk : ∀ (r : Int32) (u : S) (H1 : Heap) (locs1 : List Loc), post r u → va_P G vwCl (wr ++ w u) H1 → va_D A (wr ++ w u) → va_S A H0 H1 locs1 → W p l e R s m args below meth c H1 locs1 (cells + mc) (slots + ms) Q (F0 m (pc + 3) ls (.int r :: rest))) : W p l e R s m args below meth c H locs cells slots Q (F0 m pc ls st0) := by
  have hF := va_free hD hS hA isC hC
  refine va_calli hr hS (fun q _ h => hF q h) hF (fun r u t H1 locs1 ht hvm hp hB hz hk hS1 => ?_)
  obtain ⟨hP1, hK1, hD1⟩ := hB
  rw [ht] at hP1
  obtain ⟨a1, a2⟩ := va_join hP hD isC isR hC hR hn hd hk hF hP1 hD1
  exact kk r u H1 locs1 hp a1 a2 hS1
theorem k_l {post : Int64 → S → Prop} (hP : va_P G vwCl ws H) (hD : va_D A ws) (hS : va_S A H0 H locs) (hA : ∀ q, H0.size ≤ q → A q) (isC isR : List Nat) (hC : isC.map (fun i => ws[i]?) = wc.map some) (hR : isR.map (fun i => ws[i]?) = wr.map some) (hn : va_nd isR = true) (hd : ∀ i ∈ isR, i ∉ isC)
    (hr : va_Run p l e R s m args below meth c H locs cells slots mc ms (F0 m pc ls st0) rest (va_Ql post (fun u t => mB G ty (va_A wc H.size) (w u) t) (va_A wc H.size) a) (va_A wc H.size))
    (kk : ∀ (r : Int64) (u : S) (H1 : Heap) (locs1 : List Loc), post r u → va_P G vwCl (wr ++ w u) H1 → va_D A (wr ++ w u) → va_S A H0 H1 locs1 → W p l e R s m args below meth c H1 locs1 (cells + mc) (slots + ms) Q (F0 m (pc + 3) ls (.long r :: rest))) : W p l e R s m args below meth c H locs cells slots Q (F0 m pc ls st0) := by
  have hF := va_free hD hS hA isC hC
  refine va_calll hr hS (fun q _ h => hF q h) hF (fun r u t H1 locs1 ht hvm hp hB hz hk hS1 => ?_)
  obtain ⟨hP1, hK1, hD1⟩ := hB
  rw [ht] at hP1
  obtain ⟨a1, a2⟩ := va_join hP hD isC isR hC hR hn hd hk hF hP1 hD1
  exact kk r u H1 locs1 hp a1 a2 hS1
theorem k_v {post : S → Prop} (hP : va_P G vwCl ws H) (hD : va_D A ws) (hS : va_S A H0 H locs) (hA : ∀ q, H0.size ≤ q → A q) (isC isR : List Nat) (hC : isC.map (fun i => ws[i]?) = wc.map some) (hR : isR.map (fun i => ws[i]?) = wr.map some) (hn : va_nd isR = true) (hd : ∀ i ∈ isR, i ∉ isC)
    (hr : va_Run p l e R s m args below meth c H locs cells slots mc ms (F0 m pc ls st0) rest (va_Qv post (fun u t => mB G ty (va_A wc H.size) (w u) t) (va_A wc H.size) a) (va_A wc H.size))
    (kk : ∀ (u : S) (H1 : Heap) (locs1 : List Loc), post u → va_P G vwCl (wr ++ w u) H1 → va_D A (wr ++ w u) → va_S A H0 H1 locs1 → W p l e R s m args below meth c H1 locs1 (cells + mc) (slots + ms) Q (F0 m (pc + 3) ls rest)) : W p l e R s m args below meth c H locs cells slots Q (F0 m pc ls st0) := by
  have hF := va_free hD hS hA isC hC
  refine va_callv hr hS (fun q _ h => hF q h) hF (fun u t H1 locs1 ht hvm hp hB hz hk hS1 => ?_)
  obtain ⟨hP1, hK1, hD1⟩ := hB
  rw [ht] at hP1
  obtain ⟨a1, a2⟩ := va_join hP hD isC isR hC hR hn hd hk hF hP1 hD1
  exact kk u H1 locs1 hp a1 a2 hS1
end KC
/-- the class of an array is the one that the tables have -/
theorem ty_one {G : va_G} {ty : List (ClassId × FieldType)} {s : State} {t : FieldType} {c1 c2 : ClassId} (ht : refKind t = false) (h1 : va_RA s c1 t) (h2 : va_RA s c2 t) : c2 = c1 := by
  cases t with
  | object C => simp [refKind] at ht
  | _ => exact Option.some.inj (h2.symm.trans h1)
section NA
variable {p : Program} {l : Launch} {e : Env} {R : Room} {s : State} {m : MethodId} {args : Array Value} {below : List Frame} {meth : Method} {c : Code} {H H0 : Heap} {locs : List Loc} {cells slots : Nat} {Q : State → Prop} {G : va_G} {cl : List vw_C} {ty : List (ClassId × FieldType)} {A : Nat → Prop} {pc : Nat} {ls : Array Slot} {rest : List Value} {ws : va_W} {cc : ByteArray}
theorem m_newa (hexec : p.tables.exec = Jvm.exec) (hb : c.code = cc) {atype : ArrayType} (harr : (Cond.arrayClass (newarray.typeOf atype)).before args s = true) {t : FieldType} (hty : newarray.typeOf atype = t) (hprim : refKind t = false) (hK : va_K G cl ty s) (t0 : Nat) {cA : ClassId} (ht : ty[t0]? = some (cA, t)) (hP : va_P G cl ws H) (hD : va_D A ws) (hS : va_S A H0 H locs) (hA : ∀ q, H0.size ≤ q → A q)
    {n : Int32} {N' : Nat} {a0 : vp_A} (ha : ∀ cA : ClassId, vp_cell cA a0 = arrV cA N' (fun _ => defaultValue t)) (hn : ¬ n < 0) (hN : n.toNatClampNeg = N') (hbytes : N' * componentBytes t ≤ 536870912) (hcells : cells + 1 ≤ R.cells) (hslots : slots + N' ≤ R.slots) (hdg : decode cc pc = .ok (.newarray atype, 2))
    (kk : ∀ (q : Nat) (H1 : Heap), va_P G cl (ws ++ [(q, .inl (cA, a0))]) H1 → va_D A (ws ++ [(q, .inl (cA, a0))]) → va_S A H0 H1 locs → W p l e R s m args below meth c H1 locs (cells + 1) (slots + N') Q (F0 m (pc + 2) ls (.ref q :: rest))) : W p l e R s m args below meth c H locs cells slots Q (F0 m pc ls (.int n :: rest)) := by
  refine va_newa hexec hb harr hty hK hP hD hS hA ha hn hN hbytes hcells hslots hdg (fun q cB H1 hK1 hP1 hD1 hS1 => ?_)
  have e1 : cB = cA := by
    have h1 := (hK.2 t0 _ ht).2
    have h2 := (hK1.2 ty.length (cB, t) (by simp)).2
    exact ty_one (G := G) (ty := ty) hprim h1 h2
  subst e1
  exact kk q H1 hP1 hD1 hS1
end NA
theorem upd_z (k : Nat) : upd (fun _ => (0 : Int32)) k 0 = fun _ => 0 := by
  funext j
  simp [upd]
theorem updL_z (k : Nat) : vp_updL (fun _ => (0 : Int64)) k 0 = fun _ => 0 := by
  funext j
  simp [vp_updL]
theorem cpy_z {α : Type} (z : α) (a b n : Nat) : va_cpy (fun _ => z) (fun _ => z) a b n = fun _ => z := by
  funext j
  simp [va_cpy]
theorem tl_div {x y v : Int64} {a : Int} {k : Int} (hx : x.toInt = a) (h0 : 0 ≤ a) (hk : 0 < k) (hy : y.toInt = k) (e : v = x / y) : v.toInt = a / k := by
  subst hx hy e
  rw [Int64.toInt_div, Int.tdiv_eq_ediv_of_nonneg h0]
  have h1 := fb_rngL x
  have h3 : x.toInt / y.toInt ≤ x.toInt := Int.ediv_le_self _ h0
  have h4 : 0 ≤ x.toInt / y.toInt := Int.ediv_nonneg h0 (Int.le_of_lt hk)
  exact fb_bmodL (by omega) (by omega)
theorem ti_div {x y v : Int32} {a : Int} {k : Int} (hx : x.toInt = a) (h0 : 0 ≤ a) (hk : 0 < k) (hy : y.toInt = k) (e : v = x / y) : v.toInt = a / k := by
  subst hx hy e
  rw [Int32.toInt_div, Int.tdiv_eq_ediv_of_nonneg h0]
  have h1 := fb_rng x
  have h3 : x.toInt / y.toInt ≤ x.toInt := Int.ediv_le_self _ h0
  have h4 : 0 ≤ x.toInt / y.toInt := Int.ediv_nonneg h0 (Int.le_of_lt hk)
  exact fb_bmod (by omega) (by omega)
theorem ti_rem {x y v : Int32} {a : Int} {k : Int} (hx : x.toInt = a) (h0 : 0 ≤ a) (hk : 0 < k) (hy : y.toInt = k) (e : v = x - x / y * y) : v.toInt = a % k := by
  have hd := ti_div hx h0 hk hy (v := x / y) rfl
  have h1 := fb_rng x
  have h5 := Int.emod_def a k
  have h6 := Int.emod_nonneg a (Int.ne_of_gt hk)
  have h7 : 0 ≤ a / k * k := Int.mul_nonneg (Int.ediv_nonneg h0 (Int.le_of_lt hk)) (Int.le_of_lt hk)
  have h8 : k * (a / k) = a / k * k := Int.mul_comm _ _
  have hm := ti_mul (v := x / y * y) hd hy rfl (by omega) (by omega)
  have hs := ti_sub (v := v) hx hm e (by omega) (by omega)
  rw [hs]
  omega
section NQ
variable {p : Program} {l : Launch} {e : Env} {R : Room} {s : State} {m : MethodId} {args : Array Value} {below : List Frame} {meth : Method} {c : Code} {H H0 : Heap} {locs : List Loc} {cells slots : Nat} {Q : State → Prop} {G : va_G} {cl : List vw_C} {ty : List (ClassId × FieldType)} {A : Nat → Prop} {pc : Nat} {ls : Array Slot} {rest : List Value} {ws : va_W} {cc : ByteArray}
theorem m_newq (hexec : p.tables.exec = Jvm.exec) (hb : c.code = cc) {own C : String} {index : Nat} (hown : s.vm.findClass own = some m.cls) (hclink : (Cond.classLink own index C).before args s = true) (hover : va_AO C s) (hK : va_K G cl ty s) (t0 : Nat) {cA : ClassId} (ht : ty[t0]? = some (cA, .object C)) (hP : va_P G cl ws H) (hD : va_D A ws) (hS : va_S A H0 H locs) (hA : ∀ q, H0.size ≤ q → A q)
    {n : Int32} {N' : Nat} (hn : ¬ n < 0) (hN : n.toNatClampNeg = N') (hbytes : N' * 4 ≤ 536870912) (hcells : cells + 1 ≤ R.cells) (hslots : slots + N' ≤ R.slots) (hdg : decode cc pc = .ok (.anewarray index, 3))
    (kk : ∀ (q : Nat) (H1 : Heap), va_P G cl (ws ++ [(q, .inl (cA, N', .inr (.inr (.inr (.inr (fun _ => none))))))]) H1 → va_D A (ws ++ [(q, .inl (cA, N', .inr (.inr (.inr (.inr (fun _ => none))))))]) → va_S A H0 H1 locs → W p l e R s m args below meth c H1 locs (cells + 1) (slots + N') Q (F0 m (pc + 3) ls (.ref q :: rest))) : W p l e R s m args below meth c H locs cells slots Q (F0 m pc ls (.int n :: rest)) := by
  refine va_newq hexec hb hown hclink hover hK hP hD hS hA hn hN hbytes hcells hslots hdg (fun q cB H1 hK1 hP1 hD1 hS1 => ?_)
  have e1 : cB = cA := by
    obtain ⟨_, _, _, _, _, h1⟩ := (hK.2 t0 _ ht).2
    obtain ⟨_, _, _, _, _, h2⟩ := (hK1.2 ty.length (cB, .object C) (by simp)).2
    exact Option.some.inj (h2.symm.trans h1)
  subst e1
  exact kk q H1 hP1 hD1 hS1
end NQ
theorem va_up_s {α : Type} (f : Nat → α) (k : Nat) (v : α) : va_up f k v k = v := by simp [va_up]
theorem ix_nat {x : Int32} {a : Int} (hx : x.toInt = a) (_h : 0 ≤ a) : x.toNatClampNeg = a.toNat := by
  subst hx
  rfl
theorem mn_at (k : Nat) (h : k < 4) : upd (upd (upd (upd (fun _ => (0 : Int32)) 0 (-1)) 1 (-1)) 2 (-1)) 3 (-1) k = -1 := by
  rcases (show k = 0 ∨ k = 1 ∨ k = 2 ∨ k = 3 by omega) with rfl | rfl | rfl | rfl <;> rfl
theorem c_eq {x y : Int64} {a b : Int} (hx : x.toInt = a) (hy : y.toInt = b) (h : lg_cmp x y = 0) : a = b := l_eq hx hy ((lg_cmp_eq x y).mp h)
theorem c_neq {x y : Int64} {a b : Int} (hx : x.toInt = a) (hy : y.toInt = b) (h : ¬ lg_cmp x y = 0) : ¬ a = b := l_ne hx hy (fun q => h ((lg_cmp_eq x y).mpr q))
theorem c_ne {x y : Int64} {a b : Int} (hx : x.toInt = a) (hy : y.toInt = b) (h : ¬ lg_cmp x y = 0) : ¬ a = b := c_neq hx hy h
theorem c_nne {x y : Int64} {a b : Int} (hx : x.toInt = a) (hy : y.toInt = b) (h : lg_cmp x y = 0) : a = b := c_eq hx hy h
theorem nz_of {s : State} {args : Array Value} (h : ∀ w ∈ tables_1, isNest w = true → w.before args s = true) (h2 : (Cond.arrayOver (.object "WidowRoads$Colony")).before args s = true) : nz s := by
  refine ⟨?_, va_AO.of h2⟩
  intro w hm hn
  have h1 := h w hm hn
  cases w <;> first | exact va_Nw.of rfl h1 | (simp [isNest] at hn)
