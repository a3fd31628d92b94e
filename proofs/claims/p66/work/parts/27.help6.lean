-- ===== the law's loop: a world X, and a pool pl beside it that a call leaves alone =====
theorem mapX {X pl : va_W} : ∀ {isC : List Nat} {wc : va_W}, isC.map (fun i => X[i]?) = wc.map some → isC.map (fun i => (X ++ pl)[i]?) = wc.map some
  | [], wc, h => h
  | i :: l, [], h => by simp at h
  | i :: l, q :: w, h => by
    simp only [List.map_cons, List.cons.injEq] at h ⊢
    refine ⟨?_, mapX h.2⟩
    rw [List.getElem?_append_left (List.getElem?_eq_some_iff.mp h.1).1]
    exact h.1
section KQ
variable {p : Program} {l : Launch} {e : Env} {R : Room} {s : State} {m : MethodId} {args : Array Value} {below : List Frame} {meth : Method} {c : Code} {H H0 : Heap} {locs : List Loc} {cells slots mc ms : Nat} {Q : State → Prop} {G : va_G} {ty : List (ClassId × FieldType)} {A : Nat → Prop} {pc : Nat} {ls : Array Slot} {rest st0 : List Value} {S : Type} {w : S → va_W} {X wc wr pl : va_W} {a : Array Value}
theorem k_iq {post : Int32 → S → Prop} (hP : va_P G vwCl (X ++ pl) H) (hD : va_D A (X ++ pl)) (hS : va_S A H0 H locs) (hA : ∀ q, H0.size ≤ q → A q) (isC isR : List Nat) (hC : isC.map (fun i => X[i]?) = wc.map some) (hR : isR.map (fun i => X[i]?) = wr.map some) (hn : va_nd isR = true) (hd : ∀ i ∈ isR, i ∉ isC)
    (hr : va_Run p l e R s m args below meth c H locs cells slots mc ms (F0 m pc ls st0) rest (va_Qi post (fun u t => mB G ty (va_A wc H.size) (w u) t) (va_A wc H.size) a) (va_A wc H.size))
    (kk : ∀ (r : Int32) (u : S) (H1 : Heap) (locs1 : List Loc), post r u → va_P G vwCl ((wr ++ w u) ++ pl) H1 → va_D A ((wr ++ w u) ++ pl) → va_S A H0 H1 locs1 → W p l e R s m args below meth c H1 locs1 (cells + mc) (slots + ms) Q (F0 m (pc + 3) ls (.int r :: rest))) : W p l e R s m args below meth c H locs cells slots Q (F0 m pc ls st0) := by
  have hF := va_free hD hS hA isC (mapX hC)
  refine va_calli hr hS (fun q _ h => hF q h) hF (fun r u t H1 locs1 ht hvm hp hB hz hk hS1 => ?_)
  obtain ⟨hP1, hK1, hD1⟩ := hB
  rw [ht] at hP1
  obtain ⟨a1, a2⟩ := va_joinQ hP hD isC isR hC hR hn hd hk hF hP1 hD1
  exact kk r u H1 locs1 hp a1 a2 hS1
theorem k_lq {post : Int64 → S → Prop} (hP : va_P G vwCl (X ++ pl) H) (hD : va_D A (X ++ pl)) (hS : va_S A H0 H locs) (hA : ∀ q, H0.size ≤ q → A q) (isC isR : List Nat) (hC : isC.map (fun i => X[i]?) = wc.map some) (hR : isR.map (fun i => X[i]?) = wr.map some) (hn : va_nd isR = true) (hd : ∀ i ∈ isR, i ∉ isC)
    (hr : va_Run p l e R s m args below meth c H locs cells slots mc ms (F0 m pc ls st0) rest (va_Ql post (fun u t => mB G ty (va_A wc H.size) (w u) t) (va_A wc H.size) a) (va_A wc H.size))
    (kk : ∀ (r : Int64) (u : S) (H1 : Heap) (locs1 : List Loc), post r u → va_P G vwCl ((wr ++ w u) ++ pl) H1 → va_D A ((wr ++ w u) ++ pl) → va_S A H0 H1 locs1 → W p l e R s m args below meth c H1 locs1 (cells + mc) (slots + ms) Q (F0 m (pc + 3) ls (.long r :: rest))) : W p l e R s m args below meth c H locs cells slots Q (F0 m pc ls st0) := by
  have hF := va_free hD hS hA isC (mapX hC)
  refine va_calll hr hS (fun q _ h => hF q h) hF (fun r u t H1 locs1 ht hvm hp hB hz hk hS1 => ?_)
  obtain ⟨hP1, hK1, hD1⟩ := hB
  rw [ht] at hP1
  obtain ⟨a1, a2⟩ := va_joinQ hP hD isC isR hC hR hn hd hk hF hP1 hD1
  exact kk r u H1 locs1 hp a1 a2 hS1
end KQ
theorem subPq {D : va_G} {cl : List vw_C} {X Y pl : va_W} {H : Heap} (h : va_P D cl (Y ++ pl) H) (is : List Nat) (hs : is.map (fun i => Y[i]?) = X.map some) : va_P D cl (X ++ pl) H := fun k q hk => h _ q (va_part is hs k q hk)
theorem va_P_mem {D : va_G} {cl : List vw_C} {ws : va_W} {H : Heap} : va_P D cl ws H ↔ ∀ q ∈ ws, va_at D cl q H := by
  refine ⟨fun h q hq => ?_, fun h k q hk => h q (List.mem_of_getElem? hk)⟩
  obtain ⟨k, hk⟩ := List.getElem?_of_mem hq
  exact h k q hk
theorem va_P_perm {D : va_G} {cl : List vw_C} {ws ws' : va_W} {H : Heap} (p : ws.Perm ws') (h : va_P D cl ws H) : va_P D cl ws' H := va_P_mem.mpr (fun q hq => va_P_mem.mp h q (p.mem_iff.mpr hq))
theorem va_D_nd {A : Nat → Prop} {ws : va_W} : va_D A ws ↔ (ws.map (fun q => q.1)).Nodup ∧ ∀ q ∈ ws, A q.1 := by
  constructor
  · intro h
    refine ⟨?_, fun q hq => ?_⟩
    · rw [List.nodup_iff_pairwise_ne, List.pairwise_iff_getElem]
      intro i j hi hj hij e
      rw [List.length_map] at hi hj
      rw [List.getElem_map, List.getElem_map] at e
      have := h.1 i j _ _ (List.getElem?_eq_getElem hi) (List.getElem?_eq_getElem hj) e
      omega
    · obtain ⟨k, hk⟩ := List.getElem?_of_mem hq
      exact h.2 k q hk
  · intro h
    refine ⟨fun i j x y hx hy e => ?_, fun k q hk => h.2 q (List.mem_of_getElem? hk)⟩
    obtain ⟨hi, ex⟩ := List.getElem?_eq_some_iff.mp hx
    obtain ⟨hj, ey⟩ := List.getElem?_eq_some_iff.mp hy
    have hp := List.pairwise_iff_getElem.mp (List.nodup_iff_pairwise_ne.mp h.1)
    rcases Nat.lt_trichotomy i j with q | q | q
    · exact absurd (by rw [List.getElem_map, List.getElem_map, ex, ey]; exact e) (hp i j (by rw [List.length_map]; exact hi) (by rw [List.length_map]; exact hj) q)
    · exact q
    · exact absurd (by rw [List.getElem_map, List.getElem_map, ex, ey]; exact e.symm) (hp j i (by rw [List.length_map]; exact hj) (by rw [List.length_map]; exact hi) q)
theorem va_D_perm {A : Nat → Prop} {ws ws' : va_W} (p : ws.Perm ws') (h : va_D A ws) : va_D A ws' := by
  have h1 := va_D_nd.mp h
  exact va_D_nd.mpr ⟨(p.map _).nodup h1.1, fun q hq => h1.2 q (p.mem_iff.mpr hq)⟩
theorem va_nd_nd : ∀ (l : List Nat), va_nd l = true → l.Nodup
  | [], _ => List.nodup_nil
  | a :: l, h => by
    simp only [va_nd, Bool.and_eq_true, decide_eq_true_eq] at h
    exact List.nodup_cons.mpr ⟨h.1, va_nd_nd l h.2⟩
theorem subDq {A : Nat → Prop} {X Y pl : va_W} (h : va_D A (Y ++ pl)) (is : List Nat) (hn : va_nd is = true) (hs : is.map (fun i => Y[i]?) = X.map some) : va_D A (X ++ pl) := by
  have hY := va_D_nd.mp h
  have hX : va_D A X := va_D.sub (ws := Y) (va_D_nd.mpr ⟨((List.nodup_append.mp (by rw [← List.map_append]; exact hY.1))).1, fun q hq => hY.2 q (List.mem_append_left _ hq)⟩) is hn hs
  have hX' := va_D_nd.mp hX
  have hmem : ∀ q ∈ X, q ∈ Y := by
    intro q hq
    have h1 : some q ∈ X.map some := List.mem_map_of_mem hq
    rw [← hs] at h1
    obtain ⟨i, -, hi⟩ := List.mem_map.mp h1
    exact List.mem_of_getElem? hi
  have hsp := List.nodup_append.mp (show (Y.map (fun q => q.1) ++ pl.map (fun q => q.1)).Nodup by rw [← List.map_append]; exact hY.1)
  refine va_D_nd.mpr ⟨?_, fun q hq => ?_⟩
  · rw [List.map_append]
    refine List.nodup_append.mpr ⟨hX'.1, hsp.2.1, fun a ha b hb => ?_⟩
    obtain ⟨q, hq, rfl⟩ := List.mem_map.mp ha
    exact hsp.2.2 _ (List.mem_map_of_mem (f := fun q : Nat × va_E => q.1) (hmem q hq)) b hb
  · rcases List.mem_append.mp hq with hq | hq
    · exact hX'.2 q hq
    · exact hY.2 q (List.mem_append_right _ hq)
-- ===== class and reference beside each other =====
def RS (f1 f2 f3 g1 g2 : Nat → Int32) : Prop := ∀ j : Nat, j < 4 → ((f1 j).toInt = 0 ∧ (g1 j).toInt = -1) ∨ (¬ (f1 j).toInt = 0 ∧ ¬ (g1 j).toInt = -1 ∧ f3 j = g1 j ∧ f2 j = g2 j)
theorem RS_row {f1 f2 f3 g1 g2 f1' f2' f3' g1' g2' : Nat → Int32} {r r' x y z : Int32} (h : RS f1 f2 f3 g1 g2)
    (hc : (r = 0 ∧ 0 ≤ x.toInt ∧ x.toInt ≤ 3 ∧ 0 ≤ z.toInt ∧ z.toInt ≤ 60 ∧ f1' = upd f1 x.toNatClampNeg 1 ∧ f2' = upd f2 x.toNatClampNeg y ∧ f3' = upd f3 x.toNatClampNeg z) ∨ (¬ r = 0 ∧ f1' = f1 ∧ f2' = f2 ∧ f3' = f3))
    (hm : (r' = 0 ∧ 0 ≤ x.toInt ∧ x.toInt ≤ 3 ∧ 0 ≤ z.toInt ∧ z.toInt ≤ 60 ∧ g1' = upd g1 x.toNatClampNeg z ∧ g2' = upd g2 x.toNatClampNeg y) ∨ (¬ r' = 0 ∧ g1' = g1 ∧ g2' = g2)) (hr : r = r') : RS f1' f2' f3' g1' g2' := by
  subst hr
  rcases hc with ⟨a1, a2, a3, a4, a5, rfl, rfl, rfl⟩ | ⟨a1, rfl, rfl, rfl⟩
  · rcases hm with ⟨b1, b2, b3, b4, b5, rfl, rfl⟩ | ⟨b1, -, -⟩
    · intro j hj
      by_cases e : j = x.toNatClampNeg
      · subst e
        rw [pk_us, pk_us, pk_us, pk_us, pk_us]
        exact Or.inr ⟨by decide, by omega, rfl, rfl⟩
      · rw [pk_un e, pk_un e, pk_un e, pk_un e, pk_un e]
        exact h j hj
    · exact absurd a1 b1
  · rcases hm with ⟨b1, -, -, -, -, -, -⟩ | ⟨b1, rfl, rfl⟩
    · exact absurd b1 a1
    · exact h
def RI (fq : Nat → Option Nat) (g : Nat → Int32) : Prop := ∀ j : Nat, j < 3 → (fq j = none ↔ (g j).toInt = 0)
theorem RI_new {fq fq' : Nat → Option Nat} {g : Nat → Int32} {k a : Nat} (h : RI fq g) (e : fq' = va_up fq k (some a)) : RI fq' (upd g k 1) := by
  subst e
  intro j hj
  by_cases q : j = k
  · subst q
    rw [va_up_s, pk_us]
    exact ⟨fun z => (by cases z), fun z => absurd z (by decide)⟩
  · rw [pk_un q]
    have : va_up fq k (some a) j = fq j := by simp [va_up, q]
    rw [this]
    exact h j hj
theorem RI_old {fq : Nat → Option Nat} {g : Nat → Int32} {k a : Nat} (h : RI fq g) (e : fq k = some a) : RI fq (upd g k 1) := by
  intro j hj
  by_cases q : j = k
  · subst q
    rw [e, pk_us]
    exact ⟨fun z => (by cases z), fun z => absurd z (by decide)⟩
  · rw [pk_un q]
    exact h j hj
theorem va_up_n {α : Type} (f : Nat → α) (k : Nat) (v : α) : ∀ t : Nat, t ≠ k → va_up f k v t = f t := fun t h => by simp [va_up, h]
theorem wr_eq {f1 f2 f3 g1 g2 : Nat → Int32} (h : RS f1 f2 f3 g1 g2) (x y : Int32) : (if x.toInt < 0 ∨ 3 < x.toInt then (-2 : Int32) else if (f1 x.toNatClampNeg).toInt = 0 then -6 else if y.toInt < 0 ∨ (f3 x.toNatClampNeg).toInt ≤ y.toInt then -7 else 0) = (if x.toInt < 0 ∨ 3 < x.toInt then (-2 : Int32) else if (g1 x.toNatClampNeg).toInt = -1 then -6 else if y.toInt < 0 ∨ (g1 x.toNatClampNeg).toInt ≤ y.toInt then -7 else 0) := by
  by_cases hx : x.toInt < 0 ∨ 3 < x.toInt
  · rw [if_pos hx, if_pos hx]
  · rw [if_neg hx, if_neg hx]
    rcases h x.toNatClampNeg (by rw [ix_nat (x := x) rfl (by omega)]; omega) with ⟨h1, h2⟩ | ⟨h1, h2, h3, h4⟩
    · rw [if_pos h1, if_pos h2]
    · rw [if_neg h1, if_neg h2, h3]
theorem pa_eq {f1 f2 f3 g1 g2 : Nat → Int32} (h : RS f1 f2 f3 g1 g2) (x y z k n : Int32) : (if x.toInt < 0 ∨ 3 < x.toInt ∨ z.toInt < 0 ∨ 3 < z.toInt then (-2 : Int32) else if (f1 x.toNatClampNeg).toInt = 0 ∨ (f1 z.toNatClampNeg).toInt = 0 then -6 else if ¬ (f2 x.toNatClampNeg).toInt = (f2 z.toNatClampNeg).toInt then -8 else if y.toInt < 0 ∨ k.toInt < 0 ∨ n.toInt < 0 ∨ (f3 x.toNatClampNeg).toInt < y.toInt + n.toInt ∨ (f3 z.toNatClampNeg).toInt < k.toInt + n.toInt then -7 else 0) = (if x.toInt < 0 ∨ 3 < x.toInt ∨ z.toInt < 0 ∨ 3 < z.toInt then (-2 : Int32) else if (g1 x.toNatClampNeg).toInt = -1 ∨ (g1 z.toNatClampNeg).toInt = -1 then -6 else if ¬ (g2 x.toNatClampNeg).toInt = (g2 z.toNatClampNeg).toInt then -8 else if y.toInt < 0 ∨ k.toInt < 0 ∨ n.toInt < 0 ∨ (g1 x.toNatClampNeg).toInt < y.toInt + n.toInt ∨ (g1 z.toNatClampNeg).toInt < k.toInt + n.toInt then -7 else 0) := by
  by_cases hx : x.toInt < 0 ∨ 3 < x.toInt ∨ z.toInt < 0 ∨ 3 < z.toInt
  · rw [if_pos hx, if_pos hx]
  · rw [if_neg hx, if_neg hx]
    rcases h x.toNatClampNeg (by rw [ix_nat (x := x) rfl (by omega)]; omega) with ⟨h1, h2⟩ | ⟨h1, h2, h3, h4⟩
    · rw [if_pos (Or.inl h1), if_pos (Or.inl h2)]
    · rcases h z.toNatClampNeg (by rw [ix_nat (x := z) rfl (by omega)]; omega) with ⟨k1, k2⟩ | ⟨k1, k2, k3, k4⟩
      · rw [if_pos (Or.inr k1), if_pos (Or.inr k2)]
      · have a1 : ¬ ((f1 x.toNatClampNeg).toInt = 0 ∨ (f1 z.toNatClampNeg).toInt = 0) := fun q => q.elim h1 k1
        have a2 : ¬ ((g1 x.toNatClampNeg).toInt = -1 ∨ (g1 z.toNatClampNeg).toInt = -1) := fun q => q.elim h2 k2
        rw [if_neg a1, if_neg a2, h3, h4, k3, k4]
