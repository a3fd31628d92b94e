-- ===== the reference's world: a row of 149 numbers =====
def wH (j : Nat) : Int :=
  if j < 28 then ([12, 3, 10, 8, 8, 12, 6, 7, 30, 901] : List Int).getD j 77
  else if j < 119 then ([77, 3, 40, 11, 8] : List Int).getD ((j - 28) % 13) 3 else 1006
def WB (f : Nat → Int32) : Prop := ∀ j : Nat, j < 149 → (0 ≤ (f j).toInt ∧ (f j).toInt ≤ wH j) ∧ (119 ≤ j → (f j).toInt ≤ 77 ∨ 1000 ≤ (f j).toInt)
def WG (f : Nat → Int32) : Prop := ∀ w : Nat, w < 7 → (w : Int) < (f 7).toInt → 1 ≤ (f (28 + 13 * w + 4)).toInt ∧ (f (28 + 13 * w)).toInt / 10 < (f 3).toInt ∧ (f (28 + 13 * w)).toInt % 10 < (f 4).toInt
def WI (f : Nat → Int32) : Prop := WB f ∧ WG f
theorem WB_0 {f : Nat → Int32} (h : WB f) : 0 ≤ (f 0).toInt ∧ (f 0).toInt ≤ 12 := (h 0 (by decide)).1
theorem WB_1 {f : Nat → Int32} (h : WB f) : 0 ≤ (f 1).toInt ∧ (f 1).toInt ≤ 3 := (h 1 (by decide)).1
theorem WB_2 {f : Nat → Int32} (h : WB f) : 0 ≤ (f 2).toInt ∧ (f 2).toInt ≤ 10 := (h 2 (by decide)).1
theorem WB_3 {f : Nat → Int32} (h : WB f) : 0 ≤ (f 3).toInt ∧ (f 3).toInt ≤ 8 := (h 3 (by decide)).1
theorem WB_4 {f : Nat → Int32} (h : WB f) : 0 ≤ (f 4).toInt ∧ (f 4).toInt ≤ 8 := (h 4 (by decide)).1
theorem WB_5 {f : Nat → Int32} (h : WB f) : 0 ≤ (f 5).toInt ∧ (f 5).toInt ≤ 12 := (h 5 (by decide)).1
theorem WB_6 {f : Nat → Int32} (h : WB f) : 0 ≤ (f 6).toInt ∧ (f 6).toInt ≤ 6 := (h 6 (by decide)).1
theorem WB_7 {f : Nat → Int32} (h : WB f) : 0 ≤ (f 7).toInt ∧ (f 7).toInt ≤ 7 := (h 7 (by decide)).1
theorem WB_8 {f : Nat → Int32} (h : WB f) : 0 ≤ (f 8).toInt ∧ (f 8).toInt ≤ 30 := (h 8 (by decide)).1
theorem WB_9 {f : Nat → Int32} (h : WB f) : 0 ≤ (f 9).toInt ∧ (f 9).toInt ≤ 901 := (h 9 (by decide)).1
theorem wH_cell {k : Nat} (h1 : 10 ≤ k) (h2 : k < 28) : wH k = 77 := by
  unfold wH
  rw [if_pos h2]
  rcases (show ∃ j, k = 10 + j from ⟨k - 10, by omega⟩) with ⟨j, rfl⟩
  rw [Nat.add_comm]
  rfl
theorem wH_w {k b : Nat} (w : Nat) (hk : k = 28 + 13 * w + b) (hw : w < 7) (hb : b < 13) : wH k = ([77, 3, 40, 11, 8] : List Int).getD b 3 := by
  unfold wH
  rw [if_neg (by omega), if_pos (by omega), show (k - 28) % 13 = b by omega]
theorem wH_act {k : Nat} (h : 119 ≤ k) : wH k = 1006 := by
  unfold wH
  rw [if_neg (by omega), if_neg (by omega)]
theorem WB_cell {f : Nat → Int32} {x v : Int32} {a : Int} (h : WB f) (hx : x.toInt = a) (h1 : 10 ≤ a) (h2 : a < 28) (e : v = f x.toNatClampNeg) : 0 ≤ v.toInt ∧ v.toInt ≤ 77 := by
  rw [e, ix_nat hx (by omega)]
  have := (h a.toNat (by omega)).1
  rw [wH_cell (by omega) (by omega)] at this
  exact this
theorem WB_act {f : Nat → Int32} {x v : Int32} {a : Int} (h : WB f) (hx : x.toInt = a) (h1 : 119 ≤ a) (h2 : a < 149) (e : v = f x.toNatClampNeg) : (0 ≤ v.toInt ∧ v.toInt ≤ 1006) ∧ (v.toInt ≤ 77 ∨ 1000 ≤ v.toInt) := by
  rw [e, ix_nat hx (by omega)]
  have h0 := h a.toNat (by omega)
  have := h0.1
  rw [wH_act (by omega)] at this
  exact ⟨this, h0.2 (by omega)⟩
theorem WB_put {f : Nat → Int32} {k : Nat} {v : Int32} {t : Int} (h : WB f) (hv : v.toInt = t) (h1 : 0 ≤ t) (h2 : t ≤ wH k) (h3 : 119 ≤ k → t ≤ 77 ∨ 1000 ≤ t) : WB (upd f k v) := by
  intro j hj
  unfold upd
  split
  · rename_i e
    subst e
    rw [hv]
    exact ⟨⟨h1, h2⟩, h3⟩
  · exact h j hj
theorem WB_putc {f : Nat → Int32} {x v : Int32} {t : Int} (k : Nat) (m : Int) (h : WB f) (hx : x.toNatClampNeg = k) (hm : wH k = m) (hk : k < 119) (hv : v.toInt = t) (h1 : 0 ≤ t) (h2 : t ≤ m) : WB (upd f x.toNatClampNeg v) := by
  rw [hx]
  exact WB_put h hv h1 (by rw [hm]; exact h2) (fun q => absurd q (by omega))
theorem WB_putcell {f : Nat → Int32} {x v : Int32} {a t : Int} (h : WB f) (hx : x.toInt = a) (a1 : 10 ≤ a) (a2 : a < 28) (hv : v.toInt = t) (h1 : 0 ≤ t) (h2 : t ≤ 77) : WB (upd f x.toNatClampNeg v) := by
  rw [ix_nat hx (by omega)]
  exact WB_put h hv h1 (by rw [wH_cell (by omega) (by omega)]; exact h2) (fun q => absurd q (by omega))
theorem WB_putw {f : Nat → Int32} {x v : Int32} {a t : Int} (w b m : Int) (h : WB f) (hx : x.toInt = a) (ha : a = 28 + 13 * w + b) (w1 : 0 ≤ w) (w2 : w ≤ 6) (b1 : 0 ≤ b) (b2 : b ≤ 12) (hm : ([77, 3, 40, 11, 8] : List Int).getD b.toNat 3 = m) (hv : v.toInt = t) (h1 : 0 ≤ t) (h2 : t ≤ m) : WB (upd f x.toNatClampNeg v) := by
  rw [ix_nat hx (by omega)]
  exact WB_put h hv h1 (by rw [wH_w w.toNat (b := b.toNat) (by omega) (by omega) (by omega), hm]; exact h2) (fun q => absurd q (by omega))
theorem WB_puta {f : Nat → Int32} {x v : Int32} {a t : Int} (h : WB f) (hx : x.toInt = a) (a1 : 119 ≤ a) (hv : v.toInt = t) (h1 : 0 ≤ t) (h2 : t ≤ 1006) (h3 : t ≤ 77 ∨ 1000 ≤ t) : WB (upd f x.toNatClampNeg v) := by
  rw [ix_nat hx (by omega)]
  exact WB_put h hv h1 (by rw [wH_act (by omega)]; exact h2) (fun _ => h3)
theorem tb_hi {b : Int} (h1 : 5 ≤ b) : ([77, 3, 40, 11, 8] : List Int).getD b.toNat 3 = 3 := by
  rcases (show ∃ j, b.toNat = j + 5 from ⟨b.toNat - 5, by omega⟩) with ⟨j, e⟩
  rw [e]
  rfl
-- a widow's number b
def wv (f : Nat → Int32) (a b : Int) : Int := (f (28 + 13 * a + b).toNat).toInt
theorem wv_all {f : Nat → Int32} {a b : Int} (h : WB f) (a1 : 0 ≤ a) (a2 : a ≤ 6) (b1 : 0 ≤ b) (b2 : b ≤ 12) : 0 ≤ wv f a b ∧ wv f a b ≤ ([77, 3, 40, 11, 8] : List Int).getD b.toNat 3 := by
  have := (h (28 + 13 * a + b).toNat (by omega)).1
  rw [wH_w a.toNat (b := b.toNat) (by omega) (by omega) (by omega)] at this
  exact this
theorem wv_0 {f : Nat → Int32} {a : Int} (h : WB f) (a1 : 0 ≤ a) (a2 : a ≤ 6) : 0 ≤ wv f a 0 ∧ wv f a 0 ≤ 77 := wv_all h a1 a2 (by decide) (by decide)
theorem wv_1 {f : Nat → Int32} {a : Int} (h : WB f) (a1 : 0 ≤ a) (a2 : a ≤ 6) : 0 ≤ wv f a 1 ∧ wv f a 1 ≤ 3 := wv_all h a1 a2 (by decide) (by decide)
theorem wv_2 {f : Nat → Int32} {a : Int} (h : WB f) (a1 : 0 ≤ a) (a2 : a ≤ 6) : 0 ≤ wv f a 2 ∧ wv f a 2 ≤ 40 := wv_all h a1 a2 (by decide) (by decide)
theorem wv_3 {f : Nat → Int32} {a : Int} (h : WB f) (a1 : 0 ≤ a) (a2 : a ≤ 6) : 0 ≤ wv f a 3 ∧ wv f a 3 ≤ 11 := wv_all h a1 a2 (by decide) (by decide)
theorem wv_4 {f : Nat → Int32} {a : Int} (h : WB f) (a1 : 0 ≤ a) (a2 : a ≤ 6) : 0 ≤ wv f a 4 ∧ wv f a 4 ≤ 8 := wv_all h a1 a2 (by decide) (by decide)
theorem wv_t {f : Nat → Int32} {a b : Int} (h : WB f) (a1 : 0 ≤ a) (a2 : a ≤ 6) (b1 : 5 ≤ b) (b2 : b ≤ 12) : 0 ≤ wv f a b ∧ wv f a b ≤ 3 := by
  have := wv_all h a1 a2 (b := b) (by omega) b2
  rw [tb_hi b1] at this
  exact this
theorem wv_g {f : Nat → Int32} {a : Int} (h : WG f) (a1 : 0 ≤ a) (a2 : a ≤ 6) (a3 : a < (f 7).toInt) : 1 ≤ wv f a 4 ∧ wv f a 0 / 10 < (f 3).toInt ∧ wv f a 0 % 10 < (f 4).toInt := by
  have := h a.toNat (by omega) (by omega)
  unfold wv
  rw [show (28 + 13 * a + 4).toNat = 28 + 13 * a.toNat + 4 by omega, show (28 + 13 * a + 0).toNat = 28 + 13 * a.toNat by omega]
  exact this
theorem wv_load {f : Nat → Int32} {x v : Int32} {t a b : Int} (hx : x.toInt = t) (ht : t = 28 + 13 * a + b) (h0 : 0 ≤ t) (e : v = f x.toNatClampNeg) : v.toInt = wv f a b := by
  rw [e, ix_nat hx h0, ht]
  rfl
theorem WB_ext {f g : Nat → Int32} (h : WB f) (e : ∀ j : Nat, j < 149 → g j = f j) : WB g := by
  intro j hj
  rw [e j hj]
  exact h j hj
theorem WG_ext {f g : Nat → Int32} (h : WG f) (e : ∀ j : Nat, j < 149 → g j = f j) : WG g := by
  intro w hw h7
  rw [e 7 (by decide)] at h7
  rw [e (28 + 13 * w + 4) (by omega), e (28 + 13 * w) (by omega), e 3 (by decide), e 4 (by decide)]
  exact h w hw h7
theorem WI_ext {f g : Nat → Int32} (h : WI f) (e : ∀ j : Nat, j < 149 → g j = f j) : WI g := ⟨WB_ext h.1 e, WG_ext h.2 e⟩
theorem WB_zero : WB (fun _ => 0) := by
  intro j hj
  refine ⟨⟨show (0 : Int) ≤ (0 : Int32).toInt by decide, ?_⟩, fun _ => Or.inl (show (0 : Int32).toInt ≤ 77 by decide)⟩
  have : ∀ j : Nat, j < 149 → (0 : Int) ≤ wH j := by decide +kernel
  exact this j hj
theorem WG_none {f : Nat → Int32} (h : (f 7).toInt = 0) : WG f := fun w _ h7 => absurd h7 (by omega)
theorem WI_zero : WI (fun _ => 0) := ⟨WB_zero, WG_none (by decide)⟩
theorem WG_upd {f : Nat → Int32} {k : Nat} {v : Int32} (h : WG f) (h3 : k ≠ 3) (h4 : k ≠ 4) (h7 : k ≠ 7) (hw : ∀ w : Nat, w < 7 → (w : Int) < (f 7).toInt → k ≠ 28 + 13 * w ∧ k ≠ 28 + 13 * w + 4) : WG (upd f k v) := by
  intro w w1 w2
  rw [pk_un (Ne.symm h7)] at w2
  rw [pk_un (Ne.symm (hw w w1 w2).2), pk_un (Ne.symm (hw w w1 w2).1), pk_un (Ne.symm h3), pk_un (Ne.symm h4)]
  exact h w w1 w2
/-- a place that says nothing of the widows told -/
theorem WG_updx {f : Nat → Int32} {x v : Int32} {a : Int} (h : WG f) (hx : x.toInt = a) (h0 : 0 ≤ a) (hc : a = 5 ∨ a = 6 ∨ a = 8 ∨ a = 9 ∨ (10 ≤ a ∧ a < 28) ∨ 119 ≤ a) : WG (upd f x.toNatClampNeg v) := by
  rw [ix_nat hx h0]
  exact WG_upd h (by omega) (by omega) (by omega) (fun w w1 _ => ⟨by omega, by omega⟩)
theorem WG_rate {f : Nat → Int32} {x v : Int32} {a w : Int} (h : WG f) (hx : x.toInt = a) (ha : a = 28 + 13 * w + 2) (h0 : 0 ≤ w) : WG (upd f x.toNatClampNeg v) := by
  rw [ix_nat hx (by omega)]
  exact WG_upd h (by omega) (by omega) (by omega) (fun w w1 _ => ⟨by omega, by omega⟩)
-- two rows alike below a place
def ag (f g : Nat → Int32) (n : Int) : Prop := ∀ j : Nat, (j : Int) < n → g j = f j
theorem ag_rf {f : Nat → Int32} {n : Int} : ag f f n := fun _ _ => rfl
theorem ag_le {f g : Nat → Int32} {n m : Int} (h : ag f g n) (hm : m ≤ n) : ag f g m := fun j hj => h j (by omega)
theorem ag_tr {f g k : Nat → Int32} {n : Int} (h1 : ag f g n) (h2 : ag g k n) : ag f k n := fun j hj => (h2 j hj).trans (h1 j hj)
theorem ag_put {f g : Nat → Int32} {n a : Int} {x v : Int32} (h : ag f g n) (hx : x.toInt = a) (h0 : 0 ≤ a) (hn : n ≤ a) : ag f (upd g x.toNatClampNeg v) n := by
  intro j hj
  rw [ix_nat hx h0, pk_un (by omega)]
  exact h j hj
theorem WG_ag {f g : Nat → Int32} (h : WG f) (e : ag f g (28 + 13 * (f 7).toInt)) (h0 : 0 ≤ (f 7).toInt) : WG g := by
  intro w w1 w2
  rw [e 7 (by omega)] at w2
  rw [e (28 + 13 * w + 4) (by omega), e (28 + 13 * w) (by omega), e 3 (by omega), e 4 (by omega)]
  exact h w w1 w2
/-- the widow told last comes to those told before -/
theorem WG_next {f g : Nat → Int32} {x v : Int32} (h : WG f) (e : ag f g (28 + 13 * (f 7).toInt)) (h0 : 0 ≤ (f 7).toInt) (h6 : (f 7).toInt ≤ 6) (ht : 1 ≤ wv g (f 7).toInt 4) (hc1 : wv g (f 7).toInt 0 / 10 < (f 3).toInt) (hc2 : wv g (f 7).toInt 0 % 10 < (f 4).toInt) (hx : x.toNatClampNeg = 7) (hv : v.toInt = (f 7).toInt + 1) : WG (upd g x.toNatClampNeg v) := by
  rw [hx]
  intro w w1 w2
  rw [pk_us, hv] at w2
  rw [pk_un (by omega), pk_un (by omega), pk_un (by decide), pk_un (by decide), e 3 (by omega), e 4 (by omega)]
  by_cases hw : (w : Int) < (f 7).toInt
  · rw [e (28 + 13 * w + 4) (by omega), e (28 + 13 * w) (by omega)]
    exact h w w1 hw
  · have ew : (f 7).toInt = w := by omega
    unfold wv at ht hc1 hc2
    rw [ew] at ht hc1 hc2
    rw [show (28 + 13 * (w : Int) + 4).toNat = 28 + 13 * w + 4 by omega] at ht
    rw [show (28 + 13 * (w : Int) + 0).toNat = 28 + 13 * w by omega] at hc1 hc2
    exact ⟨ht, hc1, hc2⟩
theorem wv_ag {f g : Nat → Int32} {a b n : Int} (e : ag f g n) (h0 : 0 ≤ 28 + 13 * a + b) (hn : 28 + 13 * a + b < n) : wv g a b = wv f a b := by
  unfold wv
  rw [e _ (by omega)]
theorem wv_put {g : Nat → Int32} {x v : Int32} {a b t : Int} (hx : x.toInt = t) (ht : t = 28 + 13 * a + b) (h0 : 0 ≤ t) : wv (upd g x.toNatClampNeg v) a b = v.toInt := by
  unfold wv
  rw [ix_nat hx h0, ← ht, pk_us]
-- ===== the cell beside =====
def ac (d : Int) : Int := if d = 1 then 1 else if d = 3 then -1 else 0
def dn (d : Int) : Int := if d = 2 then 1 else if d = 0 then -1 else 0
def bsd (wd hi c d : Int) : Int := if 0 ≤ c / 10 + ac d ∧ c / 10 + ac d ≤ wd - 1 ∧ 0 ≤ c % 10 + dn d ∧ c % 10 + dn d ≤ hi - 1 then 10 * (c / 10 + ac d) + (c % 10 + dn d) else -1
theorem bsd_in {wd hi c d x y : Int} (hx : x = c / 10 + ac d) (hy : y = c % 10 + dn d) (h1 : 0 ≤ x) (h2 : x ≤ wd - 1) (h3 : 0 ≤ y) (h4 : y ≤ hi - 1) : bsd wd hi c d = 10 * x + y := by
  subst hx hy
  exact if_pos ⟨h1, h2, h3, h4⟩
theorem bsd_o1 {wd hi c d x : Int} (hx : x = c / 10 + ac d) (h : x < 0 ∨ wd - 1 < x) : bsd wd hi c d = -1 := by
  subst hx
  exact if_neg (fun q => absurd q (by omega))
theorem bsd_o2 {wd hi c d y : Int} (hy : y = c % 10 + dn d) (h : y < 0 ∨ hi - 1 < y) : bsd wd hi c d = -1 := by
  subst hy
  exact if_neg (fun q => absurd q (by omega))
theorem bsd_rng {wd hi c d : Int} (h1 : wd ≤ 8) (h2 : hi ≤ 8) : -1 ≤ bsd wd hi c d ∧ bsd wd hi c d ≤ 77 := by
  unfold bsd
  split <;> omega
theorem bsd_1 {wd hi c : Int} (h0 : 0 ≤ c) (h : bsd wd hi c 1 ≠ -1) : bsd wd hi c 1 = c + 10 := by
  unfold bsd at h ⊢
  split
  · rw [show ac 1 = 1 from rfl, show dn 1 = 0 from rfl]; omega
  · rename_i q; rw [if_neg q] at h; exact absurd rfl h
theorem bsd_2 {wd hi c : Int} (h0 : 0 ≤ c) (h : bsd wd hi c 2 ≠ -1) : bsd wd hi c 2 = c + 1 := by
  unfold bsd at h ⊢
  split
  · rw [show ac 2 = 0 from rfl, show dn 2 = 1 from rfl]; omega
  · rename_i q; rw [if_neg q] at h; exact absurd rfl h
/-- a peg in direction d at cell c -/
def okp (wd hi c d : Int) : Prop := c / 10 < wd ∧ c % 10 < hi ∧ bsd wd hi c d ≠ -1
theorem four {d : Int} (h0 : 0 ≤ d) (h3 : d ≤ 3) : d = 0 ∨ d = 1 ∨ d = 2 ∨ d = 3 := by omega
/-- and the peg as the cell beside has it -/
theorem okp_back {wd hi c d t e : Int} (h0 : 0 ≤ c) (hd0 : 0 ≤ d) (hd3 : d ≤ 3) (h : okp wd hi c d) (ht : t = bsd wd hi c d) (hh : hi ≤ 8) (he : e = (d + 2) % 4) : okp wd hi t e ∧ 0 ≤ t := by
  obtain ⟨h1, h2, h3⟩ := h
  unfold bsd at h3 ht
  split at ht
  · rename_i q
    subst he
    refine ⟨⟨by omega, by omega, ?_⟩, by omega⟩
    unfold bsd
    rcases four hd0 hd3 with rfl | rfl | rfl | rfl
    all_goals
      simp only [show ac 0 = 0 from rfl, show ac 1 = 1 from rfl, show ac 2 = 0 from rfl, show ac 3 = -1 from rfl, show dn 0 = -1 from rfl, show dn 1 = 0 from rfl, show dn 2 = 1 from rfl, show dn 3 = 0 from rfl, show ((0 : Int) + 2) % 4 = 2 from rfl, show ((1 : Int) + 2) % 4 = 3 from rfl, show ((2 : Int) + 2) % 4 = 0 from rfl, show ((3 : Int) + 2) % 4 = 1 from rfl] at q ht ⊢
      rw [if_pos (by omega)]
      omega
  · rename_i q
    rw [if_neg q] at h3
    exact absurd rfl h3
theorem bsd_grid {wd hi c d t : Int} (ht : t = bsd wd hi c d) (h : t ≠ -1) (hh : hi ≤ 8) : 0 ≤ t ∧ t / 10 < wd ∧ t % 10 < hi := by
  unfold bsd at ht
  split at ht
  · omega
  · exact absurd ht h
-- ===== bits of pegs =====
def bitF (v d : Int32) : Int32 := (v >>> (d &&& 31)) &&& 1
theorem shr_or (a b c : Int32) : (a ||| b) >>> c = (a >>> c) ||| (b >>> c) := by
  apply Int32.toBitVec_inj.mp
  simp only [Int32.toBitVec_shiftRight, Int32.toBitVec_or]
  exact BitVec.sshiftRight_or_distrib _ _ _
theorem shr_xor (a b c : Int32) : (a ^^^ b) >>> c = (a >>> c) ^^^ (b >>> c) := by
  apply Int32.toBitVec_inj.mp
  simp only [Int32.toBitVec_shiftRight, Int32.toBitVec_xor]
  exact BitVec.sshiftRight_xor_distrib _ _ _
theorem bv_or (a b c : BitVec 32) : (a ||| b) &&& c = (a &&& c) ||| (b &&& c) := by
  ext i hi
  simp only [BitVec.getElem_and, BitVec.getElem_or]
  cases a[i] <;> cases b[i] <;> cases c[i] <;> rfl
theorem bv_xor (a b c : BitVec 32) : (a ^^^ b) &&& c = (a &&& c) ^^^ (b &&& c) := by
  ext i hi
  simp only [BitVec.getElem_and, BitVec.getElem_xor]
  cases a[i] <;> cases b[i] <;> cases c[i] <;> rfl
theorem an_or (a b c : Int32) : (a ||| b) &&& c = (a &&& c) ||| (b &&& c) := by
  apply Int32.toBitVec_inj.mp
  simp only [Int32.toBitVec_and, Int32.toBitVec_or]
  exact bv_or _ _ _
theorem an_xor (a b c : Int32) : (a ^^^ b) &&& c = (a &&& c) ^^^ (b &&& c) := by
  apply Int32.toBitVec_inj.mp
  simp only [Int32.toBitVec_and, Int32.toBitVec_xor]
  exact bv_xor _ _ _
theorem four32 {d : Int32} (h0 : 0 ≤ d.toInt) (h3 : d.toInt ≤ 3) : d = 0 ∨ d = 1 ∨ d = 2 ∨ d = 3 := by
  rcases four h0 h3 with h | h | h | h
  · exact Or.inl ((fa_eq _ _).mpr h)
  · exact Or.inr (Or.inl ((fa_eq _ _).mpr h))
  · exact Or.inr (Or.inr (Or.inl ((fa_eq _ _).mpr h)))
  · exact Or.inr (Or.inr (Or.inr ((fa_eq _ _).mpr h)))
theorem bit_one {f d : Int32} (f0 : 0 ≤ f.toInt) (f3 : f.toInt ≤ 3) (d0 : 0 ≤ d.toInt) (d3 : d.toInt ≤ 3) (h : ¬ d = f) : bitF (1 <<< (f &&& 31)) d = 0 := by
  rcases four32 f0 f3 with rfl | rfl | rfl | rfl <;> rcases four32 d0 d3 with rfl | rfl | rfl | rfl <;> first | exact absurd rfl h | decide
theorem bit_or {v f d : Int32} (f0 : 0 ≤ f.toInt) (f3 : f.toInt ≤ 3) (d0 : 0 ≤ d.toInt) (d3 : d.toInt ≤ 3) (h : bitF (v ||| (1 <<< (f &&& 31))) d = 1) : bitF v d = 1 ∨ d = f := by
  by_cases e : d = f
  · exact Or.inr e
  · have h1 := bit_one f0 f3 d0 d3 e
    unfold bitF at h h1 ⊢
    rw [shr_or, an_or, h1, Int32.or_zero] at h
    exact Or.inl h
theorem bit_xor {v f d : Int32} (f0 : 0 ≤ f.toInt) (f3 : f.toInt ≤ 3) (d0 : 0 ≤ d.toInt) (d3 : d.toInt ≤ 3) (h : bitF (v ^^^ (1 <<< (f &&& 31))) d = 1) : bitF v d = 1 ∨ d = f := by
  by_cases e : d = f
  · exact Or.inr e
  · have h1 := bit_one f0 f3 d0 d3 e
    unfold bitF at h h1 ⊢
    rw [shr_xor, an_xor, h1, Int32.xor_zero] at h
    exact Or.inl h
def PG (g : Nat → Int32) (n wd hi : Int) : Prop := ∀ j : Nat, (j : Int) < n → ∀ d : Int32, 0 ≤ d.toInt → d.toInt ≤ 3 → bitF (g j) d = 1 → okp wd hi ((j : Int) % 80) d.toInt
theorem PG_get {g : Nat → Int32} {n wd hi a : Int} {x v d : Int32} (h : PG g n wd hi) (hx : x.toInt = a) (h0 : 0 ≤ a) (h1 : a < n) (e : v = g x.toNatClampNeg) (d0 : 0 ≤ d.toInt) (d3 : d.toInt ≤ 3) (hb : bitF v d = 1) : okp wd hi (a % 80) d.toInt := by
  rw [e, ix_nat hx h0] at hb
  have := h a.toNat (by omega) d d0 d3 hb
  rw [show ((a.toNat : Nat) : Int) = a by omega] at this
  exact this
theorem PG_put {g : Nat → Int32} {n wd hi a : Int} {x v f : Int32} (h : PG g n wd hi) (hx : x.toInt = a) (h0 : 0 ≤ a) (hb : ∀ d : Int32, 0 ≤ d.toInt → d.toInt ≤ 3 → bitF v d = 1 → bitF (g x.toNatClampNeg) d = 1 ∨ d = f) (ok : okp wd hi (a % 80) f.toInt) : PG (upd g x.toNatClampNeg v) n wd hi := by
  intro j hj d d0 d3 hd
  by_cases e : j = x.toNatClampNeg
  · subst e
    rw [pk_us] at hd
    rcases hb d d0 d3 hd with q | q
    · exact h _ hj d d0 d3 q
    · subst q
      rw [ix_nat hx h0, show ((a.toNat : Nat) : Int) = a by omega]
      exact ok
  · rw [pk_un e] at hd
    exact h j hj d d0 d3 hd
theorem PG_or {g : Nat → Int32} {n wd hi a c d : Int} {x v w f s : Int32} (h : PG g n wd hi) (hx : x.toInt = a) (h0 : 0 ≤ a) (hc : a % 80 = c) (ev : v = g x.toNatClampNeg) (es : s = 1 <<< (f &&& 31)) (ew : w = v ||| s) (hf : f.toInt = d) (f0 : 0 ≤ d) (f3 : d ≤ 3) (ok : okp wd hi c d) : PG (upd g x.toNatClampNeg w) n wd hi := by
  subst hf hc
  refine PG_put h hx h0 (fun d d0 d3 hd => ?_) ok
  rw [ew, es] at hd
  rw [← ev]
  exact bit_or f0 f3 d0 d3 hd
theorem PG_xor {g : Nat → Int32} {n wd hi a c d : Int} {x v w f s : Int32} (h : PG g n wd hi) (hx : x.toInt = a) (h0 : 0 ≤ a) (hc : a % 80 = c) (ev : v = g x.toNatClampNeg) (es : s = 1 <<< (f &&& 31)) (ew : w = v ^^^ s) (hf : f.toInt = d) (f0 : 0 ≤ d) (f3 : d ≤ 3) (ok : okp wd hi c d) : PG (upd g x.toNatClampNeg w) n wd hi := by
  subst hf hc
  refine PG_put h hx h0 (fun d d0 d3 hd => ?_) ok
  rw [ew, es] at hd
  rw [← ev]
  exact bit_xor f0 f3 d0 d3 hd
theorem PG_z {g : Nat → Int32} {n m wd hi a : Int} {x v : Int32} (h : PG g n wd hi) (hx : x.toInt = a) (h0 : 0 ≤ a) (hv : v = 0) (hn : n = a) (hm : m = a + 1) : PG (upd g x.toNatClampNeg v) m wd hi := by
  intro j hj d d0 d3 hd
  by_cases e : j = x.toNatClampNeg
  · subst e
    rw [pk_us, hv] at hd
    exact absurd hd (by rcases four32 d0 d3 with rfl | rfl | rfl | rfl <;> decide)
  · rw [pk_un e] at hd
    rw [ix_nat hx h0] at e
    exact h j (by omega) d d0 d3 hd
/-- a year's pegs are kept: place 80 y + c from place c -/
theorem PG_keep {g k : Nat → Int32} {n m N wd hi y c a b : Int} {x z v : Int32} (h : PG g n wd hi) (hk : PG k N wd hi) (hx : x.toInt = a) (ha : a = 80 * y + c) (hz : z.toInt = b) (hb : b = c) (hN : c < N) (h0 : 0 ≤ y) (hc : 0 ≤ c) (hc2 : c < 80) (ev : v = k z.toNatClampNeg) (hn : n = a) (hm : m = a + 1) : PG (upd g x.toNatClampNeg v) m wd hi := by
  intro j hj d d0 d3 hd
  by_cases e : j = x.toNatClampNeg
  · subst e
    rw [pk_us, ev, ix_nat hz (by omega)] at hd
    have := hk b.toNat (by omega) d d0 d3 hd
    rw [ix_nat hx (by omega)]
    rw [show ((b.toNat : Nat) : Int) % 80 = ((a.toNat : Nat) : Int) % 80 by omega] at this
    exact this
  · rw [pk_un e] at hd
    rw [ix_nat hx (by omega)] at e
    exact h j (by omega) d d0 d3 hd
theorem PG_none {g : Nat → Int32} {wd hi : Int} : PG g 0 wd hi := fun j hj => absurd hj (by omega)
theorem PG_le {g : Nat → Int32} {n m wd hi : Int} (h : PG g n wd hi) (hm : m ≤ n) : PG g m wd hi := fun j hj => h j (by omega)
-- ===== how many cells are not reached yet =====
def cnt (f : Nat → Int32) : Nat → Nat
  | 0 => 0
  | n + 1 => cnt f n + (if (f n).toInt = -1 then 1 else 0)
theorem cnt_le (f : Nat → Int32) : ∀ n : Nat, cnt f n ≤ n
  | 0 => Nat.le_refl 0
  | n + 1 => by
    have := cnt_le f n
    unfold cnt
    split <;> omega
theorem cnt_far {f : Nat → Int32} {k : Nat} {v : Int32} : ∀ n : Nat, n ≤ k → cnt (upd f k v) n = cnt f n
  | 0, _ => rfl
  | n + 1, h => by
    unfold cnt
    rw [cnt_far n (by omega), pk_un (by omega)]
theorem cnt_put {f : Nat → Int32} {k : Nat} {v : Int32} (h1 : (f k).toInt = -1) (h2 : v.toInt ≠ -1) : ∀ n : Nat, k < n → cnt (upd f k v) n + 1 = cnt f n
  | 0, h => absurd h (by omega)
  | n + 1, h => by
    unfold cnt
    by_cases e : k = n
    · subst e
      rw [cnt_far k (Nat.le_refl k), pk_us, if_neg h2, if_pos h1]
    · have := cnt_put h1 h2 n (by omega)
      rw [pk_un (Ne.symm e)]
      omega
theorem cnt_st {f : Nat → Int32} {x v u y : Int32} {a t : Int} (hx : x.toInt = a) (h0 : 0 ≤ a) (h1 : a < 80) (eu : u = f x.toNatClampNeg) (hu : u.toInt = -1) (hy : y.toInt = a) (hv : v.toInt = t) (h2 : t ≠ -1) : ((cnt (upd f y.toNatClampNeg v) 80 : Nat) : Int) + 1 = (cnt f 80 : Nat) := by
  rw [ix_nat hx h0] at eu
  rw [ix_nat hy h0]
  have := cnt_put (f := f) (k := a.toNat) (v := v) (by rw [← eu]; exact hu) (by rw [hv]; exact h2) 80 (by omega)
  omega
-- ===== remainders of longs =====
theorem lrem_eq {x y r : Int64} (e : r = x - x / y * y) : r.toInt = x.toInt.tmod y.toInt := by
  have h1 : r.toInt = (x.toInt - x.toInt.tdiv y.toInt * y.toInt).bmod (2 ^ 64) := by
    rw [e, Int64.toInt_sub, Int64.toInt_mul, Int64.toInt_div, Int.sub_bmod_bmod]
    have : (x.toInt - (x.toInt.tdiv y.toInt).bmod (2 ^ 64) * y.toInt).bmod (2 ^ 64) = (x.toInt - ((x.toInt.tdiv y.toInt).bmod (2 ^ 64) * y.toInt).bmod (2 ^ 64)).bmod (2 ^ 64) := Int.sub_bmod_bmod.symm
    rw [this, Int.bmod_mul_bmod, Int.sub_bmod_bmod]
  have h2 : x.toInt - x.toInt.tdiv y.toInt * y.toInt = (x % y).toInt := by
    rw [Int64.toInt_mod]
    have := Int.tmod_add_tdiv_mul x.toInt y.toInt
    omega
  have h3 := fb_rngL (x % y)
  rw [h1, h2, fb_bmodL h3.1 h3.2, Int64.toInt_mod]
theorem lrem_lt {x y r : Int64} (h : ¬ y.toInt = 0) (e : r = x - x / y * y) : (r.toInt.natAbs : Int) < (y.toInt.natAbs : Int) := by
  rw [lrem_eq e]
  rw [Int.natAbs_tmod]
  have := Nat.mod_lt x.toInt.natAbs (y := y.toInt.natAbs) (by omega)
  omega
-- ===== reading =====
def seeI (sz : Int) (f : Nat → Int32) (k : Int) : Int := if k < sz then (f k.toNat &&& 255).toInt else -1
theorem seeI_o {sz k : Int} {f : Nat → Int32} (h : sz ≤ k) : seeI sz f k = -1 := if_neg (by omega)
theorem seeI_i {sz a : Int} {f : Nat → Int32} {x v u : Int32} (h : a < sz) (hx : x.toInt = a) (h0 : 0 ≤ a) (ev : v = f x.toNatClampNeg) (eu : u = v &&& 255) : u.toInt = seeI sz f a := by
  unfold seeI
  rw [if_pos h, eu, ev, ix_nat hx h0]
def isP (fk tk a b : Int) (f : Nat → Int32) (i : Nat) : Prop := fk = 0 ∧ tk = 1 ∧ a - b = ((lenS.getD i 0 : Nat) : Int) ∧ ∀ j : Nat, (j : Int) < ((lenS.getD i 0 : Nat) : Int) → f (b.toNat + j) = chS i j
def IT (P : Prop) (x : Int32) (f : Nat → Int32) (b : Int) (i : Nat) (k : Int) : Prop := (x = 1 ∧ ∀ j : Nat, (j : Int) < k → f (b.toNat + j) = chS i j) ∨ (x = 0 ∧ ¬ P)
theorem IT_0 {P : Prop} {f : Nat → Int32} {b : Int} {i : Nat} : IT P 1 f b i (0 : Int32).toInt := Or.inl ⟨rfl, fun j hj => absurd hj (by rw [show (0 : Int32).toInt = 0 from rfl]; omega)⟩
theorem IT_eq {P : Prop} {f : Nat → Int32} {b k t c : Int} {i : Nat} {x v r z y : Int32} (h : IT P x f b i k) (hx : ¬ x.toInt = 0) (hz : z.toInt = t) (ht : t = b + k) (b0 : 0 ≤ b) (k0 : 0 ≤ k) (ev : v = f z.toNatClampNeg) (hy : y.toInt = k) (er : r = chS i y.toNatClampNeg) (e : v.toInt = r.toInt) (hc : c = k + 1) : IT P 1 f b i c := by
  rcases h with ⟨_, h⟩ | ⟨h, _⟩
  · refine Or.inl ⟨rfl, fun j hj => ?_⟩
    by_cases q : (j : Int) < k
    · exact h j q
    · have e2 := (fa_eq v r).mpr e
      rw [ev, er, ix_nat hz (by omega), ix_nat hy k0, ht] at e2
      rw [show b.toNat + j = (b + k).toNat by omega, show j = k.toNat by omega]
      exact e2
  · exact absurd (by rw [h]; rfl) hx
theorem IT_ne {fk tk a b k t : Int} {f : Nat → Int32} {i : Nat} {v r z y : Int32} {c : Int} (hz : z.toInt = t) (ht : t = b + k) (b0 : 0 ≤ b) (k0 : 0 ≤ k) (hk : k < ((lenS.getD i 0 : Nat) : Int)) (ev : v = f z.toNatClampNeg) (hy : y.toInt = k) (er : r = chS i y.toNatClampNeg) (e : ¬ v.toInt = r.toInt) : IT (isP fk tk a b f i) 0 f b i c := by
  refine Or.inr ⟨rfl, fun h => e ?_⟩
  have := h.2.2.2 k.toNat (by omega)
  rw [ev, er, ix_nat hz (by omega), ix_nat hy k0, ht, show (b + k).toNat = b.toNat + k.toNat by omega, this]
theorem IT_end {fk tk a b k : Int} {f : Nat → Int32} {i : Nat} {x : Int32} (h : IT (isP fk tk a b f i) x f b i k) (hk : ((lenS.getD i 0 : Nat) : Int) ≤ k) (h1 : fk = 0) (h2 : tk = 1) (h3 : a - b = ((lenS.getD i 0 : Nat) : Int)) : (x = 1 ∧ isP fk tk a b f i) ∨ (x = 0 ∧ ¬ isP fk tk a b f i) := by
  rcases h with ⟨h, q⟩ | h
  · exact Or.inl ⟨h, h1, h2, h3, fun j hj => q j (by omega)⟩
  · exact Or.inr h
theorem IT_brk {P : Prop} {b k : Int} {f : Nat → Int32} {i : Nat} {x : Int32} (h : IT P x f b i k) (hx : x.toInt = 0) : (x = 1 ∧ P) ∨ (x = 0 ∧ ¬ P) := by
  rcases h with ⟨h, q⟩ | h
  · rw [h] at hx
    exact absurd hx (by decide)
  · exact Or.inr h
-- measures of the reading loops
def ms (k : Int32) (v : Int) : Int := if k.toInt = 0 then max 0 (10 - v) else 0
theorem ms_nn (k : Int32) (v : Int) : 0 ≤ ms k v := by
  unfold ms
  split <;> omega
theorem ms_st {k : Int32} {v : Int} (h : 0 ≤ v) : ms k v < ((11 : Nat) : Int) := by
  unfold ms
  split <;> omega
theorem ms_dn {k k' : Int32} {v v' : Int} {n : Nat} (h0 : k.toInt = 0) (h : k'.toInt = 0 → v' = v + 1) (hv : v ≤ 8) (hm : ms k v < ((n + 1 : Nat) : Int)) : ms k' v' < (n : Int) := by
  unfold ms at hm ⊢
  rw [if_pos h0] at hm
  split
  · rename_i q
    have := h q
    omega
  · omega
def mc (k t : Int32) (a : Int) : Int := if k.toInt = 0 ∧ ¬ t.toInt = 0 then max 0 (902 - a) else 0
theorem mc_nn (k t : Int32) (a : Int) : 0 ≤ mc k t a := by
  unfold mc
  split <;> omega
theorem mc_st {k t : Int32} {a : Int} (h : 0 ≤ a) : mc k t a < ((903 : Nat) : Int) := by
  unfold mc
  split <;> omega
theorem mc_dn {k t k' t' : Int32} {a a' : Int} {n : Nat} (h0 : k.toInt = 0) (h1 : ¬ t.toInt = 0) (h : ¬ k'.toInt = 0 ∨ t'.toInt = 0 ∨ a < a') (ha : a ≤ 900) (hm : mc k t a < ((n + 1 : Nat) : Int)) : mc k' t' a' < (n : Int) := by
  unfold mc at hm ⊢
  rw [if_pos ⟨h0, h1⟩] at hm
  split
  · rename_i q
    omega
  · omega
theorem WB_put0 {f : Nat → Int32} {x : Int32} {a : Int} (h : WB f) (hx : x.toInt = a) (h0 : 0 ≤ a) (h1 : a < 149) : WB (upd f x.toNatClampNeg 0) := by
  rw [ix_nat hx h0]
  have : ∀ j : Nat, j < 149 → (0 : Int) ≤ wH j := by decide +kernel
  exact WB_put (t := 0) h (by decide) (by decide) (this _ (by omega)) (fun _ => Or.inl (by decide))
theorem zf {g : Nat → Int32} {x : Int32} {a b : Int} (p : Nat) (h : (p : Int) < a → (g p).toInt = 0) (hx : x.toInt = a) (h0 : 0 ≤ a) (hb : b = a + 1) : (p : Int) < b → (upd g x.toNatClampNeg 0 p).toInt = 0 := by
  intro hp
  rw [ix_nat hx h0]
  by_cases e : p = a.toNat
  · subst e
    rw [pk_us]
    rfl
  · rw [pk_un e]
    exact h (by omega)
-- ===== images =====
def IM (g h : Nat → Int32) : Prop := ∀ k : Nat, k < 3 → ¬ (h k).toInt = 0 → WI (fun j => g (149 * k + j))
theorem IM_none {g : Nat → Int32} : IM g (fun _ => 0) := fun k _ h => absurd (show (0 : Int32).toInt = 0 from rfl) h
def CJ (g f2 f1 : Nat → Int32) (a i : Int) : Prop := ∀ j : Nat, g j = if a ≤ (j : Int) ∧ (j : Int) < a + i then f1 ((j : Int) - a).toNat else f2 j
theorem CJ_0 {g f1 : Nat → Int32} {a : Int} : CJ g g f1 a (0 : Int32).toInt := fun j => by
  rw [show (0 : Int32).toInt = 0 from rfl, if_neg (by omega)]
theorem CJ_up {g f2 f1 : Nat → Int32} {a i t u c : Int} {x y v : Int32} (h : CJ g f2 f1 a i) (hx : x.toInt = t) (ht : t = a + i) (a0 : 0 ≤ a) (i0 : 0 ≤ i) (hy : y.toInt = u) (hu : u = i) (ev : v = f1 y.toNatClampNeg) (hc : c = i + 1) : CJ (upd g x.toNatClampNeg v) f2 f1 a c := by
  intro j
  rw [ix_nat hx (by omega)]
  by_cases e : j = t.toNat
  · subst e
    rw [pk_us, if_pos (by omega), ev, ix_nat hy (by omega)]
    congr 1
    omega
  · rw [pk_un e, h j]
    by_cases q : a ≤ (j : Int) ∧ (j : Int) < a + i
    · rw [if_pos q, if_pos (by omega)]
    · rw [if_neg q, if_neg (by omega)]
theorem IM_put {g f2 f1 h : Nat → Int32} {x v : Int32} {k a i : Int} (hI : IM f2 h) (hW : WI f1) (hC : CJ g f2 f1 a i) (hx : x.toInt = k) (k0 : 0 ≤ k) (k2 : k ≤ 2) (ha : a = 149 * k) (hi : i = 149) : IM g (upd h x.toNatClampNeg v) := by
  intro m m3 hm
  by_cases e : m = k.toNat
  · subst e
    refine WI_ext hW (fun j hj => ?_)
    show g (149 * k.toNat + j) = f1 j
    rw [hC, if_pos (by omega)]
    congr 1
    omega
  · rw [ix_nat hx k0, pk_un e] at hm
    refine WI_ext (hI m m3 hm) (fun j hj => ?_)
    show g (149 * m + j) = f2 (149 * m + j)
    rw [hC, if_neg (by omega)]
def CB (g f2 : Nat → Int32) (a i : Int) : Prop := ∀ j : Nat, (j : Int) < i → g j = f2 (a + j).toNat
theorem CB_0 {g f2 : Nat → Int32} {a : Int} : CB g f2 a (0 : Int32).toInt := fun j hj => absurd hj (by rw [show (0 : Int32).toInt = 0 from rfl]; omega)
theorem CB_up {g f2 : Nat → Int32} {a i t u c : Int} {x y v : Int32} (h : CB g f2 a i) (hx : x.toInt = t) (ht : t = i) (i0 : 0 ≤ i) (hy : y.toInt = u) (hu : u = a + i) (u0 : 0 ≤ u) (ev : v = f2 y.toNatClampNeg) (hc : c = i + 1) : CB (upd g x.toNatClampNeg v) f2 a c := by
  intro j hj
  rw [ix_nat hx (by omega)]
  by_cases e : j = t.toNat
  · subst e
    rw [pk_us, ev, ix_nat hy u0]
    congr 1
    omega
  · rw [pk_un e]
    exact h j (by omega)
theorem CB_end {g f2 h : Nat → Int32} {x v : Int32} {k a i : Int} (hI : IM f2 h) (hB : CB g f2 a i) (hx : x.toInt = k) (k0 : 0 ≤ k) (k2 : k ≤ 2) (ev : v = h x.toNatClampNeg) (hv : ¬ v.toInt = 0) (ha : a = 149 * k) (hi : 149 ≤ i) : WI g := by
  rw [ev, ix_nat hx k0] at hv
  refine WI_ext (hI k.toNat (by omega) hv) (fun j hj => ?_)
  show g j = f2 (149 * k.toNat + j)
  rw [hB j (by omega)]
  congr 1
  omega
theorem CB_all {g f2 : Nat → Int32} {i : Int} (hB : CB g f2 0 i) (hW : WI f2) (hi : 149 ≤ i) : WI g := by
  refine WI_ext hW (fun j hj => ?_)
  rw [hB j (by omega)]
  congr 1
  omega
-- ===== rows told of, by places of the row =====
theorem tOKr_0 {f : Nat → Int64} {a w : Int} : tOK f a (0 : Int32).toInt w := fun j _ h2 => absurd h2 (by rw [show (0 : Int32).toInt = 0 from rfl]; omega)
theorem tOKr_up {f : Nat → Int64} {a i w c : Int} {v u : Int64} (h : tOK f a i w) (hm : i % 3 = 0) (a0 : 0 ≤ a) (i0 : 0 ≤ i) (ev : v = f (a + i).toNat) (eu : u = f (a + (i + 1)).toNat) (h1 : 0 ≤ v.toInt) (h2 : v.toInt < w) (h3 : 0 ≤ u.toInt) (h4 : u.toInt ≤ 40) (hc : c = i + 3) : tOK f a c w := by
  subst hc
  intro j j1 j2 j3
  by_cases hj : (j : Int) < a + i
  · exact h j j1 hj j3
  · rw [show (a + i).toNat = j by omega] at ev
    rw [show (a + (i + 1)).toNat = j + 1 by omega] at eu
    rw [← ev, ← eu]
    exact ⟨⟨h1, h2⟩, h3, h4⟩
theorem tOKr_at {f : Nat → Int64} {a i n w : Int} {v : Int64} (h : tOK f a n w) (hm : i % 3 = 0) (a0 : 0 ≤ a) (i0 : 0 ≤ i) (hn : i < n) (ev : v = f (a + i).toNat) : 0 ≤ v.toInt ∧ v.toInt < w := by
  rw [ev]
  exact (h (a + i).toNat (by omega) (by omega) (by omega)).1
theorem tOKr_at2 {f : Nat → Int64} {a i n w : Int} {v : Int64} (h : tOK f a n w) (hm : i % 3 = 0) (a0 : 0 ≤ a) (i0 : 0 ≤ i) (hn : i < n) (ev : v = f (a + (i + 1)).toNat) : 0 ≤ v.toInt ∧ v.toInt ≤ 40 := by
  rw [ev, show (a + (i + 1)).toNat = (a + i).toNat + 1 by omega]
  exact (h (a + i).toNat (by omega) (by omega) (by omega)).2
-- ===== evenings by chance =====
def pw (w : Int) : Int := 10 ^ w.toNat
theorem pw_up {w : Int} (h : 0 ≤ w) : pw (w + 1) = pw w * 10 := by
  unfold pw
  rw [show (w + 1).toNat = w.toNat + 1 by omega, Int.pow_succ]
theorem pw_le {w : Int} (h : w ≤ 7) : pw w ≤ 10000000 := by
  unfold pw
  have : ∀ n : Nat, n < 8 → (10 : Int) ^ n ≤ 10000000 := by decide +kernel
  exact this w.toNat (by omega)
theorem fog_mul {x y v : Int64} {w b c : Int} (hx0 : 0 ≤ x.toInt) (hx : x.toInt ≤ pw w) (w0 : 0 ≤ w) (w6 : w ≤ 6) (hy : y.toInt = b) (b0 : 0 ≤ b) (b10 : b ≤ 10) (e : v = x * y) (hc : c = w + 1) : 0 ≤ v.toInt ∧ v.toInt ≤ pw c ∧ (1 ≤ x.toInt → 1 ≤ b → 1 ≤ v.toInt) := by
  subst hy hc
  have h7 := pw_le (w := w + 1) (by omega)
  have hu := pw_up w0
  have h1 : 0 ≤ x.toInt * y.toInt := Int.mul_nonneg hx0 b0
  have h2 : x.toInt * y.toInt ≤ pw w * 10 := Int.mul_le_mul hx b10 b0 (by omega)
  have h3 : v.toInt = x.toInt * y.toInt := by
    rw [e]
    exact fb_mulL (by omega) (by omega)
  rw [h3]
  refine ⟨h1, by omega, fun p q => ?_⟩
  have := Int.mul_le_mul p q (by decide) (by omega)
  omega
theorem shl1x {y v : Int32} {a : Int} (hy : y.toInt = a) (h0 : 0 ≤ a) (h7 : a ≤ 7) (e : v = 1 <<< (y &&& 31)) : v.toInt = ((2 ^ a.toNat : Nat) : Int) := by
  have hy2 := i_of hy h0
  have : ∀ n : Nat, n < 8 → ((1 : Int32) <<< (nI n &&& 31)).toInt = ((2 ^ n : Nat) : Int) := by decide +kernel
  rw [e, hy2]
  exact this a.toNat (by omega)
def FW (n o s : Int) : Prop := (o < 10 ∧ s = 0) ∨ (o = 10 ∧ s + 1 = ((2 ^ n.toNat : Nat) : Int))
theorem FW_bit {n o s w : Int} {x y r : Int32} (h : FW n o s) (hx : x.toInt = s) (hy : y.toInt = w) (w0 : 0 ≤ w) (hw : w < n) (hn : n ≤ 7) (e : r = bitF x y) : (r.toInt = 1 → 1 ≤ o) ∧ (¬ r.toInt = 1 → 1 ≤ 10 - o) := by
  rcases h with ⟨h1, h2⟩ | ⟨h1, h2⟩
  · refine ⟨fun q => ?_, fun _ => by omega⟩
    have hx0 : x = 0 := (fa_eq _ _).mpr (by rw [hx, h2]; rfl)
    have hy2 := i_of hy w0
    have : ∀ k : Nat, k < 8 → (bitF 0 (nI k)).toInt = 0 := by decide +kernel
    rw [e, hx0, hy2, this w.toNat (by omega)] at q
    exact absurd q (by decide)
  · refine ⟨fun _ => by omega, fun q => ?_⟩
    have hp : 0 < (2 : Nat) ^ n.toNat := Nat.two_pow_pos _
    have hx2 := i_of hx (by omega)
    have hy2 := i_of hy w0
    have : ∀ m : Nat, m < 8 → ∀ k : Nat, k < m → (bitF (nI (2 ^ m - 1)) (nI k)).toInt = 1 := by decide +kernel
    have e2 : s.toNat = 2 ^ n.toNat - 1 := by omega
    rw [e, hx2, hy2, e2] at q
    exact absurd (this n.toNat (by omega) w.toNat (by omega)) q
theorem FW_any {n o s : Int} (h : ((2 ^ n.toNat : Nat) : Int) ≤ s) (ho : o ≤ 10) : ∃ q : Int, 0 ≤ q ∧ q < s ∧ FW n o q := by
  have hp : 0 < (2 : Nat) ^ n.toNat := Nat.two_pow_pos _
  by_cases h10 : o < 10
  · exact ⟨0, by omega, by omega, Or.inl ⟨h10, rfl⟩⟩
  · exact ⟨((2 ^ n.toNat : Nat) : Int) - 1, by omega, by omega, Or.inr ⟨by omega, by omega⟩⟩
theorem fog_add {x y v : Int64} {k : Int} (h0 : 0 ≤ x.toInt) (h1 : x.toInt ≤ 10000000 * k) (hk : k ≤ 200) (y0 : 0 ≤ y.toInt) (y1 : y.toInt ≤ 10000000) (e : v = x + y) : v.toInt = x.toInt + y.toInt := by
  rw [e]
  exact fb_addL (by omega) (by omega)
