-- ===== arrays with bounds =====
def ai (f : Nat → Int32) (n : Nat) (lo hi : Int) : Prop := ∀ j, j < n → lo ≤ (f j).toInt ∧ (f j).toInt ≤ hi
theorem ai_get {f : Nat → Int32} {n : Nat} {lo hi : Int} {x v : Int32} {a : Int} (h : ai f n lo hi) (hx : x.toInt = a) (h1 : 0 ≤ a) (h2 : a < n) (e : v = f x.toNatClampNeg) : lo ≤ v.toInt ∧ v.toInt ≤ hi := by
  rw [e]
  exact h _ (by rw [ix_nat hx h1]; omega)
theorem ai_put {f : Nat → Int32} {n k : Nat} {lo hi : Int} {v : Int32} {t : Int} (h : ai f n lo hi) (hv : v.toInt = t) (h1 : lo ≤ t) (h2 : t ≤ hi) : ai (upd f k v) n lo hi := by
  intro j hj
  unfold upd
  split
  · rw [hv]; exact ⟨h1, h2⟩
  · exact h j hj
theorem nar_b (x : Int32) : 0 ≤ (vp_nar .boolean x).toInt ∧ (vp_nar .boolean x).toInt ≤ 1 := by
  have e : vp_nar .boolean x = x &&& 1 := rfl
  obtain ⟨j, hj, h⟩ := pk_andE x (m := 1) 1 (by decide)
  rw [e, h, nI_toInt (by omega)]
  omega
theorem ai_putz {f : Nat → Int32} {n k : Nat} {x : Int32} (h : ai f n 0 1) : ai (upd f k (vp_nar .boolean x)) n 0 1 := ai_put h rfl (nar_b x).1 (nar_b x).2
theorem ai_cpy {f g : Nat → Int32} {n0 n1 sp dp n : Nat} {lo hi : Int} (hf : ai f n0 lo hi) (hg : ai g n1 lo hi) (h : sp + n ≤ n0) : ai (va_cpy f g sp dp n) n1 lo hi := by
  intro j hj
  unfold va_cpy
  split
  · exact hf _ (by omega)
  · exact hg j hj
theorem ai_zero {n : Nat} {lo hi : Int} (h1 : lo ≤ 0) (h2 : 0 ≤ hi) : ai (fun _ => 0) n lo hi := fun _ _ => ⟨h1, h2⟩
theorem nar_z {v : Int32} (h1 : 0 ≤ v.toInt) (h2 : v.toInt ≤ 1) : narrow .boolean (.int v) = .int v := by
  rcases (show v.toInt = 0 ∨ v.toInt = 1 by omega) with h | h
  · obtain rfl : v = 0 := (fa_eq _ _).mpr h
    rfl
  · obtain rfl : v = 1 := (fa_eq _ _).mpr h
    rfl
theorem i_of {x : Int32} {a : Int} (hx : x.toInt = a) (h0 : 0 ≤ a) : x = nI a.toNat := by
  have h := fb_rng x
  apply (fa_eq _ _).mpr
  rw [hx, nI_toInt (by omega)]
  omega
theorem shl1 {y v : Int32} {a : Int} (k : Nat) (hy : y.toInt = a) (h0 : 0 ≤ a) (hk : a ≤ k) (h30 : k ≤ 30) (e : v = 1 <<< (y &&& 31)) : 1 ≤ v.toInt ∧ v.toInt ≤ (2 ^ k : Nat) := by
  have hy2 := i_of hy h0
  generalize hj : a.toNat = j at hy2
  have hjk : j ≤ k := by omega
  have h31 : j ≤ 30 := by omega
  subst hy2
  have e2 : v = nI (1 * 2 ^ j) := by
    rw [e, show (31 : Int32) = nI 31 from rfl, show (nI j &&& nI 31) = nI j from by
      rw [pk_andN (by omega) 5 (by decide)]
      rw [Nat.mod_eq_of_lt (by omega)]]
    have hs : ((nI j).toBitVec.smod 32).toNat = j := by
      have : ∀ j, j ≤ 30 → ((nI j).toBitVec.smod 32).toNat = j := by decide +kernel
      exact this j h31
    have := pk_shlN (n := 1) (nI j) j hs (by
      have : 2 ^ j ≤ 2 ^ 30 := Nat.pow_le_pow_right (by decide) h31
      omega)
    exact this
  have hp : 2 ^ j ≤ 2 ^ k := Nat.pow_le_pow_right (by decide) hjk
  have hp1 : 1 ≤ 2 ^ j := Nat.one_le_two_pow
  have hp3 : 2 ^ k ≤ 2 ^ 30 := Nat.pow_le_pow_right (by decide) h30
  rw [e2, nI_toInt (by omega)]
  omega
theorem and_m {x m v : Int32} (k : Nat) (hm : m.toBitVec.toNat = 2 ^ k - 1) (hk : k ≤ 30) (e : v = x &&& m) : 0 ≤ v.toInt ∧ v.toInt ≤ ((2 ^ k - 1 : Nat) : Int) := by
  obtain ⟨j, hj, h⟩ := pk_andE x (m := m) k hm
  have hp3 : 2 ^ k ≤ 2 ^ 30 := Nat.pow_le_pow_right (by decide) hk
  rw [e, h, nI_toInt (by omega)]
  omega
theorem or_m {x y v : Int32} {a b : Int} (k : Nat) (hx : x.toInt = a) (hy : y.toInt = b) (h1 : 0 ≤ a) (h2 : a ≤ ((2 ^ k - 1 : Nat) : Int)) (h3 : 0 ≤ b) (h4 : b ≤ ((2 ^ k - 1 : Nat) : Int)) (hk : k ≤ 30) (e : v = x ||| y) : 0 ≤ v.toInt ∧ v.toInt ≤ ((2 ^ k - 1 : Nat) : Int) := by
  have ex := i_of hx h1
  have ey := i_of hy h3
  have hp1 : 1 ≤ 2 ^ k := Nat.one_le_two_pow
  have hp3 : 2 ^ k ≤ 2 ^ 30 := Nat.pow_le_pow_right (by decide) hk
  have hor : a.toNat ||| b.toNat < 2 ^ k := Nat.or_lt_two_pow (by omega) (by omega)
  have e2 : v = nI (a.toNat ||| b.toNat) := by
    rw [e, ex, ey]
    apply Int32.toBitVec_inj.mp
    apply BitVec.eq_of_toNat_eq
    rw [Int32.toBitVec_or, BitVec.toNat_or, pk_tn (by omega), pk_tn (by omega), pk_tn (by omega)]
  rw [e2, nI_toInt (by omega)]
  omega
theorem ne0 {y : Int32} {b : Int} (hy : y.toInt = b) (h : b ≠ 0) : ¬ y = 0 := fun q => h (by rw [← hy, q]; rfl)
theorem ne0l {y : Int64} {b : Int} (hy : y.toInt = b) (h : b ≠ 0) : ¬ y = 0 := fun q => h (by rw [← hy, q]; rfl)
theorem rem_v {x y v : Int32} {a b : Int} (hx : x.toInt = a) (hy : y.toInt = b) (h0 : 0 ≤ a) (hb : 0 < b) (e : v = x - x / y * y) : 0 ≤ v.toInt ∧ v.toInt < b := by
  have h := ti_rem hx h0 hb hy e
  rw [h]
  exact ⟨Int.emod_nonneg _ (by omega), Int.emod_lt_of_pos _ hb⟩
theorem tl_2i {x : Int64} {v : Int32} {a : Int} (hx : x.toInt = a) (e : v = x.toInt32) (h1 : -2147483648 ≤ a) (h2 : a < 2147483648) : v.toInt = a := by
  subst hx e
  rw [Int64.toInt_toInt32]
  exact fb_bmod h1 h2
theorem shr_m {x y v : Int32} {a : Int} (hx : x.toInt = a) (h0 : 0 ≤ a) (e : v = x >>> (y &&& 31)) : 0 ≤ v.toInt ∧ v.toInt ≤ a := by
  obtain ⟨j, hj, h⟩ := pk_andE y (m := 31) 5 (by decide)
  have hs : ∀ j, j < 2 ^ 5 → ((nI j).toBitVec.smod 32).toNat = j := by decide +kernel
  rw [e, h, pk_shr x (nI j) j (hs j hj), hx]
  obtain ⟨n, rfl⟩ := Int.eq_ofNat_of_zero_le h0
  rw [show ((n : Int) >>> j) = ((n >>> j : Nat) : Int) from rfl, Nat.shiftRight_eq_div_pow]
  exact ⟨Int.natCast_nonneg _, Int.ofNat_le.mpr (Nat.div_le_self n (2 ^ j))⟩
theorem tl_rem {x y v : Int64} {a : Int} {k : Int} (hx : x.toInt = a) (h0 : 0 ≤ a) (hk : 0 < k) (hy : y.toInt = k) (e : v = x - x / y * y) : v.toInt = a % k := by
  have hd := tl_div hx h0 hk hy (v := x / y) rfl
  have h1 := fb_rngL x
  have h5 := Int.emod_def a k
  have h6 := Int.emod_nonneg a (Int.ne_of_gt hk)
  have h7 : 0 ≤ a / k * k := Int.mul_nonneg (Int.ediv_nonneg h0 (Int.le_of_lt hk)) (Int.le_of_lt hk)
  have h8 : k * (a / k) = a / k * k := Int.mul_comm _ _
  have hm : (x / y * y).toInt = a / k * k := by
    rw [fb_mulL (by rw [hd, hy]; omega) (by rw [hd, hy]; omega), hd, hy]
  have hs : v.toInt = a - a / k * k := by
    rw [e, fb_subL (by rw [hm, hx]; omega) (by rw [hm, hx]; omega), hm, hx]
  rw [hs]
  omega
/-- a row that tells of a widow below w, a step, a cell each, from place a on, n numbers -/
def tOK (f : Nat → Int64) (a n w : Int) : Prop := ∀ j : Nat, a ≤ (j : Int) → (j : Int) < a + n → ((j : Int) - a) % 3 = 0 → (0 ≤ (f j).toInt ∧ (f j).toInt < w) ∧ (0 ≤ (f (j + 1)).toInt ∧ (f (j + 1)).toInt ≤ 40)
theorem tOK_step {f : Nat → Int64} {a w : Int} {x y : Int32} {v u : Int64} (h : tOK f a (x.toInt - a) w) (hm : (x.toInt - a) % 3 = 0) (h0 : 0 ≤ a) (hx : a ≤ x.toInt) (hy : y.toInt = x.toInt + 1) (ev : v = f x.toNatClampNeg) (eu : u = f y.toNatClampNeg) (h1 : 0 ≤ v.toInt) (h2 : v.toInt < w) (h3 : 0 ≤ u.toInt) (h4 : u.toInt ≤ 40) : tOK f a (x.toInt + 3 - a) w := by
  intro j j1 j2 j3
  by_cases hj : (j : Int) < x.toInt
  · exact h j j1 (by omega) j3
  · have e1 : x.toNatClampNeg = j := by rw [ix_nat rfl (by omega)]; omega
    have e2 : y.toNatClampNeg = j + 1 := by rw [ix_nat hy (by omega)]; omega
    rw [e1] at ev
    rw [e2] at eu
    rw [← ev, ← eu]
    exact ⟨⟨h1, h2⟩, h3, h4⟩
theorem tOK_at {f : Nat → Int64} {a n w : Int} {x : Int32} {v : Int64} (h : tOK f a n w) (hm : (x.toInt - a) % 3 = 0) (h0 : 0 ≤ a) (hx : a ≤ x.toInt) (hn : x.toInt < a + n) (ev : v = f x.toNatClampNeg) : 0 ≤ v.toInt ∧ v.toInt < w := by
  have e1 := ix_nat (x := x) rfl (by omega)
  rw [ev, e1]
  exact (h x.toInt.toNat (by omega) (by omega) (by omega)).1
theorem tOK_at2 {f : Nat → Int64} {a n w : Int} {x y : Int32} {v : Int64} (h : tOK f a n w) (hm : (x.toInt - a) % 3 = 0) (h0 : 0 ≤ a) (hx : a ≤ x.toInt) (hn : x.toInt < a + n) (hy : y.toInt = x.toInt + 1) (ev : v = f y.toNatClampNeg) : 0 ≤ v.toInt ∧ v.toInt ≤ 40 := by
  have e1 : y.toNatClampNeg = x.toInt.toNat + 1 := by rw [ix_nat hy (by omega)]; omega
  rw [ev, e1]
  exact (h x.toInt.toNat (by omega) (by omega) (by omega)).2
