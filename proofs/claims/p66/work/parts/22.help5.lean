theorem tl_add {x y v : Int64} {a b : Int} (hx : x.toInt = a) (hy : y.toInt = b) (e : v = x + y) (h1 : -9223372036854775808 ≤ a + b) (h2 : a + b < 9223372036854775808) : v.toInt = a + b := by
  subst hx hy e
  exact fb_addL h1 h2
theorem PG_at {g : Nat → Int32} {n wd hi a c t : Int} {v d : Int32} (h : PG g n wd hi) (h0 : 0 ≤ a) (h1 : a < n) (e : v = g a.toNat) (hd : d.toInt = t) (d0 : 0 ≤ t) (d3 : t ≤ 3) (hb : bitF v d = 1) (hc : a % 80 = c) : okp wd hi c t := by
  subst hd hc
  rw [e] at hb
  have := h a.toNat (by omega) d d0 d3 hb
  rw [show ((a.toNat : Nat) : Int) = a by omega] at this
  exact this
theorem bsd_up {wd hi c d : Int} (h0 : 0 ≤ c) (hd : d = 1 ∨ d = 2) (h : bsd wd hi c d ≠ -1) : bsd wd hi c d = c + 10 ∨ bsd wd hi c d = c + 1 := by
  rcases hd with rfl | rfl
  · exact Or.inl (bsd_1 h0 h)
  · exact Or.inr (bsd_2 h0 h)
theorem FW_up {n o k c : Int} {P : Prop} (h : (∃ q : Int, 0 ≤ q ∧ q < k ∧ FW n o q) → P) (hk : FW n o k → P) (hc : c = k + 1) : (∃ q : Int, 0 ≤ q ∧ q < c ∧ FW n o q) → P := by
  rintro ⟨q, h1, h2, h3⟩
  by_cases e : q < k
  · exact h ⟨q, h1, e, h3⟩
  · have : q = k := by omega
    subst this
    exact hk h3
