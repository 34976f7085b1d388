theorem si_wide {N : Int} {n : Int32} {f : Nat → Int32} (h : sitesI N n f) (hN : N ≤ 6) : sitesI 6 n f := ⟨⟨h.1.1, by have := h.1.2; omega⟩, h.2⟩
theorem z_back {a b : Int32} (h : a.toInt = 0 ∨ b.toInt = a.toInt) (hb : b.toInt = 0) : a.toInt = 0 := by omega
theorem i_mul66 {z x y : Int32} (e : z = x * y) (hx : 0 ≤ x.toInt ∧ x.toInt ≤ 6) (hy : 0 ≤ y.toInt ∧ y.toInt ≤ 6) : z.toInt = x.toInt * y.toInt ∧ 0 ≤ z.toInt ∧ z.toInt ≤ 36 := by
  have k1 : 0 ≤ x.toInt * y.toInt := Int.mul_nonneg hx.1 hy.1
  have k2 : x.toInt * y.toInt ≤ x.toInt * 6 := Int.mul_le_mul_of_nonneg_left hy.2 hx.1
  have k3 := i_mul e (by omega)
  omega
