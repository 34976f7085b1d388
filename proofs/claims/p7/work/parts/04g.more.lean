theorem u0_next {f : Nat → Int32} {i i2 : Int32} (h : ∀ j : Nat, (j : Int) < i.toInt → f j = 0) (h0 : 0 ≤ i.toInt) (h1 : i2.toInt = i.toInt + 1) : ∀ j : Nat, (j : Int) < i2.toInt → upd f i.toNatClampNeg 0 j = 0 := by
  intro j hj
  unfold upd
  split
  · rfl
  · rename_i hne
    refine h j ?_
    have := i_nat h0
    omega
theorem mul_b {a b A B : Int} (ha : 0 ≤ a ∧ a ≤ A) (hb : 0 ≤ b ∧ b ≤ B) : 0 ≤ a * b ∧ a * b ≤ A * B := ⟨Int.mul_nonneg ha.1 hb.1, Int.mul_le_mul ha.2 hb.2 hb.1 (by omega)⟩
theorem ah_next {f : Nat → Int32} {i i2 x : Int32} {g : Int → Int} (h : ∀ j : Nat, (j : Int) < i.toInt → (f j).toInt = g j) (h0 : 0 ≤ i.toInt) (h1 : i2.toInt = i.toInt + 1) (hx : x.toInt = g i.toInt) : ∀ j : Nat, (j : Int) < i2.toInt → (upd f i.toNatClampNeg x j).toInt = g j := by
  intro j hj
  have e := i_nat h0
  unfold upd
  split
  · rename_i q
    rw [q, e]
    exact hx
  · exact h j (by omega)
