/-! ===== bounds of rows, one place written ===== -/
theorem upd_b {f : Nat → Int32} {n k : Nat} {lo hi : Int} {x : Int32} (h : ∀ j, j < n → lo ≤ (f j).toInt ∧ (f j).toInt ≤ hi) (h0 : lo ≤ x.toInt) (h1 : x.toInt ≤ hi) : ∀ j, j < n → lo ≤ (upd f k x j).toInt ∧ (upd f k x j).toInt ≤ hi := by
  intro j hj
  unfold upd
  split
  · exact ⟨h0, h1⟩
  · exact h j hj
theorem row_up {f : Nat → Int32} {k : Nat} {x : Int32} (h : ∀ j, j < 18 → -9 ≤ (f j).toInt ∧ (f j).toInt ≤ 9) (h0 : -9 ≤ x.toInt) (h1 : x.toInt ≤ 9) : ∀ j, j < 18 → -9 ≤ (upd f k x j).toInt ∧ (upd f k x j).toInt ≤ 9 := upd_b h h0 h1
theorem ahe_up {f : Nat → Int32} {k : Nat} {x : Int32} (h : ∀ j, j < 24 → 0 ≤ (f j).toInt ∧ (f j).toInt ≤ 1000) (h0 : 0 ≤ x.toInt) (h1 : x.toInt ≤ 1000) : ∀ j, j < 24 → 0 ≤ (upd f k x j).toInt ∧ (upd f k x j).toInt ≤ 1000 := upd_b h h0 h1
theorem cel_up {f : Nat → Int32} {k : Nat} {x : Int32} (h : ∀ j, j < 6 → 0 ≤ (f j).toInt ∧ (f j).toInt ≤ 23) (h0 : 0 ≤ x.toInt) (h1 : x.toInt ≤ 23) : ∀ j, j < 6 → 0 ≤ (upd f k x j).toInt ∧ (upd f k x j).toInt ≤ 23 := upd_b h h0 h1
theorem up0_next {v : Vf} {t : Nat} {i i2 : Int32} (h : ∀ j : Nat, (j : Int) < i.toInt → v t j = 0) (h0 : 0 ≤ i.toInt) (h1 : i2.toInt = i.toInt + 1) : ∀ j : Nat, (j : Int) < i2.toInt → up2 v t i.toNatClampNeg 0 t j = 0 := by
  intro j hj
  have e : up2 v t i.toNatClampNeg 0 t = upd (v t) i.toNatClampNeg 0 := by
    unfold up2
    rw [Nat.beq_refl]
    rfl
  rw [e]
  unfold upd
  split
  · rfl
  · rename_i hne
    refine h j ?_
    have := i_nat h0
    omega
/-- a state as it is at first: step 0, shifts 0, cart 0 -/
theorem st_fresh {v : Vf} (h0 : v 0 0 = 0) (h1 : ∀ j, j < 3 → v 1 j = 0) : StateI (up2 (up2 (up2 v 4 0 0) 5 0 0) 6 0 20) := by
  refine ⟨?_, ?_, ?_⟩
  · show 0 ≤ (v 0 0).toInt ∧ (v 0 0).toInt ≤ 900100
    rw [h0]
    decide
  · intro j hj
    show 0 ≤ (v 1 j).toInt ∧ (v 1 j).toInt ≤ 8
    rw [h1 j hj]
    decide
  · show 0 ≤ (0 : Int32).toInt ∧ (0 : Int32).toInt ≤ 23
    decide
