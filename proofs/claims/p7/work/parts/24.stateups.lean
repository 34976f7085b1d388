theorem and7 (x : Int32) : 0 ≤ (x &&& 2147483647).toInt := by
  have h : (x &&& 2147483647).toBitVec.msb = false := by
    rw [Int32.toBitVec_and, BitVec.msb_and]
    have : (2147483647 : Int32).toBitVec.msb = false := by decide
    rw [this, Bool.and_false]
  rw [← Int32.toInt_toBitVec, BitVec.toInt_eq_msb_cond, h]
  exact Int.natCast_nonneg _
theorem st_step {v : Vf} {c x y : Int32} (hJ : StateI v) (hc : 0 ≤ c.toInt ∧ c.toInt ≤ 23) (hx : 0 ≤ x.toInt ∧ x.toInt ≤ 900100) : StateI (up2 (up2 (up2 v 4 0 c) 0 0 x) 5 0 y) := ⟨hx, hJ.2.1, hc⟩
