/-! what a branch says of a call's answer -/
theorem or_y {r : Int32} {A B : Prop} (h : (r.toInt = 1 ∧ A) ∨ (r.toInt = 0 ∧ B)) (c : r.toInt ≠ (0 : Int32).toInt) : r.toInt = 1 ∧ A := h.resolve_right (fun q => c (q.1.trans (by decide)))
theorem or_n {r : Int32} {A B : Prop} (h : (r.toInt = 1 ∧ A) ∨ (r.toInt = 0 ∧ B)) (c : r.toInt = (0 : Int32).toInt) : r.toInt = 0 ∧ B := h.resolve_left (fun q => by
  have n0 : (0 : Int32).toInt = 0 := by decide
  have q1 := q.1
  omega)
theorem b_y {r : Int32} (h : r.toInt = 0 ∨ r.toInt = 1) (c : r.toInt ≠ (0 : Int32).toInt) : r.toInt = 1 := h.resolve_left (fun q => c (q.trans (by decide)))
theorem cm_n {r : Int32} {A : Prop} (h : r.toInt = -1 ∨ A) (c : r.toInt ≠ (-1 : Int32).toInt) : A := h.resolve_left (fun q => c (q.trans (by decide)))
theorem pb_rn {A F lo hi r a b : Int} (h : (A = 0 ∧ F = 0 ∧ lo ≤ r ∧ r ≤ hi) ∨ (A ≠ 0 ∧ r = 0)) (ha : a ≤ lo ∧ a ≤ 0) (hb : hi ≤ b ∧ 0 ≤ b) : a ≤ r ∧ r ≤ b := by
  rcases h with ⟨-, -, h3, h4⟩ | ⟨-, h4⟩
  · exact ⟨Int.le_trans ha.1 h3, Int.le_trans h4 hb.1⟩
  · rw [h4]
    exact ⟨ha.2, hb.2⟩
