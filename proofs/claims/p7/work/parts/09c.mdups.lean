/-! ===== the reference's shape, kept by what its calls write ===== -/
theorem up2_ne {v : Vf} {k j t : Nat} {x : Int32} (h : t ≠ k) : up2 v k j x t = v t := by
  unfold up2
  rw [show Nat.beq t k = false from by
    rcases hb : Nat.beq t k with _ | _
    · rfl
    · exact absurd (Nat.eq_of_beq_eq_true hb) h]
  rfl
theorem im_upd {f : Nat → Int32} {k i : Nat} {x : Int32} (h : imI f i) (h1 : ∀ c, c < 24 → k = i + c → 0 ≤ x.toInt ∧ x.toInt ≤ 90) (h2 : ∀ c, c < 3 → k = i + 30 + c → 0 ≤ x.toInt ∧ x.toInt ≤ 999) (h3 : k = i + 33 → 0 ≤ x.toInt ∧ x.toInt ≤ 900000) (h4 : k = i + 34 → 0 ≤ x.toInt ∧ x.toInt ≤ 23) (h6 : k = i + 36 → 0 ≤ x.toInt ∧ x.toInt ≤ 99) (h7 : k = i + 37 → 0 ≤ x.toInt) : imI (upd f k x) i := by
  obtain ⟨a1, a2, a3, a4, a6, a7⟩ := h
  refine ⟨fun c hc => ?_, fun c hc => ?_, ?_, ?_, ?_, ?_⟩
  · unfold upd; split
    · rename_i q; exact h1 c hc q.symm
    · exact a1 c hc
  · unfold upd; split
    · rename_i q; exact h2 c hc q.symm
    · exact a2 c hc
  · unfold upd; split
    · rename_i q; exact h3 q.symm
    · exact a3
  · unfold upd; split
    · rename_i q; exact h4 q.symm
    · exact a4
  · unfold upd; split
    · rename_i q; exact h6 q.symm
    · exact a6
  · unfold upd; split
    · rename_i q; exact h7 q.symm
    · exact a7
theorem md_step {v : Vf} {x : Int32} (h : MdI v) (hx : 0 ≤ x.toInt ∧ x.toInt ≤ 900000) : MdI (up2 v 23 0 x) := ⟨⟨h.1.1, h.1.2.1, h.1.2.2.1, h.1.2.2.2.1, h.1.2.2.2.2.1, ⟨hx, h.1.2.2.2.2.2.1.2⟩, h.1.2.2.2.2.2.2⟩, h.2⟩
theorem md_cart {v : Vf} {x y : Int32} (h : MdI v) (hx : 0 ≤ x.toInt ∧ x.toInt ≤ 23) : MdI (up2 (up2 v 28 0 y) 27 0 x) := ⟨⟨h.1.1, h.1.2.1, h.1.2.2.1, h.1.2.2.2.1, h.1.2.2.2.2.1, ⟨h.1.2.2.2.2.2.1.1, h.1.2.2.2.2.2.1.2.1, h.1.2.2.2.2.2.1.2.2.1, hx, h.1.2.2.2.2.2.1.2.2.2.2⟩, h.1.2.2.2.2.2.2⟩, h.2⟩
theorem md_steep {v : Vf} {x : Int32} (h : MdI v) (hx : 0 ≤ x.toInt ∧ x.toInt ≤ 99) : MdI (up2 v 29 0 x) := ⟨⟨h.1.1, h.1.2.1, h.1.2.2.1, h.1.2.2.2.1, h.1.2.2.2.2.1, ⟨h.1.2.2.2.2.2.1.1, h.1.2.2.2.2.2.1.2.1, h.1.2.2.2.2.2.1.2.2.1, h.1.2.2.2.2.2.1.2.2.2.1, hx, h.1.2.2.2.2.2.1.2.2.2.2.2⟩, h.1.2.2.2.2.2.2⟩, h.2⟩
theorem md_seed {v : Vf} {x : Int32} (h : MdI v) (hx : 0 ≤ x.toInt) : MdI (up2 v 30 0 x) := ⟨⟨h.1.1, h.1.2.1, h.1.2.2.1, h.1.2.2.2.1, h.1.2.2.2.2.1, ⟨h.1.2.2.2.2.2.1.1, h.1.2.2.2.2.2.1.2.1, h.1.2.2.2.2.2.1.2.2.1, h.1.2.2.2.2.2.1.2.2.2.1, h.1.2.2.2.2.2.1.2.2.2.2.1, hx⟩, h.1.2.2.2.2.2.2⟩, h.2⟩
theorem md_load {v : Vf} {x : Int32} {j : Nat} (h : MdI v) (hx : 0 ≤ x.toInt ∧ x.toInt ≤ 90) : MdI (up2 v 25 j x) := ⟨⟨h.1.1, h.1.2.1, h.1.2.2.1, h.1.2.2.2.1, h.1.2.2.2.2.1, ⟨h.1.2.2.2.2.2.1.1, h.1.2.2.2.2.2.1.2.1, upd_b h.1.2.2.2.2.2.1.2.2.1 hx.1 hx.2, h.1.2.2.2.2.2.1.2.2.2⟩, h.1.2.2.2.2.2.2⟩, h.2⟩
theorem md_shift {v : Vf} {x : Int32} {j : Nat} (h : MdI v) (hx : 0 ≤ x.toInt ∧ x.toInt ≤ 999) : MdI (up2 v 24 j x) := ⟨⟨h.1.1, h.1.2.1, h.1.2.2.1, h.1.2.2.2.1, h.1.2.2.2.2.1, ⟨h.1.2.2.2.2.2.1.1, upd_b h.1.2.2.2.2.2.1.2.1 hx.1 hx.2, h.1.2.2.2.2.2.1.2.2⟩, h.1.2.2.2.2.2.2⟩, h.2⟩
theorem md_text {v : Vf} {x y : Int32} {j : Nat} (h : MdI v) (hx : 0 ≤ x.toInt ∧ x.toInt ≤ 250) : MdI (up2 (up2 v 31 j y) 32 0 x) := ⟨⟨h.1.1, h.1.2.1, h.1.2.2.1, h.1.2.2.2.1, h.1.2.2.2.2.1, h.1.2.2.2.2.2.1, ⟨hx, h.1.2.2.2.2.2.2.2⟩⟩, h.2⟩
theorem md_book {v : Vf} {x y : Int32} {j : Nat} (h : MdI v) (hx : 0 ≤ x.toInt ∧ x.toInt ≤ 30) : MdI (up2 (up2 v 76 j y) 75 0 x) := ⟨⟨h.1.1, h.1.2.1, h.1.2.2.1, h.1.2.2.2.1, h.1.2.2.2.2.1, h.1.2.2.2.2.2.1, ⟨h.1.2.2.2.2.2.2.1, h.1.2.2.2.2.2.2.2.1, h.1.2.2.2.2.2.2.2.2.1, h.1.2.2.2.2.2.2.2.2.2.1, hx⟩⟩, h.2⟩
theorem md_im {v : Vf} {k : Nat} {x : Int32} (h : MdI v) (h0 : imI (upd (v 77) k x) 0) (h1 : imI (upd (v 77) k x) 40) : MdI (up2 v 77 k x) := ⟨h.1, h.2.1, h0, h1, h.2.2.2.2⟩
theorem md_tear {v : Vf} (h : MdI v) : MdI (up2 (up2 v 75 0 0) 67 0 0) := by
  refine ⟨⟨h.1.1, h.1.2.1, ?_, h.1.2.2.2.1, h.1.2.2.2.2.1, h.1.2.2.2.2.2.1, ⟨h.1.2.2.2.2.2.2.1, (by decide : 0 ≤ (0 : Int32).toInt ∧ (0 : Int32).toInt ≤ 12), h.1.2.2.2.2.2.2.2.2.1, h.1.2.2.2.2.2.2.2.2.2.1, (by decide : 0 ≤ (0 : Int32).toInt ∧ (0 : Int32).toInt ≤ 30)⟩⟩, h.2⟩
  rcases h.1.2.2.1 with q | q
  · exact Or.inl q
  · exact Or.inr ⟨q.1, q.2.1, q.2.2.1, q.2.2.2.1, q.2.2.2.2.1, (by decide : (0 : Int32).toInt = 0)⟩
theorem md_see {v : Vf} {x c t z : Int32} {j k l : Nat} (h : MdI v) (hw : 1 ≤ (v 0 0).toInt ∧ 1 ≤ (v 1 0).toInt) (hc : 0 ≤ c.toInt ∧ c.toInt ≤ 23) (ht : 0 ≤ t.toInt ∧ t.toInt ≤ 999) (hx : 0 ≤ x.toInt ∧ x.toInt ≤ 12) : MdI (up2 (up2 (up2 (up2 v 68 j c) 69 k t) 70 l z) 67 0 x) := ⟨⟨h.1.1, h.1.2.1, Or.inl hw, h.1.2.2.2.1, h.1.2.2.2.2.1, h.1.2.2.2.2.2.1, ⟨h.1.2.2.2.2.2.2.1, hx, upd_b h.1.2.2.2.2.2.2.2.2.1 hc.1 hc.2, upd_b h.1.2.2.2.2.2.2.2.2.2.1 ht.1 ht.2, h.1.2.2.2.2.2.2.2.2.2.2⟩⟩, h.2⟩
theorem l_bmod {z : Int} (h : -9223372036854775808 ≤ z ∧ z ≤ 9223372036854775807) : z.bmod (2 ^ 64) = z := by
  rw [Int.bmod_eq_of_le] <;> omega
theorem draw_nn {s : Int32} {x y z : Int64} {w : Int32} (h : 0 ≤ s.toInt) (ex : x = s.toInt64 * 1103515245) (ey : y = x + 12345) (ez : z = y - y / 2147483648 * 2147483648) (ew : w = z.toInt32) : 0 ≤ w.toInt := by
  have hs := i_rng s
  have k1 : (1103515245 : Int64).toInt = 1103515245 := by decide
  have k2 : (12345 : Int64).toInt = 12345 := by decide
  have k3 : (2147483648 : Int64).toInt = 2147483648 := by decide
  have h1 : x.toInt = s.toInt * 1103515245 := by
    rw [ex, Int64.toInt_mul, Int32.toInt_toInt64, k1, l_bmod (by omega)]
  have h2 : y.toInt = s.toInt * 1103515245 + 12345 := by
    rw [ey, Int64.toInt_add, h1, k2, l_bmod (by omega)]
  have h3 : (y / 2147483648).toInt = y.toInt / 2147483648 := by
    rw [Int64.toInt_div_of_ne_right y _ (by decide), k3, Int.tdiv_eq_ediv_of_nonneg (by omega)]
  have h4 : (y / 2147483648 * 2147483648).toInt = y.toInt / 2147483648 * 2147483648 := by
    rw [Int64.toInt_mul, h3, k3, l_bmod (by omega)]
  have h5 : z.toInt = y.toInt - y.toInt / 2147483648 * 2147483648 := by
    rw [ez, Int64.toInt_sub, h4, l_bmod (by omega)]
  have h6 : w.toInt = z.toInt := by
    rw [ew, Int64.toInt_toInt32]
    exact i_bmod (by omega)
  omega
theorem mul_pos1 {a b : Int} (ha : 1 ≤ a) (hb : 1 ≤ b) : 1 ≤ a * b := by
  have : 1 * 1 ≤ a * b := Int.mul_le_mul ha hb (by omega) (by omega)
  omega
theorem bnd3 {f : Nat → Int32} {lo hi : Int} (h0 : lo ≤ (f 0).toInt ∧ (f 0).toInt ≤ hi) (h1 : lo ≤ (f 1).toInt ∧ (f 1).toInt ≤ hi) (h2 : lo ≤ (f 2).toInt ∧ (f 2).toInt ≤ hi) : bnd f 3 lo hi := by
  intro j hj
  rcases (show j = 0 ∨ j = 1 ∨ j = 2 by omega) with rfl | rfl | rfl
  · exact h0
  · exact h1
  · exact h2
theorem i_mul9 {z x y : Int32} (e : z = x * y) (hx : 1 ≤ x.toInt ∧ x.toInt ≤ 9) (hy : 1 ≤ y.toInt ∧ y.toInt ≤ 9) : 1 ≤ z.toInt ∧ z.toInt ≤ 81 := by
  have k1 := mul_pos1 hx.1 hy.1
  have k2 : x.toInt * y.toInt ≤ x.toInt * 9 := Int.mul_le_mul_of_nonneg_left hy.2 (by omega)
  rw [i_mul e (by omega)]
  omega
def fitM (v : Vf) : Prop := (0 ≤ (v 73 0).toInt ∧ (v 73 0).toInt ≤ 729) ∧ (∀ j : Nat, (j : Int) < (v 73 0).toInt → 0 ≤ (v 72 j).toInt ∧ (v 72 j).toInt ≤ 728)
theorem fitM_new {v : Vf} {x z : Int32} (h : fitM v) (hx : 0 ≤ x.toInt ∧ x.toInt ≤ 728) (hz : z.toInt = (v 73 0).toInt + 1) (hb : (v 73 0).toInt ≤ 728) : fitM (up2 (up2 v 72 (v 73 0).toNatClampNeg x) 73 0 z) := by
  have e := i_nat h.1.1
  refine ⟨(show 0 ≤ z.toInt ∧ z.toInt ≤ 729 by have := h.1.1; omega), fun j hj => ?_⟩
  have hj' : (j : Int) < z.toInt := hj
  show 0 ≤ (upd (v 72) (v 73 0).toNatClampNeg x j).toInt ∧ (upd (v 72) (v 73 0).toNatClampNeg x j).toInt ≤ 728
  unfold upd
  split
  · exact hx
  · exact h.2 j (by omega)
theorem MdI.cong {v w : Vf} (h : MdI v) (e : ∀ t, t ≠ 71 → t ≠ 72 → t ≠ 73 → t ≠ 74 → w t = v t) : MdI w := by
  have q : ∀ t, t < 71 → w t = v t := fun t ht => e t (by omega) (by omega) (by omega) (by omega)
  have r75 := e 75 (by decide) (by decide) (by decide) (by decide)
  have r77 := e 77 (by decide) (by decide) (by decide) (by decide)
  unfold MdI MdH mdG mdC mdZ mdM mdA mdS mdT at *
  rw [q 0 (by decide), q 1 (by decide), q 2 (by decide), q 3 (by decide), q 4 (by decide), q 5 (by decide), q 6 (by decide), q 7 (by decide), q 8 (by decide), q 9 (by decide), q 10 (by decide), q 12 (by decide), q 13 (by decide), q 16 (by decide), q 17 (by decide), q 18 (by decide), q 19 (by decide), q 22 (by decide), q 23 (by decide), q 24 (by decide), q 25 (by decide), q 27 (by decide), q 29 (by decide), q 30 (by decide), q 32 (by decide), q 47 (by decide), q 49 (by decide), q 52 (by decide), q 56 (by decide), q 62 (by decide), q 67 (by decide), q 68 (by decide), q 69 (by decide), r75, r77]
  exact h
theorem md_crt {v : Vf} {x : Int32} (h : MdI v) (hx : 0 ≤ x.toInt ∧ x.toInt ≤ 23) : MdI (up2 v 27 0 x) := ⟨⟨h.1.1, h.1.2.1, h.1.2.2.1, h.1.2.2.2.1, h.1.2.2.2.2.1, ⟨h.1.2.2.2.2.2.1.1, h.1.2.2.2.2.2.1.2.1, h.1.2.2.2.2.2.1.2.2.1, hx, h.1.2.2.2.2.2.1.2.2.2.2⟩, h.1.2.2.2.2.2.2⟩, h.2⟩
