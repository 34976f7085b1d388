section
/-! ===== the reference's shape, kept by what its calls write ===== -/
theorem up2_ne {v : Vf} {k j t : Nat} {x : Int32} (h : t ≠ k) : up2 v k j x t = v t := by
  unfold up2
  rw [show Nat.beq t k = false from by
    rcases hb : Nat.beq t k with _ | _
    · rfl
    · exact absurd (Nat.eq_of_beq_eq_true hb) h]
  rfl
theorem im_upd {f : Nat → Int32} {k i : Nat} {x : Int32} (h : imI f i) (h1 : ∀ c, c < 24 → k = i + c → 0 ≤ x.toInt ∧ x.toInt ≤ 90) (h2 : ∀ c, c < 3 → k = i + 30 + c → 0 ≤ x.toInt ∧ x.toInt ≤ 999) (h3 : k = i + 33 → 0 ≤ x.toInt ∧ x.toInt ≤ 900000) (h4 : k = i + 34 → 0 ≤ x.toInt ∧ x.toInt ≤ 23) (h6 : k = i + 36 → 0 ≤ x.toInt ∧ x.toInt ≤ 99) (h7 : k = i + 37 → 0 ≤ x.toInt) : imI (upd f k x) i := by
  obtain ⟨a1, a2, a3, a4, a6, a7⟩ := h
  refine ⟨fun c hc => ?_, fun c hc => ?_, ?_, ?_, ?_, ?_⟩
  · unfold upd; split
    · rename_i q; exact h1 c hc q.symm
    · exact a1 c hc
  · unfold upd; split
    · rename_i q; exact h2 c hc q.symm
    · exact a2 c hc
  · unfold upd; split
    · rename_i q; exact h3 q.symm
    · exact a3
  · unfold upd; split
    · rename_i q; exact h4 q.symm
    · exact a4
  · unfold upd; split
    · rename_i q; exact h6 q.symm
    · exact a6
  · unfold upd; split
    · rename_i q; exact h7 q.symm
    · exact a7
theorem md_step {v : Vf} {x : Int32} (h : MdI v) (hx : 0 ≤ x.toInt ∧ x.toInt ≤ 900000) : MdI (up2 v 23 0 x) := ⟨⟨h.1.1, h.1.2.1, h.1.2.2.1, h.1.2.2.2.1, h.1.2.2.2.2.1, ⟨hx, h.1.2.2.2.2.2.1.2⟩, h.1.2.2.2.2.2.2⟩, h.2⟩
theorem md_cart {v : Vf} {x y : Int32} (h : MdI v) (hx : 0 ≤ x.toInt ∧ x.toInt ≤ 23) : MdI (up2 (up2 v 28 0 y) 27 0 x) := ⟨⟨h.1.1, h.1.2.1, h.1.2.2.1, h.1.2.2.2.1, h.1.2.2.2.2.1, ⟨h.1.2.2.2.2.2.1.1, h.1.2.2.2.2.2.1.2.1, h.1.2.2.2.2.2.1.2.2.1, hx, h.1.2.2.2.2.2.1.2.2.2.2⟩, h.1.2.2.2.2.2.2⟩, h.2⟩
theorem md_steep {v : Vf} {x : Int32} (h : MdI v) (hx : 0 ≤ x.toInt ∧ x.toInt ≤ 99) : MdI (up2 v 29 0 x) := ⟨⟨h.1.1, h.1.2.1, h.1.2.2.1, h.1.2.2.2.1, h.1.2.2.2.2.1, ⟨h.1.2.2.2.2.2.1.1, h.1.2.2.2.2.2.1.2.1, h.1.2.2.2.2.2.1.2.2.1, h.1.2.2.2.2.2.1.2.2.2.1, hx, h.1.2.2.2.2.2.1.2.2.2.2.2⟩, h.1.2.2.2.2.2.2⟩, h.2⟩
theorem md_seed {v : Vf} {x : Int32} (h : MdI v) (hx : 0 ≤ x.toInt) : MdI (up2 v 30 0 x) := ⟨⟨h.1.1, h.1.2.1, h.1.2.2.1, h.1.2.2.2.1, h.1.2.2.2.2.1, ⟨h.1.2.2.2.2.2.1.1, h.1.2.2.2.2.2.1.2.1, h.1.2.2.2.2.2.1.2.2.1, h.1.2.2.2.2.2.1.2.2.2.1, h.1.2.2.2.2.2.1.2.2.2.2.1, hx⟩, h.1.2.2.2.2.2.2⟩, h.2⟩
theorem md_load {v : Vf} {x : Int32} {j : Nat} (h : MdI v) (hx : 0 ≤ x.toInt ∧ x.toInt ≤ 90) : MdI (up2 v 25 j x) := ⟨⟨h.1.1, h.1.2.1, h.1.2.2.1, h.1.2.2.2.1, h.1.2.2.2.2.1, ⟨h.1.2.2.2.2.2.1.1, h.1.2.2.2.2.2.1.2.1, upd_b h.1.2.2.2.2.2.1.2.2.1 hx.1 hx.2, h.1.2.2.2.2.2.1.2.2.2⟩, h.1.2.2.2.2.2.2⟩, h.2⟩
theorem md_shift {v : Vf} {x : Int32} {j : Nat} (h : MdI v) (hx : 0 ≤ x.toInt ∧ x.toInt ≤ 999) : MdI (up2 v 24 j x) := ⟨⟨h.1.1, h.1.2.1, h.1.2.2.1, h.1.2.2.2.1, h.1.2.2.2.2.1, ⟨h.1.2.2.2.2.2.1.1, upd_b h.1.2.2.2.2.2.1.2.1 hx.1 hx.2, h.1.2.2.2.2.2.1.2.2⟩, h.1.2.2.2.2.2.2⟩, h.2⟩
theorem md_text {v : Vf} {x y : Int32} {j : Nat} (h : MdI v) (hx : 0 ≤ x.toInt ∧ x.toInt ≤ 250) : MdI (up2 (up2 v 31 j y) 32 0 x) := ⟨⟨h.1.1, h.1.2.1, h.1.2.2.1, h.1.2.2.2.1, h.1.2.2.2.2.1, h.1.2.2.2.2.2.1, ⟨hx, h.1.2.2.2.2.2.2.2⟩⟩, h.2⟩
theorem md_book {v : Vf} {x y : Int32} {j : Nat} (h : MdI v) (hx : 0 ≤ x.toInt ∧ x.toInt ≤ 30) : MdI (up2 (up2 v 76 j y) 75 0 x) := ⟨⟨h.1.1, h.1.2.1, h.1.2.2.1, h.1.2.2.2.1, h.1.2.2.2.2.1, h.1.2.2.2.2.2.1, ⟨h.1.2.2.2.2.2.2.1, h.1.2.2.2.2.2.2.2.1, h.1.2.2.2.2.2.2.2.2.1, h.1.2.2.2.2.2.2.2.2.2.1, hx⟩⟩, h.2⟩
theorem md_im {v : Vf} {k : Nat} {x : Int32} (h : MdI v) (h0 : imI (upd (v 77) k x) 0) (h1 : imI (upd (v 77) k x) 40) : MdI (up2 v 77 k x) := ⟨h.1, h.2.1, h0, h1, h.2.2.2.2⟩
theorem md_tear {v : Vf} (h : MdI v) : MdI (up2 (up2 v 75 0 0) 67 0 0) := by
  refine ⟨⟨h.1.1, h.1.2.1, ?_, h.1.2.2.2.1, h.1.2.2.2.2.1, h.1.2.2.2.2.2.1, ⟨h.1.2.2.2.2.2.2.1, (by decide : 0 ≤ (0 : Int32).toInt ∧ (0 : Int32).toInt ≤ 12), h.1.2.2.2.2.2.2.2.2.1, h.1.2.2.2.2.2.2.2.2.2.1, (by decide : 0 ≤ (0 : Int32).toInt ∧ (0 : Int32).toInt ≤ 30)⟩⟩, h.2⟩
  rcases h.1.2.2.1 with q | q
  · exact Or.inl q
  · exact Or.inr ⟨q.1, q.2.1, q.2.2.1, q.2.2.2.1, q.2.2.2.2.1, (by decide : (0 : Int32).toInt = 0)⟩
theorem md_see {v : Vf} {x c t z : Int32} {j k l : Nat} (h : MdI v) (hw : 1 ≤ (v 0 0).toInt ∧ 1 ≤ (v 1 0).toInt) (hc : 0 ≤ c.toInt ∧ c.toInt ≤ 23) (ht : 0 ≤ t.toInt ∧ t.toInt ≤ 999) (hx : 0 ≤ x.toInt ∧ x.toInt ≤ 12) : MdI (up2 (up2 (up2 (up2 v 68 j c) 69 k t) 70 l z) 67 0 x) := ⟨⟨h.1.1, h.1.2.1, Or.inl hw, h.1.2.2.2.1, h.1.2.2.2.2.1, h.1.2.2.2.2.2.1, ⟨h.1.2.2.2.2.2.2.1, hx, upd_b h.1.2.2.2.2.2.2.2.2.1 hc.1 hc.2, upd_b h.1.2.2.2.2.2.2.2.2.2.1 ht.1 ht.2, h.1.2.2.2.2.2.2.2.2.2.2⟩⟩, h.2⟩
theorem l_bmod {z : Int} (h : -9223372036854775808 ≤ z ∧ z ≤ 9223372036854775807) : z.bmod (2 ^ 64) = z := by
  rw [Int.bmod_eq_of_le] <;> omega
theorem draw_nn {s : Int32} {x y z : Int64} {w : Int32} (h : 0 ≤ s.toInt) (ex : x = s.toInt64 * 1103515245) (ey : y = x + 12345) (ez : z = y - y / 2147483648 * 2147483648) (ew : w = z.toInt32) : 0 ≤ w.toInt := by
  have hs := i_rng s
  have k1 : (1103515245 : Int64).toInt = 1103515245 := by decide
  have k2 : (12345 : Int64).toInt = 12345 := by decide
  have k3 : (2147483648 : Int64).toInt = 2147483648 := by decide
  have h1 : x.toInt = s.toInt * 1103515245 := by
    rw [ex, Int64.toInt_mul, Int32.toInt_toInt64, k1, l_bmod (by omega)]
  have h2 : y.toInt = s.toInt * 1103515245 + 12345 := by
    rw [ey, Int64.toInt_add, h1, k2, l_bmod (by omega)]
  have h3 : (y / 2147483648).toInt = y.toInt / 2147483648 := by
    rw [Int64.toInt_div_of_ne_right y _ (by decide), k3, Int.tdiv_eq_ediv_of_nonneg (by omega)]
  have h4 : (y / 2147483648 * 2147483648).toInt = y.toInt / 2147483648 * 2147483648 := by
    rw [Int64.toInt_mul, h3, k3, l_bmod (by omega)]
  have h5 : z.toInt = y.toInt - y.toInt / 2147483648 * 2147483648 := by
    rw [ez, Int64.toInt_sub, h4, l_bmod (by omega)]
  have h6 : w.toInt = z.toInt := by
    rw [ew, Int64.toInt_toInt32]
    exact i_bmod (by omega)
  omega
theorem mul_pos1 {a b : Int} (ha : 1 ≤ a) (hb : 1 ≤ b) : 1 ≤ a * b := by
  have : 1 * 1 ≤ a * b := Int.mul_le_mul ha hb (by omega) (by omega)
  omega
theorem bnd3 {f : Nat → Int32} {lo hi : Int} (h0 : lo ≤ (f 0).toInt ∧ (f 0).toInt ≤ hi) (h1 : lo ≤ (f 1).toInt ∧ (f 1).toInt ≤ hi) (h2 : lo ≤ (f 2).toInt ∧ (f 2).toInt ≤ hi) : bnd f 3 lo hi := by
  intro j hj
  rcases (show j = 0 ∨ j = 1 ∨ j = 2 by omega) with rfl | rfl | rfl
  · exact h0
  · exact h1
  · exact h2
theorem i_mul9 {z x y : Int32} (e : z = x * y) (hx : 1 ≤ x.toInt ∧ x.toInt ≤ 9) (hy : 1 ≤ y.toInt ∧ y.toInt ≤ 9) : 1 ≤ z.toInt ∧ z.toInt ≤ 81 := by
  have k1 := mul_pos1 hx.1 hy.1
  have k2 : x.toInt * y.toInt ≤ x.toInt * 9 := Int.mul_le_mul_of_nonneg_left hy.2 (by omega)
  rw [i_mul e (by omega)]
  omega
def fitM (v : Vf) : Prop := (0 ≤ (v 73 0).toInt ∧ (v 73 0).toInt ≤ 729) ∧ (∀ j : Nat, (j : Int) < (v 73 0).toInt → 0 ≤ (v 72 j).toInt ∧ (v 72 j).toInt ≤ 728)
theorem fitM_new {v : Vf} {x z : Int32} (h : fitM v) (hx : 0 ≤ x.toInt ∧ x.toInt ≤ 728) (hz : z.toInt = (v 73 0).toInt + 1) (hb : (v 73 0).toInt ≤ 728) : fitM (up2 (up2 v 72 (v 73 0).toNatClampNeg x) 73 0 z) := by
  have e := i_nat h.1.1
  refine ⟨(show 0 ≤ z.toInt ∧ z.toInt ≤ 729 by have := h.1.1; omega), fun j hj => ?_⟩
  have hj' : (j : Int) < z.toInt := hj
  show 0 ≤ (upd (v 72) (v 73 0).toNatClampNeg x j).toInt ∧ (upd (v 72) (v 73 0).toNatClampNeg x j).toInt ≤ 728
  unfold upd
  split
  · exact hx
  · exact h.2 j (by omega)
theorem MdI.cong {v w : Vf} (h : MdI v) (e : ∀ t, t ≠ 71 → t ≠ 72 → t ≠ 73 → t ≠ 74 → w t = v t) : MdI w := by
  have q : ∀ t, t < 71 → w t = v t := fun t ht => e t (by omega) (by omega) (by omega) (by omega)
  have r75 := e 75 (by decide) (by decide) (by decide) (by decide)
  have r77 := e 77 (by decide) (by decide) (by decide) (by decide)
  unfold MdI MdH mdG mdC mdZ mdM mdA mdS mdT at *
  rw [q 0 (by decide), q 1 (by decide), q 2 (by decide), q 3 (by decide), q 4 (by decide), q 5 (by decide), q 6 (by decide), q 7 (by decide), q 8 (by decide), q 9 (by decide), q 10 (by decide), q 12 (by decide), q 13 (by decide), q 16 (by decide), q 17 (by decide), q 18 (by decide), q 19 (by decide), q 22 (by decide), q 23 (by decide), q 24 (by decide), q 25 (by decide), q 27 (by decide), q 29 (by decide), q 30 (by decide), q 32 (by decide), q 47 (by decide), q 49 (by decide), q 52 (by decide), q 56 (by decide), q 62 (by decide), q 67 (by decide), q 68 (by decide), q 69 (by decide), r75, r77]
  exact h
theorem md_crt {v : Vf} {x : Int32} (h : MdI v) (hx : 0 ≤ x.toInt ∧ x.toInt ≤ 23) : MdI (up2 v 27 0 x) := ⟨⟨h.1.1, h.1.2.1, h.1.2.2.1, h.1.2.2.2.1, h.1.2.2.2.2.1, ⟨h.1.2.2.2.2.2.1.1, h.1.2.2.2.2.2.1.2.1, h.1.2.2.2.2.2.1.2.2.1, hx, h.1.2.2.2.2.2.1.2.2.2.2⟩, h.1.2.2.2.2.2.2⟩, h.2⟩
end
section
/-! ===== the reference's reading: what is told so far ===== -/
def rdG (v : Vf) : Prop := (0 ≤ (v 37 0).toInt ∧ (v 37 0).toInt ≤ 6) ∧ (0 ≤ (v 38 0).toInt ∧ (v 38 0).toInt ≤ 6) ∧ (v 37 0).toInt * (v 38 0).toInt ≤ 24
def rdC (v : Vf) : Prop := (0 ≤ (v 41 0).toInt ∧ (v 41 0).toInt ≤ 12) ∧ (0 ≤ (v 43 0).toInt ∧ (v 43 0).toInt ≤ 3) ∧ (0 ≤ (v 48 0).toInt ∧ (v 48 0).toInt ≤ 6) ∧ (0 ≤ (v 51 0).toInt ∧ (v 51 0).toInt ≤ 6) ∧ (0 ≤ (v 55 0).toInt ∧ (v 55 0).toInt ≤ 5) ∧ (0 ≤ (v 58 0).toInt ∧ (v 58 0).toInt ≤ 4)
def rdZ (v : Vf) : Prop := (1 ≤ (v 37 0).toInt ∧ 1 ≤ (v 38 0).toInt) ∨ ((v 37 0).toInt = 0 ∧ (v 43 0).toInt = 0 ∧ (v 48 0).toInt = 0 ∧ (v 51 0).toInt = 0 ∧ (v 55 0).toInt = 0)
def rdMo (v : Vf) : Prop := ∀ j : Nat, (j : Int) < (v 43 0).toInt → (2 ≤ (v 44 j).toInt ∧ (v 44 j).toInt ≤ 9) ∧ (0 ≤ (v 45 j).toInt ∧ (v 45 j).toInt ≤ 8) ∧ (0 ≤ (v 46 j).toInt ∧ (v 46 j).toInt ≤ 8)
def rdB (v : Vf) : Prop := (v 37 0).toInt = 0 ∨ (bnd (v 39) 24 0 99 ∧ bnd (v 40) 24 0 9)
def rdD (v : Vf) : Prop := ∀ j : Nat, (j : Int) < (v 55 0).toInt → 0 ≤ (v 57 j).toInt ∧ (v 57 j).toInt ≤ 99
def RdM (v : Vf) : Prop := rdG v ∧ rdC v ∧ rdZ v ∧ rdMo v ∧ rdB v ∧ rdD v
def tM : List Nat := [0, 1, 2, 3, 4, 5, 6, 7, 8, 9, 10, 12, 13, 16, 17, 18, 19, 22, 23, 24, 25, 27, 29, 30, 32, 47, 49, 52, 56, 62, 67, 68, 69, 75, 77]
def tR : List Nat := [37, 38, 39, 40, 41, 43, 44, 45, 46, 48, 51, 55, 57, 58]
theorem MdI.on {v w : Vf} (h : MdI v) (e : ∀ t ∈ tM, w t = v t) : MdI w := by
  unfold MdI MdH mdG mdC mdZ mdM mdA mdS mdT at *
  rw [e 0 (by decide), e 1 (by decide), e 2 (by decide), e 3 (by decide), e 4 (by decide), e 5 (by decide), e 6 (by decide), e 7 (by decide), e 8 (by decide), e 9 (by decide), e 10 (by decide), e 12 (by decide), e 13 (by decide), e 16 (by decide), e 17 (by decide), e 18 (by decide), e 19 (by decide), e 22 (by decide), e 23 (by decide), e 24 (by decide), e 25 (by decide), e 27 (by decide), e 29 (by decide), e 30 (by decide), e 32 (by decide), e 47 (by decide), e 49 (by decide), e 52 (by decide), e 56 (by decide), e 62 (by decide), e 67 (by decide), e 68 (by decide), e 69 (by decide), e 75 (by decide), e 77 (by decide)]
  exact h
theorem RdM.on {v w : Vf} (h : RdM v) (e : ∀ t ∈ tR, w t = v t) : RdM w := by
  unfold RdM rdG rdC rdZ rdMo rdB rdD at *
  rw [e 37 (by decide), e 38 (by decide), e 39 (by decide), e 40 (by decide), e 41 (by decide), e 43 (by decide), e 44 (by decide), e 45 (by decide), e 46 (by decide), e 48 (by decide), e 51 (by decide), e 55 (by decide), e 57 (by decide), e 58 (by decide)]
  exact h
/-- the same but for the reader's own places: fault, at, number, where it began, the cell -/
def sc (v w : Vf) : Prop := ∀ t, t ≠ 33 → t ≠ 34 → t ≠ 35 → t ≠ 36 → t ≠ 61 → w t = v t
theorem sc.rf {v : Vf} : sc v v := fun _ _ _ _ _ _ => rfl
theorem sc.tr {u v w : Vf} (h1 : sc u v) (h2 : sc v w) : sc u w := fun t a b c d e => (h2 t a b c d e).trans (h1 t a b c d e)
theorem sc.up {v w : Vf} {k j : Nat} {x : Int32} (h : sc v w) (hk : k = 33 ∨ k = 34 ∨ k = 35 ∨ k = 36 ∨ k = 61) : sc v (up2 w k j x) := fun t a b c d e => by
  rw [up2_ne (fun q => by omega)]
  exact h t a b c d e
theorem sc.mem {v w : Vf} (h : sc v w) {l : List Nat} (hl : ∀ t ∈ l, t ≠ 33 ∧ t ≠ 34 ∧ t ≠ 35 ∧ t ≠ 36 ∧ t ≠ 61) : ∀ t ∈ l, w t = v t := fun t ht => h t (hl t ht).1 (hl t ht).2.1 (hl t ht).2.2.1 (hl t ht).2.2.2.1 (hl t ht).2.2.2.2
theorem MdI.sc {v w : Vf} (h : MdI v) (e : sc v w) : MdI w := h.on (e.mem (by decide))
theorem RdM.sc {v w : Vf} (h : RdM v) (e : sc v w) : RdM w := h.on (e.mem (by decide))
/-- the same but for the reader's own places and one row -/
def scK (K : Nat) (v w : Vf) : Prop := ∀ t, t ≠ 33 → t ≠ 34 → t ≠ 35 → t ≠ 36 → t ≠ 61 → t ≠ K → w t = v t
def atI (v : Vf) : Prop := 0 ≤ (v 34 0).toInt ∧ (v 34 0).toInt ≤ (v 32 0).toInt
/-- the same but for fault, at, number and where it began -/
def sn (v w : Vf) : Prop := ∀ t, t ≠ 33 → t ≠ 34 → t ≠ 35 → t ≠ 36 → w t = v t
theorem sn.rf {v : Vf} : sn v v := fun _ _ _ _ _ => rfl
theorem sn.tr {u v w : Vf} (h1 : sn u v) (h2 : sn v w) : sn u w := fun t a b c d => (h2 t a b c d).trans (h1 t a b c d)
theorem sn.up {v w : Vf} {k j : Nat} {x : Int32} (h : sn v w) (hk : k = 33 ∨ k = 34 ∨ k = 35 ∨ k = 36) : sn v (up2 w k j x) := fun t a b c d => by
  rw [up2_ne (fun q => by omega)]
  exact h t a b c d
theorem sn.sc {v w : Vf} (h : sn v w) : sc v w := fun t a b c d _ => h t a b c d
theorem MdI.sn {v w : Vf} (h : MdI v) (e : sn v w) : MdI w := h.sc e.sc
theorem RdM.sn {v w : Vf} (h : RdM v) (e : sn v w) : RdM w := h.sc e.sc
theorem scK.mem {K : Nat} {v w : Vf} (h : scK K v w) {l : List Nat} (hl : ∀ t ∈ l, t ≠ 33 ∧ t ≠ 34 ∧ t ≠ 35 ∧ t ≠ 36 ∧ t ≠ 61 ∧ t ≠ K) : ∀ t ∈ l, w t = v t := fun t ht => h t (hl t ht).1 (hl t ht).2.1 (hl t ht).2.2.1 (hl t ht).2.2.2.1 (hl t ht).2.2.2.2.1 (hl t ht).2.2.2.2.2
theorem sc.scK {K : Nat} {v w : Vf} (h : sc v w) : scK K v w := fun t a b c d e _ => h t a b c d e
theorem scK.tr {K : Nat} {u v w : Vf} (h1 : scK K u v) (h2 : scK K v w) : scK K u w := fun t a b c d e f => (h2 t a b c d e f).trans (h1 t a b c d e f)
def tM' : List Nat := [0, 1, 2, 3, 4, 5, 6, 7, 8, 9, 10, 12, 13, 16, 17, 18, 19, 22, 23, 24, 25, 27, 29, 30, 32, 62, 67, 68, 69, 75, 77]
theorem MdI.on4 {v w : Vf} (h : MdI v) (e : ∀ t ∈ tM', w t = v t) (h47 : bnd (w 47) 27 (-9) 9) (h49 : bnd (w 49) 6 0 23) (h52 : bnd (w 52) 6 0 23) (h56 : bnd (w 56) 5 0 23) : MdI w := by
  unfold MdI MdH mdG mdC mdZ mdM mdA mdS mdT at h ⊢
  rw [e 0 (by decide), e 1 (by decide), e 2 (by decide), e 3 (by decide), e 4 (by decide), e 5 (by decide), e 6 (by decide), e 7 (by decide), e 8 (by decide), e 9 (by decide), e 10 (by decide), e 12 (by decide), e 13 (by decide), e 16 (by decide), e 17 (by decide), e 18 (by decide), e 19 (by decide), e 22 (by decide), e 23 (by decide), e 24 (by decide), e 25 (by decide), e 27 (by decide), e 29 (by decide), e 30 (by decide), e 32 (by decide), e 62 (by decide), e 67 (by decide), e 68 (by decide), e 69 (by decide), e 75 (by decide), e 77 (by decide)]
  exact ⟨h.1, h.2.1, h.2.2.1, h.2.2.2.1, h47, h49, h52, h56⟩
theorem atI.of {v w : Vf} (h : atI v) (h4 : w 34 = v 34) (h2 : w 32 = v 32) : atI w := by
  unfold atI at *
  rw [h4, h2]
  exact h
theorem cellv {w d n x a b : Int32} (hw : 0 ≤ w.toInt ∧ w.toInt ≤ 6) (hc : w.toInt * d.toInt ≤ 24) (ea : a = w * n) (eb : b = a + x) (hx : 0 ≤ x.toInt ∧ x.toInt < w.toInt) (hn : 0 ≤ n.toInt ∧ n.toInt < d.toInt) : 0 ≤ b.toInt ∧ b.toInt ≤ 23 := by
  have q := mcell_lt hw hc hx.1 hx.2 hn.1 hn.2
  have ta := i_mul ea (by omega)
  have tb := i_add eb (by omega)
  omega
theorem rd_told {v : Vf} {x : Int32} (h : RdM v) (hx : 0 ≤ x.toInt ∧ x.toInt ≤ 12) : RdM (up2 v 41 0 x) := ⟨h.1, ⟨hx, h.2.1.2⟩, h.2.2⟩
theorem rd_house {v : Vf} {x : Int32} (h : RdM v) (hw : 1 ≤ (v 37 0).toInt ∧ 1 ≤ (v 38 0).toInt) (hx : 0 ≤ x.toInt ∧ x.toInt ≤ 6) : RdM (up2 v 48 0 x) := ⟨h.1, ⟨h.2.1.1, h.2.1.2.1, hx, h.2.1.2.2.2⟩, Or.inl hw, h.2.2.2⟩
theorem rd_crack {v : Vf} {x : Int32} (h : RdM v) (hw : 1 ≤ (v 37 0).toInt ∧ 1 ≤ (v 38 0).toInt) (hx : 0 ≤ x.toInt ∧ x.toInt ≤ 6) : RdM (up2 v 51 0 x) := ⟨h.1, ⟨h.2.1.1, h.2.1.2.1, h.2.1.2.2.1, hx, h.2.1.2.2.2.2⟩, Or.inl hw, h.2.2.2⟩
theorem rd_deed {v : Vf} {x : Int32} (h : RdM v) (hx : 0 ≤ x.toInt ∧ x.toInt ≤ 4) : RdM (up2 v 58 0 x) := ⟨h.1, ⟨h.2.1.1, h.2.1.2.1, h.2.1.2.2.1, h.2.1.2.2.2.1, h.2.1.2.2.2.2.1, hx⟩, h.2.2⟩
theorem rd_base {v w : Vf} {j : Nat} {x : Int32} (h : RdM v) (e : scK 39 v w) (e1 : w 39 = upd (v 39) j x) (hx : 0 ≤ x.toInt ∧ x.toInt ≤ 99) : RdM w := by
  have q := e.mem (l := [37, 38, 40, 41, 43, 44, 45, 46, 48, 51, 55, 57, 58]) (by decide)
  unfold RdM rdG rdC rdZ rdMo rdB rdD at *
  rw [q 37 (by decide), q 38 (by decide), q 40 (by decide), q 41 (by decide), q 43 (by decide), q 44 (by decide), q 45 (by decide), q 46 (by decide), q 48 (by decide), q 51 (by decide), q 55 (by decide), q 57 (by decide), q 58 (by decide), e1]
  exact ⟨h.1, h.2.1, h.2.2.1, h.2.2.2.1, h.2.2.2.2.1.imp id (fun z => ⟨upd_b z.1 hx.1 hx.2, z.2⟩), h.2.2.2.2.2⟩
theorem rd_soft {v w : Vf} {j : Nat} {x : Int32} (h : RdM v) (e : scK 40 v w) (e1 : w 40 = upd (v 40) j x) (hx : 0 ≤ x.toInt ∧ x.toInt ≤ 9) : RdM w := by
  have q := e.mem (l := [37, 38, 39, 41, 43, 44, 45, 46, 48, 51, 55, 57, 58]) (by decide)
  unfold RdM rdG rdC rdZ rdMo rdB rdD at *
  rw [q 37 (by decide), q 38 (by decide), q 39 (by decide), q 41 (by decide), q 43 (by decide), q 44 (by decide), q 45 (by decide), q 46 (by decide), q 48 (by decide), q 51 (by decide), q 55 (by decide), q 57 (by decide), q 58 (by decide), e1]
  exact ⟨h.1, h.2.1, h.2.2.1, h.2.2.2.1, h.2.2.2.2.1.imp id (fun z => ⟨z.1, upd_b z.2 hx.1 hx.2⟩), h.2.2.2.2.2⟩
/-- a well told: the count, the place, how deep -/
def scL (l : List Nat) (v w : Vf) : Prop := ∀ t, t ∉ l → w t = v t
theorem scL.rf {l : List Nat} {v : Vf} : scL l v v := fun _ _ => rfl
theorem scL.up {l : List Nat} {v w : Vf} {k j : Nat} {x : Int32} (h : scL l v w) (hk : k ∈ l) : scL l v (up2 w k j x) := fun t a => by
  rw [up2_ne (show t ≠ k from fun q => a (by rw [q]; exact hk))]
  exact h t a
theorem scL.sn {l : List Nat} {u v w : Vf} (h : scL l u v) (e : sn v w) (hl : 33 ∈ l ∧ 34 ∈ l ∧ 35 ∈ l ∧ 36 ∈ l) : scL l u w := fun t a => (e t (fun q => a (q ▸ hl.1)) (fun q => a (q ▸ hl.2.1)) (fun q => a (q ▸ hl.2.2.1)) (fun q => a (q ▸ hl.2.2.2))).trans (h t a)
theorem scL.sc {l : List Nat} {u v w : Vf} (h : scL l u v) (e : sc v w) (hl : 33 ∈ l ∧ 34 ∈ l ∧ 35 ∈ l ∧ 36 ∈ l ∧ 61 ∈ l) : scL l u w := fun t a => (e t (fun q => a (q ▸ hl.1)) (fun q => a (q ▸ hl.2.1)) (fun q => a (q ▸ hl.2.2.1)) (fun q => a (q ▸ hl.2.2.2.1)) (fun q => a (q ▸ hl.2.2.2.2))).trans (h t a)
theorem scL.K {K : Nat} {l : List Nat} {u v w : Vf} (h : scL l u v) (e : scK K v w) (hl : 33 ∈ l ∧ 34 ∈ l ∧ 35 ∈ l ∧ 36 ∈ l ∧ 61 ∈ l ∧ K ∈ l) : scL l u w := fun t a => (e t (fun q => a (q ▸ hl.1)) (fun q => a (q ▸ hl.2.1)) (fun q => a (q ▸ hl.2.2.1)) (fun q => a (q ▸ hl.2.2.2.1)) (fun q => a (q ▸ hl.2.2.2.2.1)) (fun q => a (q ▸ hl.2.2.2.2.2))).trans (h t a)
theorem scL.mem {l : List Nat} {v w : Vf} (h : scL l v w) {r : List Nat} (hr : ∀ t ∈ r, t ∉ l) : ∀ t ∈ r, w t = v t := fun t ht => h t (hr t ht)
def lWe : List Nat := [33, 34, 35, 36, 61, 55, 56, 57]
theorem rd_well {v w : Vf} {y : Int32} (h : RdM v) (e : scL lWe v w) (hw : 1 ≤ (v 37 0).toInt ∧ 1 ≤ (v 38 0).toInt) (hc : (v 55 0).toInt ≤ 4) (hx : (w 55 0).toInt = (v 55 0).toInt + 1) (e1 : w 57 = upd (v 57) (v 55 0).toNatClampNeg y) (hy : 0 ≤ y.toInt ∧ y.toInt ≤ 99) : RdM w := by
  have q := e.mem (r := [37, 38, 39, 40, 41, 43, 44, 45, 46, 48, 51, 58]) (by decide)
  have k0 := i_nat h.2.1.2.2.2.2.1.1
  obtain ⟨a1, a2, a3, a4, a5, a6⟩ := h
  unfold rdG rdC rdZ rdMo rdB rdD at *
  unfold RdM rdG rdC rdZ rdMo rdB rdD
  rw [q 37 (by decide), q 38 (by decide), q 39 (by decide), q 40 (by decide), q 41 (by decide), q 43 (by decide), q 44 (by decide), q 45 (by decide), q 46 (by decide), q 48 (by decide), q 51 (by decide), q 58 (by decide), e1]
  refine ⟨a1, ⟨a2.1, a2.2.1, a2.2.2.1, a2.2.2.2.1, by omega, a2.2.2.2.2.2⟩, Or.inl hw, a4, a5, fun j hj => ?_⟩
  unfold upd
  split
  · exact hy
  · exact a6 j (by omega)
/-- a moon told -/
def lMo : List Nat := [33, 34, 35, 36, 61, 43, 44, 45, 46, 47]
def moF (m : Nat) (v w : Vf) : Prop := scL lMo v w ∧ ∀ j, j < m → w 44 j = v 44 j ∧ w 45 j = v 45 j ∧ w 46 j = v 46 j
theorem moF.rf {m : Nat} {v : Vf} : moF m v v := ⟨scL.rf, fun _ _ => ⟨rfl, rfl, rfl⟩⟩
theorem moF.sn {m : Nat} {u v w : Vf} (h : moF m u v) (e : sn v w) : moF m u w := ⟨h.1.sn e (by decide), fun j hj => by
  rw [e 44 (by decide) (by decide) (by decide) (by decide), e 45 (by decide) (by decide) (by decide) (by decide), e 46 (by decide) (by decide) (by decide) (by decide)]
  exact h.2 j hj⟩
theorem moF.up {m k j : Nat} {v w : Vf} {x : Int32} (h : moF m v w) (hk : k = 34 ∨ k = 43 ∨ k = 47) : moF m v (up2 w k j x) := by
  rcases hk with rfl | rfl | rfl
  · exact ⟨h.1.up (by decide), h.2⟩
  · exact ⟨h.1.up (by decide), h.2⟩
  · exact ⟨h.1.up (by decide), h.2⟩
theorem upd_lt {f : Nat → Int32} {j m : Nat} {x : Int32} (h : j < m) : upd f m x j = f j := by
  unfold upd
  rw [if_neg (by omega)]
theorem moF.m44 {m : Nat} {v w : Vf} {x : Int32} (h : moF m v w) : moF m v (up2 w 44 m x) := ⟨h.1.up (by decide), fun j hj => ⟨(show upd (w 44) m x j = _ from (upd_lt hj).trans (h.2 j hj).1), (h.2 j hj).2⟩⟩
theorem moF.k45 {m : Nat} {v w u : Vf} {x : Int32} (h : moF m v w) (e : scK 45 w u) (e1 : u 45 = upd (w 45) m x) : moF m v u := ⟨h.1.K e (by decide), fun j hj => by
  have q := e.mem (l := [44, 46]) (by decide)
  rw [q 44 (by decide), q 46 (by decide), e1, upd_lt hj]
  exact h.2 j hj⟩
theorem moF.k46 {m : Nat} {v w u : Vf} {x : Int32} (h : moF m v w) (e : scK 46 w u) (e1 : u 46 = upd (w 46) m x) : moF m v u := ⟨h.1.K e (by decide), fun j hj => by
  have q := e.mem (l := [44, 45]) (by decide)
  rw [q 44 (by decide), q 45 (by decide), e1, upd_lt hj]
  exact h.2 j hj⟩
theorem upd_at {f : Nat → Int32} {m : Nat} {x : Int32} : upd f m x m = x := by
  unfold upd
  rw [if_pos rfl]
theorem rd_moon {v w : Vf} (h : RdM v) (e : moF (v 43 0).toNatClampNeg v w) (hw : 1 ≤ (v 37 0).toInt ∧ 1 ≤ (v 38 0).toInt) (hc : (v 43 0).toInt ≤ 2) (hx : (w 43 0).toInt = (v 43 0).toInt + 1) (h4 : 2 ≤ (w 44 (v 43 0).toNatClampNeg).toInt ∧ (w 44 (v 43 0).toNatClampNeg).toInt ≤ 9) (h5 : 0 ≤ (w 45 (v 43 0).toNatClampNeg).toInt ∧ (w 45 (v 43 0).toNatClampNeg).toInt ≤ 8) (h6 : 0 ≤ (w 46 (v 43 0).toNatClampNeg).toInt ∧ (w 46 (v 43 0).toNatClampNeg).toInt ≤ 8) : RdM w := by
  have q := e.1.mem (r := [37, 38, 39, 40, 41, 48, 51, 55, 57, 58]) (by decide)
  have k0 := i_nat h.2.1.2.1.1
  obtain ⟨a1, a2, a3, a4, a5, a6⟩ := h
  unfold rdG rdC rdZ rdMo rdB rdD at *
  unfold RdM rdG rdC rdZ rdMo rdB rdD
  rw [q 37 (by decide), q 38 (by decide), q 39 (by decide), q 40 (by decide), q 41 (by decide), q 48 (by decide), q 51 (by decide), q 55 (by decide), q 57 (by decide), q 58 (by decide)]
  refine ⟨a1, ⟨a2.1, by omega, a2.2.2⟩, Or.inl hw, fun j hj => ?_, a5, a6⟩
  rcases Nat.lt_or_ge j (v 43 0).toNatClampNeg with z | z
  · rw [(e.2 j z).1, (e.2 j z).2.1, (e.2 j z).2.2]
    exact a4 j (by omega)
  · rw [show j = (v 43 0).toNatClampNeg by omega]
    exact ⟨h4, h5, h6⟩
end
section
/-! ===== the reference's reading against the spec: what is told so far, by its places 31, 32 and 37 .. 60 ===== -/
def SM (S : St0) (vm : Vf) : Prop := ∀ t, (t = 31 ∨ t = 32) ∨ (37 ≤ t ∧ t ≤ 60) → ∀ j, S t j = (vm t j).toInt
theorem SM.at {S : St0} {vm : Vf} (h : SM S vm) (t : Nat) (h1 : (t = 31 ∨ t = 32) ∨ (37 ≤ t ∧ t ≤ 60)) : S t = fI (vm t) := funext (h t h1)
theorem SM.sc {S : St0} {v w : Vf} (h : SM S v) (e : sc v w) : SM S w := fun t h1 j => by
  rw [e t (by omega) (by omega) (by omega) (by omega) (by omega)]
  exact h t h1 j
theorem SM.sn {S : St0} {v w : Vf} (h : SM S v) (e : sn v w) : SM S w := h.sc e.sc
theorem SM.step {S : St0} {v w : Vf} {K k n : Nat} {x : Int32} (h : SM S v) (e : scK K v w) (f : w K = upd (v K) k x) (hk : k = n) : SM (upS S K n x.toInt) w := fun t h1 j => by
  subst hk
  by_cases q : t = K
  · subst q
    show cond (Nat.beq t t && Nat.beq j k) x.toInt (S t j) = (w t j).toInt
    rw [f, Nat.beq_refl, Bool.true_and]
    by_cases q2 : j = k
    · subst q2
      rw [updA, Nat.beq_refl]
      rfl
    · rw [updN q2, beqN q2]
      exact h t h1 j
  · show cond (Nat.beq t K && Nat.beq j k) x.toInt (S t j) = (w t j).toInt
    rw [beqN q, e t (by omega) (by omega) (by omega) (by omega) (by omega) q]
    exact h t h1 j
theorem SM.up {S : St0} {v : Vf} {K k : Nat} {x : Int32} (h : SM S v) : SM (upS S K k x.toInt) (up2 v K k x) :=
  h.step (K := K) (k := k) (fun t _ _ _ _ _ q => up2_ne q) (by show cond (Nat.beq K K) (upd (v K) k x) (v K) = _; rw [Nat.beq_refl]; rfl) rfl
/-- a count went up by one -/
theorem SM.cnt {S : St0} {v w : Vf} {K : Nat} {x : Int32} (h : SM S v) (e : up2 v K 0 x = w) (hx : x.toInt = S K 0 + 1) : SM (upS S K 0 (S K 0 + 1)) w := by
  subst e
  rw [← hx]
  exact h.up
theorem cellx {w d n x a b : Int32} {z : (Int × Int × Int) × (Int × Int × Int)} (hw : 0 ≤ w.toInt ∧ w.toInt ≤ 6) (hc : w.toInt * d.toInt ≤ 24) (ea : a = w * n) (eb : b = a + x) (hx : 0 ≤ x.toInt ∧ x.toInt < w.toInt) (hn : 0 ≤ n.toInt ∧ n.toInt < d.toInt) (h1 : x.toInt = z.1.1) (h2 : n.toInt = z.2.1) : b.toInt = plc w.toInt z := by
  have q := mcell_lt hw hc hx.1 hx.2 hn.1 hn.2
  have p0 : 0 ≤ w.toInt * n.toInt := Int.mul_nonneg hw.1 hn.1
  have ta := i_mul ea (by omega)
  have tb := i_add eb (by omega)
  unfold plc
  rw [← h1, ← h2, tb, ta]
theorem am_1 {f : Nat → Int} {c i s : Int} (h : (s = 1 ∧ anyE f c i.toNat = true) ∨ (s = 0 ∧ anyE f c i.toNat = false)) (hi : 0 ≤ i) (hs : s ≠ 0 ∨ f i.toNat = c) : anyE f c (i + 1).toNat = true := by
  rw [show (i + 1).toNat = i.toNat + 1 by omega]
  show (anyE f c i.toNat || decide (f i.toNat = c)) = true
  rcases hs with q | q
  · rw [(h.resolve_right (fun z => q z.1)).2]
    rfl
  · rw [decide_eq_true q, Bool.or_true]
theorem am_0 {f : Nat → Int} {c i s : Int} (h : (s = 1 ∧ anyE f c i.toNat = true) ∨ (s = 0 ∧ anyE f c i.toNat = false)) (hi : 0 ≤ i) (hs : s = 0) (hx : f i.toNat ≠ c) : anyE f c (i + 1).toNat = false := by
  rw [show (i + 1).toNat = i.toNat + 1 by omega]
  show (anyE f c i.toNat || decide (f i.toNat = c)) = false
  rw [(h.resolve_left (fun z => by omega)).2, decide_eq_false hx]
  rfl
theorem am2_1 {f g : Nat → Int} {c d i s : Int} (h : (s = 1 ∧ anyE2 f g c d i.toNat = true) ∨ (s = 0 ∧ anyE2 f g c d i.toNat = false)) (hi : 0 ≤ i) (hs : s ≠ 0 ∨ (f i.toNat = c ∧ g i.toNat = d)) : anyE2 f g c d (i + 1).toNat = true := by
  rw [show (i + 1).toNat = i.toNat + 1 by omega]
  show (anyE2 f g c d i.toNat || decide (f i.toNat = c ∧ g i.toNat = d)) = true
  rcases hs with q | q
  · rw [(h.resolve_right (fun z => q z.1)).2]
    rfl
  · rw [decide_eq_true q, Bool.or_true]
theorem am2_0 {f g : Nat → Int} {c d i s : Int} (h : (s = 1 ∧ anyE2 f g c d i.toNat = true) ∨ (s = 0 ∧ anyE2 f g c d i.toNat = false)) (hi : 0 ≤ i) (hs : s = 0) (hx : ¬ (f i.toNat = c ∧ g i.toNat = d)) : anyE2 f g c d (i + 1).toNat = false := by
  rw [show (i + 1).toNat = i.toNat + 1 by omega]
  show (anyE2 f g c d i.toNat || decide (f i.toNat = c ∧ g i.toNat = d)) = false
  rw [(h.resolve_left (fun z => by omega)).2, decide_eq_false hx]
  rfl
/-! steps of the reference -/
theorem chk_off {P : Prop} [Decidable P] {k q : Int} (h : ¬ P) : chk (decide P) k q = .inr () := by
  rw [decide_eq_false h]
  rfl
theorem chk_on {P : Prop} [Decidable P] {k q : Int} (h : P) : chk (decide P) k q = .inl (k, q) := by
  rw [decide_eq_true h]
  rfl
theorem MF.pre1 {α : Type} {c : Rd Unit} {a : Rd α} {w r w' : Int} {ok : α → Prop} (hc : c = .inr ()) (h : MF a w r w' ok) : MF (th c (fun _ => a)) w r w' (fun z => ok z.2) := by
  subst hc
  rcases h with ⟨k, q, h1, h2, h3⟩ | ⟨x, h1, h2, h3, h4⟩
  · exact MF.no (th_in rfl h1) h2 h3
  · exact MF.ok (th_ok rfl h1) h2 h3 h4
theorem MF.pre {α β : Type} {c : Rd Unit} {a : Rd α} {s : α → Rd β} {w r w' : Int} {ok : α × β → Prop} (hc : c = .inr ()) (h : MF (th a s) w r w' ok) : MF (th (th c (fun _ => a)) (fun z => s z.2)) w r w' (fun z => ok (z.1.2, z.2)) := by
  subst hc
  rcases h with ⟨k, q, h1, h2, h3⟩ | ⟨x, h1, h2, h3, h4⟩
  · refine MF.no ?_ h2 h3
    cases a with
    | inl e => cases h1; rfl
    | inr y =>
      have h1 : rb (s y) (fun z => (.inr (y, z) : Rd (α × β))) = .inl (k, q) := h1
      show rb (s y) _ = _
      cases hs : s y with
      | inl e => rw [hs] at h1; cases h1; rfl
      | inr z => rw [hs] at h1; cases h1
  · obtain ⟨g1, g2⟩ := th_get h1
    exact MF.ok (x := (((), x.1), x.2)) (th_ok (th_ok rfl g1) g2) h2 h3 h4
theorem MF.andOk {α β : Type} {a : Rd α} {s : α → Rd β} {y : β} {w r1 w1 r2 w2 : Int} {ok1 : α → Prop} {ok2 : α × β → Prop} (h1 : MF a w r1 w1 ok1) (hr : r1 = 0) (hk : okF a) (hs : ∀ x, ok1 x → s x = .inr y) (h2 : r2 = 0) (h3 : w2 = w1) (h4 : ∀ x, a = .inr x → ok1 x → ok2 (x, y)) : MF (th a s) w r2 w2 ok2 := by
  rcases h1 with ⟨k, q, q2, q3, q4⟩ | ⟨x, q2, q3, q4, q5⟩
  · have := hk k q q2
    omega
  · exact MF.ok (th_ok q2 (hs x q5)) h2 (by omega) (h4 x q2 q5)
theorem MF.andNo {α β : Type} {a : Rd α} {s : α → Rd β} {k q : Int} {w r1 w1 r2 w2 : Int} {ok1 : α → Prop} {ok2 : α × β → Prop} (h1 : MF a w r1 w1 ok1) (hr : r1 = 0) (hk : okF a) (hs : ∀ x, ok1 x → s x = .inl (k, q)) (h2 : r2 = k) (h3 : w2 = q) : MF (th a s) w r2 w2 ok2 := by
  rcases h1 with ⟨k', q', q2, q3, q4⟩ | ⟨x, q2, q3, q4, q5⟩
  · have := hk k' q' q2
    omega
  · exact MF.no (th_in q2 (hs x q5)) h2 h3
theorem MF.mono2 {α : Type} {a : Rd α} {w r w' : Int} {ok ok' : α → Prop} (h : MF a w r w' ok) (hm : r = 0 → ∀ x, a = .inr x → ok x → ok' x) : MF a w r w' ok' := by
  rcases h with h | ⟨x, q2, q3, q4, q5⟩
  · exact Or.inl h
  · exact MF.ok q2 q3 q4 (hm q3 x q2 q5)
theorem MF.stop3 {α β γ : Type} {a : Rd α} {s : α → Rd β} {s2 : α × β → Rd γ} {w r w' : Int} {ok : α → Prop} {ok2 : (α × β) × γ → Prop} (h : MF a w r w' ok) (hr : r ≠ 0) : MF (th (th a s) s2) w r w' ok2 := MF.stop (MF.stop (ok2 := fun _ => True) h hr) hr
/-- a clause without its ';', of which b is the whole -/
def TK {α β : Type} (a : Rd α) (b : Rd β) (w r w' : Int) (ok : α → Prop) : Prop := (∃ k q, b = .inl (k, q) ∧ r = k ∧ w' = q) ∨ (∃ x, a = .inr x ∧ r = 0 ∧ w' = w ∧ ok x)
theorem MF.tk {α β : Type} {a : Rd α} {s : α → Rd β} {w r w' : Int} {ok : α → Prop} (h : MF a w r w' ok) : TK a (th a s) w r w' ok := by
  rcases h with ⟨k, q, h1, h2, h3⟩ | h
  · exact Or.inl ⟨k, q, th_no h1, h2, h3⟩
  · exact Or.inr h
def houseP (T : Nat → Int32) (n : Int) (S : St0) (wa p : Int) := th (th (th (chk (decide (6 ≤ S 48 0)) 3 wa) (fun _ => placeF T n (S 37 0) (S 38 0) p)) (fun z => chk (anyE (S 49) (plc (S 37 0) z.2) (S 48 0).toNat) 4 z.2.2.2.2)) (fun z => numF T n 0 99 z.1.2.2.2.1)
def wellP (T : Nat → Int32) (n : Int) (S : St0) (wa p : Int) := th (th (th (chk (decide (5 ≤ S 55 0)) 3 wa) (fun _ => placeF T n (S 37 0) (S 38 0) p)) (fun z => chk (anyE (S 56) (plc (S 37 0) z.2) (S 55 0).toNat) 4 z.2.2.2.2)) (fun z => numF T n 0 99 z.1.2.2.2.1)
def cellQ (T : Nat → Int32) (n : Int) (S : St0) (wa p : Int) := th (th (th (chk (decide (12 ≤ S 41 0)) 3 wa) (fun _ => placeF T n (S 37 0) (S 38 0) p)) (fun z => chk (anyE (S 42) (plc (S 37 0) z.2) (S 41 0).toNat) 4 z.2.2.2.2)) (fun z => numF T n 0 99 z.1.2.2.2.1)
def cellP (T : Nat → Int32) (n : Int) (S : St0) (wa p : Int) := th (cellQ T n S wa p) (fun z => numF T n 0 9 z.2.2.1)
def deedQ (T : Nat → Int32) (n : Int) (S : St0) (wa p : Int) := th (th (chk (decide (4 ≤ S 58 0)) 3 wa) (fun _ => numF T n 0 300 p)) (fun z => numF T n 0 300 z.2.2.1)
def deedP (T : Nat → Int32) (n : Int) (S : St0) (wa p : Int) := th (deedQ T n S wa p) (fun z => chk (decide (z.2.1 < z.1.2.1)) 4 z.2.2.2)
def crackQ (T : Nat → Int32) (n : Int) (S : St0) (wa p : Int) := th (th (chk (decide (6 ≤ S 51 0)) 3 wa) (fun _ => placeF T n (S 37 0) (S 38 0) p)) (fun z => numF T n 0 1 z.2.2.2.1)
def crackR (T : Nat → Int32) (n : Int) (S : St0) (wa p : Int) := th (crackQ T n S wa p) (fun z => chk (decide ((z.2.1 = 0 ∧ plc (S 37 0) z.1.2 % S 37 0 = S 37 0 - 1) ∨ (z.2.1 ≠ 0 ∧ plc (S 37 0) z.1.2 / S 37 0 = S 38 0 - 1))) 2 z.2.2.2)
def crackT (T : Nat → Int32) (n : Int) (S : St0) (wa p : Int) := th (crackR T n S wa p) (fun z => chk (anyE2 (S 52) (S 53) (plc (S 37 0) z.1.1.2) z.1.2.1 (S 51 0).toNat) 4 z.1.2.2.2)
def crackP (T : Nat → Int32) (n : Int) (S : St0) (wa p : Int) := th (crackT T n S wa p) (fun z => numF T n 0 60 z.1.1.2.2.1)
def groundQ (T : Nat → Int32) (n : Int) (S : St0) (wa p : Int) := th (th (chk (decide (1 ≤ S 37 0)) 3 wa) (fun _ => numF T n 1 6 p)) (fun z => numF T n 1 6 z.2.2.1)
def groundR (T : Nat → Int32) (n : Int) (S : St0) (wa p : Int) := th (groundQ T n S wa p) (fun z => chk (decide (24 < z.1.2.1 * z.2.1)) 2 z.2.2.2)
def groundT (T : Nat → Int32) (n : Int) (S : St0) (wa p : Int) := th (groundR T n S wa p) (fun z => numF T n 0 99 z.1.2.2.1)
def groundP (T : Nat → Int32) (n : Int) (S : St0) (wa p : Int) := th (groundT T n S wa p) (fun z => numF T n 0 9 z.2.2.1)
def moonQ (T : Nat → Int32) (n : Int) (S : St0) (wa p : Int) := th (th (chk (decide (3 ≤ S 43 0)) 3 wa) (fun _ => numF T n 0 8 p)) (fun z => numF T n 0 8 z.2.2.1)
def moonP (T : Nat → Int32) (n : Int) (S : St0) (wa p : Int) := th (moonQ T n S wa p) (fun z => rowF T n (9 * (S 43 0).toNat) 9 0 z.2.2.1 (S 47))
/-- a clause, but for its ';' -/
def CK (cl : Rd (Int × St0)) (S : St0) (T : Nat → Int32) (n w r w' p : Int) (vm : Vf) : Prop := (∃ k q, cl = .inl (k, q) ∧ r = k ∧ w' = q) ∨ (r = 0 ∧ w' = w ∧ ∃ S', SM S' vm ∧ (S' 31 = S 31 ∧ S' 32 = S 32) ∧ ∀ q, q = skp T n p → (q < n ∧ tc T q = 59 → cl = .inr (q + 1, S')) ∧ (n ≤ q ∨ tc T q ≠ 59 → cl = .inl (1, q)))
theorem TK.ck {α : Type} {a : Rd α} {pos : α → Int} {S : St0} {g : α → St0} {T : Nat → Int32} {n w r w' p : Int} {vm : Vf} (h : TK a (th a (fun z => sgnF T n 59 (pos z))) w r w' (fun x => p = pos x ∧ SM (g x) vm)) (hg : ∀ x, g x 31 = S 31 ∧ g x 32 = S 32) : CK (rb (th a (fun z => sgnF T n 59 (pos z))) (fun z => .inr (z.2, g z.1))) S T n w r w' p vm := by
  rcases h with ⟨k, q, h1, h2, h3⟩ | ⟨x, h1, h2, h3, h4, h5⟩
  · refine Or.inl ⟨k, q, ?_, h2, h3⟩
    rw [h1]
    rfl
  · refine Or.inr ⟨h2, h3, g x, h5, hg x, fun q hq => ⟨fun hs => ?_, fun hs => ?_⟩⟩
    · rw [th_ok (s := fun z => sgnF T n 59 (pos z)) h1 (sgn_ok (by rw [← h4]; exact hq) hs)]
      rfl
    · rw [th_in (s := fun z => sgnF T n 59 (pos z)) h1 (sgn_no (by rw [← h4]; exact hq) hs)]
      rfl
theorem CK.bad {cl : Rd (Int × St0)} {S : St0} {T : Nat → Int32} {n w r w' p : Int} {vm : Vf} {ok : Int × St0 → Prop} (h : CK cl S T n w r w' p vm) (hr : r ≠ 0) : MF cl w r w' ok := by
  rcases h with ⟨k, q, h1, h2, h3⟩ | h
  · exact MF.no h1 h2 h3
  · exact absurd h.1 hr
theorem CK.no {cl : Rd (Int × St0)} {S : St0} {T : Nat → Int32} {n w r w' p q r2 w2 : Int} {vm : Vf} {ok : Int × St0 → Prop} (h : CK cl S T n w r w' p vm) (hk : okF cl) (hr : r = 0) (hq : q = skp T n p) (hs : n ≤ q ∨ tc T q ≠ 59) (h2 : r2 = 1) (h3 : w2 = q) : MF cl w r2 w2 ok := by
  rcases h with ⟨k, q, h1, h2, h3⟩ | ⟨-, h4, S', h5, h7, h6⟩
  · have := hk k q h1
    omega
  · exact MF.no ((h6 q hq).2 hs) h2 h3
theorem CK.ok {cl : Rd (Int × St0)} {S : St0} {T : Nat → Int32} {n w r w' p q p2 r2 w2 : Int} {vm vm2 : Vf} (h : CK cl S T n w r w' p vm) (hk : okF cl) (hr : r = 0) (hq : q = skp T n p) (hs : q < n ∧ tc T q = 59) (h2 : r2 = 0) (h3 : w2 = w') (hp : p2 = q + 1) (e : sc vm vm2) : MF cl w r2 w2 (fun y => p2 = y.1 ∧ SM y.2 vm2) := by
  rcases h with ⟨k, q, h1, h2, h3⟩ | ⟨-, h4, S', h5, h7, h6⟩
  · have := hk k q h1
    omega
  · exact MF.ok ((h6 q hq).1 hs) h2 (by omega) ⟨hp, h5.sc e⟩
theorem fI_inj {f g : Nat → Int32} (h : ∀ j, (f j).toInt = (g j).toInt) : f = g := funext (fun j => Int32.toInt_inj.mp (h j))
theorem CK.txt {cl : Rd (Int × St0)} {S : St0} {T : Nat → Int32} {n w r w' p : Int} {vm v : Vf} (h : CK cl S T n w r w' p vm) (hk : okF cl) (hr : r = 0) (h0 : SM S v) : vm 31 = v 31 ∧ vm 32 = v 32 := by
  rcases h with ⟨k, q, h1, h2, h3⟩ | ⟨-, h4, S', h5, h7, h6⟩
  · have := hk k q h1
    omega
  · exact ⟨fI_inj (fun j => by rw [← h5 31 (by decide) j, h7.1]; exact h0 31 (by decide) j), fI_inj (fun j => by rw [← h5 32 (by decide) j, h7.2]; exact h0 32 (by decide) j)⟩
theorem skp_id {T : Nat → Int32} {n p : Int} (h : n ≤ p ∨ tc T p ≠ 32) : skp T n p = p := skp_stop h
theorem skp_le {T : Nat → Int32} {n p : Int} : p ≤ skp T n p := skp_ge _ _
theorem skp_end {T : Nat → Int32} {n : Int} : ∀ (f : Nat) (p : Int), (n - p).toNat ≤ f → n ≤ skF T n f p ∨ tc T (skF T n f p) ≠ 32
  | 0, p, h => Or.inl (by show n ≤ p; omega)
  | f + 1, p, h => by
    show n ≤ (if p < n ∧ tc T p = 32 then skF T n f (p + 1) else p) ∨ tc T (if p < n ∧ tc T p = 32 then skF T n f (p + 1) else p) ≠ 32
    by_cases q : p < n ∧ tc T p = 32
    · rw [if_pos q]
      exact skp_end f (p + 1) (by omega)
    · rw [if_neg q]
      omega
theorem skp_skp {T : Nat → Int32} {n p : Int} : skp T n (skp T n p) = skp T n p := skp_stop (skp_end _ _ (Nat.le_refl _))
/-! a row of a moon, as the reference reads it -/
theorem moon_no {T : Nat → Int32} {n : Int} {S : St0} {wa p : Int} {x : (Unit × (Int × Int × Int)) × (Int × Int × Int)} {k q : Int} (h : moonQ T n S wa p = .inr x) (hr : rowF T n (9 * (S 43 0).toNat) 9 0 x.2.2.1 (S 47) = .inl (k, q)) : moonF T n S wa p = .inl (k, q) := by
  unfold moonQ at h
  unfold moonF
  rw [h]
  generalize 9 * (S 43 0).toNat = b at hr ⊢
  generalize S 47 = s at hr ⊢
  show rb (rb (rowF T n b 9 0 x.2.2.1 s) _) _ = _
  rw [hr]
  rfl
theorem moon_ok {T : Nat → Int32} {n : Int} {S : St0} {wa p : Int} {x : (Unit × (Int × Int × Int)) × (Int × Int × Int)} {y : Nat × Int × (Nat → Int)} (h : moonQ T n S wa p = .inr x) (hr : rowF T n (9 * (S 43 0).toNat) 9 0 x.2.2.1 (S 47) = .inr y) : moonP T n S wa p = .inr (x, y) := by
  unfold moonP
  rw [h]
  generalize 9 * (S 43 0).toNat = b at hr ⊢
  generalize S 47 = s at hr ⊢
  show rb (rowF T n b 9 0 x.2.2.1 s) _ = _
  rw [hr]
  rfl
theorem moon_10 {T : Nat → Int32} {n : Int} {S : St0} {wa p : Int} {x : (Unit × (Int × Int × Int)) × (Int × Int × Int)} {i : Nat} {q : Int} {s : Nat → Int} (h : moonQ T n S wa p = .inr x) (hr : rowF T n (9 * (S 43 0).toNat) 9 0 x.2.2.1 (S 47) = .inr (i, q, s)) (hq : q = skp T n q) (hs : n ≤ q ∨ tc T q ≠ 59) : moonF T n S wa p = .inl (1, q) := by
  have e1 := moon_ok h hr
  have e2 : sgnF T n 59 q = .inl (1, q) := sgn_no hq hs
  have e3 : moonF T n S wa p = th (moonP T n S wa p) (fun z => sgnF T n 59 z.2.2.1) := by unfold moonF moonP moonQ; rfl
  rw [e3, e1]
  show rb (sgnF T n 59 q) _ = _
  rw [e2]
  rfl
/-- the text so far, as the reference's loop has it -/
def TxM (T : Nat → Int32) (n : Int) (S0 : St0) (i : Nat) (p f w : Int) (S : St0) (vm : Vf) : Prop :=
  (f ≠ 0 ∧ textF T n 251 0 S0 = .inl (f, w)) ∨ (f = 0 ∧ w = -1 ∧ textF T n 251 0 S0 = textF T n (251 - i) p S ∧ SM S vm)
theorem TxM.next {T : Nat → Int32} {n : Int} {S0 S : St0} {i : Nat} {p z f w r w1 p1 : Int} {vm vm1 : Vf} (h : TxM T n S0 i p f w S vm) (hf : f = 0) (hi : i < 251) (hz : z = skp T n p) (hn : z < n) (hc : MF (clauseF T n S z) w r w1 (fun y => p1 = y.1 ∧ SM y.2 vm1)) : TxM T n S0 (i + 1) p1 r w1 (nextS (clauseF T n S z) S) vm1 := by
  rcases h with h | ⟨h1, h2, h3, h4⟩
  · exact absurd hf h.1
  · rw [show 251 - i = (251 - (i + 1)) + 1 by omega] at h3
    rcases hc with ⟨k, q, q1, q2, q3⟩ | ⟨y, q1, q2, q3, q4⟩
    · have := okF.clause _ _ q1
      exact Or.inl ⟨by omega, by rw [h3, tx_no hz hn q1, q2, q3]⟩
    · refine Or.inr ⟨q2, by omega, ?_, ?_⟩
      · rw [h3, tx_on hz hn q1, q1]
        obtain ⟨y1, y2⟩ := y
        have e : p1 = y1 := q4.1
        subst e
        rfl
      · rw [q1]
        exact q4.2
/-- what ground says of a text -/
def GrM (a : Rd St0) (r w : Int) (ok : St0 → Prop) : Prop := (∃ k q, a = .inl (k, q) ∧ r = -10 - k ∧ w = q) ∨ (∃ S, a = .inr S ∧ r = S 37 0 * S 38 0 ∧ w = -1 ∧ ok S)
theorem TxM.bad {T : Nat → Int32} {n : Int} {S0 S : St0} {i : Nat} {p f w r : Int} {vm : Vf} {ok : St0 → Prop} (h : TxM T n S0 i p f w S vm) (hf : f ≠ 0) (hr : r = -10 - f) : GrM (textF T n 251 0 S0) r w ok := by
  rcases h with ⟨h1, h2⟩ | h
  · exact Or.inl ⟨f, w, h2, hr, rfl⟩
  · exact absurd h.1 hf
theorem TxM.fin {T : Nat → Int32} {n : Int} {S0 S : St0} {i : Nat} {p f w : Int} {vm : Vf} (h : TxM T n S0 i p f w S vm) (hf : f = 0) (he : n ≤ skp T n p) : w = -1 ∧ textF T n 251 0 S0 = .inr S ∧ SM S vm := by
  rcases h with h | ⟨h1, h2, h3, h4⟩
  · exact absurd hf h.1
  · exact ⟨h2, h3.trans (tx_end he), h4⟩
def gr0 (v : Vf) : Vf := up2 (up2 (up2 (up2 (up2 (up2 (up2 (up2 (up2 (up2 v 33 0 (-1)) 34 0 0) 37 0 0) 38 0 0) 41 0 0) 43 0 0) 48 0 0) 51 0 0) 55 0 0) 58 0 0
def SI (v : Vf) : St0 := fun t j => (v t j).toInt
theorem SM_SI {v : Vf} : SM (SI v) v := fun _ _ _ => rfl
theorem z0_gr0 {v : Vf} : Z0 (SI (gr0 v)) := by
  have z : (0 : Int32).toInt = 0 := by decide
  exact ⟨z, z, z, z, z, z, z, z⟩
/-- a letter comes behind the text -/
def FeedR (x : Int32) (f : Nat → Int32) (c : Int32) (f' : Nat → Int32) (c' : Int32) : Prop := (c' = c ∧ f' = f ∧ (x.toInt < 0 ∨ 255 < x.toInt ∨ 250 ≤ c.toInt)) ∨ ((0 ≤ x.toInt ∧ x.toInt ≤ 255) ∧ c.toInt < 250 ∧ f' = upd f c.toNatClampNeg x ∧ c'.toInt = c.toInt + 1)
theorem okF.text {T : Nat → Int32} {n : Int} : ∀ (f : Nat) (p : Int) (S : St0), okF (textF T n f p S)
  | 0, p, S => fun k q h => by cases h
  | f + 1, p, S => fun k q h => by
    by_cases hn : skp T n p < n
    · cases hc : clauseF T n S (skp T n p) with
      | inl e => obtain ⟨k1, q1⟩ := e; rw [tx_no rfl hn hc] at h; cases h; exact okF.clause _ _ hc
      | inr y => rw [tx_on rfl hn hc] at h; exact okF.text f _ _ _ _ h
    · rw [tx_end (by omega)] at h; cases h
theorem CF.gr {α : Type} {a : Rd α} {g w : Int} {ok : α → Prop} (h : CF a 0 (-1) g w ok) (hk : okF a) : (g ≠ 0 → (1 ≤ g ∧ g ≤ 4) ∧ a = .inl (g, w)) ∧ (g = 0 → w = -1 ∧ ∃ S, a = .inr S ∧ ok S) := by
  rcases h with h | ⟨-, ⟨k, q, q2, q3, q4⟩ | ⟨x, q2, q3, q4, q5⟩⟩
  · exact absurd rfl h.1
  · have := hk k q q2
    subst q3 q4
    exact ⟨fun _ => ⟨this, q2⟩, fun z => by omega⟩
  · exact ⟨fun z => absurd q3 z, fun _ => ⟨q4, x, q2, q5⟩⟩
theorem GrM.mono {a : Rd St0} {r w : Int} {ok ok' : St0 → Prop} (h : GrM a r w ok) (hm : ∀ S, ok S → ok' S) : GrM a r w ok' := by
  rcases h with h | ⟨S, h1, h2, h3, h4⟩
  · exact Or.inl h
  · exact Or.inr ⟨S, h1, h2, h3, hm S h4⟩
theorem GrM.fn {a : Rd St0} {r w r' w' : Int} {ok ok' : St0 → Prop} (h : GrM a r w ok) (h' : GrM a r' w' ok') : r = r' ∧ w = w' := by
  rcases h with ⟨k, q, h1, h2, h3⟩ | ⟨S, h1, h2, h3, h4⟩
  · rcases h' with ⟨k', q', g1, g2, g3⟩ | ⟨S', g1, g2, g3, g4⟩
    · rw [h1] at g1
      cases g1
      omega
    · rw [h1] at g1
      cases g1
  · rcases h' with ⟨k', q', g1, g2, g3⟩ | ⟨S', g1, g2, g3, g4⟩
    · rw [h1] at g1
      cases g1
    · rw [h1] at g1
      cases g1
      exact ⟨h2.trans g2.symm, h3.trans g3.symm⟩
end
