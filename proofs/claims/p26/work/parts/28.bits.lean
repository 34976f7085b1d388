/-! ===== three shifts in one number, four bits each ===== -/
def shOK (x : Int32) : Prop := (0 ≤ (x &&& 15).toInt ∧ (x &&& 15).toInt ≤ 8) ∧ (0 ≤ ((x >>> ((4 : Int32) &&& 31)) &&& 15).toInt ∧ ((x >>> ((4 : Int32) &&& 31)) &&& 15).toInt ≤ 8) ∧ (0 ≤ ((x >>> ((8 : Int32) &&& 31)) &&& 15).toInt ∧ ((x >>> ((8 : Int32) &&& 31)) &&& 15).toInt ≤ 8)
def shMk (a b c : Int32) : Int32 := (a ||| (b <<< ((4 : Int32) &&& 31))) ||| (c <<< ((8 : Int32) &&& 31))
set_option maxRecDepth 100000 in
theorem sh_all : ∀ a : Fin 9, ∀ b : Fin 9, ∀ c : Fin 9, ((0 ≤ (shMk (Int32.ofNat a) (Int32.ofNat b) (Int32.ofNat c) &&& 15).toInt ∧ (shMk (Int32.ofNat a) (Int32.ofNat b) (Int32.ofNat c) &&& 15).toInt ≤ 8) ∧ (0 ≤ ((shMk (Int32.ofNat a) (Int32.ofNat b) (Int32.ofNat c) >>> ((4 : Int32) &&& 31)) &&& 15).toInt ∧ ((shMk (Int32.ofNat a) (Int32.ofNat b) (Int32.ofNat c) >>> ((4 : Int32) &&& 31)) &&& 15).toInt ≤ 8) ∧ (0 ≤ ((shMk (Int32.ofNat a) (Int32.ofNat b) (Int32.ofNat c) >>> ((8 : Int32) &&& 31)) &&& 15).toInt ∧ ((shMk (Int32.ofNat a) (Int32.ofNat b) (Int32.ofNat c) >>> ((8 : Int32) &&& 31)) &&& 15).toInt ≤ 8)) := by decide +kernel
theorem i_fin {x : Int32} {n : Nat} (h0 : 0 ≤ x.toInt) (h1 : x.toInt < (n : Int)) : ∃ a : Fin n, x = Int32.ofNat a := by
  have hr := i_rng x
  refine ⟨⟨x.toInt.toNat, by omega⟩, i_eqr ?_⟩
  rw [Int32.toInt_ofNat_of_lt (by simp only []; omega)]
  simp only []
  omega
theorem sh_mk {a b c : Int32} (ha : 0 ≤ a.toInt ∧ a.toInt ≤ 8) (hb : 0 ≤ b.toInt ∧ b.toInt ≤ 8) (hc : 0 ≤ c.toInt ∧ c.toInt ≤ 8) : shOK (shMk a b c) := by
  obtain ⟨i, rfl⟩ := i_fin (n := 9) ha.1 (by omega)
  obtain ⟨j, rfl⟩ := i_fin (n := 9) hb.1 (by omega)
  obtain ⟨k, rfl⟩ := i_fin (n := 9) hc.1 (by omega)
  exact sh_all i j k
theorem sh_0 (x : Int32) : x >>> (((4 : Int32) * 0) &&& 31) = x := by
  have h : ((4 : Int32) * 0) &&& 31 = 0 := by decide
  rw [h]
  simp
def fitI (fc : Int32) (f : Nat → Int32) : Prop := (0 ≤ fc.toInt ∧ fc.toInt ≤ 729) ∧ ∀ j : Nat, (j : Int) < fc.toInt → shOK (f j)
theorem fit_up {fc x z : Int32} {f : Nat → Int32} (h : fitI fc f) (hlt : fc.toInt < 729) (hx : shOK x) (hz : z.toInt = fc.toInt + 1) : fitI z (upd f fc.toNatClampNeg x) := by
  have e := i_nat h.1.1
  refine ⟨⟨by have := h.1.1; omega, by omega⟩, fun j hj => ?_⟩
  unfold upd
  split
  · exact hx
  · exact h.2 j (by omega)
def SgI (sn : Int32) (s2 s3 : Nat → Int32) (l1 : Int32) : Prop := (0 ≤ sn.toInt ∧ sn.toInt ≤ 12) ∧ (∀ j, j < 12 → 0 ≤ (s2 j).toInt ∧ (s2 j).toInt ≤ 23) ∧ (∀ j, j < 12 → 0 ≤ (s3 j).toInt ∧ (s3 j).toInt ≤ 999) ∧ (0 ≤ l1.toInt ∧ l1.toInt ≤ 23)
