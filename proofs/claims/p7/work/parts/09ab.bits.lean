/-! bits of a set, pairs -/
def hasB (s k : Int32) : Prop := ¬ ((s >>> (k &&& 31)) &&& 1) = 0
theorem bit01 (x : Int32) : x &&& 1 = 0 ∨ x &&& 1 = 1 := by
  have h1 : (x &&& 1).toBitVec = x.toBitVec &&& 1#32 := rfl
  have h2 : (x.toBitVec &&& 1#32).toNat = x.toBitVec.toNat % 2 ^ 1 := by
    rw [BitVec.toNat_and]
    exact Nat.and_two_pow_sub_one_eq_mod _ 1
  have z0 : (0 : Int32).toBitVec.toNat = 0 := rfl
  have z1 : (1 : Int32).toBitVec.toNat = 1 := rfl
  rcases (show x.toBitVec.toNat % 2 ^ 1 = 0 ∨ x.toBitVec.toNat % 2 ^ 1 = 1 by omega) with q | q
  · exact Or.inl (Int32.toBitVec_inj.mp (BitVec.eq_of_toNat_eq (by rw [h1, h2, q, z0])))
  · exact Or.inr (Int32.toBitVec_inj.mp (BitVec.eq_of_toNat_eq (by rw [h1, h2, q, z1])))
theorem has_y {x y z : Int32} (ex : y = x &&& 1) (h : y = 1) (hz : z.toInt ≠ 0) : z.toInt ≠ 0 ↔ ¬ y = 0 := ⟨fun _ q => by rw [h] at q; exact absurd q (by decide), fun _ => hz⟩
theorem has_n {x y z : Int32} (ex : y = x &&& 1) (h : ¬ y = 1) (hz : z.toInt = 0) : z.toInt ≠ 0 ↔ ¬ y = 0 := ⟨fun q => absurd hz q, fun q => by
  rcases bit01 x with e | e
  · exact absurd (ex.trans e) q
  · exact absurd (ex.trans e) h⟩
noncomputable def mOP (v : Vf) (p : Int32) : Int32 := @ite _ (0 ≤ p.toInt ∧ mIn v (p / 10) (p - p / 10 * 10)) (Classical.propDecidable _) (v 0 0 * (p - p / 10 * 10) + p / 10) (-1)
theorem op_neg {v : Vf} {p r : Int32} (h : p.toInt < 0) (hr : r.toInt = -1) : r = mOP v p := by
  unfold mOP
  rw [if_neg (fun q => by have := q.1; omega)]
  exact i_eqr (by rw [hr]; decide)
theorem op_eq {v : Vf} {p r X Y : Int32} (hG : mdG v) (h0 : 0 ≤ p.toInt) (hX : X = p / 10) (hY : Y = p - p / 10 * 10) (h : (r.toInt = -1 ∧ (X.toInt < 0 ∨ (v 0 0).toInt ≤ X.toInt ∨ Y.toInt < 0 ∨ (v 1 0).toInt ≤ Y.toInt)) ∨ (r.toInt = (v 0 0).toInt * Y.toInt + X.toInt ∧ (0 ≤ X.toInt ∧ X.toInt < (v 0 0).toInt) ∧ 0 ≤ Y.toInt ∧ Y.toInt < (v 1 0).toInt)) : r = mOP v p := by
  obtain ⟨g1, g2, g3⟩ := hG
  unfold mOP
  rw [← hY, ← hX]
  rcases h with ⟨h1, h2⟩ | ⟨h1, h2, h3⟩
  · rw [if_neg (fun q => by obtain ⟨-, ⟨q1, q2⟩, q3, q4⟩ := q; omega)]
    exact i_eqr (by rw [h1]; decide)
  · rw [if_pos ⟨h0, h2, h3⟩]
    have hb := mul_b (a := (v 0 0).toInt) (b := Y.toInt) (A := 6) (B := 6) (by omega) (by omega)
    have t1 := i_mul (z := v 0 0 * Y) rfl (by omega)
    have t2 := i_add (z := v 0 0 * Y + X) rfl (by omega)
    exact i_eqr (by omega)
