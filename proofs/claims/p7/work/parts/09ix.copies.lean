/-! ===== what the reference takes over of a text, and the period ===== -/
def CpA (v w : Vf) (i : Int) : Prop := ∀ j : Nat, (j : Int) < i → v 2 j = w 39 j ∧ v 3 j = w 40 j
def CpB (v w : Vf) (i : Int) : Prop := ∀ j : Nat, (j : Int) < i → v 5 j = (if (j : Int) < (w 43 0).toInt then w 44 j else 1) ∧ v 6 j = w 45 j ∧ v 7 j = w 46 j
def CpC (v w : Vf) (i : Int) : Prop := ∀ j : Nat, (j : Int) < i → v 8 j = w 47 j
def CpD (v w : Vf) (i : Int) : Prop := ∀ j : Nat, (j : Int) < i → v 10 j = w 49 j ∧ v 11 j = w 50 j ∧ v 13 j = w 52 j ∧ v 14 j = w 53 j ∧ v 15 j = w 54 j - 30
def CpE (v w : Vf) (i : Int) : Prop := ∀ j : Nat, (j : Int) < i → v 17 j = w 56 j ∧ v 18 j = w 57 j
def CpF (v w : Vf) (i : Int) : Prop := ∀ j : Nat, (j : Int) < i → v 20 j = w 59 j - 100 ∧ v 21 j = w 60 j - 100
theorem cp_next {f g : Nat → Int32} {i i2 x : Int32} (h : ∀ j : Nat, (j : Int) < i.toInt → f j = g j) (h0 : 0 ≤ i.toInt) (h1 : i2.toInt = i.toInt + 1) (hx : x = g i.toNatClampNeg) : ∀ j : Nat, (j : Int) < i2.toInt → upd f i.toNatClampNeg x j = g j := by
  intro j hj
  have e := i_nat h0
  by_cases q : j = i.toNatClampNeg
  · subst q
    rw [updA]
    exact hx
  · rw [updN q]
    exact h j (by omega)
theorem CpA.next {v w : Vf} {i i2 x y : Int32} (h : CpA v w i.toInt) (h0 : 0 ≤ i.toInt) (h1 : i2.toInt = i.toInt + 1) (hx : x = w 39 i.toNatClampNeg) (hy : y = w 40 i.toNatClampNeg) : CpA (up2 (up2 (up2 v 2 i.toNatClampNeg x) 3 i.toNatClampNeg y) 25 i.toNatClampNeg 0) w i2.toInt := fun j hj => ⟨cp_next (fun j hj => (h j hj).1) h0 h1 hx j hj, cp_next (fun j hj => (h j hj).2) h0 h1 hy j hj⟩
theorem CpB.next {v w : Vf} {i i2 m x y p : Int32} (h : CpB v w i.toInt) (h0 : 0 ≤ i.toInt) (h1 : i2.toInt = i.toInt + 1) (hm : m = (if ((i.toNatClampNeg : Nat) : Int) < (w 43 0).toInt then w 44 i.toNatClampNeg else 1)) (hx : x = w 45 i.toNatClampNeg) (hy : y = w 46 i.toNatClampNeg) : CpB (up2 (up2 (up2 (up2 (up2 v 5 i.toNatClampNeg m) 6 i.toNatClampNeg x) 7 i.toNatClampNeg y) 24 i.toNatClampNeg 0) 22 0 p) w i2.toInt := fun j hj => ⟨cp_next (g := fun j => if (j : Int) < (w 43 0).toInt then w 44 j else 1) (fun j hj => (h j hj).1) h0 h1 hm j hj, cp_next (fun j hj => (h j hj).2.1) h0 h1 hx j hj, cp_next (fun j hj => (h j hj).2.2) h0 h1 hy j hj⟩
theorem CpC.next {v w : Vf} {i i2 x : Int32} (h : CpC v w i.toInt) (h0 : 0 ≤ i.toInt) (h1 : i2.toInt = i.toInt + 1) (hx : x = w 47 i.toNatClampNeg) : CpC (up2 v 8 i.toNatClampNeg x) w i2.toInt := fun j hj => cp_next (fun j hj => h j hj) h0 h1 hx j hj
theorem CpD.next {v w : Vf} {i i2 x y p q r : Int32} (h : CpD v w i.toInt) (h0 : 0 ≤ i.toInt) (h1 : i2.toInt = i.toInt + 1) (hx : x = w 49 i.toNatClampNeg) (hy : y = w 50 i.toNatClampNeg) (hp : p = w 52 i.toNatClampNeg) (hq : q = w 53 i.toNatClampNeg) (hr : r = w 54 i.toNatClampNeg - 30) : CpD (up2 (up2 (up2 (up2 (up2 (up2 v 10 i.toNatClampNeg x) 11 i.toNatClampNeg y) 26 i.toNatClampNeg 0) 13 i.toNatClampNeg p) 14 i.toNatClampNeg q) 15 i.toNatClampNeg r) w i2.toInt := fun j hj => ⟨cp_next (fun j hj => (h j hj).1) h0 h1 hx j hj, cp_next (fun j hj => (h j hj).2.1) h0 h1 hy j hj, cp_next (fun j hj => (h j hj).2.2.1) h0 h1 hp j hj, cp_next (fun j hj => (h j hj).2.2.2.1) h0 h1 hq j hj, cp_next (g := fun j => w 54 j - 30) (fun j hj => (h j hj).2.2.2.2) h0 h1 hr j hj⟩
theorem CpE.next {v w : Vf} {i i2 x y : Int32} (h : CpE v w i.toInt) (h0 : 0 ≤ i.toInt) (h1 : i2.toInt = i.toInt + 1) (hx : x = w 56 i.toNatClampNeg) (hy : y = w 57 i.toNatClampNeg) : CpE (up2 (up2 v 17 i.toNatClampNeg x) 18 i.toNatClampNeg y) w i2.toInt := fun j hj => ⟨cp_next (fun j hj => (h j hj).1) h0 h1 hx j hj, cp_next (fun j hj => (h j hj).2) h0 h1 hy j hj⟩
theorem CpF.next {v w : Vf} {i i2 x y : Int32} (h : CpF v w i.toInt) (h0 : 0 ≤ i.toInt) (h1 : i2.toInt = i.toInt + 1) (hx : x = w 59 i.toNatClampNeg - 100) (hy : y = w 60 i.toNatClampNeg - 100) : CpF (up2 (up2 v 20 i.toNatClampNeg x) 21 i.toNatClampNeg y) w i2.toInt := fun j hj => ⟨cp_next (g := fun j => w 59 j - 100) (fun j hj => (h j hj).1) h0 h1 hx j hj, cp_next (g := fun j => w 60 j - 100) (fun j hj => (h j hj).2) h0 h1 hy j hj⟩
def lcmS (p s : Int) : Int := p / (Int.gcd p s : Int) * s
def perI (f : Nat → Int) : Nat → Int
  | 0 => 1
  | n + 1 => lcmS (perI f n) (f n)
theorem perI_congr {f g : Nat → Int} : ∀ n : Nat, (∀ j, j < n → f j = g j) → perI f n = perI g n
  | 0, _ => rfl
  | n + 1, h => by
    show lcmS (perI f n) (f n) = lcmS (perI g n) (g n)
    rw [perI_congr n (fun j hj => h j (by omega)), h n (by omega)]
theorem lcm_1 (p : Int) : lcmS p 1 = p := by
  unfold lcmS
  rw [show Int.gcd p 1 = 1 from Nat.gcd_one_right _]
  show p / 1 * 1 = p
  rw [Int.ediv_one, Int.mul_one]
theorem perI_ones {f : Nat → Int} {m : Nat} : ∀ n : Nat, m ≤ n → (∀ j, m ≤ j → j < n → f j = 1) → perI f n = perI f m
  | 0, h, _ => by rw [show m = 0 by omega]
  | n + 1, h, hf => by
    by_cases q : m = n + 1
    · rw [q]
    · show lcmS (perI f n) (f n) = perI f m
      rw [hf n (by omega) (by omega), lcm_1]
      exact perI_ones n (by omega) (fun j h1 h2 => hf j h1 (by omega))
theorem per_next {f : Nat → Int32} {k : Nat} {m z q p d : Int32} (hp : p.toInt = perI (fun j => (f j).toInt) k) (hd : d.toInt = (Int.gcd p.toInt m.toInt : Int)) (eq_ : q = p / d) (ez : z = q * m) (b1 : 1 ≤ p.toInt ∧ p.toInt ≤ 81) (bd : 1 ≤ d.toInt ∧ d.toInt ≤ p.toInt) (bm : 1 ≤ m.toInt ∧ m.toInt ≤ 9) : z.toInt = perI (fun j => (upd f k m j).toInt) (k + 1) := by
  have h1 := i_div eq_ (by omega) (by omega)
  have h3 := mul_b (a := q.toInt) (b := m.toInt) (A := 81) (B := 9) (by omega) (by omega)
  have h2 := i_mul ez (by omega)
  show z.toInt = lcmS (perI (fun j => (upd f k m j).toInt) k) (upd f k m k).toInt
  rw [updA, perI_congr (g := fun j => (f j).toInt) k (fun j hj => by show (upd f k m j).toInt = _; rw [updN (by omega)]), ← hp]
  unfold lcmS
  rw [← hd, h2, h1.1]
def Rd0 (v w : Vf) : Prop := CpA v w 24 ∧ CpB v w 3 ∧ CpC v w 27 ∧ CpD v w 6 ∧ CpE v w 5 ∧ CpF v w 4 ∧ (v 22 0).toInt = perI (fun j => (v 5 j).toInt) 3
def cntE (v w : Vf) : Prop := v 0 0 = w 37 0 ∧ v 1 0 = w 38 0 ∧ v 4 0 = w 43 0 ∧ v 9 0 = w 48 0 ∧ v 12 0 = w 51 0 ∧ v 16 0 = w 55 0 ∧ v 19 0 = w 58 0
/-- what is told, as the reference has taken it over -/
def RpMF (S : St0) (v : Vf) : Prop := ∃ w : Vf, (∀ t, 37 ≤ t → t ≤ 60 → ∀ j, S t j = (w t j).toInt) ∧ cntE v w ∧ Rd0 v w
