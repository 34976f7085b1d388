/-! ===== the reference: what its rows hold ===== -/
theorem lc_lt {z : Int32} {x y : Int64} (e : z = lg_cmp x y) (h : z < 0) : x.toInt < y.toInt := Int64.lt_iff_toInt_lt.mp ((lg_cmp_lt x y).mp (e ▸ h))
theorem lc_nlt {z : Int32} {x y : Int64} (e : z = lg_cmp x y) (h : ¬ z < 0) : y.toInt ≤ x.toInt := Int.not_lt.mp fun q => h (e ▸ (lg_cmp_lt x y).mpr (Int64.lt_iff_toInt_lt.mpr q))
theorem lc_gt {z : Int32} {x y : Int64} (e : z = lg_cmp x y) (h : 0 < z) : y.toInt < x.toInt := Int64.lt_iff_toInt_lt.mp ((lg_cmp_gt x y).mp (e ▸ h))
theorem lc_ngt {z : Int32} {x y : Int64} (e : z = lg_cmp x y) (h : ¬ 0 < z) : x.toInt ≤ y.toInt := Int.not_lt.mp fun q => h (e ▸ (lg_cmp_gt x y).mpr (Int64.lt_iff_toInt_lt.mpr q))
def bnd (f : Nat → Int32) (n : Nat) (lo hi : Int) : Prop := ∀ j, j < n → lo ≤ (f j).toInt ∧ (f j).toInt ≤ hi
def mdG (v : Vf) : Prop := (0 ≤ (v 0 0).toInt ∧ (v 0 0).toInt ≤ 6) ∧ (0 ≤ (v 1 0).toInt ∧ (v 1 0).toInt ≤ 6) ∧ (v 0 0).toInt * (v 1 0).toInt ≤ 24
def mdC (v : Vf) : Prop := (0 ≤ (v 4 0).toInt ∧ (v 4 0).toInt ≤ 3) ∧ (0 ≤ (v 9 0).toInt ∧ (v 9 0).toInt ≤ 6) ∧ (0 ≤ (v 12 0).toInt ∧ (v 12 0).toInt ≤ 6) ∧ (0 ≤ (v 16 0).toInt ∧ (v 16 0).toInt ≤ 5) ∧ (0 ≤ (v 19 0).toInt ∧ (v 19 0).toInt ≤ 4) ∧ (1 ≤ (v 22 0).toInt ∧ (v 22 0).toInt ≤ 729)
def mdZ (v : Vf) : Prop := (1 ≤ (v 0 0).toInt ∧ 1 ≤ (v 1 0).toInt) ∨ ((v 0 0).toInt = 0 ∧ (v 4 0).toInt = 0 ∧ (v 9 0).toInt = 0 ∧ (v 12 0).toInt = 0 ∧ (v 16 0).toInt = 0 ∧ (v 67 0).toInt = 0)
def mdM (v : Vf) : Prop := bnd (v 5) 3 0 9 ∧ ((v 4 0).toInt = 0 ∨ bnd (v 5) 3 1 9) ∧ (∀ j : Nat, (j : Int) < (v 4 0).toInt → (0 ≤ (v 6 j).toInt ∧ (v 6 j).toInt ≤ 8) ∧ (0 ≤ (v 7 j).toInt ∧ (v 7 j).toInt ≤ 8)) ∧ bnd (v 8) 27 (-9) 9
def mdA (v : Vf) : Prop := bnd (v 10) 6 0 23 ∧ bnd (v 13) 6 0 23 ∧ bnd (v 17) 5 0 23 ∧ ((v 0 0).toInt = 0 ∨ (bnd (v 2) 24 0 99 ∧ bnd (v 3) 24 0 9)) ∧ (∀ j : Nat, (j : Int) < (v 16 0).toInt → 0 ≤ (v 18 j).toInt ∧ (v 18 j).toInt ≤ 99)
def mdS (v : Vf) : Prop := (0 ≤ (v 23 0).toInt ∧ (v 23 0).toInt ≤ 900000) ∧ bnd (v 24) 3 0 999 ∧ bnd (v 25) 24 0 90 ∧ (0 ≤ (v 27 0).toInt ∧ (v 27 0).toInt ≤ 23) ∧ (0 ≤ (v 29 0).toInt ∧ (v 29 0).toInt ≤ 99) ∧ 0 ≤ (v 30 0).toInt
def mdT (v : Vf) : Prop := (0 ≤ (v 32 0).toInt ∧ (v 32 0).toInt ≤ 250) ∧ (0 ≤ (v 67 0).toInt ∧ (v 67 0).toInt ≤ 12) ∧ bnd (v 68) 12 0 23 ∧ bnd (v 69) 12 0 999 ∧ (0 ≤ (v 75 0).toInt ∧ (v 75 0).toInt ≤ 30)
def imI (f : Nat → Int32) (i : Nat) : Prop := (∀ c, c < 24 → 0 ≤ (f (i + c)).toInt ∧ (f (i + c)).toInt ≤ 90) ∧ (∀ c, c < 3 → 0 ≤ (f (i + 30 + c)).toInt ∧ (f (i + 30 + c)).toInt ≤ 999) ∧ (0 ≤ (f (i + 33)).toInt ∧ (f (i + 33)).toInt ≤ 900000) ∧ (0 ≤ (f (i + 34)).toInt ∧ (f (i + 34)).toInt ≤ 23) ∧ (0 ≤ (f (i + 36)).toInt ∧ (f (i + 36)).toInt ≤ 99) ∧ 0 ≤ (f (i + 37)).toInt
def MdH (v : Vf) : Prop := mdG v ∧ mdC v ∧ mdZ v ∧ mdM v ∧ mdA v ∧ mdS v ∧ mdT v
def MdI (v : Vf) : Prop := MdH v ∧ v 62 0 = -1 ∧ imI (v 77) 0 ∧ imI (v 77) 40 ∧ bnd (v 47) 27 (-9) 9 ∧ bnd (v 49) 6 0 23 ∧ bnd (v 52) 6 0 23 ∧ bnd (v 56) 5 0 23
theorem mcell_lt {w d x y : Int32} (hw : 0 ≤ w.toInt ∧ w.toInt ≤ 6) (hc : w.toInt * d.toInt ≤ 24) (hx : 0 ≤ x.toInt) (hx1 : x.toInt < w.toInt) (hy : 0 ≤ y.toInt) (hy1 : y.toInt < d.toInt) : 0 ≤ w.toInt * y.toInt ∧ w.toInt * y.toInt + x.toInt < w.toInt * d.toInt := by
  have k1 : 0 ≤ w.toInt * y.toInt := Int.mul_nonneg hw.1 hy
  have k2 : w.toInt * (y.toInt + 1) ≤ w.toInt * d.toInt := Int.mul_le_mul_of_nonneg_left (by omega) hw.1
  have k3 : w.toInt * (y.toInt + 1) = w.toInt * y.toInt + w.toInt := by rw [Int.mul_add, Int.mul_one]
  constructor <;> omega
/-! ===== what its small methods answer ===== -/
def mPart (v : Vf) (k c t : Int32) : Int32 := if k = v 62 0 then 0 else v 8 ((9 * k + ((((t + v 24 k.toNatClampNeg) + v 6 k.toNatClampNeg * (c - c / v 0 0 * v 0 0)) + v 7 k.toNatClampNeg * (c / v 0 0)) - (((t + v 24 k.toNatClampNeg) + v 6 k.toNatClampNeg * (c - c / v 0 0 * v 0 0)) + v 7 k.toNatClampNeg * (c / v 0 0)) / v 5 k.toNatClampNeg * v 5 k.toNatClampNeg)).toNatClampNeg)
def mPullN (v : Vf) (c t : Int32) : Nat → Int32
  | 0 => 0
  | n + 1 => mPullN v c t n + mPart v (Int32.ofNat n) c t
def mPull (v : Vf) (c t : Int32) : Int32 := mPullN v c t (v 4 0).toNatClampNeg
def mStiff (v : Vf) (c : Int32) : Int32 := if v 3 c.toNatClampNeg - v 25 c.toNatClampNeg / 10 < 0 then 0 else v 3 c.toNatClampNeg - v 25 c.toNatClampNeg / 10
def mH (v : Vf) (c t : Int32) : Int32 := v 2 c.toNatClampNeg + mStiff v c * mPull v c t
def mDx (way : Int32) : Int32 := if way = 2 then 1 else if way = 4 then -1 else 0
def mDy (way : Int32) : Int32 := if way = 3 then 1 else if way = 1 then -1 else 0
def mIn (v : Vf) (x y : Int32) : Prop := (0 ≤ x.toInt ∧ x.toInt < (v 0 0).toInt) ∧ (0 ≤ y.toInt ∧ y.toInt < (v 1 0).toInt)
noncomputable def mBes (v : Vf) (c way : Int32) : Int32 := @ite _ (mIn v ((c - c / v 0 0 * v 0 0) + mDx way) (c / v 0 0 + mDy way)) (Classical.propDecidable _) (v 0 0 * (c / v 0 0 + mDy way) + ((c - c / v 0 0 * v 0 0) + mDx way)) (-1)
def mOpen (v : Vf) (k t : Int32) : Int32 := if mPull v (v 13 k.toNatClampNeg) t ≤ v 15 k.toNatClampNeg then 0 else 1
noncomputable def mOth (v : Vf) (k : Nat) : Int32 := mBes v (v 13 k) (if v 14 k = 0 then 2 else 3)
noncomputable def mB2 (v : Vf) (a b : Int32) (k : Nat) : Int32 := if v 13 k = b then (if mOth v k = a then 1 else 0) else 0
noncomputable def mBet (v : Vf) (a b : Int32) (k : Nat) : Int32 := if v 13 k = a then (if mOth v k = b then 1 else mB2 v a b k) else mB2 v a b k
noncomputable def mBarN (v : Vf) (a b t : Int32) : Nat → Int32
  | 0 => 0
  | n + 1 => if mBarN v a b t n ≠ 0 then 1 else if mBet v a b n ≠ 0 then (if mOpen v (Int32.ofNat n) t ≠ 0 then 1 else 0) else 0
theorem mBarN_s (v : Vf) (a b t : Int32) (n : Nat) : mBarN v a b t (n + 1) = if mBarN v a b t n ≠ 0 then 1 else if mBet v a b n ≠ 0 then (if mOpen v (Int32.ofNat n) t ≠ 0 then 1 else 0) else 0 := rfl
noncomputable def mBar (v : Vf) (a b t : Int32) : Int32 := mBarN v a b t (v 12 0).toNatClampNeg
noncomputable def mGo (v : Vf) (c way t : Int32) : Int32 := if way = 0 then c else if (mBes v c way).toInt < 0 then mBes v c way else if mBar v c (mBes v c way) t ≠ 0 ∨ v 29 0 < mH v (mBes v c way) t - mH v c t then -1 else mBes v c way
def mSl (v : Vf) (a b t : Int32) : Int32 := if a = b then 0 else mH v b t - mH v a t
def mCost (v : Vf) (a b t : Int32) : Int32 := if mSl v a b t < 0 then 0 else mSl v a b t
theorem i_ofN {x : Int32} (h : 0 ≤ x.toInt) : Int32.ofNat x.toNatClampNeg = x := by
  have hr := i_rng x
  have e := i_nat h
  refine i_eqr ?_
  rw [Int32.toInt_ofNat_of_lt (by omega)]
  exact e
theorem i_nat1 {x z : Int32} (h : 0 ≤ x.toInt) (hz : z.toInt = x.toInt + 1) : z.toNatClampNeg = x.toNatClampNeg + 1 := by
  have e := i_nat h
  have e2 := i_nat (x := z) (by omega)
  omega
theorem wd_pos {w d : Int} (hw : 0 ≤ w) (h : 1 ≤ w * d) : 1 ≤ w := by
  rcases Int.lt_or_le 0 w with q | q
  · omega
  · rw [show w = 0 by omega, Int.zero_mul] at h
    omega
theorem i_mulr {z x y : Int32} (e : z = x * y) (hx : 0 ≤ x.toInt ∧ x.toInt ≤ 9) (hy : -27 ≤ y.toInt ∧ y.toInt ≤ 27) : -243 ≤ z.toInt ∧ z.toInt ≤ 243 := by
  have k1 : x.toInt * y.toInt ≤ x.toInt * 27 := Int.mul_le_mul_of_nonneg_left hy.2 hx.1
  have k2 : x.toInt * (-27) ≤ x.toInt * y.toInt := Int.mul_le_mul_of_nonneg_left hy.1 hx.1
  rw [i_mul e (by omega)]
  omega
/-- the rest of a division, of any signs, within bounds -/
theorem i_remabs {z x y : Int32} (e : z = x - x / y * y) (hx : -100000 ≤ x.toInt ∧ x.toInt ≤ 100000) (hy : y.toInt ≠ 0) : z.toInt = x.toInt.tmod y.toInt := by
  have hq : (x / y).toInt = x.toInt.tdiv y.toInt := Int32.toInt_div_of_ne_left x y (fun q => by rw [q] at hx; exact absurd hx.1 (by decide))
  have hd := Int.mul_tdiv_add_tmod x.toInt y.toInt
  have hr := i_rng y
  have ha : (x.toInt.tmod y.toInt).natAbs ≤ x.toInt.natAbs := by
    rw [Int.natAbs_tmod]
    exact Nat.mod_le _ _
  have hm : (x / y * y).toInt = x.toInt.tdiv y.toInt * y.toInt := by
    rw [i_mul (z := x / y * y) rfl, hq]
    rw [hq, Int.mul_comm]
    omega
  rw [i_sub e (by rw [hm, Int.mul_comm]; omega), hm, Int.mul_comm]
  omega
theorem rem_small {x y : Int} (hy : y ≠ 0) : (x.tmod y).natAbs < y.natAbs := by
  rw [Int.natAbs_tmod]
  exact Nat.mod_lt _ (by omega)
theorem rem_le {x y : Int} : (x.tmod y).natAbs ≤ x.natAbs := by
  rw [Int.natAbs_tmod]
  exact Nat.mod_le _ _
theorem neg_sub0 (x : Int32) : -x = 0 - x := by simp
theorem mPull_next {v : Vf} {c t i i2 s r z : Int32} (hs : s = mPullN v c t i.toNatClampNeg) (h0 : 0 ≤ i.toInt) (h1 : i2.toInt = i.toInt + 1) (hr : r = mPart v i c t) (hz : z = s + r) : z = mPullN v c t i2.toNatClampNeg := by
  rw [i_nat1 h0 h1, hz, hs, hr]
  show _ = mPullN v c t i.toNatClampNeg + mPart v (Int32.ofNat i.toNatClampNeg) c t
  rw [i_ofN h0]
def mFl (v : Vf) (w t : Int32) : Int32 := mH v (v 17 w.toNatClampNeg) t - v 18 w.toNatClampNeg
noncomputable def mRB (v : Vf) (k c way t : Int32) : Int32 := if mGo v c way ((t + k) + 1) < 0 then 1000000000 else if v 63 (24 * (k + 1) + mGo v c way ((t + k) + 1)).toNatClampNeg < 1000000000 then v 63 (24 * (k + 1) + mGo v c way ((t + k) + 1)).toNatClampNeg + mCost v c (mGo v c way ((t + k) + 1)) ((t + k) + 1) else 1000000000
theorem gcd_step (x y : Int) : Int.gcd y (x.tmod y) = Int.gcd x y := by
  show Nat.gcd y.natAbs (x.tmod y).natAbs = Nat.gcd x.natAbs y.natAbs
  rw [Int.natAbs_tmod, Nat.gcd_comm x.natAbs y.natAbs, Nat.gcd_rec y.natAbs x.natAbs, Nat.gcd_comm]
theorem gcd_le {a b : Int} (h : 1 ≤ a) : 1 ≤ (Int.gcd a b : Int) ∧ (Int.gcd a b : Int) ≤ a := by
  have h1 : 0 < a.natAbs := by omega
  have k1 : 0 < Int.gcd a b := Nat.gcd_pos_of_pos_left _ h1
  have k2 : Int.gcd a b ≤ a.natAbs := Nat.gcd_le_left _ h1
  omega
theorem gcd_le' {a b : Int} (h : 1 ≤ b) : 1 ≤ (Int.gcd a b : Int) ∧ (Int.gcd a b : Int) ≤ b := by
  have h1 : 0 < b.natAbs := by omega
  have k1 : 0 < Int.gcd a b := Nat.gcd_pos_of_pos_right _ h1
  have k2 : Int.gcd a b ≤ b.natAbs := Nat.gcd_le_right _ h1
  omega
abbrev mdL (E : Ev) (am : Nat → Nat) (vm : Vf) : va_W := [((am 0), .inr (10, [.int (vm 0 0), .int (vm 1 0), .ref (am 2), .ref (am 3), .int (vm 4 0), .ref (am 5), .ref (am 6), .ref (am 7), .ref (am 8), .int (vm 9 0), .ref (am 10), .ref (am 11), .int (vm 12 0), .ref (am 13), .ref (am 14), .ref (am 15), .int (vm 16 0), .ref (am 17), .ref (am 18), .int (vm 19 0), .ref (am 20), .ref (am 21), .int (vm 22 0), .int (vm 23 0), .ref (am 24), .ref (am 25), .ref (am 26), .int (vm 27 0), .int (vm 28 0), .int (vm 29 0), .int (vm 30 0), .ref (am 31), .int (vm 32 0), .int (vm 33 0), .int (vm 34 0), .int (vm 35 0), .int (vm 36 0), .int (vm 37 0), .int (vm 38 0), .ref (am 39), .ref (am 40), .int (vm 41 0), .ref (am 42), .int (vm 43 0), .ref (am 44), .ref (am 45), .ref (am 46), .ref (am 47), .int (vm 48 0), .ref (am 49), .ref (am 50), .int (vm 51 0), .ref (am 52), .ref (am 53), .ref (am 54), .int (vm 55 0), .ref (am 56), .ref (am 57), .int (vm 58 0), .ref (am 59), .ref (am 60), .int (vm 61 0), .int (vm 62 0), .ref (am 63), .int (vm 64 0), .int (vm 65 0), .int (vm 66 0), .int (vm 67 0), .ref (am 68), .ref (am 69), .ref (am 70), .ref (am 71), .ref (am 72), .int (vm 73 0), .ref (am 74), .int (vm 75 0), .ref (am 76), .ref (am 77), .ref (am 78)])), ((am 2), .inl (eI E, 24, .inl (vm 2))), ((am 3), .inl (eI E, 24, .inl (vm 3))), ((am 5), .inl (eI E, 3, .inl (vm 5))), ((am 6), .inl (eI E, 3, .inl (vm 6))), ((am 7), .inl (eI E, 3, .inl (vm 7))), ((am 8), .inl (eI E, 27, .inl (vm 8))), ((am 10), .inl (eI E, 6, .inl (vm 10))), ((am 11), .inl (eI E, 6, .inl (vm 11))), ((am 13), .inl (eI E, 6, .inl (vm 13))), ((am 14), .inl (eI E, 6, .inl (vm 14))), ((am 15), .inl (eI E, 6, .inl (vm 15))), ((am 17), .inl (eI E, 5, .inl (vm 17))), ((am 18), .inl (eI E, 5, .inl (vm 18))), ((am 20), .inl (eI E, 4, .inl (vm 20))), ((am 21), .inl (eI E, 4, .inl (vm 21))), ((am 24), .inl (eI E, 3, .inl (vm 24))), ((am 25), .inl (eI E, 24, .inl (vm 25))), ((am 26), .inl (eI E, 6, .inl (vm 26))), ((am 31), .inl (eI E, 250, .inl (vm 31))), ((am 39), .inl (eI E, 24, .inl (vm 39))), ((am 40), .inl (eI E, 24, .inl (vm 40))), ((am 42), .inl (eI E, 12, .inl (vm 42))), ((am 44), .inl (eI E, 3, .inl (vm 44))), ((am 45), .inl (eI E, 3, .inl (vm 45))), ((am 46), .inl (eI E, 3, .inl (vm 46))), ((am 47), .inl (eI E, 27, .inl (vm 47))), ((am 49), .inl (eI E, 6, .inl (vm 49))), ((am 50), .inl (eI E, 6, .inl (vm 50))), ((am 52), .inl (eI E, 6, .inl (vm 52))), ((am 53), .inl (eI E, 6, .inl (vm 53))), ((am 54), .inl (eI E, 6, .inl (vm 54))), ((am 56), .inl (eI E, 5, .inl (vm 56))), ((am 57), .inl (eI E, 5, .inl (vm 57))), ((am 59), .inl (eI E, 4, .inl (vm 59))), ((am 60), .inl (eI E, 4, .inl (vm 60))), ((am 63), .inl (eI E, 984, .inl (vm 63))), ((am 68), .inl (eI E, 12, .inl (vm 68))), ((am 69), .inl (eI E, 12, .inl (vm 69))), ((am 70), .inl (eI E, 12, .inl (vm 70))), ((am 71), .inl (eI E, 3, .inl (vm 71))), ((am 72), .inl (eI E, 729, .inl (vm 72))), ((am 74), .inl (eI E, 64, .inl (vm 74))), ((am 76), .inl (eI E, 30, .inl (vm 76))), ((am 77), .inl (eI E, 80, .inl (vm 77))), ((am 78), .inl (eZ E, 2, .inl (vm 78)))]
