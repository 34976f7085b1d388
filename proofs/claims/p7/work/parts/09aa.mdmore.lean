/-! ===== further functions of the reference's values ===== -/
def mHeld (x : Int32) : Int32 := if x ≤ 999999999 then x else 999999999
def mPair (v : Vf) (c : Int32) : Int32 := 10 * (c - c / v 0 0 * v 0 0) + c / v 0 0
def mAbs (x : Int32) : Int32 := if x < 0 then -x else x
def mMx (a b : Int32) : Int32 := if a < b then b else a
noncomputable def mDif (v : Vf) (c t way : Int32) : Int32 := if (mBes v c way).toInt < 0 then 0 else mH v (mBes v c way) t - mH v c t
noncomputable def mLeanN (v : Vf) (c t : Int32) : Nat → Int32
  | 0 => 0
  | n + 1 => mMx (mLeanN v c t n) (mAbs (mDif v c t (Int32.ofNat (n + 1))))
noncomputable def mLean (v : Vf) (c t : Int32) : Int32 := mLeanN v c t 4
theorem lean_m {v : Vf} {c t way way2 mo d : Int32} (h : mo = mLeanN v c t (way.toInt - 1).toNat) (hw : 1 ≤ way.toInt) (h2 : way2.toInt = way.toInt + 1) (e : d = mMx mo (mAbs (mDif v c t way))) : d = mLeanN v c t (way2.toInt - 1).toNat := by
  have e1 : (way2.toInt - 1).toNat = (way.toInt - 1).toNat + 1 := by omega
  have e2 : Int32.ofNat ((way.toInt - 1).toNat + 1) = way := by
    rw [show (way.toInt - 1).toNat + 1 = way.toNatClampNeg from by show _ = way.toInt.toNat; omega]
    exact i_ofN (by omega)
  rw [e1]
  show d = mMx (mLeanN v c t (way.toInt - 1).toNat) (mAbs (mDif v c t (Int32.ofNat ((way.toInt - 1).toNat + 1))))
  rw [e2, ← h]
  exact e
