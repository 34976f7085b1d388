/-! ===== what the calls do that change the state ===== -/
theorem held_min {y : Int32} : (if y < 999999999 then y else 999999999) = mHeld y := by
  unfold mHeld
  by_cases h : y < 999999999
  · rw [if_pos h, if_pos (Int32.le_of_lt h)]
  · rw [if_neg h]
    by_cases h2 : y ≤ 999999999
    · rw [if_pos h2]
      have q1 := i_nlt h
      have q2 := i_le h2
      exact i_eqr (by omega)
    · rw [if_neg h2]
def PassP (n old r new : Int32) : Prop := (r.toInt = -1000000002 ∧ (n.toInt < 1 ∨ 9999 < n.toInt) ∧ new = old) ∨ ((1 ≤ n.toInt ∧ n.toInt ≤ 9999) ∧ ((r.toInt = -1000000004 ∧ 900000 < old.toInt + n.toInt ∧ new = old) ∨ (old.toInt + n.toInt ≤ 900000 ∧ r = new ∧ new.toInt = old.toInt + n.toInt)))
theorem pass_eq {n a r a' b q b' : Int32} (h1 : PassP n a r a') (h2 : PassP n b q b') (e : a = b) : r.toInt = q.toInt ∧ a' = b' := by
  subst e
  rcases h1 with ⟨p1, p2, p3⟩ | ⟨p0, ⟨p1, p2, p3⟩ | ⟨p1, p2, p3⟩⟩
  · rcases h2 with ⟨g1, g2, g3⟩ | ⟨g0, g1⟩
    · exact ⟨by omega, by rw [p3, g3]⟩
    · omega
  · rcases h2 with ⟨g1, g2, g3⟩ | ⟨g0, ⟨g1, g2, g3⟩ | ⟨g1, g2, g3⟩⟩
    · omega
    · exact ⟨by omega, by rw [p3, g3]⟩
    · omega
  · rcases h2 with ⟨g1, g2, g3⟩ | ⟨g0, ⟨g1, g2, g3⟩ | ⟨g1, g2, g3⟩⟩
    · omega
    · omega
    · have e2 : a' = b' := i_eqr (by omega)
      exact ⟨by rw [p2, g2, e2], e2⟩
def inG (x y W D : Int32) : Prop := (0 ≤ x.toInt ∧ x.toInt < W.toInt) ∧ 0 ≤ y.toInt ∧ y.toInt < D.toInt
def LoadP (x y z W D : Int32) (f : Nat → Int32) (r : Int32) (f' : Nat → Int32) : Prop := (r.toInt = -1000000001 ∧ ¬ inG x y W D ∧ f' = f) ∨ (inG x y W D ∧ ((r.toInt = -1000000002 ∧ (z.toInt < 0 ∨ 90 < z.toInt) ∧ f' = f) ∨ ((0 ≤ z.toInt ∧ z.toInt ≤ 90) ∧ r = f (W.toInt * y.toInt + x.toInt).toNat ∧ f' = upd f (W.toInt * y.toInt + x.toInt).toNat z)))
def ShiftP (i z n : Int32) (many f : Nat → Int32) (r : Int32) (f' : Nat → Int32) : Prop := (r.toInt = -1000000001 ∧ (i.toInt < 0 ∨ n.toInt ≤ i.toInt) ∧ f' = f) ∨ ((0 ≤ i.toInt ∧ i.toInt < n.toInt) ∧ ((r.toInt = -1000000002 ∧ (z.toInt < 0 ∨ 999 < z.toInt) ∧ f' = f) ∨ ((0 ≤ z.toInt ∧ z.toInt ≤ 999) ∧ r = f i.toNatClampNeg ∧ ∃ w : Int32, w.toInt = z.toInt % (many i.toNatClampNeg).toInt ∧ f' = upd f i.toNatClampNeg w)))
/-- a step of the cart: step, cart, pushed, before and after -/
def RolP (vm : Vf) (way r t c p t' c' p' : Int32) : Prop := (r.toInt = -1000000002 ∧ (way.toInt < 0 ∨ 4 < way.toInt) ∧ t' = t ∧ c' = c ∧ p' = p) ∨ ((0 ≤ way.toInt ∧ way.toInt ≤ 4) ∧ ((r.toInt = -1000000003 ∧ ((vm 0 0).toInt = 0 ∨ (mGo vm (vm 27 0) way (vm 23 0 + 1)).toInt < 0) ∧ t' = t ∧ c' = c ∧ p' = p) ∨ (((vm 0 0).toInt ≠ 0 ∧ 0 ≤ (mGo vm (vm 27 0) way (vm 23 0 + 1)).toInt) ∧ ((r.toInt = -1000000004 ∧ 900000 ≤ (vm 23 0).toInt ∧ t' = t ∧ c' = c ∧ p' = p) ∨ ((vm 23 0).toInt < 900000 ∧ r = mCost vm (vm 27 0) (mGo vm (vm 27 0) way (vm 23 0 + 1)) (vm 23 0 + 1) ∧ t' = vm 23 0 + 1 ∧ c' = mGo vm (vm 27 0) way (vm 23 0 + 1) ∧ p' = mHeld (vm 28 0 + r))))))
theorem rol_eq {vm : Vf} {way r q t c p t1 c1 p1 t2 c2 p2 : Int32} (h1 : RolP vm way r t c p t1 c1 p1) (h2 : RolP vm way q t c p t2 c2 p2) : r.toInt = q.toInt ∧ t1 = t2 ∧ c1 = c2 ∧ p1 = p2 := by
  rcases h1 with ⟨a1, a2, a3, a4, a5⟩ | ⟨a0, ⟨a1, a2, a3, a4, a5⟩ | ⟨az, ⟨a1, a2, a3, a4, a5⟩ | ⟨a1, a2, a3, a4, a5⟩⟩⟩
  · rcases h2 with ⟨b1, b2, b3, b4, b5⟩ | ⟨b0, -⟩
    · exact ⟨by omega, by rw [a3, b3], by rw [a4, b4], by rw [a5, b5]⟩
    · omega
  · rcases h2 with ⟨b1, b2, b3, b4, b5⟩ | ⟨b0, ⟨b1, b2, b3, b4, b5⟩ | ⟨bz, -⟩⟩
    · omega
    · exact ⟨by omega, by rw [a3, b3], by rw [a4, b4], by rw [a5, b5]⟩
    · omega
  · rcases h2 with ⟨b1, b2, b3, b4, b5⟩ | ⟨b0, ⟨b1, b2, b3, b4, b5⟩ | ⟨bz, ⟨b1, b2, b3, b4, b5⟩ | ⟨b1, b2, b3, b4, b5⟩⟩⟩
    · omega
    · omega
    · exact ⟨by omega, by rw [a3, b3], by rw [a4, b4], by rw [a5, b5]⟩
    · omega
  · rcases h2 with ⟨b1, b2, b3, b4, b5⟩ | ⟨b0, ⟨b1, b2, b3, b4, b5⟩ | ⟨bz, ⟨b1, b2, b3, b4, b5⟩ | ⟨b1, b2, b3, b4, b5⟩⟩⟩
    · omega
    · omega
    · omega
    · exact ⟨by rw [a2, b2], by rw [a3, b3], by rw [a4, b4], by rw [a5, b5, a2, b2]⟩
/-! what the reference's functions depend on -/
def sameP (v w : Vf) : Prop := ∀ t, t ≠ 23 → t ≠ 27 → t ≠ 28 → t ≠ 30 → w t = v t
theorem mPart_fr {v w : Vf} {k c t : Int32} (h : sameP v w) : mPart w k c t = mPart v k c t := by
  unfold mPart
  rw [h 62 (by decide) (by decide) (by decide) (by decide), h 8 (by decide) (by decide) (by decide) (by decide), h 24 (by decide) (by decide) (by decide) (by decide), h 6 (by decide) (by decide) (by decide) (by decide), h 0 (by decide) (by decide) (by decide) (by decide), h 7 (by decide) (by decide) (by decide) (by decide), h 5 (by decide) (by decide) (by decide) (by decide)]
theorem mPullN_fr {v w : Vf} {c t : Int32} (h : sameP v w) : ∀ n : Nat, mPullN w c t n = mPullN v c t n
  | 0 => rfl
  | n + 1 => by
    show mPullN w c t n + mPart w (Int32.ofNat n) c t = mPullN v c t n + mPart v (Int32.ofNat n) c t
    rw [mPullN_fr h n, mPart_fr h]
theorem mPull_fr {v w : Vf} {c t : Int32} (h : sameP v w) : mPull w c t = mPull v c t := by
  unfold mPull
  rw [mPullN_fr h, h 4 (by decide) (by decide) (by decide) (by decide)]
theorem mH_fr {v w : Vf} {c t : Int32} (h : sameP v w) : mH w c t = mH v c t := by
  unfold mH mStiff
  rw [mPull_fr h, h 2 (by decide) (by decide) (by decide) (by decide), h 3 (by decide) (by decide) (by decide) (by decide), h 25 (by decide) (by decide) (by decide) (by decide)]
theorem mCost_fr {v w : Vf} {a b t : Int32} (h : sameP v w) : mCost w a b t = mCost v a b t := by
  unfold mCost mSl
  rw [mH_fr h, mH_fr h]
theorem mBes_fr {v w : Vf} {c way : Int32} (h : sameP v w) : mBes w c way = mBes v c way := by
  unfold mBes mIn
  rw [h 0 (by decide) (by decide) (by decide) (by decide), h 1 (by decide) (by decide) (by decide) (by decide)]
theorem mOpen_fr {v w : Vf} {k t : Int32} (h : sameP v w) : mOpen w k t = mOpen v k t := by
  unfold mOpen
  rw [mPull_fr h, h 13 (by decide) (by decide) (by decide) (by decide), h 15 (by decide) (by decide) (by decide) (by decide)]
theorem mBet_fr {v w : Vf} {a b : Int32} {k : Nat} (h : sameP v w) : mBet w a b k = mBet v a b k := by
  unfold mBet mB2 mOth
  rw [mBes_fr h, h 13 (by decide) (by decide) (by decide) (by decide), h 14 (by decide) (by decide) (by decide) (by decide)]
theorem mBarN_fr {v w : Vf} {a b t : Int32} (h : sameP v w) : ∀ n : Nat, mBarN w a b t n = mBarN v a b t n
  | 0 => rfl
  | n + 1 => by rw [mBarN_s, mBarN_s, mBarN_fr h n, mBet_fr h, mOpen_fr h]
theorem mGo_fr {v w : Vf} {c way t : Int32} (h : sameP v w) : mGo w c way t = mGo v c way t := by
  unfold mGo mBar
  rw [mBes_fr h, mBarN_fr h, mH_fr h, mH_fr h, h 12 (by decide) (by decide) (by decide) (by decide), h 29 (by decide) (by decide) (by decide) (by decide)]
/-! the draws -/
def nxt (s : Int32) : Int32 := (s * 1103515245 + 12345) &&& 2147483647
def dval (z n : Int32) : Int32 := z / 65536 - z / 65536 / n * n
theorem and31 (x : Int32) : (x &&& 2147483647).toInt = x.toInt % 2147483648 := by
  have h1 : (x &&& 2147483647).toBitVec = x.toBitVec &&& 2147483647#32 := rfl
  have h2 : (x.toBitVec &&& 2147483647#32).toNat = x.toBitVec.toNat % 2 ^ 31 := by
    rw [BitVec.toNat_and]
    exact Nat.and_two_pow_sub_one_eq_mod _ 31
  have h3 : (x &&& 2147483647).toInt = (x.toBitVec &&& 2147483647#32).toInt := by rw [← h1]; rfl
  have h4 : x.toInt = x.toBitVec.toInt := rfl
  have h5 := BitVec.toInt_eq_toNat_cond x.toBitVec
  have h6 := BitVec.toInt_eq_toNat_cond (x.toBitVec &&& 2147483647#32)
  have h7 : x.toBitVec.toNat < 2 ^ 32 := x.toBitVec.isLt
  rw [h3, h6, h2, h4, h5]
  split <;> split <;> omega
theorem seed_eq {s w : Int32} {x y z : Int64} (h : 0 ≤ s.toInt) (ex : x = s.toInt64 * 1103515245) (ey : y = x + 12345) (ez : z = y - y / 2147483648 * 2147483648) (ew : w = z.toInt32) : w = nxt s := by
  have hs := i_rng s
  have k1 : (1103515245 : Int64).toInt = 1103515245 := by decide
  have k2 : (12345 : Int64).toInt = 12345 := by decide
  have k3 : (2147483648 : Int64).toInt = 2147483648 := by decide
  have h1 : x.toInt = s.toInt * 1103515245 := by
    rw [ex, Int64.toInt_mul, Int32.toInt_toInt64, k1, l_bmod (by omega)]
  have h2 : y.toInt = s.toInt * 1103515245 + 12345 := by
    rw [ey, Int64.toInt_add, h1, k2, l_bmod (by omega)]
  have h3 : (y / 2147483648).toInt = y.toInt / 2147483648 := by
    rw [Int64.toInt_div_of_ne_right y _ (by decide), k3, Int.tdiv_eq_ediv_of_nonneg (by omega)]
  have h4 : (y / 2147483648 * 2147483648).toInt = y.toInt / 2147483648 * 2147483648 := by
    rw [Int64.toInt_mul, h3, k3, l_bmod (by omega)]
  have h5 : z.toInt = y.toInt - y.toInt / 2147483648 * 2147483648 := by
    rw [ez, Int64.toInt_sub, h4, l_bmod (by omega)]
  have h6 : w.toInt = z.toInt := by
    rw [ew, Int64.toInt_toInt32]
    exact i_bmod (by omega)
  refine i_eqr ?_
  unfold nxt
  rw [and31, Int32.toInt_add, Int32.toInt_mul, show (1103515245 : Int32).toInt = 1103515245 by decide, show (12345 : Int32).toInt = 12345 by decide, h6, h5, h2]
  generalize s.toInt * 1103515245 = m
  have b1 := Int.bmod_def m (2 ^ 32)
  have b2 := Int.bmod_def (m.bmod (2 ^ 32) + 12345) (2 ^ 32)
  omega
theorem dv_eq {z n q r : Int32} (hz : 0 ≤ z.toInt) (hn : 1 ≤ n.toInt) (eq_ : q = z / 65536) (hr : r.toInt = q.toInt % n.toInt) : r = dval z n := by
  have td := i_div (z := z / 65536) rfl hz (by decide)
  have tr := i_rem (z := z / 65536 - z / 65536 / n * n) rfl td.2.1 (by omega)
  unfold dval
  exact i_eqr (by rw [hr, tr.1, eq_])
theorem rol_z {vm vp vs : Vf} (hR : RW vm vp vs) (h : (vp 0 0).toInt * (vp 1 0).toInt = 0) : (vm 0 0).toInt = 0 := by
  rw [hR.1.1.1, hR.1.1.2.1] at h
  rcases hR.2.2.2.1.2.2.1 with q | q
  · have := mul_pos1 q.1 q.2
    omega
  · exact q.1
theorem rol_w {vm vp vs : Vf} (hR : RW vm vp vs) (h : 1 ≤ (vp 0 0).toInt * (vp 1 0).toInt) : 1 ≤ (vm 0 0).toInt := by
  rw [hR.1.1.1, hR.1.1.2.1] at h
  exact wd_pos hR.2.2.2.1.1.1.1 h
theorem rol_c {vm vp vs : Vf} (hR : RW vm vp vs) (hW : 1 ≤ (vm 0 0).toInt) : cW vm (vs 4 0) := by
  have e : vs 4 0 = vm 27 0 := hR.2.1.2.2.2.2.1
  have q := hR.2.2.1.2
  have b := hR.2.2.2.1.2.2.2.2.2.1.2.2.2.1
  rw [e]
  exact ⟨b.1, q.resolve_left (by omega)⟩
theorem rol_pu {vm vp vs : Vf} {way there t push : Int32} (hR : RW vm vp vs) (hc : cW vm (vs 4 0)) (hp : PuP vm (vs 4 0) way there t push) (et : t = vs 0 0 + 1) : (push.toInt = -1 → (mGo vm (vm 27 0) way (vm 23 0 + 1)).toInt < 0) ∧ (push.toInt ≠ -1 → mGo vm (vm 27 0) way (vm 23 0 + 1) = there ∧ 0 ≤ there.toInt ∧ push = mCost vm (vm 27 0) there (vm 23 0 + 1)) := by
  have e4 : vs 4 0 = vm 27 0 := hR.2.1.2.2.2.2.1
  have e0 : vs 0 0 = vm 23 0 := hR.2.1.1
  rw [et, e4, e0] at hp
  rcases hp with ⟨h1, h2⟩ | ⟨h1, h2, h3, h4⟩
  · exact ⟨fun _ => by omega, fun q => absurd h2 q⟩
  · exact ⟨fun q => by omega, fun _ => ⟨h1, h2, h3⟩⟩
