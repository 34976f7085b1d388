/-! ===== the reference's table of rests ===== -/
theorem mPart_c {v w : Vf} (h : ∀ t, t ≠ 63 → w t = v t) : mPart w = mPart v := by
  funext k c t
  unfold mPart
  rw [h 62 (by decide), h 8 (by decide), h 24 (by decide), h 6 (by decide), h 0 (by decide), h 7 (by decide), h 5 (by decide)]
theorem mPullN_c {v w : Vf} (h : ∀ t, t ≠ 63 → w t = v t) (c t : Int32) : ∀ n, mPullN w c t n = mPullN v c t n
  | 0 => rfl
  | n + 1 => by
    show mPullN w c t n + mPart w (Int32.ofNat n) c t = mPullN v c t n + mPart v (Int32.ofNat n) c t
    rw [mPullN_c h c t n, mPart_c h]
theorem mPull_c {v w : Vf} (h : ∀ t, t ≠ 63 → w t = v t) : mPull w = mPull v := by
  funext c t
  unfold mPull
  rw [h 4 (by decide), mPullN_c h]
theorem mStiff_c {v w : Vf} (h : ∀ t, t ≠ 63 → w t = v t) : mStiff w = mStiff v := by
  funext c
  unfold mStiff
  rw [h 3 (by decide), h 25 (by decide)]
theorem mH_c {v w : Vf} (h : ∀ t, t ≠ 63 → w t = v t) : mH w = mH v := by
  funext c t
  unfold mH
  rw [h 2 (by decide), mStiff_c h, mPull_c h]
theorem mIn_c {v w : Vf} (h : ∀ t, t ≠ 63 → w t = v t) : mIn w = mIn v := by
  funext x y
  unfold mIn
  rw [h 0 (by decide), h 1 (by decide)]
theorem mBes_c {v w : Vf} (h : ∀ t, t ≠ 63 → w t = v t) : mBes w = mBes v := by
  funext c way
  unfold mBes
  rw [h 0 (by decide), mIn_c h]
theorem mOpen_c {v w : Vf} (h : ∀ t, t ≠ 63 → w t = v t) : mOpen w = mOpen v := by
  funext k t
  unfold mOpen
  rw [h 13 (by decide), h 15 (by decide), mPull_c h]
theorem mOth_c {v w : Vf} (h : ∀ t, t ≠ 63 → w t = v t) : mOth w = mOth v := by
  funext k
  unfold mOth
  rw [h 13 (by decide), h 14 (by decide), mBes_c h]
theorem mB2_c {v w : Vf} (h : ∀ t, t ≠ 63 → w t = v t) : mB2 w = mB2 v := by
  funext a b k
  unfold mB2
  rw [h 13 (by decide), mOth_c h]
theorem mBet_c {v w : Vf} (h : ∀ t, t ≠ 63 → w t = v t) : mBet w = mBet v := by
  funext a b k
  unfold mBet
  rw [h 13 (by decide), mOth_c h, mB2_c h]
theorem mBarN_c {v w : Vf} (h : ∀ t, t ≠ 63 → w t = v t) (a b t : Int32) : ∀ n, mBarN w a b t n = mBarN v a b t n
  | 0 => rfl
  | n + 1 => by rw [mBarN_s, mBarN_s, mBarN_c h a b t n, mBet_c h, mOpen_c h]
theorem mBar_c {v w : Vf} (h : ∀ t, t ≠ 63 → w t = v t) : mBar w = mBar v := by
  funext a b t
  unfold mBar
  rw [h 12 (by decide), mBarN_c h]
theorem mGo_c {v w : Vf} (h : ∀ t, t ≠ 63 → w t = v t) : mGo w = mGo v := by
  funext c way t
  unfold mGo
  rw [h 29 (by decide), mBes_c h, mBar_c h, mH_c h]
theorem mCost_c {v w : Vf} (h : ∀ t, t ≠ 63 → w t = v t) : mCost w = mCost v := by
  funext a b t
  unfold mCost mSl
  rw [mH_c h]
theorem mBes_lt {v : Vf} {c way : Int32} (hG : mdG v) (h : 0 ≤ (mBes v c way).toInt) : (mBes v c way).toInt < (v 0 0).toInt * (v 1 0).toInt := by
  unfold mBes at h ⊢
  generalize (c - c / v 0 0 * v 0 0) + mDx way = x at h ⊢
  generalize c / v 0 0 + mDy way = y at h ⊢
  split at h
  · rename_i q
    rw [if_pos q]
    obtain ⟨⟨q1, q2⟩, q3, q4⟩ := id q
    have k := mcell_lt hG.1 hG.2.2 q1 q2 q3 q4
    have ha := i_mul (z := v 0 0 * y) rfl (by have := hG.2.2; omega)
    have hb := i_add (z := v 0 0 * y + x) rfl (by have := hG.2.2; have := hG.1; omega)
    omega
  · exact absurd h (by decide)
theorem mGo_lt {v : Vf} {c way t : Int32} (hG : mdG v) (hc : c.toInt < (v 0 0).toInt * (v 1 0).toInt) (h : 0 ≤ (mGo v c way t).toInt) : (mGo v c way t).toInt < (v 0 0).toInt * (v 1 0).toInt := by
  unfold mGo at h ⊢
  split
  · exact hc
  · rename_i q1
    rw [if_neg q1] at h
    split
    · rename_i q2
      rw [if_pos q2] at h
      exact mBes_lt hG h
    · rename_i q2
      rw [if_neg q2] at h
      split
      · rename_i q3
        rw [if_pos q3] at h
        exact absurd h (by decide)
      · rename_i q3
        rw [if_neg q3] at h
        exact mBes_lt hG h
theorem idx24 {k c x y : Int32} (ex : x = 24 * k) (ey : y = x + c) (hk : 0 ≤ k.toInt ∧ k.toInt ≤ 40) (hc : 0 ≤ c.toInt ∧ c.toInt ≤ 23) : y.toNatClampNeg = 24 * k.toNatClampNeg + c.toNatClampNeg := by
  have n24 : (24 : Int32).toInt = 24 := by decide
  have t1 := i_mul ex (by rw [n24]; omega)
  rw [n24] at t1
  have t2 := i_add ey (by omega)
  have a1 := i_nat hk.1
  have a2 := i_nat hc.1
  have a3 := i_nat (x := y) (by omega)
  omega
theorem idx25 {k c : Int32} (hk : 0 ≤ k.toInt ∧ k.toInt ≤ 39) (hc : 0 ≤ c.toInt ∧ c.toInt ≤ 23) : (24 * (k + 1) + c).toNatClampNeg = 24 * (k.toNatClampNeg + 1) + c.toNatClampNeg := by
  have n1 : (1 : Int32).toInt = 1 := by decide
  have t1 := i_add (z := k + 1) rfl (by rw [n1]; omega)
  rw [n1] at t1
  rw [idx24 (k := k + 1) rfl rfl (by omega) hc, i_nat1 hk.1 t1]
theorem mRB_up {v : Vf} {j : Nat} {x k c way t : Int32} (hG : mdG v) (hk : 0 ≤ k.toInt ∧ k.toInt ≤ 39) (hc : c.toInt < (v 0 0).toInt * (v 1 0).toInt) (hj : j < 24 * (k.toNatClampNeg + 1)) : mRB (up2 v 63 j x) k c way t = mRB v k c way t := by
  have hh : ∀ t, t ≠ 63 → up2 v 63 j x t = v t := fun t ht => up2_ne ht
  unfold mRB
  rw [mGo_c hh, mCost_c hh]
  generalize hg : mGo v c way (t + k + 1) = g
  split
  · rfl
  · rename_i q
    have q0 : 0 ≤ g.toInt := Int.not_lt.mp fun z => q (Int32.lt_iff_toInt_lt.mpr z)
    have q1 := mGo_lt hG hc (hg ▸ q0)
    rw [hg] at q1
    have q2 := hG.2.2
    have e1 : up2 v 63 j x 63 (24 * (k + 1) + g).toNatClampNeg = v 63 (24 * (k + 1) + g).toNatClampNeg := by
      show upd (v 63) j x _ = _
      unfold upd
      rw [if_neg (by rw [idx25 hk ⟨q0, by omega⟩]; omega)]
    rw [e1]
theorem mRB_lt {v : Vf} {k c way t : Int32} (h : (mRB v k c way t).toInt < 1000000000) : 0 ≤ (mGo v c way (t + k + 1)).toInt ∧ (v 63 (24 * (k + 1) + mGo v c way (t + k + 1)).toNatClampNeg).toInt < 1000000000 := by
  have nf : (1000000000 : Int32).toInt = 1000000000 := by decide
  unfold mRB at h
  split at h
  · rw [nf] at h
    omega
  · rename_i q
    refine ⟨Int.not_lt.mp fun z => q (Int32.lt_iff_toInt_lt.mpr z), ?_⟩
    split at h
    · rename_i q2
      have := Int32.lt_iff_toInt_lt.mp q2
      rw [nf] at this
      exact this
    · rw [nf] at h
      omega
def prX (v : Vf) (b t n k c x : Int32) : Prop := x.toInt < 1000000000 → c = b ∨ (k.toInt < n.toInt ∧ ∃ way : Int32, (0 ≤ way.toInt ∧ way.toInt ≤ 4) ∧ mRB v k c way t = x)
def rsG (v : Vf) (b t n k c : Int32) : Prop := prX v b t n k c (v 63 (24 * k.toNatClampNeg + c.toNatClampNeg))
theorem MdI.n63 {v w : Vf} (h : MdI v) (e : ∀ t, t ≠ 63 → w t = v t) : MdI w := h.on (fun t ht => e t (fun q => absurd (q ▸ ht) (by decide)))
theorem rs_put {v : Vf} {b t n k c x : Int32} {j : Nat} (hG : mdG v) (hn : n.toInt ≤ 40) (hk : 0 ≤ k.toInt ∧ k.toInt ≤ n.toInt) (hc : 0 ≤ c.toInt ∧ c.toInt < (v 0 0).toInt * (v 1 0).toInt) (hj : j = 24 * k.toNatClampNeg + c.toNatClampNeg) (hx : prX v b t n k c x)
    (h : ∀ k' c' : Int32, (k.toInt < k'.toInt ∨ (k'.toInt = k.toInt ∧ c'.toInt < c.toInt)) → k'.toInt ≤ n.toInt → 0 ≤ c'.toInt ∧ c'.toInt < (v 0 0).toInt * (v 1 0).toInt → rsG v b t n k' c')
    (k' c' : Int32) (h1 : k.toInt < k'.toInt ∨ (k'.toInt = k.toInt ∧ c'.toInt ≤ c.toInt)) (h2 : k'.toInt ≤ n.toInt) (h3 : 0 ≤ c'.toInt ∧ c'.toInt < (v 0 0).toInt * (v 1 0).toInt) : rsG (up2 v 63 j x) b t n k' c' := by
  have g2 := hG.2.2
  have a1 := i_nat hk.1
  have a2 := i_nat hc.1
  have a3 := i_nat (x := k') (by omega)
  have a4 := i_nat h3.1
  have key : ∀ y : Int32, prX v b t n k' c' y → prX (up2 v 63 j x) b t n k' c' y := by
    intro y hy q
    rcases hy q with z | ⟨z1, way, z2, z3⟩
    · exact Or.inl z
    · refine Or.inr ⟨z1, way, z2, ?_⟩
      rw [mRB_up hG (by omega) h3.2 (by omega)]
      exact z3
  unfold rsG
  show prX (up2 v 63 j x) b t n k' c' (upd (v 63) j x (24 * k'.toNatClampNeg + c'.toNatClampNeg))
  unfold upd
  split
  · rename_i q
    have e1 : k' = k := i_eqr (by omega)
    have e2 : c' = c := i_eqr (by omega)
    rw [e1, e2] at key ⊢
    exact key x hx
  · rename_i q
    refine key _ (h k' c' ?_ h2 h3)
    rcases h1 with z | z
    · exact Or.inl z
    · refine Or.inr ⟨z.1, ?_⟩
      rcases Int.lt_or_le c'.toInt c.toInt with z2 | z2
      · exact z2
      · exact absurd (show 24 * k'.toNatClampNeg + c'.toNatClampNeg = j by omega) q
theorem idx0 (a : Int32) : 24 * (0 : Int32).toNatClampNeg + a.toNatClampNeg = a.toNatClampNeg := by
  have : (0 : Int32).toNatClampNeg = 0 := by decide
  omega
/-! ===== the reference's wells ===== -/
def mHb (x k : Int32) : Prop := (x >>> (k &&& 31)) &&& 1 = 1
def wS (f : Nat → Int) (p : Nat → Bool) : Nat → Int
  | 0 => 0
  | n + 1 => wS f p n + (if p n = true then f n else 0)
def wN (p : Nat → Bool) : Nat → Int
  | 0 => 0
  | n + 1 => wN p n + (if p n = true then 1 else 0)
def wG (x : Int) (f : Nat → Int) (p : Nat → Bool) (k : Nat) : Prop := 0 < wN p k ∧ ∀ w, w < k → (p w = true ↔ f w * wN p k < x + wS f p k)
def wOff (p : Nat → Bool) (w : Nat) : Nat → Bool := fun u => if u = w then false else p u
theorem wN_nn (p : Nat → Bool) : ∀ n, 0 ≤ wN p n
  | 0 => Int.le_refl 0
  | n + 1 => by
    have h := wN_nn p n
    show 0 ≤ wN p n + (if p n = true then 1 else 0)
    split <;> omega
theorem wS_0 (f : Nat → Int) (p : Nat → Bool) : ∀ n, wN p n = 0 → wS f p n = 0
  | 0, _ => rfl
  | n + 1, h => by
    have h0 := wN_nn p n
    have h1 : wN p n + (if p n = true then 1 else 0) = 0 := h
    show wS f p n + (if p n = true then f n else 0) = 0
    split at h1
    · omega
    · rename_i q
      rw [if_neg q, wS_0 f p n (by omega)]
      rfl
theorem wOff_hi (f : Nat → Int) (p : Nat → Bool) (w : Nat) : ∀ n, n ≤ w → wN (wOff p w) n = wN p n ∧ wS f (wOff p w) n = wS f p n
  | 0, _ => ⟨rfl, rfl⟩
  | n + 1, h => by
    have ih := wOff_hi f p w n (by omega)
    have e : wOff p w n = p n := by
      unfold wOff
      rw [if_neg (by omega)]
    refine ⟨?_, ?_⟩
    · show wN (wOff p w) n + (if wOff p w n = true then 1 else 0) = wN p n + (if p n = true then 1 else 0)
      rw [ih.1, e]
    · show wS f (wOff p w) n + (if wOff p w n = true then f n else 0) = wS f p n + (if p n = true then f n else 0)
      rw [ih.2, e]
theorem wOff_lo (f : Nat → Int) (p : Nat → Bool) (w : Nat) (hp : p w = true) : ∀ n, w < n → wN (wOff p w) n = wN p n - 1 ∧ wS f (wOff p w) n = wS f p n - f w
  | 0, h => absurd h (Nat.not_lt_zero w)
  | n + 1, h => by
    rcases Nat.lt_or_ge w n with z | z
    · have ih := wOff_lo f p w hp n z
      have e : wOff p w n = p n := by
        unfold wOff
        rw [if_neg (by omega)]
      refine ⟨?_, ?_⟩
      · show wN (wOff p w) n + (if wOff p w n = true then 1 else 0) = wN p n + (if p n = true then 1 else 0) - 1
        rw [ih.1, e]
        omega
      · show wS f (wOff p w) n + (if wOff p w n = true then f n else 0) = wS f p n + (if p n = true then f n else 0) - f w
        rw [ih.2, e]
        omega
    · have en : n = w := by omega
      subst en
      have ih := wOff_hi f p n n (Nat.le_refl n)
      have e : wOff p n n = false := by
        unfold wOff
        rw [if_pos rfl]
      refine ⟨?_, ?_⟩
      · show wN (wOff p n) n + (if wOff p n n = true then 1 else 0) = wN p n + (if p n = true then 1 else 0) - 1
        rw [ih.1, e, if_pos hp, if_neg (by decide)]
        omega
      · show wS f (wOff p n) n + (if wOff p n n = true then f n else 0) = wS f p n + (if p n = true then f n else 0) - f n
        rw [ih.2, e, if_pos hp, if_neg (by decide)]
        omega
theorem w_mul {N T a b : Int} (hN : 2 ≤ N) (ha : T ≤ a * N) (hb : T ≤ b * N) : T - b ≤ a * (N - 1) := by
  have h1 : (N - 1) * T ≤ (N - 1) * (a * N) := Int.mul_le_mul_of_nonneg_left ha (by omega)
  have h2 : (N - 1) * T = N * T - T := by rw [Int.sub_mul, Int.one_mul]
  have h3 : (N - 1) * (a * N) = N * (a * (N - 1)) := by
    rw [Int.mul_comm (N - 1) (a * N), Int.mul_comm a N, Int.mul_assoc]
  have h4 : N * (T - b) = N * T - b * N := by rw [Int.mul_sub, Int.mul_comm N b]
  exact Int.le_of_mul_le_mul_left (a := N) (by omega) (by omega)
theorem w_go (x : Int) (f : Nat → Int) (k : Nat) (hx : 0 < x) : ∀ (m : Nat) (p : Nat → Bool), wN p k = (m : Int) → 0 < m → (∀ w, w < k → p w = false → x + wS f p k ≤ f w * wN p k) → ∃ p', wG x f p' k
  | 0, _, _, h, _ => absurd h (Nat.lt_irrefl 0)
  | m + 1, p, hm, _, hi => by
    rcases Classical.em (∀ w, w < k → p w = true → f w * wN p k < x + wS f p k) with q | q
    · refine ⟨p, by omega, fun w hw => ⟨fun z => q w hw z, fun z => ?_⟩⟩
      rcases hb : p w with _ | _
      · have := hi w hw hb
        omega
      · rfl
    · have ⟨w, q2⟩ := Classical.not_forall.mp q
      have ⟨hw, q3⟩ := Classical.not_imp.mp q2
      have ⟨hp, q4⟩ := Classical.not_imp.mp q3
      have o := wOff_lo f p w hp k hw
      rcases Nat.eq_zero_or_pos m with z | z
      · have z0 : wN (wOff p w) k = 0 := by rw [o.1, hm, z]; rfl
        have z1 := wS_0 f (wOff p w) k z0
        have z2 : wN p k = 1 := by rw [hm, z]; rfl
        rw [z2, Int.mul_one] at q4
        omega
      · refine w_go x f k hx m (wOff p w) (by rw [o.1, hm]; omega) z (fun u hu hf => ?_)
        rw [o.1, o.2]
        have k1 : x + wS f p k ≤ f u * wN p k := by
          rcases Nat.decEq u w with e | e
          · refine hi u hu ?_
            unfold wOff at hf
            rw [if_neg e] at hf
            exact hf
          · rw [e]
            omega
        have k2 := w_mul (N := wN p k) (T := x + wS f p k) (a := f u) (b := f w) (by omega) k1 (by omega)
        omega
theorem wN_all : ∀ n : Nat, wN (fun _ => true) n = (n : Int)
  | 0 => rfl
  | n + 1 => by
    show wN (fun _ => true) n + (if true = true then 1 else 0) = ((n + 1 : Nat) : Int)
    rw [wN_all n, if_pos rfl]
    omega
theorem w_ex (x : Int) (f : Nat → Int) (k : Nat) (hx : 0 < x) (hk : 0 < k) : ∃ p, wG x f p k := w_go x f k hx k (fun _ => true) (wN_all k) hk (fun _ _ h => absurd h (by decide))
def lvP (set : Int32) (w : Nat) : Bool := decide (((set >>> (Int32.ofNat w &&& 31)) &&& 1) = 1)
def lvF (v : Vf) (t : Int32) (w : Nat) : Int := (mFl v (Int32.ofNat w) t).toInt
def mLev (v : Vf) (x t set : Int32) : Prop := wG x.toInt (lvF v t) (lvP set) (v 16 0).toNatClampNeg
theorem lvP_t {set w : Int32} (h : mHb set w) (h0 : 0 ≤ w.toInt) : lvP set w.toNatClampNeg = true := by
  unfold lvP
  rw [i_ofN h0]
  exact decide_eq_true h
theorem lvP_f {set w : Int32} (h : ¬ mHb set w) (h0 : 0 ≤ w.toInt) : lvP set w.toNatClampNeg = false := by
  unfold lvP
  rw [i_ofN h0]
  exact decide_eq_false h
theorem lvF_e {v : Vf} {t w : Int32} (h0 : 0 ≤ w.toInt) : lvF v t w.toNatClampNeg = (mFl v w t).toInt := by
  unfold lvF
  rw [i_ofN h0]
def encB (b0 b1 b2 b3 b4 : Bool) : Int32 := Int32.ofNat (b0.toNat + 2 * b1.toNat + 4 * b2.toNat + 8 * b3.toNat + 16 * b4.toNat)
set_option maxRecDepth 100000 in
theorem encB_all : ∀ b0 b1 b2 b3 b4 : Bool, (0 ≤ (encB b0 b1 b2 b3 b4).toInt ∧ (encB b0 b1 b2 b3 b4).toInt ≤ 31) ∧ lvP (encB b0 b1 b2 b3 b4) 0 = b0 ∧ lvP (encB b0 b1 b2 b3 b4) 1 = b1 ∧ lvP (encB b0 b1 b2 b3 b4) 2 = b2 ∧ lvP (encB b0 b1 b2 b3 b4) 3 = b3 ∧ lvP (encB b0 b1 b2 b3 b4) 4 = b4 := by decide
theorem wc_S {f : Nat → Int} {p q : Nat → Bool} : ∀ n, (∀ w, w < n → p w = q w) → wS f p n = wS f q n ∧ wN p n = wN q n
  | 0, _ => ⟨rfl, rfl⟩
  | n + 1, h => by
    have ih := wc_S (f := f) n (fun w hw => h w (by omega))
    have e := h n (Nat.lt_succ_self n)
    refine ⟨?_, ?_⟩
    · show wS f p n + (if p n = true then f n else 0) = wS f q n + (if q n = true then f n else 0)
      rw [ih.1, e]
    · show wN p n + (if p n = true then 1 else 0) = wN q n + (if q n = true then 1 else 0)
      rw [ih.2, e]
theorem lev_ex {v : Vf} {x t : Int32} (hx : 0 < x.toInt) (h1 : 1 ≤ (v 16 0).toInt) (h5 : (v 16 0).toInt ≤ 5) : ∃ s : Int32, (1 ≤ s.toInt ∧ s.toInt ≤ 31) ∧ mLev v x t s := by
  have e := i_nat (x := v 16 0) (by omega)
  obtain ⟨p, hp⟩ := w_ex x.toInt (lvF v t) (v 16 0).toNatClampNeg hx (by omega)
  have a := encB_all (p 0) (p 1) (p 2) (p 3) (p 4)
  have hq : ∀ w, w < (v 16 0).toNatClampNeg → lvP (encB (p 0) (p 1) (p 2) (p 3) (p 4)) w = p w := by
    intro w hw
    rcases (show w = 0 ∨ w = 1 ∨ w = 2 ∨ w = 3 ∨ w = 4 by omega) with rfl | rfl | rfl | rfl | rfl
    · exact a.2.1
    · exact a.2.2.1
    · exact a.2.2.2.1
    · exact a.2.2.2.2.1
    · exact a.2.2.2.2.2
  have c := wc_S (f := lvF v t) (v 16 0).toNatClampNeg hq
  have hl : mLev v x t (encB (p 0) (p 1) (p 2) (p 3) (p 4)) := by
    unfold mLev wG
    rw [c.1, c.2]
    exact ⟨hp.1, fun w hw => by rw [hq w hw]; exact hp.2 w hw⟩
  refine ⟨encB (p 0) (p 1) (p 2) (p 3) (p 4), ⟨?_, a.1.2⟩, hl⟩
  rcases Int.lt_or_le 0 (encB (p 0) (p 1) (p 2) (p 3) (p 4)).toInt with z | z
  · omega
  · exfalso
    have z0 : encB (p 0) (p 1) (p 2) (p 3) (p 4) = 0 := i_eqr (by rw [show (0 : Int32).toInt = 0 by decide]; omega)
    have zf : ∀ w, w < (v 16 0).toNatClampNeg → lvP (encB (p 0) (p 1) (p 2) (p 3) (p 4)) w = (fun _ => false) w := by
      intro w hw
      rw [z0]
      rcases (show w = 0 ∨ w = 1 ∨ w = 2 ∨ w = 3 ∨ w = 4 by omega) with rfl | rfl | rfl | rfl | rfl <;> decide
    have c2 := wc_S (f := lvF v t) (v 16 0).toNatClampNeg zf
    have z1 : ∀ n, wN (fun _ => false) n = 0 := by
      intro n
      induction n with
      | zero => rfl
      | succ n ih =>
        show wN (fun _ => false) n + (if false = true then 1 else 0) = 0
        rw [ih]
        rfl
    have z2 := hl.1
    rw [c2.2, z1] at z2
    omega
theorem i_mul5 {z x y : Int32} (e : z = x * y) (hx : -342 ≤ x.toInt ∧ x.toInt ≤ 342) (hy : 0 ≤ y.toInt ∧ y.toInt ≤ 5) : z.toInt = x.toInt * y.toInt := by
  have k1 : y.toInt * x.toInt ≤ y.toInt * 342 := Int.mul_le_mul_of_nonneg_left hx.2 hy.1
  have k2 : y.toInt * (-342) ≤ y.toInt * x.toInt := Int.mul_le_mul_of_nonneg_left hx.1 hy.1
  rw [Int.mul_comm y.toInt x.toInt] at k1 k2
  exact i_mul e (by omega)
theorem wS_s (f : Nat → Int) (p : Nat → Bool) (n : Nat) : wS f p (n + 1) = wS f p n + (if p n = true then f n else 0) := rfl
theorem wN_s (p : Nat → Bool) (n : Nat) : wN p (n + 1) = wN p n + (if p n = true then 1 else 0) := rfl
def lWt : List Nat := [64, 65, 66]
theorem tn0 : (0 : Int32).toNatClampNeg = 0 := by decide
theorem lev_no {v : Vf} {x t set lw r n s : Int32} {w : Nat} {f : Int} (q : mLev v x t set) (hw : w < (v 16 0).toNatClampNeg) (hf : lvF v t w = f) (hN : n.toInt = wN (lvP set) (v 16 0).toNatClampNeg) (hS : s.toInt = x.toInt + wS (lvF v t) (lvP set) (v 16 0).toNatClampNeg) (hp : (r.toInt = 1 ∧ lvP set w = true) ∨ (r.toInt = 0 ∧ lvP set w = false)) (hl : (lw.toInt = 1 ∧ f * n.toInt < s.toInt) ∨ (lw.toInt = 0 ∧ s.toInt ≤ f * n.toInt)) (hne : lw.toInt ≠ r.toInt) : False := by
  have z := q.2 w hw
  rw [hf, ← hN, ← hS] at z
  rcases hp with y | y
  · have z2 := z.mp y.2
    omega
  · have z2 : ¬ (f * n.toInt < s.toInt) := fun k => absurd (z.mpr k) (by rw [y.2]; decide)
    omega
theorem mPart_f {v w : Vf} (h : scL lWt v w) : ∀ t, t ∉ lWt → w t = v t := h
theorem lev_fr {v w : Vf} {x t set : Int32} (h : scL lWt v w) : mLev w x t set = mLev v x t set := by
  have e : lvF w t = lvF v t := by
    funext k
    have hp : ∀ c t, ∀ n, mPullN w c t n = mPullN v c t n := by
      intro c t n
      induction n with
      | zero => rfl
      | succ n ih =>
        show mPullN w c t n + mPart w (Int32.ofNat n) c t = mPullN v c t n + mPart v (Int32.ofNat n) c t
        rw [ih]
        unfold mPart
        rw [h 62 (by decide), h 8 (by decide), h 24 (by decide), h 6 (by decide), h 0 (by decide), h 7 (by decide), h 5 (by decide)]
    unfold lvF mFl mH mStiff mPull
    rw [h 17 (by decide), h 18 (by decide), h 2 (by decide), h 3 (by decide), h 25 (by decide), h 4 (by decide), hp]
  unfold mLev
  rw [e, h 16 (by decide)]
