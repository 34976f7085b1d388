/-! ===== reads of the class against the reference's functions ===== -/
theorem mAbs_nn {x : Int32} (h : -1000000 ≤ x.toInt ∧ x.toInt ≤ 1000000) : 0 ≤ (mAbs x).toInt := by
  have n0 : (0 : Int32).toInt = 0 := by decide
  unfold mAbs
  by_cases q : x < 0
  · rw [if_pos q, neg_sub0]
    have q2 := i_lt q
    rw [i_sub (z := 0 - x) rfl (by omega)]
    omega
  · rw [if_neg q]
    have q2 := i_nlt q
    omega
theorem mMx_0 {a : Int32} (h : 0 ≤ a.toInt) : mMx a (mAbs 0) = a := by
  have e : mAbs 0 = 0 := by decide
  have n0 : (0 : Int32).toInt = 0 := by decide
  unfold mMx
  rw [e, if_neg (fun q => by have q2 := i_lt q; omega)]
theorem mMx_nn {a b : Int32} (h : 0 ≤ a.toInt) (hb : 0 ≤ b.toInt) : 0 ≤ (mMx a b).toInt := by
  unfold mMx
  split
  · exact hb
  · exact h
theorem abs_if {x : Int32} : (if 0 ≤ x then x else 0 - x) = mAbs x := by
  unfold mAbs
  by_cases q : 0 ≤ x
  · rw [if_pos q, if_neg (Int32.not_lt.mpr q)]
  · rw [if_neg q, if_pos (Int32.not_le.mp q), neg_sub0]
theorem lean_skip {v : Vf} {c t way way2 lean : Int32} (h : lean = mLeanN v c t (way.toInt - 1).toNat ∧ 0 ≤ lean.toInt) (hw : 1 ≤ way.toInt) (h2 : way2.toInt = way.toInt + 1) (hb : (mBes v c way).toInt < 0) : lean = mLeanN v c t (way2.toInt - 1).toNat ∧ 0 ≤ lean.toInt := by
  refine ⟨lean_m h.1 hw h2 ?_, h.2⟩
  unfold mDif
  rw [if_pos hb, mMx_0 h.2]
theorem lean_next {v : Vf} {c t way way2 lean to x y z hr : Int32} {ht : Int32} (h : lean = mLeanN v c t (way.toInt - 1).toNat ∧ 0 ≤ lean.toInt) (hw : 1 ≤ way.toInt) (h2 : way2.toInt = way.toInt + 1) (hH : MdH v) (hW : 1 ≤ (v 0 0).toInt) (hc : 0 ≤ c.toInt ∧ c.toInt ≤ 23) (hto : 0 ≤ to.toInt ∧ to.toInt ≤ 23) (htt : 0 ≤ t.toInt ∧ t.toInt ≤ 2000000) (hb : to = mBes v c way) (e1 : ht = mH v to t) (e2 : hr = mH v c t) (e3 : x = ht - hr) (e4 : y = if 0 ≤ x then x else 0 - x) (e5 : z = if lean < y then y else lean) : z = mLeanN v c t (way2.toInt - 1).toNat ∧ 0 ≤ z.toInt := by
  have b1 := mH_b hH hW hto htt
  have b2 := mH_b hH hW hc htt
  rw [← e1] at b1
  rw [← e2] at b2
  have t3 := i_sub e3 (by omega)
  have ed : x = mDif v c t way := by
    unfold mDif
    rw [← hb, if_neg (show ¬ to.toInt < 0 by omega), e3, e1, e2]
  have ey : y = mAbs x := by rw [e4, abs_if]
  have ez : z = mMx lean (mAbs (mDif v c t way)) := by rw [e5, ey, ed]; rfl
  refine ⟨lean_m h.1 hw h2 ez, ?_⟩
  rw [ez, ← ed]
  exact mMx_nn h.2 (mAbs_nn (by omega))
theorem per_eq {vm vp vs : Vf} {r : Int32} (hR : RW vm vp vs) (h : r.toInt = perI (fun j => (vp (20 + 10 * j) 0).toInt) (vp 5 0).toInt.toNat) : r = vm 22 0 := by
  have h22 := hR.2.2.2.2.2.2.2.2.1
  have h4 := hR.2.2.2.1.2.1.1
  have e5 : vp 5 0 = vm 4 0 := hR.1.2.1.1
  refine i_eqr ?_
  rw [h, h22, e5]
  refine perI_congr _ (fun j hj => ?_)
  have hj3 : j < 3 := by omega
  rcases (show j = 0 ∨ j = 1 ∨ j = 2 by omega) with rfl | rfl | rfl
  · show (vp 20 0).toInt = _
    rw [(hR.1.2.1.2.1.1 (by omega)).1.1]
  · show (vp 30 0).toInt = _
    rw [(hR.1.2.1.2.2.1.1 (by omega)).1.1]
  · show (vp 40 0).toInt = _
    rw [(hR.1.2.1.2.2.2.1 (by omega)).1.1]
/-! answers: refusals first -/
def UnkP (ok : Prop) (r : Int32) (P : Prop) : Prop := (r.toInt = -1000000001 ∧ ¬ ok) ∨ (ok ∧ P)
def OutP (ok : Prop) (r : Int32) (P : Prop) : Prop := (r.toInt = -1000000002 ∧ ¬ ok) ∨ (ok ∧ P)
def NotP (ok : Prop) (r : Int32) (P : Prop) : Prop := (r.toInt = -1000000003 ∧ ¬ ok) ∨ (ok ∧ P)
theorem unk_eq {ok : Prop} {r q : Int32} {P Q : Prop} (h1 : UnkP ok r P) (h2 : UnkP ok q Q) (h : P → Q → r.toInt = q.toInt) : r.toInt = q.toInt := by
  rcases h1 with ⟨a1, a2⟩ | ⟨a1, a2⟩
  · rcases h2 with ⟨b1, b2⟩ | ⟨b1, b2⟩
    · omega
    · exact absurd b1 a2
  · rcases h2 with ⟨b1, b2⟩ | ⟨b1, b2⟩
    · exact absurd a1 b2
    · exact h a2 b2
theorem out_eq {ok : Prop} {r q : Int32} {P Q : Prop} (h1 : OutP ok r P) (h2 : OutP ok q Q) (h : P → Q → r.toInt = q.toInt) : r.toInt = q.toInt := by
  rcases h1 with ⟨a1, a2⟩ | ⟨a1, a2⟩
  · rcases h2 with ⟨b1, b2⟩ | ⟨b1, b2⟩
    · omega
    · exact absurd b1 a2
  · rcases h2 with ⟨b1, b2⟩ | ⟨b1, b2⟩
    · exact absurd a1 b2
    · exact h a2 b2
theorem not_eq {ok : Prop} {r q : Int32} {P Q : Prop} (h1 : NotP ok r P) (h2 : NotP ok q Q) (h : P → Q → r.toInt = q.toInt) : r.toInt = q.toInt := by
  rcases h1 with ⟨a1, a2⟩ | ⟨a1, a2⟩
  · rcases h2 with ⟨b1, b2⟩ | ⟨b1, b2⟩
    · omega
    · exact absurd b1 a2
  · rcases h2 with ⟨b1, b2⟩ | ⟨b1, b2⟩
    · exact absurd a1 b2
    · exact h a2 b2
/-- an answer out of a table of what is asked -/
def TabP (n : Int) (w r : Int32) (a : Nat → Int32) : Prop := ((w.toInt < 0 ∨ n < w.toInt) ∧ r.toInt = -1000000002) ∨ ∃ k : Nat, w.toInt = k ∧ (k : Int) ≤ n ∧ r = a k
theorem tab_eq {n : Int} {w r q : Int32} {a : Nat → Int32} (h1 : TabP n w r a) (h2 : TabP n w q a) : r.toInt = q.toInt := by
  rcases h1 with ⟨a1, a2⟩ | ⟨k, a1, a2, a3⟩
  · rcases h2 with ⟨b1, b2⟩ | ⟨j, b1, b2, b3⟩
    · omega
    · omega
  · rcases h2 with ⟨b1, b2⟩ | ⟨j, b1, b2, b3⟩
    · omega
    · have e : k = j := by omega
      subst e
      rw [a3, b3]
theorem ans_eq {r q x : Int32} (h1 : r = x) (h2 : q = x) : r.toInt = q.toInt := by rw [h1, h2]
/-- the next of a period at which something holds -/
def NxP (P : Nat → Prop) (n : Int) (r : Int32) : Prop := (r.toInt = -1 ∧ ∀ i : Nat, (i : Int) < n → ¬ P i) ∨ ∃ k : Nat, r.toInt = k ∧ (k : Int) < n ∧ P k ∧ ∀ i : Nat, i < k → ¬ P i
theorem nx_eq {P : Nat → Prop} {n : Int} {r q : Int32} (h1 : NxP P n r) (h2 : NxP P n q) : r.toInt = q.toInt := by
  rcases h1 with ⟨a1, a2⟩ | ⟨k, a1, a2, a3, a4⟩
  · rcases h2 with ⟨b1, b2⟩ | ⟨j, b1, b2, b3, b4⟩
    · omega
    · exact absurd b3 (a2 j b2)
  · rcases h2 with ⟨b1, b2⟩ | ⟨j, b1, b2, b3, b4⟩
    · exact absurd a3 (b2 k a2)
    · rcases Nat.lt_trichotomy k j with z | z | z
      · exact absurd a3 (b4 k z)
      · omega
      · exact absurd b3 (a4 j z)
theorem nx_no {P : Nat → Prop} {i i2 : Int32} (h : ∀ j : Nat, (j : Int) < i.toInt → ¬ P j) (h0 : 0 ≤ i.toInt) (h1 : i2.toInt = i.toInt + 1) (hn : ¬ P i.toNatClampNeg) : ∀ j : Nat, (j : Int) < i2.toInt → ¬ P j := by
  intro j hj
  have e := i_nat h0
  by_cases q : j = i.toNatClampNeg
  · subst q
    exact hn
  · exact h j (by omega)
theorem nx_at {P : Nat → Prop} {n : Int} {i : Int32} (h : ∀ j : Nat, (j : Int) < i.toInt → ¬ P j) (h0 : 0 ≤ i.toInt) (hi : i.toInt < n) (hp : P i.toNatClampNeg) : NxP P n i := by
  have e := i_nat h0
  exact Or.inr ⟨i.toNatClampNeg, e.symm, by omega, hp, fun j hj => h j (by omega)⟩
theorem nx_end {P : Nat → Prop} {n : Int} {i r : Int32} (h : ∀ j : Nat, (j : Int) < i.toInt → ¬ P j) (hi : n ≤ i.toInt) (hr : r.toInt = -1) : NxP P n r := Or.inl ⟨hr, fun j hj => h j (by omega)⟩
def mC (v : Vf) (x y : Int32) : Int32 := v 0 0 * y + x
theorem mC_i {v : Vf} {x y : Int32} (hG : mdG v) (h : inG x y (v 0 0) (v 1 0)) : (mC v x y).toInt = (v 0 0).toInt * y.toInt + x.toInt := by
  obtain ⟨⟨x0, x1⟩, y0, y1⟩ := h
  have hb := mul_b (a := (v 0 0).toInt) (b := y.toInt) (A := 6) (B := 6) hG.1 (by have := hG.2.1; omega)
  have g := hG.1
  have t1 := i_mul (z := v 0 0 * y) rfl (by omega)
  have t2 := i_add (z := v 0 0 * y + x) rfl (by omega)
  unfold mC
  rw [t2, t1]
theorem mC_cW {v : Vf} {x y : Int32} (hG : mdG v) (h : inG x y (v 0 0) (v 1 0)) : cW v (mC v x y) := by
  have e := mC_i hG h
  have q := mcell_lt hG.1 hG.2.2 h.1.1 h.1.2 h.2.1 h.2.2
  have x0 := h.1.1
  exact ⟨by omega, by omega⟩
theorem mC_eq {v : Vf} {x y r W D : Int32} (hG : mdG v) (eW : W = v 0 0) (eD : D = v 1 0) (h : inG x y W D) (hr : r.toInt = W.toInt * y.toInt + x.toInt) : r = mC v x y := by
  subst eW
  subst eD
  exact i_eqr (by rw [hr, mC_i hG h])
def mTv (v : Vf) (k : Nat) : Int32 := match k with
  | 0 => v 0 0
  | 1 => v 1 0
  | 2 => v 4 0
  | 3 => v 9 0
  | 4 => v 12 0
  | 5 => v 16 0
  | 6 => v 19 0
  | 7 => v 32 0
  | 8 => v 23 0
  | 9 => v 22 0
  | 10 => if (v 0 0).toInt = 0 then 0 else mPair v (v 27 0)
  | 11 => v 28 0
  | 12 => v 29 0
  | 13 => v 67 0
  | _ => v 75 0
noncomputable def mCv (v : Vf) (c : Int32) (k : Nat) : Int32 := match k with
  | 0 => v 2 c.toNatClampNeg
  | 1 => v 3 c.toNatClampNeg
  | 2 => v 25 c.toNatClampNeg
  | 3 => mStiff v c
  | 4 => mPull v c (v 23 0)
  | 5 => mH v c (v 23 0)
  | _ => mLean v c (v 23 0)
def mMv (v : Vf) (i : Int32) (k : Nat) : Int32 := match k with
  | 0 => v 5 i.toNatClampNeg
  | 1 => v 6 i.toNatClampNeg
  | 2 => v 7 i.toNatClampNeg
  | 3 => v 24 i.toNatClampNeg
  | _ => mPart v i 0 (v 23 0)
theorem pair_told {vm vp vs : Vf} {r : Int32} (hR : RW vm vp vs) (h : ((vp 0 0).toInt < 1 → r = 0) ∧ (1 ≤ (vp 0 0).toInt → r = (vs 4 0 - vs 4 0 / vp 0 0 * vp 0 0) * 10 + vs 4 0 / vp 0 0)) : r = if (vm 0 0).toInt = 0 then 0 else mPair vm (vm 27 0) := by
  have e0 : vp 0 0 = vm 0 0 := hR.1.1.1
  have e4 : vs 4 0 = vm 27 0 := hR.2.1.2.2.2.2.1
  have g := hR.2.2.2.1.1.1
  by_cases q : (vm 0 0).toInt = 0
  · rw [if_pos q]
    exact h.1 (by rw [e0]; omega)
  · rw [if_neg q]
    have z := pair_cls (h.2 (by rw [e0]; omega)) e0
    rw [e4] at z
    exact z
theorem moons_w {vm vp vs : Vf} (hR : RW vm vp vs) (h : 1 ≤ (vm 4 0).toInt) : 1 ≤ (vm 0 0).toInt ∧ 1 ≤ (vm 0 0).toInt * (vm 1 0).toInt := by
  rcases hR.2.2.2.1.2.2.1 with q | q
  · exact ⟨q.1, mul_pos1 q.1 q.2⟩
  · omega
theorem part0_cls {vm vp vs : Vf} {m b0 b1 b2 b3 b4 : Nat} {k step x : Int32} (hR : RW vm vp vs) (hM : RqM vm vp m b0 b1 b2 b3 b4) (hm : (m : Int) < (vm 4 0).toInt) (hk : k.toInt = m) (hg : (-1 : Int32) = vm 62 0) (ht : 0 ≤ step.toInt ∧ step.toInt ≤ 2000000) (hx : x = vp b3 ((step.toInt + (vp b4 (0 : Int32).toNatClampNeg).toInt) % (vp b0 0).toInt + (vs 1 m).toInt).toNat) : x = mPart vm k 0 step := by
  have hw := moons_w hR (by omega)
  have n0 : (0 : Int32).toInt = 0 := by decide
  refine part_cls hR hM hm hk (by decide) (by rw [n0]; omega) ht (fun q => ?_) hx
  rw [← hg] at q
  rw [q] at hk
  rw [show (-1 : Int32).toInt = -1 by decide] at hk
  omega
