/-! ===== soonest: sets of cells that the cart can reach ===== -/
noncomputable def mRwN (v : Vf) (c t acc : Int32) : Nat → Int32
  | 0 => acc
  | n + 1 => if (mGo v c (Int32.ofNat (n + 1)) t).toInt < 0 then mRwN v c t acc n else mRwN v c t acc n ||| (1 : Int32) <<< (mGo v c (Int32.ofNat (n + 1)) t &&& 31)
noncomputable def mReN (v : Vf) (on t : Int32) : Nat → Int32
  | 0 => on
  | n + 1 => @ite _ (hasB on (Int32.ofNat n)) (Classical.propDecidable _) (mRwN v (Int32.ofNat n) t (mReN v on t n) 4) (mReN v on t n)
noncomputable def mRe (v : Vf) (on t : Int32) : Int32 := mReN v on t ((v 0 0).toInt * (v 1 0).toInt).toNat
noncomputable def mOnN (v : Vf) (a t : Int32) : Nat → Int32
  | 0 => (1 : Int32) <<< (a &&& 31)
  | n + 1 => mRe v (mOnN v a t n) (t + Int32.ofNat n + 1)
def SoP (v : Vf) (a b t r : Int32) : Prop := NxP (fun n => hasB (mOnN v a t n) b) 61 r
/-- the cells reached so far from one more cell, some ways on -/
def RwP (v : Vf) (on k t : Int32) (w : Int) (s : Int32) : Prop := (¬ hasB on k → s = mReN v on t k.toNatClampNeg) ∧ (hasB on k → s = mRwN v k t (mReN v on t k.toNatClampNeg) (w - 1).toNat)
theorem rwp_in {v : Vf} {on k t s w : Int32} (h : s = mReN v on t k.toNatClampNeg) (hw : w.toInt = 1) : RwP v on k t w.toInt s := by
  refine ⟨fun _ => h, fun _ => ?_⟩
  rw [hw]
  exact h
theorem rwp_out {v : Vf} {on k k2 t s w : Int32} (h : RwP v on k t w.toInt s) (h0 : 0 ≤ k.toInt) (h2 : k2.toInt = k.toInt + 1) (hw : w.toInt = 5 ∨ ¬ hasB on k) : s = mReN v on t k2.toNatClampNeg := by
  rw [i_nat1 h0 h2]
  show s = @ite _ (hasB on (Int32.ofNat k.toNatClampNeg)) (Classical.propDecidable _) (mRwN v (Int32.ofNat k.toNatClampNeg) t (mReN v on t k.toNatClampNeg) 4) (mReN v on t k.toNatClampNeg)
  rw [i_ofN h0]
  by_cases q : hasB on k
  · rw [if_pos q]
    have z := h.2 q
    have w5 := hw.resolve_right (fun n => n q)
    rw [w5] at z
    exact z
  · rw [if_neg q]
    exact h.1 q
theorem way_s {w w2 : Int32} (hw : 1 ≤ w.toInt) (h2 : w2.toInt = w.toInt + 1) : (w2.toInt - 1).toNat = (w.toInt - 1).toNat + 1 ∧ Int32.ofNat ((w.toInt - 1).toNat + 1) = w := by
  refine ⟨by omega, ?_⟩
  rw [show (w.toInt - 1).toNat + 1 = w.toNatClampNeg from by show _ = w.toInt.toNat; omega]
  exact i_ofN (by omega)
theorem rw_step {v : Vf} {c t acc s x w w2 : Int32} (h : s = mRwN v c t acc (w.toInt - 1).toNat) (hw : 1 ≤ w.toInt) (h2 : w2.toInt = w.toInt + 1) (hz : ((mGo v c w t).toInt < 0 ∧ x = s) ∨ (¬ (mGo v c w t).toInt < 0 ∧ x = s ||| (1 : Int32) <<< (mGo v c w t &&& 31))) : x = mRwN v c t acc (w2.toInt - 1).toNat := by
  have e := way_s hw h2
  rw [e.1]
  show x = if (mGo v c (Int32.ofNat ((w.toInt - 1).toNat + 1)) t).toInt < 0 then mRwN v c t acc (w.toInt - 1).toNat else mRwN v c t acc (w.toInt - 1).toNat ||| (1 : Int32) <<< (mGo v c (Int32.ofNat ((w.toInt - 1).toNat + 1)) t &&& 31)
  rw [e.2, ← h]
  rcases hz with ⟨a, b⟩ | ⟨a, b⟩
  · rw [if_pos a]
    exact b
  · rw [if_neg a]
    exact b
theorem rwp_cls {v : Vf} {on k t s x w w2 there push : Int32} (h : RwP v on k t w.toInt s) (hb : hasB on k) (hw : 1 ≤ w.toInt) (h2 : w2.toInt = w.toInt + 1) (hp : PuP v k w there t push) (hz : (push.toInt = -1 ∧ x = s) ∨ (push.toInt ≠ -1 ∧ x = s ||| (1 : Int32) <<< (there &&& 31))) : RwP v on k t w2.toInt x := by
  refine ⟨fun q => absurd hb q, fun _ => rw_step (h.2 hb) hw h2 ?_⟩
  rcases hp with ⟨a, b⟩ | ⟨a, b, c, d⟩
  · rcases hz with ⟨e, f⟩ | ⟨e, f⟩
    · exact Or.inl ⟨by omega, f⟩
    · exact absurd b e
  · rcases hz with ⟨e, f⟩ | ⟨e, f⟩
    · omega
    · exact Or.inr ⟨by rw [a]; omega, by rw [a]; exact f⟩
theorem rwp_m {v : Vf} {on k t s x w w2 go sb : Int32} (h : RwP v on k t w.toInt s) (hb : hasB on k) (hw : 1 ≤ w.toInt) (h2 : w2.toInt = w.toInt + 1) (hg : go = mGo v k w t) (hs : (go.toInt < 0 ∧ sb = 0) ∨ (¬ go.toInt < 0 ∧ sb = (1 : Int32) <<< (go &&& 31))) (ex : x = s ||| sb) : RwP v on k t w2.toInt x := by
  refine ⟨fun q => absurd hb q, fun _ => rw_step (h.2 hb) hw h2 ?_⟩
  rw [← hg]
  rcases hs with ⟨e, f⟩ | ⟨e, f⟩
  · exact Or.inl ⟨e, by rw [ex, f, Int32.or_zero]⟩
  · exact Or.inr ⟨e, by rw [ex, f]⟩
theorem on_next {v : Vf} {a t n n2 s x r : Int32} (h : s = mOnN v a t n.toNatClampNeg) (h0 : 0 ≤ n.toInt) (h2 : n2.toInt = n.toInt + 1) (ex : x = t + n + 1) (hr : r = mRe v s x) : r = mOnN v a t n2.toNatClampNeg := by
  rw [i_nat1 h0 h2]
  show r = mRe v (mOnN v a t n.toNatClampNeg) (t + Int32.ofNat n.toNatClampNeg + 1)
  rw [i_ofN h0, ← h, ← ex]
  exact hr
/-! pairs -/
theorem op_cW {v : Vf} {p : Int32} (hG : mdG v) (h : 0 ≤ (mOP v p).toInt) : cW v (mOP v p) := by
  obtain ⟨g1, g2, g3⟩ := hG
  refine ⟨h, ?_⟩
  unfold mOP at h ⊢
  by_cases q : 0 ≤ p.toInt ∧ mIn v (p / 10) (p - p / 10 * 10)
  · rw [if_pos q] at h ⊢
    obtain ⟨-, q1, q2⟩ := q
    have m := mcell_lt (x := p / 10) (y := p - p / 10 * 10) g1 g3 q1.1 q1.2 q2.1 q2.2
    have t3 := i_mul (z := v 0 0 * (p - p / 10 * 10)) rfl (by omega)
    have t4 := i_add (z := v 0 0 * (p - p / 10 * 10) + p / 10) rfl (by omega)
    omega
  · rw [if_neg q] at h
    exact absurd h (by decide)
