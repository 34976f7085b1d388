/-! the greatest divisor and the period, as the class has them -/
theorem lcm_step {p m z q d : Int32} (hd : d.toInt = (Int.gcd p.toInt m.toInt : Int)) (eq_ : q = p / d) (ez : z = q * m) (b1 : 1 ≤ p.toInt ∧ p.toInt ≤ 81) (bm : 1 ≤ m.toInt ∧ m.toInt ≤ 9) : z.toInt = lcmS p.toInt m.toInt ∧ 1 ≤ z.toInt := by
  have g := gcd_le (a := p.toInt) (b := m.toInt) b1.1
  have h1 := i_div eq_ (by omega) (by omega)
  have h3 := mul_b (a := q.toInt) (b := m.toInt) (A := 81) (B := 9) (by omega) (by omega)
  have h2 := i_mul ez (by omega)
  have h4 := perl eq_ ez b1 (by omega) bm
  refine ⟨?_, h4.1⟩
  unfold lcmS
  rw [← hd, h2, h1.1]
def gdI (a b hi lo i : Int) : Prop := (0 ≤ hi ∧ hi ≤ 100000) ∧ (0 ≤ lo ∧ lo + i ≤ 60) ∧ Int.gcd hi lo = Int.gcd a b
theorem abs_in {a x : Int32} (h : -100000 ≤ a.toInt ∧ a.toInt ≤ 100000) (e : x = if 0 ≤ a then a else 0 - a) : x.toInt = (a.toInt.natAbs : Int) := by
  have n0 : (0 : Int32).toInt = 0 := by decide
  by_cases q : 0 ≤ a
  · rw [if_pos q] at e
    have q2 := i_le q
    rw [e]
    omega
  · rw [if_neg q] at e
    have q2 := i_nle q
    rw [i_sub e (by omega)]
    omega
theorem gd_in {a b x y : Int32} (ha : -100000 ≤ a.toInt ∧ a.toInt ≤ 100000) (hb : 0 ≤ b.toInt ∧ b.toInt ≤ 60) (ex : x = if 0 ≤ a then a else 0 - a) (ey : y = if 0 ≤ b then b else 0 - b) : gdI a.toInt b.toInt x.toInt y.toInt (0 : Int32).toInt := by
  have n0 : (0 : Int32).toInt = 0 := by decide
  have h1 := abs_in ha ex
  have h2 := abs_in (by omega) ey
  refine ⟨by omega, by omega, ?_⟩
  show Nat.gcd x.toInt.natAbs y.toInt.natAbs = Nat.gcd a.toInt.natAbs b.toInt.natAbs
  rw [show x.toInt.natAbs = a.toInt.natAbs by omega, show y.toInt.natAbs = b.toInt.natAbs by omega]
theorem gd_next {a b : Int} {hi lo i i2 z : Int32} (h : gdI a b hi.toInt lo.toInt i.toInt) (hl : lo.toInt ≠ 0) (ez : z = hi - hi / lo * lo) (h2 : i2.toInt = i.toInt + 1) (hi0 : 0 ≤ i.toInt) : gdI a b lo.toInt z.toInt i2.toInt := by
  obtain ⟨h0, h1, h3⟩ := h
  have q := i_rem ez h0.1 (by omega)
  refine ⟨by omega, by omega, ?_⟩
  rw [← h3, ← gcd_step hi.toInt lo.toInt, Int.tmod_eq_emod_of_nonneg h0.1, q.1]
theorem gd_out {a b : Int} {hi lo i : Int32} (h : gdI a b hi.toInt lo.toInt i.toInt) (he : lo.toInt = 0 ∨ 64 ≤ i.toInt) : hi.toInt = (Int.gcd a b : Int) := by
  obtain ⟨h0, h1, h3⟩ := h
  have hl : lo.toInt = 0 := by omega
  rw [hl, Int.gcd_zero_right] at h3
  omega
/-! cracks between two cells -/
theorem dm {W c : Int} (hW : 1 ≤ W) : c = W * (c / W) + c % W ∧ 0 ≤ c % W ∧ c % W < W := ⟨(Int.mul_ediv_add_emod c W).symm, Int.emod_nonneg c (by omega), Int.emod_lt_of_pos c (by omega)⟩
/-- the cell beside, by whole numbers -/
theorem bes_i {vm : Vf} {c way : Int32} {dx dy : Int} (hG : mdG vm) (hW : 1 ≤ (vm 0 0).toInt) (hc : 0 ≤ c.toInt ∧ c.toInt ≤ 23) (ex : (mDx way).toInt = dx) (ey : (mDy way).toInt = dy) (hd : -1 ≤ dx ∧ dx ≤ 1 ∧ -1 ≤ dy ∧ dy ≤ 1) : ((mBes vm c way).toInt = -1 ∧ ¬ ((0 ≤ c.toInt % (vm 0 0).toInt + dx ∧ c.toInt % (vm 0 0).toInt + dx < (vm 0 0).toInt) ∧ 0 ≤ c.toInt / (vm 0 0).toInt + dy ∧ c.toInt / (vm 0 0).toInt + dy < (vm 1 0).toInt)) ∨ ((mBes vm c way).toInt = c.toInt + dx + (vm 0 0).toInt * dy ∧ ((0 ≤ c.toInt % (vm 0 0).toInt + dx ∧ c.toInt % (vm 0 0).toInt + dx < (vm 0 0).toInt) ∧ 0 ≤ c.toInt / (vm 0 0).toInt + dy ∧ c.toInt / (vm 0 0).toInt + dy < (vm 1 0).toInt)) := by
  obtain ⟨g1, g2, g3⟩ := hG
  have td := i_div (z := c / vm 0 0) rfl hc.1 (by omega)
  have tr := i_rem (z := c - c / vm 0 0 * vm 0 0) rfl hc.1 (by omega)
  have d1 := dm (W := (vm 0 0).toInt) (c := c.toInt) hW
  have t1 := i_add (z := (c - c / vm 0 0 * vm 0 0) + mDx way) rfl (by omega)
  have t2 := i_add (z := c / vm 0 0 + mDy way) rfl (by omega)
  unfold mBes
  by_cases q : mIn vm ((c - c / vm 0 0 * vm 0 0) + mDx way) (c / vm 0 0 + mDy way)
  · rw [if_pos q]
    obtain ⟨q1, q2⟩ := q
    have hb := mul_b (a := (vm 0 0).toInt) (b := (c / vm 0 0 + mDy way).toInt) (A := 6) (B := 6) (by omega) (by omega)
    have t3 := i_mul (z := vm 0 0 * (c / vm 0 0 + mDy way)) rfl (by omega)
    have t4 := i_add (z := vm 0 0 * (c / vm 0 0 + mDy way) + ((c - c / vm 0 0 * vm 0 0) + mDx way)) rfl (by omega)
    refine Or.inr ⟨?_, by omega⟩
    have e : (vm 0 0).toInt * (c.toInt / (vm 0 0).toInt + dy) = (vm 0 0).toInt * (c.toInt / (vm 0 0).toInt) + (vm 0 0).toInt * dy := Int.mul_add _ _ _
    rw [t4, t3, t2, t1, td.1, tr.1, ex, ey, e]
    omega
  · rw [if_neg q]
    refine Or.inl ⟨by decide, fun z => q ⟨by omega, by omega⟩⟩
theorem bes_0 {vm : Vf} {c : Int32} (hG : mdG vm) (hW : 1 ≤ (vm 0 0).toInt) (hc : cW vm c) : mBes vm c 0 = c := by
  have h24 := hG.2.2
  have d1 := dm (W := (vm 0 0).toInt) (c := c.toInt) hW
  have hq : c.toInt / (vm 0 0).toInt < (vm 1 0).toInt := Int.ediv_lt_of_lt_mul (by omega) (by rw [Int.mul_comm]; exact hc.2)
  have hq0 : 0 ≤ c.toInt / (vm 0 0).toInt := Int.ediv_nonneg hc.1 (by omega)
  rcases bes_i (way := 0) (dx := 0) (dy := 0) hG hW ⟨hc.1, by have := hc.2; omega⟩ (by decide) (by decide) (by decide) with ⟨-, h⟩ | ⟨h, -⟩
  · exact absurd ⟨by omega, by omega⟩ h
  · exact i_eqr (by omega)
theorem barN_iff {v : Vf} {a b t : Int32} : ∀ n : Nat, mBarN v a b t n ≠ 0 ↔ ∃ k, k < n ∧ mBet v a b k ≠ 0 ∧ mOpen v (Int32.ofNat k) t ≠ 0
  | 0 => ⟨fun h => absurd rfl h, fun ⟨k, h, _⟩ => absurd h (by omega)⟩
  | n + 1 => by
    rw [mBarN_s]
    have ih := barN_iff (v := v) (a := a) (b := b) (t := t) n
    constructor
    · intro h
      by_cases q : mBarN v a b t n ≠ 0
      · obtain ⟨k, h1, h2⟩ := ih.mp q
        exact ⟨k, by omega, h2⟩
      · rw [if_neg q] at h
        by_cases q2 : mBet v a b n ≠ 0
        · rw [if_pos q2] at h
          by_cases q3 : mOpen v (Int32.ofNat n) t ≠ 0
          · exact ⟨n, by omega, q2, q3⟩
          · rw [if_neg q3] at h
            exact absurd rfl h
        · rw [if_neg q2] at h
          exact absurd rfl h
    · intro ⟨k, h1, h2, h3⟩
      by_cases q : mBarN v a b t n ≠ 0
      · rw [if_pos q]
        decide
      · rw [if_neg q]
        by_cases e : k = n
        · subst e
          rw [if_pos h2, if_pos h3]
          decide
        · exact absurd (ih.mpr ⟨k, by omega, h2, h3⟩) q
theorem bet_iff {v : Vf} {a b : Int32} {k : Nat} : mBet v a b k ≠ 0 ↔ (v 13 k = a ∧ mOth v k = b) ∨ (v 13 k = b ∧ mOth v k = a) := by
  unfold mBet mB2
  by_cases h1 : v 13 k = a
  · rw [if_pos h1]
    by_cases h2 : mOth v k = b
    · rw [if_pos h2]
      exact ⟨fun _ => Or.inl ⟨h1, h2⟩, fun _ => by decide⟩
    · rw [if_neg h2]
      by_cases h3 : v 13 k = b
      · rw [if_pos h3]
        by_cases h4 : mOth v k = a
        · rw [if_pos h4]
          exact ⟨fun _ => Or.inr ⟨h3, h4⟩, fun _ => by decide⟩
        · rw [if_neg h4]
          exact ⟨fun h => absurd rfl h, fun h => h.elim (fun q => absurd q.2 h2) (fun q => absurd q.2 h4)⟩
      · rw [if_neg h3]
        exact ⟨fun h => absurd rfl h, fun h => h.elim (fun q => absurd q.2 h2) (fun q => absurd q.1 h3)⟩
  · rw [if_neg h1]
    by_cases h3 : v 13 k = b
    · rw [if_pos h3]
      by_cases h4 : mOth v k = a
      · rw [if_pos h4]
        exact ⟨fun _ => Or.inr ⟨h3, h4⟩, fun _ => by decide⟩
      · rw [if_neg h4]
        exact ⟨fun h => absurd rfl h, fun h => h.elim (fun q => absurd q.1 h1) (fun q => absurd q.2 h4)⟩
    · rw [if_neg h3]
      exact ⟨fun h => absurd rfl h, fun h => h.elim (fun q => absurd q.1 h1) (fun q => absurd q.1 h3)⟩
theorem dm_u {W c q r : Int} (hW : 1 ≤ W) (h : c = W * q + r) (hr : 0 ≤ r ∧ r < W) : c % W = r ∧ c / W = q := by
  subst h
  constructor
  · rw [Int.add_comm, Int.add_mul_emod_self_left, Int.emod_eq_of_lt hr.1 hr.2]
  · rw [Int.add_comm, Int.add_mul_ediv_left _ _ (by omega), Int.ediv_eq_zero_of_lt hr.1 hr.2]
    omega
theorem cW_d {vm : Vf} {c : Int32} (hG : mdG vm) (hW : 1 ≤ (vm 0 0).toInt) (hc : cW vm c) : (0 ≤ c.toInt ∧ c.toInt ≤ 23) ∧ (0 ≤ c.toInt % (vm 0 0).toInt ∧ c.toInt % (vm 0 0).toInt < (vm 0 0).toInt) ∧ (0 ≤ c.toInt / (vm 0 0).toInt ∧ c.toInt / (vm 0 0).toInt < (vm 1 0).toInt) := by
  have h24 := hG.2.2
  have d1 := dm (W := (vm 0 0).toInt) (c := c.toInt) hW
  exact ⟨⟨hc.1, by have := hc.2; omega⟩, d1.2, Int.ediv_nonneg hc.1 (by omega), Int.ediv_lt_of_lt_mul (by omega) (by rw [Int.mul_comm]; exact hc.2)⟩
theorem bes_e {vm : Vf} {c : Int32} (hG : mdG vm) (hW : 1 ≤ (vm 0 0).toInt) (hc : cW vm c) : ((mBes vm c 2).toInt = c.toInt + 1 ∧ c.toInt % (vm 0 0).toInt + 1 < (vm 0 0).toInt) ∨ ((mBes vm c 2).toInt = -1 ∧ ¬ c.toInt % (vm 0 0).toInt + 1 < (vm 0 0).toInt) := by
  have d := cW_d hG hW hc
  rcases bes_i (way := 2) (dx := 1) (dy := 0) hG hW d.1 (by decide) (by decide) (by decide) with ⟨h1, h2⟩ | ⟨h1, h2⟩
  · exact Or.inr ⟨h1, fun q => h2 ⟨by omega, by omega⟩⟩
  · exact Or.inl ⟨by omega, h2.1.2⟩
theorem bes_w {vm : Vf} {c : Int32} (hG : mdG vm) (hW : 1 ≤ (vm 0 0).toInt) (hc : cW vm c) : ((mBes vm c 4).toInt = c.toInt - 1 ∧ 1 ≤ c.toInt % (vm 0 0).toInt) ∨ ((mBes vm c 4).toInt = -1 ∧ ¬ 1 ≤ c.toInt % (vm 0 0).toInt) := by
  have d := cW_d hG hW hc
  rcases bes_i (way := 4) (dx := -1) (dy := 0) hG hW d.1 (by decide) (by decide) (by decide) with ⟨h1, h2⟩ | ⟨h1, h2⟩
  · exact Or.inr ⟨h1, fun q => h2 ⟨by omega, by omega⟩⟩
  · exact Or.inl ⟨by omega, by omega⟩
theorem bes_s {vm : Vf} {c : Int32} (hG : mdG vm) (hW : 1 ≤ (vm 0 0).toInt) (hc : cW vm c) : ((mBes vm c 3).toInt = c.toInt + (vm 0 0).toInt ∧ c.toInt / (vm 0 0).toInt + 1 < (vm 1 0).toInt) ∨ ((mBes vm c 3).toInt = -1 ∧ ¬ c.toInt / (vm 0 0).toInt + 1 < (vm 1 0).toInt) := by
  have d := cW_d hG hW hc
  rcases bes_i (way := 3) (dx := 0) (dy := 1) hG hW d.1 (by decide) (by decide) (by decide) with ⟨h1, h2⟩ | ⟨h1, h2⟩
  · exact Or.inr ⟨h1, fun q => h2 ⟨by omega, by omega⟩⟩
  · exact Or.inl ⟨by omega, h2.2.2⟩
theorem bes_n {vm : Vf} {c : Int32} (hG : mdG vm) (hW : 1 ≤ (vm 0 0).toInt) (hc : cW vm c) : ((mBes vm c 1).toInt = c.toInt - (vm 0 0).toInt ∧ 1 ≤ c.toInt / (vm 0 0).toInt) ∨ ((mBes vm c 1).toInt = -1 ∧ ¬ 1 ≤ c.toInt / (vm 0 0).toInt) := by
  have d := cW_d hG hW hc
  rcases bes_i (way := 1) (dx := 0) (dy := -1) hG hW d.1 (by decide) (by decide) (by decide) with ⟨h1, h2⟩ | ⟨h1, h2⟩
  · exact Or.inr ⟨h1, fun q => h2 ⟨by omega, by omega⟩⟩
  · exact Or.inl ⟨by omega, by omega⟩
def adjS (W D o m : Int) : Prop := (m = o + 1 ∧ o % W + 1 < W) ∨ (m = o + W ∧ o / W + 1 < D)
theorem adj_of {vm : Vf} {a b way : Int32} (hG : mdG vm) (hW : 1 ≤ (vm 0 0).toInt) (ha : cW vm a) (hw : 1 ≤ way.toInt ∧ way.toInt ≤ 4) (hb : b = mBes vm a way) (h0 : 0 ≤ b.toInt) : (a.toInt ≤ b.toInt ∧ adjS (vm 0 0).toInt (vm 1 0).toInt a.toInt b.toInt) ∨ (b.toInt ≤ a.toInt ∧ adjS (vm 0 0).toInt (vm 1 0).toInt b.toInt a.toInt) := by
  have d := cW_d hG hW ha
  have dd := dm (W := (vm 0 0).toInt) (c := a.toInt) hW
  subst hb
  rcases (show way.toInt = 1 ∨ way.toInt = 2 ∨ way.toInt = 3 ∨ way.toInt = 4 by omega) with q | q | q | q
  · obtain rfl : way = 1 := i_eqr (by rw [q]; rfl)
    rcases bes_n hG hW ha with ⟨h1, h2⟩ | ⟨h1, h2⟩
    · have e : (vm 0 0).toInt * (a.toInt / (vm 0 0).toInt - 1) = (vm 0 0).toInt * (a.toInt / (vm 0 0).toInt) - (vm 0 0).toInt := by rw [Int.mul_sub, Int.mul_one]
      have u := dm_u (W := (vm 0 0).toInt) (c := (mBes vm a 1).toInt) (q := a.toInt / (vm 0 0).toInt - 1) (r := a.toInt % (vm 0 0).toInt) hW (by omega) dd.2
      refine Or.inr ⟨by omega, Or.inr ⟨by omega, ?_⟩⟩
      rw [u.2]
      omega
    · omega
  · obtain rfl : way = 2 := i_eqr (by rw [q]; rfl)
    rcases bes_e hG hW ha with ⟨h1, h2⟩ | ⟨h1, h2⟩
    · exact Or.inl ⟨by omega, Or.inl ⟨by omega, h2⟩⟩
    · omega
  · obtain rfl : way = 3 := i_eqr (by rw [q]; rfl)
    rcases bes_s hG hW ha with ⟨h1, h2⟩ | ⟨h1, h2⟩
    · exact Or.inl ⟨by omega, Or.inr ⟨by omega, h2⟩⟩
    · omega
  · obtain rfl : way = 4 := i_eqr (by rw [q]; rfl)
    rcases bes_w hG hW ha with ⟨h1, h2⟩ | ⟨h1, h2⟩
    · have u := dm_u (W := (vm 0 0).toInt) (c := (mBes vm a 4).toInt) (q := a.toInt / (vm 0 0).toInt) (r := a.toInt % (vm 0 0).toInt - 1) hW (by omega) (by omega)
      refine Or.inr ⟨by omega, Or.inl ⟨by omega, ?_⟩⟩
      rw [u.1]
      omega
    · omega
theorem oth_i {vm : Vf} {k : Nat} (hG : mdG vm) (hW : 1 ≤ (vm 0 0).toInt) (hC : cW vm (vm 13 k)) (h14 : 0 ≤ (vm 14 k).toInt ∧ (vm 14 k).toInt ≤ 1) : ((vm 14 k).toInt = 0 ∧ mOth vm k = mBes vm (vm 13 k) 2) ∨ ((vm 14 k).toInt = 1 ∧ mOth vm k = mBes vm (vm 13 k) 3) := by
  unfold mOth
  rcases (show (vm 14 k).toInt = 0 ∨ (vm 14 k).toInt = 1 by omega) with q | q
  · exact Or.inl ⟨q, by rw [if_pos (show vm 14 k = 0 from i_eqr (by rw [q]; rfl))]⟩
  · exact Or.inr ⟨q, by rw [if_neg (show ¬ vm 14 k = 0 from fun z => by rw [z] at q; exact absurd q (by decide))]⟩
/-- what lies beyond a crack, and on which side a cell lies -/
theorem oth_side {vm : Vf} {k : Nat} {own mx sd : Int32} (hG : mdG vm) (hW : 1 ≤ (vm 0 0).toInt) (hC : cW vm (vm 13 k)) (h14 : 0 ≤ (vm 14 k).toInt ∧ (vm 14 k).toInt ≤ 1) (hA : adjS (vm 0 0).toInt (vm 1 0).toInt own.toInt mx.toInt) (hm : 0 ≤ mx.toInt) (ho : cW vm own) (hsd : sd = if mBes vm own 2 = mx then 0 else 1) : (vm 13 k = own ∧ mOth vm k = mx) ↔ (vm 13 k = own ∧ vm 14 k = sd) := by
  have hE : (mx.toInt = own.toInt + 1 ∧ own.toInt % (vm 0 0).toInt + 1 < (vm 0 0).toInt ∧ sd = 0) ∨ (mx.toInt = own.toInt + (vm 0 0).toInt ∧ own.toInt / (vm 0 0).toInt + 1 < (vm 1 0).toInt ∧ ¬ mBes vm own 2 = mx ∧ sd = 1) := by
    rcases bes_e hG hW ho with ⟨h1, h2⟩ | ⟨h1, h2⟩
    · rcases hA with ⟨a1, a2⟩ | ⟨a1, a2⟩
      · exact Or.inl ⟨a1, a2, by rw [hsd, if_pos (i_eqr (by omega))]⟩
      · have d := cW_d hG hW ho
        have hn : ¬ mBes vm own 2 = mx := fun q => by rw [q] at h1; omega
        exact Or.inr ⟨a1, a2, hn, by rw [hsd, if_neg hn]⟩
    · rcases hA with ⟨a1, a2⟩ | ⟨a1, a2⟩
      · exact absurd a2 h2
      · have hn : ¬ mBes vm own 2 = mx := fun q => by rw [q] at h1; omega
        exact Or.inr ⟨a1, a2, hn, by rw [hsd, if_neg hn]⟩
  refine and_congr_right (fun e => ?_)
  have hO := oth_i hG hW hC h14
  rw [e] at hO
  have d := cW_d hG hW ho
  rcases hO with ⟨q1, q2⟩ | ⟨q1, q2⟩
  · rcases hE with ⟨e1, e2, e3⟩ | ⟨e1, e2, e3, e4⟩
    · rcases bes_e hG hW ho with ⟨h1, h2⟩ | ⟨h1, h2⟩
      · exact ⟨fun _ => by rw [e3]; exact i_eqr (by rw [q1]; rfl), fun _ => by rw [q2]; exact i_eqr (by omega)⟩
      · exact absurd e2 h2
    · exact ⟨fun q => absurd (q2.symm.trans q) e3, fun q => by rw [q, e4] at q1; exact absurd q1 (by decide)⟩
  · rcases hE with ⟨e1, e2, e3⟩ | ⟨e1, e2, e3, e4⟩
    · refine ⟨fun q => ?_, fun q => by rw [q, e3] at q1; exact absurd q1 (by decide)⟩
      rcases bes_s hG hW ho with ⟨h1, h2⟩ | ⟨h1, h2⟩
      · rw [← q2, q] at h1
        omega
      · rw [← q2, q] at h1
        omega
    · rcases bes_s hG hW ho with ⟨h1, h2⟩ | ⟨h1, h2⟩
      · exact ⟨fun _ => by rw [e4]; exact i_eqr (by rw [q1]; rfl), fun _ => by rw [q2]; exact i_eqr (by omega)⟩
      · exact absurd e2 h2
theorem oth_gt {vm : Vf} {k : Nat} (hG : mdG vm) (hW : 1 ≤ (vm 0 0).toInt) (hC : cW vm (vm 13 k)) (h14 : 0 ≤ (vm 14 k).toInt ∧ (vm 14 k).toInt ≤ 1) : (mOth vm k).toInt = -1 ∨ (vm 13 k).toInt < (mOth vm k).toInt := by
  rcases oth_i hG hW hC h14 with ⟨-, q⟩ | ⟨-, q⟩ <;> rw [q]
  · rcases bes_e hG hW hC with ⟨h1, h2⟩ | ⟨h1, h2⟩ <;> omega
  · rcases bes_s hG hW hC with ⟨h1, h2⟩ | ⟨h1, h2⟩ <;> omega
/-- between two cells side by side: the crack of the lesser one -/
theorem bet_side {vm : Vf} {a b own mx sd : Int32} {k : Nat} (hG : mdG vm) (hW : 1 ≤ (vm 0 0).toInt) (ha : cW vm a) (hb : cW vm b) (hA : (a.toInt ≤ b.toInt ∧ adjS (vm 0 0).toInt (vm 1 0).toInt a.toInt b.toInt) ∨ (b.toInt ≤ a.toInt ∧ adjS (vm 0 0).toInt (vm 1 0).toInt b.toInt a.toInt)) (eo : own.toInt = min a.toInt b.toInt) (em : mx.toInt = max a.toInt b.toInt) (hsd : sd = if mBes vm own 2 = mx then 0 else 1) (hC : cW vm (vm 13 k)) (h14 : 0 ≤ (vm 14 k).toInt ∧ (vm 14 k).toInt ≤ 1) : mBet vm a b k ≠ 0 ↔ (vm 13 k = own ∧ vm 14 k = sd) := by
  have hg := oth_gt hG hW hC h14
  have ha0 := ha.1
  have hb0 := hb.1
  rw [bet_iff]
  rcases hA with ⟨h1, h2⟩ | ⟨h1, h2⟩
  · obtain rfl : own = a := i_eqr (by omega)
    obtain rfl : mx = b := i_eqr (by omega)
    rw [← oth_side hG hW hC h14 h2 hb0 ha hsd]
    refine ⟨fun q => q.elim id (fun z => ?_), Or.inl⟩
    have e1 := i_eq z.1
    have e2 := i_eq z.2
    have e3 : own.toInt = mx.toInt := by omega
    have e4 : own = mx := i_eqr e3
    exact ⟨z.1.trans e4.symm, z.2.trans e4⟩
  · obtain rfl : own = b := i_eqr (by omega)
    obtain rfl : mx = a := i_eqr (by omega)
    rw [← oth_side hG hW hC h14 h2 ha0 hb hsd]
    refine ⟨fun q => q.elim (fun z => ?_) id, Or.inr⟩
    have e1 := i_eq z.1
    have e2 := i_eq z.2
    have e3 : own.toInt = mx.toInt := by omega
    have e4 : own = mx := i_eqr e3
    exact ⟨z.1.trans e4.symm, z.2.trans e4⟩
theorem bes_cW {vm : Vf} {c way : Int32} (hG : mdG vm) (h : 0 ≤ (mBes vm c way).toInt) : cW vm (mBes vm c way) := by
  obtain ⟨g1, g2, g3⟩ := hG
  refine ⟨h, ?_⟩
  unfold mBes at h ⊢
  by_cases q : mIn vm ((c - c / vm 0 0 * vm 0 0) + mDx way) (c / vm 0 0 + mDy way)
  · rw [if_pos q] at h ⊢
    obtain ⟨q1, q2⟩ := q
    have m := mcell_lt (x := (c - c / vm 0 0 * vm 0 0) + mDx way) (y := c / vm 0 0 + mDy way) g1 g3 q1.1 q1.2 q2.1 q2.2
    have t3 := i_mul (z := vm 0 0 * (c / vm 0 0 + mDy way)) rfl (by omega)
    have t4 := i_add (z := vm 0 0 * (c / vm 0 0 + mDy way) + ((c - c / vm 0 0 * vm 0 0) + mDx way)) rfl (by omega)
    omega
  · rw [if_neg q] at h
    exact absurd h (by decide)
theorem ofN_nat {r : Int32} (h : 0 ≤ r.toInt) : Int32.ofNat r.toNatClampNeg = r := i_ofN h
/-- the class's way to a crack, and the reference's -/
theorem bar_cls {vm vp vs : Vf} {cell there own mx sd r way t : Int32} (hR : RW vm vp vs) (hw : 1 ≤ way.toInt ∧ way.toInt ≤ 4) (hb : there = mBes vm cell way) (hc : cW vm cell) (h0 : 0 ≤ there.toInt) (eo : own.toInt = min cell.toInt there.toInt) (em : mx.toInt = max cell.toInt there.toInt) (hsd : sd = if mBes vm own 2 = mx then 0 else 1) (hf : ((r.toInt = -1 ∧ anyE2 (fI (vp 71)) (fI (vp 72)) own.toInt sd.toInt (vp 70 0).toInt.toNat = false) ∨ (0 ≤ r.toInt ∧ anyE2 (fI (vp 71)) (fI (vp 72)) own.toInt sd.toInt (vp 70 0).toInt.toNat = true)) ∧ (0 ≤ r.toInt → r.toInt < (vp 70 0).toInt ∧ (vp 71 r.toNatClampNeg).toInt = own.toInt ∧ (vp 72 r.toNatClampNeg).toInt = sd.toInt)) : mBar vm cell there t ≠ 0 ↔ (r.toInt ≠ -1 ∧ mOpen vm r t ≠ 0) := by
  obtain ⟨⟨-, -, -, ⟨k0, k1⟩, -⟩, -, -, hH, ⟨-, o2, o3, -⟩⟩ := hR
  have hG := hH.1
  have hK := hH.2.1.2.2.1
  have hA2 := hH.2.2.2.2.1.2.1
  have hW : 1 ≤ (vm 0 0).toInt := wd_pos hG.1.1 (show 1 ≤ (vm 0 0).toInt * (vm 1 0).toInt by have := hc.1; have := hc.2; omega)
  have hbc : cW vm there := by rw [hb] at h0 ⊢; exact bes_cW hG h0
  have hA := adj_of hG hW hc hw hb h0
  rw [k0] at hf
  have hB : ∀ k : Nat, (k : Int) < (vm 12 0).toInt → (mBet vm cell there k ≠ 0 ↔ (vm 13 k = own ∧ vm 14 k = sd)) := fun k hk => bet_side hG hW hc hbc hA eo em hsd ⟨(hA2 k (by omega)).1, (o2 k hk).1⟩ (o2 k hk).2
  have en := i_nat hK.1
  unfold mBar
  rw [barN_iff]
  obtain ⟨hf1, hf2⟩ := hf
  constructor
  · rintro ⟨k, h1, h2, h3⟩
    have hk : (k : Int) < (vm 12 0).toInt := by omega
    have q := (hB k hk).mp h2
    have e := k1 k hk
    rcases hf1 with ⟨f1, f2⟩ | ⟨f1, f2⟩
    · exact absurd ⟨by show (vp 71 k).toInt = _; rw [e.1, q.1], by show (vp 72 k).toInt = _; rw [e.2.1, q.2]⟩ (any2_all _ f2 k (by omega))
    · have g := hf2 f1
      have en2 := i_nat f1
      have e2 := k1 r.toNatClampNeg (by omega)
      have er : r.toNatClampNeg = k := by
        rcases Nat.lt_trichotomy k r.toNatClampNeg with z | z | z
        · exact absurd ⟨q.1.trans (i_eqr (by rw [← g.2.1, e2.1])), q.2.trans (i_eqr (by rw [← g.2.2, e2.2.1]))⟩ (o3 r.toNatClampNeg k (by omega) z)
        · exact z.symm
        · exact absurd ⟨(i_eqr (by rw [← e2.1, g.2.1])).trans q.1.symm, (i_eqr (by rw [← e2.2.1, g.2.2])).trans q.2.symm⟩ (o3 k r.toNatClampNeg hk z)
      refine ⟨by omega, ?_⟩
      rw [← er, i_ofN f1] at h3
      exact h3
  · rintro ⟨h1, h2⟩
    rcases hf1 with ⟨f1, f2⟩ | ⟨f1, f2⟩
    · exact absurd f1 h1
    · have g := hf2 f1
      have en2 := i_nat f1
      have e2 := k1 r.toNatClampNeg (by omega)
      refine ⟨r.toNatClampNeg, by omega, (hB _ (by omega)).mpr ⟨i_eqr (by rw [← e2.1, g.2.1]), i_eqr (by rw [← e2.2.1, g.2.2])⟩, ?_⟩
      rw [i_ofN f1]
      exact h2
/-- a step of the cart, as the class judges it -/
def PuP (vm : Vf) (cell way there step r : Int32) : Prop := ((mGo vm cell way step).toInt = -1 ∧ r.toInt = -1) ∨ (mGo vm cell way step = there ∧ 0 ≤ there.toInt ∧ r = mCost vm cell there step ∧ 0 ≤ r.toInt)
theorem way_ne {vm : Vf} {cell there way : Int32} (hG : mdG vm) (hW : 1 ≤ (vm 0 0).toInt) (hb : there = mBes vm cell way) (hc : cW vm cell) (hne : ¬ there = cell) : ¬ way = 0 := fun e => hne (by rw [hb, e, bes_0 hG hW hc])
theorem nn_if {s : Int32} : 0 ≤ (if s < 0 then (0 : Int32) else s).toInt := by
  have n0 : (0 : Int32).toInt = 0 := by decide
  split
  · omega
  · rename_i h
    have := i_nlt h
    omega
theorem pu_same {vm : Vf} {cell there way step : Int32} (hG : mdG vm) (hW : 1 ≤ (vm 0 0).toInt) (hw : 0 ≤ way.toInt ∧ way.toInt ≤ 4) (hb : there = mBes vm cell way) (hc : cW vm cell) (e : there = cell) : PuP vm cell way there step 0 := by
  by_cases q : way = 0
  · subst q
    refine Or.inr ⟨?_, by rw [e]; exact hc.1, ?_, by decide⟩
    · unfold mGo
      rw [if_pos rfl]
      exact e.symm
    · unfold mCost mSl
      rw [if_pos e.symm]
      rfl
  · exfalso
    have q2 := i_ne q
    have n0 : (0 : Int32).toInt = 0 := by decide
    have h0 := hc.1
    rw [← e] at h0
    rcases adj_of hG hW hc ⟨by omega, hw.2⟩ hb h0 with ⟨-, h⟩ | ⟨-, h⟩
    · rw [e] at h
      rcases h with h | h <;> omega
    · rw [e] at h
      rcases h with h | h <;> omega
theorem pu_none {vm : Vf} {cell there way step : Int32} (hG : mdG vm) (hW : 1 ≤ (vm 0 0).toInt) (hb : there = mBes vm cell way) (hc : cW vm cell) (hne : ¬ there = cell) (e : there = -1) : PuP vm cell way there step (-1) := by
  have hw0 := way_ne hG hW hb hc hne
  refine Or.inl ⟨?_, by decide⟩
  unfold mGo
  rw [if_neg hw0, ← hb, e, if_pos (by decide)]
  decide
theorem pu_go {vm : Vf} {cell there way step r : Int32} (hG : mdG vm) (hW : 1 ≤ (vm 0 0).toInt) (hb : there = mBes vm cell way) (hc : cW vm cell) (hne : ¬ there = cell) (h0 : 0 ≤ there.toInt) (hno : (mBar vm cell there step ≠ 0 ∨ vm 29 0 < mH vm there step - mH vm cell step) → r.toInt = -1) (hyes : ¬ (mBar vm cell there step ≠ 0 ∨ vm 29 0 < mH vm there step - mH vm cell step) → r = if mH vm there step - mH vm cell step < 0 then 0 else mH vm there step - mH vm cell step) : PuP vm cell way there step r := by
  have hw0 := way_ne hG hW hb hc hne
  unfold PuP mGo
  rw [if_neg hw0, ← hb, if_neg (show ¬ there.toInt < 0 by omega)]
  by_cases q : mBar vm cell there step ≠ 0 ∨ vm 29 0 < mH vm there step - mH vm cell step
  · rw [if_pos q]
    exact Or.inl ⟨by decide, hno q⟩
  · rw [if_neg q]
    have e := hyes q
    refine Or.inr ⟨rfl, h0, ?_, ?_⟩
    · unfold mCost mSl
      rw [if_neg (show ¬ cell = there from fun z => hne z.symm)]
      exact e
    · rw [e]
      exact nn_if
