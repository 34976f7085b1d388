/-! ===== houses, turns, aslant, the greatest pull, bells, deeds, odds, the book ===== -/
theorem mDif_b {v : Vf} {c t way : Int32} (hH : MdH v) (hW : 1 ≤ (v 0 0).toInt) (hc : 0 ≤ c.toInt ∧ c.toInt ≤ 23) (ht : 0 ≤ t.toInt ∧ t.toInt ≤ 2000000) : -585 ≤ (mDif v c t way).toInt ∧ (mDif v c t way).toInt ≤ 585 := by
  have b2 := mH_b hH hW hc ht
  unfold mDif
  by_cases q : (mBes v c way).toInt < 0
  · rw [if_pos q]
    decide
  · rw [if_neg q]
    have z := bes_cW (vm := v) (c := c) (way := way) hH.1 (by omega)
    have h24 := hH.1.2.2
    have z2 := z.2
    have b1 := mH_b hH hW (c := mBes v c way) ⟨z.1, by omega⟩ ht
    have s := i_sub (z := mH v (mBes v c way) t - mH v c t) rfl (by omega)
    omega
theorem mAbs_b {x : Int32} (h : -585 ≤ x.toInt ∧ x.toInt ≤ 585) : 0 ≤ (mAbs x).toInt ∧ (mAbs x).toInt ≤ 585 := by
  have n0 : (0 : Int32).toInt = 0 := by decide
  unfold mAbs
  by_cases q : x < 0
  · rw [if_pos q, neg_sub0]
    have q2 := i_lt q
    rw [i_sub (z := 0 - x) rfl (by omega)]
    omega
  · rw [if_neg q]
    have q2 := i_nlt q
    omega
theorem mMx_b {a b : Int32} (ha : 0 ≤ a.toInt ∧ a.toInt ≤ 585) (hb : 0 ≤ b.toInt ∧ b.toInt ≤ 585) : 0 ≤ (mMx a b).toInt ∧ (mMx a b).toInt ≤ 585 := by
  unfold mMx
  split
  · exact hb
  · exact ha
theorem mLeanN_b {v : Vf} {c t : Int32} (hH : MdH v) (hW : 1 ≤ (v 0 0).toInt) (hc : 0 ≤ c.toInt ∧ c.toInt ≤ 23) (ht : 0 ≤ t.toInt ∧ t.toInt ≤ 2000000) : ∀ n : Nat, 0 ≤ (mLeanN v c t n).toInt ∧ (mLeanN v c t n).toInt ≤ 585
  | 0 => by
    show 0 ≤ (0 : Int32).toInt ∧ (0 : Int32).toInt ≤ 585
    decide
  | n + 1 => mMx_b (mLeanN_b hH hW hc ht n) (mAbs_b (mDif_b hH hW hc ht))
noncomputable def mBrk (v : Vf) (h t : Int32) : Int32 := if mLean v (v 10 h.toNatClampNeg) t ≤ v 11 h.toNatClampNeg + v 26 h.toNatClampNeg then 0 else 1
noncomputable def mNeedN (v : Vf) (h : Int32) : Nat → Int32
  | 0 => 0
  | n + 1 => mMx (mNeedN v h n) (mLean v (v 10 h.toNatClampNeg) (Int32.ofNat n) - v 11 h.toNatClampNeg)
noncomputable def mNeed (v : Vf) (h : Int32) : Int32 := mNeedN v h (v 22 0).toNatClampNeg
theorem need_m {v : Vf} {h t t2 mo x d : Int32} (e : mo = mNeedN v h t.toNatClampNeg) (h0 : 0 ≤ t.toInt) (h2 : t2.toInt = t.toInt + 1) (hx : x = mLean v (v 10 h.toNatClampNeg) t - v 11 h.toNatClampNeg) (hd : d = mMx mo x) : d = mNeedN v h t2.toNatClampNeg := by
  rw [i_nat1 h0 h2]
  show d = mMx (mNeedN v h t.toNatClampNeg) (mLean v (v 10 h.toNatClampNeg) (Int32.ofNat t.toNatClampNeg) - v 11 h.toNatClampNeg)
  rw [i_ofN h0, ← hx, ← e]
  exact hd
def NeP (L : Nat → Int) (k : Int) (n : Nat) (r : Int) : Prop := (0 ≤ r ∧ r ≤ 585) ∧ (∀ i, i < n → L i - k ≤ r) ∧ (r = 0 ∨ ∃ i, i < n ∧ r = L i - k)
theorem ne_uniq {L : Nat → Int} {k : Int} {n : Nat} {a b : Int} (h1 : NeP L k n a) (h2 : NeP L k n b) : a = b := by
  obtain ⟨a1, a2, a3⟩ := h1
  obtain ⟨b1, b2, b3⟩ := h2
  rcases a3 with e | ⟨i, hi, e⟩
  · rcases b3 with e' | ⟨j, hj, e'⟩
    · omega
    · have := a2 j hj
      omega
  · rcases b3 with e' | ⟨j, hj, e'⟩
    · have := b2 i hi
      omega
    · have := b2 i hi
      have := a2 j hj
      omega
theorem ne_next {L : Nat → Int} {k : Int} {n : Nat} {mo x : Int32} (hk : 0 ≤ k ∧ k ≤ 99) (hL : 0 ≤ L n ∧ L n ≤ 585) (h : NeP L k n mo.toInt) (hx : x.toInt = L n - k) : NeP L k (n + 1) (mMx mo x).toInt := by
  obtain ⟨a1, a2, a3⟩ := h
  unfold mMx
  by_cases q : mo < x
  · rw [if_pos q]
    have q2 := i_lt q
    refine ⟨by omega, fun i hi => ?_, Or.inr ⟨n, by omega, hx⟩⟩
    by_cases e : i = n
    · subst e
      omega
    · have := a2 i (by omega)
      omega
  · rw [if_neg q]
    have q2 := i_nlt q
    refine ⟨a1, fun i hi => ?_, a3.imp id (fun ⟨i, hi, e⟩ => ⟨i, by omega, e⟩)⟩
    by_cases e : i = n
    · subst e
      omega
    · exact a2 i (by omega)
noncomputable def leI (v : Vf) (h : Int32) (i : Nat) : Int := (mLean v (v 10 h.toNatClampNeg) (Int32.ofNat i)).toInt
theorem leI_b {v : Vf} {h : Int32} (hH : MdH v) (hW : 1 ≤ (v 0 0).toInt) (hc : 0 ≤ (v 10 h.toNatClampNeg).toInt ∧ (v 10 h.toNatClampNeg).toInt ≤ 23) {n : Nat} (hn : n ≤ 729) : 0 ≤ leI v h n ∧ leI v h n ≤ 585 := by
  have e : (Int32.ofNat n).toInt = (n : Int) := Int32.toInt_ofNat_of_lt (by omega)
  exact mLeanN_b hH hW hc (by omega) 4
theorem need_p {v : Vf} {h : Int32} (hH : MdH v) (hW : 1 ≤ (v 0 0).toInt) (hc : 0 ≤ (v 10 h.toNatClampNeg).toInt ∧ (v 10 h.toNatClampNeg).toInt ≤ 23) (hk : 0 ≤ (v 11 h.toNatClampNeg).toInt ∧ (v 11 h.toNatClampNeg).toInt ≤ 99) : ∀ n : Nat, n ≤ 729 → NeP (leI v h) (v 11 h.toNatClampNeg).toInt n (mNeedN v h n).toInt
  | 0, _ => by
    have n0 : (mNeedN v h 0).toInt = 0 := (by decide : (0 : Int32).toInt = 0)
    exact ⟨by omega, fun i hi => absurd hi (by omega), Or.inl n0⟩
  | n + 1, hn => by
    have b := leI_b hH hW hc (n := n) (by omega)
    have x := i_sub (z := mLean v (v 10 h.toNatClampNeg) (Int32.ofNat n) - v 11 h.toNatClampNeg) rfl (by unfold leI at b; omega)
    exact ne_next hk b (need_p hH hW hc hk n (by omega)) x
def WoP (L : Nat → Int) (n : Int) (w : Int) : Prop := (0 ≤ w ∧ w ≤ 585) ∧ (∀ i : Nat, (i : Int) < n → L i ≤ w) ∧ (w = 0 ∨ ∃ i : Nat, (i : Int) < n ∧ w = L i)
theorem wo_next {L : Nat → Int} {t t2 w x z : Int32} (h : WoP L t.toInt w.toInt) (h0 : 0 ≤ t.toInt) (h2 : t2.toInt = t.toInt + 1) (hx : x.toInt = L t.toNatClampNeg) (hb : 0 ≤ L t.toNatClampNeg ∧ L t.toNatClampNeg ≤ 585) (e : z.toInt = max w.toInt x.toInt) : WoP L t2.toInt z.toInt := by
  obtain ⟨a1, a2, a3⟩ := h
  have en := i_nat h0
  refine ⟨by clear a3 a2; omega, fun i hi => ?_, ?_⟩
  · by_cases q : i = t.toNatClampNeg
    · subst q
      clear a3 a2; omega
    · have := a2 i (by clear a3; omega)
      clear a3; omega
  · rcases Int.lt_or_le w.toInt x.toInt with q | q
    · exact Or.inr ⟨t.toNatClampNeg, by clear a3; omega, by clear a3; omega⟩
    · rcases a3 with e' | ⟨i, hi, e'⟩
      · exact Or.inl (by omega)
      · exact Or.inr ⟨i, by omega, by omega⟩
theorem wo_end {L : Nat → Int} {k n : Int} {N : Nat} {w r : Int} (h : WoP L n w) (hn : (N : Int) = n) (hk : 0 ≤ k) (hr : r = max 0 (w - k)) : NeP L k N r := by
  obtain ⟨a1, a2, a3⟩ := h
  refine ⟨by clear a3 a2; omega, fun i hi => ?_, ?_⟩
  · have := a2 i (by clear a3; omega)
    clear a3; omega
  · rcases a3 with e | ⟨i, hi, e⟩
    · exact Or.inl (by omega)
    · rcases Int.lt_or_le 0 (w - k) with q | q
      · exact Or.inr ⟨i, by omega, by omega⟩
      · exact Or.inl (by omega)
theorem houses_w {vm vp vs : Vf} (hR : RW vm vp vs) (h : 1 ≤ (vm 9 0).toInt) : 1 ≤ (vm 0 0).toInt := by
  rcases hR.2.2.2.1.2.2.1 with q | q
  · exact q.1
  · omega
noncomputable def mHv (v : Vf) (h : Int32) (k : Nat) : Int32 := match k with
  | 0 => mPair v (v 10 h.toNatClampNeg)
  | 1 => v 11 h.toNatClampNeg
  | 2 => v 26 h.toNatClampNeg
  | 3 => mBrk v h (v 23 0)
  | _ => mNeed v h
noncomputable def mPrN (v : Vf) (z : Int32) : Nat → Int32
  | 0 => 0
  | n + 1 => mPrN v z n + (mNeed v (Int32.ofNat n) + z - 1) / z
theorem pr_next {v : Vf} {z s h h2 x : Int32} (e : s = mPrN v z h.toNatClampNeg) (h0 : 0 ≤ h.toInt) (e2 : h2.toInt = h.toInt + 1) (ex : x = s + (mNeed v h + z - 1) / z) : x = mPrN v z h2.toNatClampNeg := by
  rw [i_nat1 h0 e2]
  show x = mPrN v z h.toNatClampNeg + (mNeed v (Int32.ofNat h.toNatClampNeg) + z - 1) / z
  rw [i_ofN h0, ← e]
  exact ex
/-! turns -/
def TrnP (v : Vf) (c t : Int32) : Prop := ((mH v c (t - 1)).toInt < (mH v c t).toInt ∧ (mH v c (t + 1)).toInt < (mH v c t).toInt) ∨ ((mH v c t).toInt < (mH v c (t - 1)).toInt ∧ (mH v c t).toInt < (mH v c (t + 1)).toInt)
theorem nxs_no {T : Int32 → Prop} {s i i2 x : Int32} (h : ∀ j : Nat, (j : Int) < i.toInt → ¬ T (s + Int32.ofNat j)) (h0 : 0 ≤ i.toInt) (h1 : i2.toInt = i.toInt + 1) (ex : x = s + i) (hn : ¬ T x) : ∀ j : Nat, (j : Int) < i2.toInt → ¬ T (s + Int32.ofNat j) := nx_no (P := fun j => T (s + Int32.ofNat j)) h h0 h1 (by show ¬ T (s + Int32.ofNat i.toNatClampNeg); rw [i_ofN h0, ← ex]; exact hn)
theorem nxs_at {T : Int32 → Prop} {n : Int} {s i x : Int32} (h : ∀ j : Nat, (j : Int) < i.toInt → ¬ T (s + Int32.ofNat j)) (h0 : 0 ≤ i.toInt) (hi : i.toInt < n) (ex : x = s + i) (hp : T x) : NxP (fun j => T (s + Int32.ofNat j)) n i := nx_at (P := fun j => T (s + Int32.ofNat j)) h h0 hi (by show T (s + Int32.ofNat i.toNatClampNeg); rw [i_ofN h0, ← ex]; exact hp)
theorem nxs_end {T : Int32 → Prop} {n : Int} {s i r : Int32} (h : ∀ j : Nat, (j : Int) < i.toInt → ¬ T (s + Int32.ofNat j)) (hi : n ≤ i.toInt) (hr : r.toInt = -1) : NxP (fun j => T (s + Int32.ofNat j)) n r := nx_end (P := fun j => T (s + Int32.ofNat j)) h hi hr
/-! aslant -/
def LikP (v : Vf) (c way t : Int32) : Prop := 0 ≤ (mBes v c way).toInt ∧ mH v (mBes v c way) t = mH v c t
def AslQ (v : Vf) (t : Int32) (n : Int) : Prop := ∀ j : Nat, (j : Int) < n → ¬ LikP v (Int32.ofNat j) 2 t ∧ ¬ LikP v (Int32.ofNat j) 3 t
def AslP (v : Vf) (t : Int32) : Prop := 1 < (v 0 0).toInt * (v 1 0).toInt ∧ AslQ v t ((v 0 0).toInt * (v 1 0).toInt)
theorem lik_none {v : Vf} {c way t o r : Int32} (ho : o = mBes v c way) (h : o.toInt < 0) (hr : r.toInt = 0) : r.toInt ≠ 0 ↔ LikP v c way t := by
  unfold LikP
  rw [← ho]
  exact ⟨fun q => absurd hr q, fun q => absurd q.1 (by omega)⟩
theorem lik_cmp {v : Vf} {c way t o r a b : Int32} (ho : o = mBes v c way) (h : 0 ≤ o.toInt) (ea : a = mH v c t) (eb : b = mH v o t) (hr : r.toInt ≠ 0 ↔ a = b) : r.toInt ≠ 0 ↔ LikP v c way t := by
  unfold LikP
  rw [← ho, ← ea, ← eb, hr]
  exact ⟨fun q => ⟨h, q.symm⟩, fun q => q.2.symm⟩
theorem asl_next {v : Vf} {t k k2 : Int32} (h : AslQ v t k.toInt) (h0 : 0 ≤ k.toInt) (h2 : k2.toInt = k.toInt + 1) (h3 : ¬ LikP v k 2 t ∧ ¬ LikP v k 3 t) : AslQ v t k2.toInt := by
  intro j hj
  have e := i_nat h0
  by_cases q : j = k.toNatClampNeg
  · subst q
    rw [i_ofN h0]
    exact h3
  · exact h j (by omega)
theorem asl_at {v : Vf} {t k : Int32} {n : Int} (h : AslQ v t n) (h0 : 0 ≤ k.toInt) (h1 : k.toInt < n) : ¬ LikP v k 2 t ∧ ¬ LikP v k 3 t := by
  have e := i_nat h0
  have z := h k.toNatClampNeg (by omega)
  rw [i_ofN h0] at z
  exact z
theorem asl_le {v : Vf} {t : Int32} {n m : Int} (h : AslQ v t n) (hm : m ≤ n) : AslQ v t m := fun j hj => h j (by omega)
theorem asl_way {v : Vf} {t k way way2 s s2 : Int32} {A : Prop} (hw : 2 ≤ way.toInt ∧ way.toInt ≤ 3) (h2 : way2.toInt = way.toInt + 1) (h : s.toInt ≠ 0 ↔ (A ∧ (2 < way.toInt → ¬ LikP v k 2 t) ∧ (3 < way.toInt → ¬ LikP v k 3 t))) (e : s2.toInt ≠ 0 ↔ (s.toInt ≠ 0 ∧ ¬ LikP v k way t)) : s2.toInt ≠ 0 ↔ (A ∧ (2 < way2.toInt → ¬ LikP v k 2 t) ∧ (3 < way2.toInt → ¬ LikP v k 3 t)) := by
  rw [e, h]
  rcases (show way.toInt = 2 ∨ way.toInt = 3 by omega) with q | q
  · obtain rfl : way = 2 := i_eqr (by rw [q]; rfl)
    constructor
    · rintro ⟨⟨a, -, -⟩, d⟩
      exact ⟨a, fun _ => d, fun z => by omega⟩
    · rintro ⟨a, d, -⟩
      exact ⟨⟨a, fun z => by omega, fun z => by omega⟩, d (by omega)⟩
  · obtain rfl : way = 3 := i_eqr (by rw [q]; rfl)
    constructor
    · rintro ⟨⟨a, b, -⟩, d⟩
      exact ⟨a, fun _ => b (by omega), fun _ => d⟩
    · rintro ⟨a, b, d⟩
      exact ⟨⟨a, fun _ => b (by omega), fun z => by omega⟩, d (by omega)⟩
theorem asl_row {v : Vf} {t k k2 way s : Int32} {A : Prop} (h0 : 0 ≤ k.toInt) (h2 : k2.toInt = k.toInt + 1) (hw : 4 ≤ way.toInt) (h : s.toInt ≠ 0 ↔ ((A ∧ AslQ v t k.toInt) ∧ (2 < way.toInt → ¬ LikP v k 2 t) ∧ (3 < way.toInt → ¬ LikP v k 3 t))) : s.toInt ≠ 0 ↔ (A ∧ AslQ v t k2.toInt) := by
  rw [h]
  constructor
  · rintro ⟨⟨a, b⟩, c, d⟩
    exact ⟨a, asl_next b h0 h2 ⟨c (by omega), d (by omega)⟩⟩
  · rintro ⟨a, b⟩
    have z := asl_at (k := k) b h0 (by omega)
    exact ⟨⟨a, asl_le b (by omega)⟩, fun _ => z.1, fun _ => z.2⟩
/-! the greatest pull -/
def mBestN (v : Vf) (c t : Int32) : Nat → Int32
  | 0 => t
  | n + 1 => if mPull v c (mBestN v c t n) < mPull v c (t + Int32.ofNat (n + 1)) then t + Int32.ofNat (n + 1) else mBestN v c t n
def mBest (v : Vf) (c t : Int32) : Int32 := mBestN v c t ((v 22 0).toInt - 1).toNat
theorem best_next {v : Vf} {c t b i i2 x z : Int32} (e : b = mBestN v c t (i.toInt - 1).toNat) (h1 : 1 ≤ i.toInt) (h2 : i2.toInt = i.toInt + 1) (ex : x = t + i) (hz : z = if mPull v c b < mPull v c x then x else b) : z = mBestN v c t (i2.toInt - 1).toNat := by
  have e1 : (i2.toInt - 1).toNat = (i.toInt - 1).toNat + 1 := by omega
  have e2 : Int32.ofNat ((i.toInt - 1).toNat + 1) = i := by
    rw [show (i.toInt - 1).toNat + 1 = i.toNatClampNeg from by show _ = i.toInt.toNat; omega]
    exact i_ofN (by omega)
  rw [e1]
  show z = if mPull v c (mBestN v c t (i.toInt - 1).toNat) < mPull v c (t + Int32.ofNat ((i.toInt - 1).toNat + 1)) then t + Int32.ofNat ((i.toInt - 1).toNat + 1) else mBestN v c t (i.toInt - 1).toNat
  rw [e2, ← ex, ← e]
  exact hz
/-! bells -/
noncomputable def mRgN (v : Vf) (c lim t : Int32) : Nat → Int32
  | 0 => 0
  | n + 1 => if lim < mLean v c (t + Int32.ofNat n) then mRgN v c lim t n + 1 else mRgN v c lim t n
theorem rg_next {v : Vf} {c lim t s i i2 x z : Int32} (e : s = mRgN v c lim t i.toNatClampNeg) (h0 : 0 ≤ i.toInt) (h2 : i2.toInt = i.toInt + 1) (ex : x = t + i) (hz : z = if lim < mLean v c x then s + 1 else s) : z = mRgN v c lim t i2.toNatClampNeg := by
  rw [i_nat1 h0 h2]
  show z = if lim < mLean v c (t + Int32.ofNat i.toNatClampNeg) then mRgN v c lim t i.toNatClampNeg + 1 else mRgN v c lim t i.toNatClampNeg
  rw [i_ofN h0, ← ex, ← e]
  exact hz
def BelP (v : Vf) (c lim t what r : Int32) : Prop := (what.toInt = 0 ∧ NxP (fun j => lim < mLean v c (t + Int32.ofNat j)) (v 22 0).toInt r) ∨ (what.toInt = 1 ∧ r = mRgN v c lim t (v 22 0).toNatClampNeg)
theorem bel_eq {v : Vf} {c lim t what r q : Int32} (h1 : BelP v c lim t what r) (h2 : BelP v c lim t what q) : r.toInt = q.toInt := by
  rcases h1 with ⟨a, b⟩ | ⟨a, b⟩
  · rcases h2 with ⟨c, d⟩ | ⟨c, d⟩
    · exact nx_eq b d
    · omega
  · rcases h2 with ⟨c, d⟩ | ⟨c, d⟩
    · omega
    · rw [b, d]
/-- the first so far, or none -/
def FsP (P : Nat → Prop) (i : Int) (f : Int32) : Prop := (f.toInt = -1 ∧ ∀ j : Nat, (j : Int) < i → ¬ P j) ∨ ∃ k : Nat, f.toInt = k ∧ (k : Int) < i ∧ P k ∧ ∀ j : Nat, j < k → ¬ P j
theorem fs_next {P : Nat → Prop} {i i2 f z : Int32} (h : FsP P i.toInt f) (h0 : 0 ≤ i.toInt) (h2 : i2.toInt = i.toInt + 1) (hz : (P i.toNatClampNeg ∧ f.toInt < 0 ∧ z = i) ∨ (¬ (P i.toNatClampNeg ∧ f.toInt < 0) ∧ z = f)) : FsP P i2.toInt z := by
  have e := i_nat h0
  rcases hz with ⟨a, b, c⟩ | ⟨a, c⟩
  · rcases h with ⟨h3, h4⟩ | ⟨k, h3, -⟩
    · exact Or.inr ⟨i.toNatClampNeg, by rw [c]; exact e.symm, by omega, a, fun j hj => h4 j (by omega)⟩
    · omega
  · rcases h with ⟨h3, h4⟩ | ⟨k, h3, h5, h6, h7⟩
    · refine Or.inl ⟨by rw [c]; exact h3, fun j hj => ?_⟩
      by_cases q : j = i.toNatClampNeg
      · subst q
        exact fun z => a ⟨z, by omega⟩
      · exact h4 j (by omega)
    · exact Or.inr ⟨k, by rw [c]; exact h3, by omega, h6, h7⟩
/-! the first wall -/
def BrkR (v : Vf) (t what r : Int32) : Prop := (r.toInt = -1 ∧ ∀ i : Nat, (i : Int) < (v 22 0).toInt → ∀ h : Nat, (h : Int) < (v 9 0).toInt → ¬ mBrk v (Int32.ofNat h) (t + Int32.ofNat i) ≠ 0) ∨ ∃ i h : Nat, ((i : Int) < (v 22 0).toInt ∧ (h : Int) < (v 9 0).toInt) ∧ mBrk v (Int32.ofNat h) (t + Int32.ofNat i) ≠ 0 ∧ (∀ h' : Nat, h' < h → ¬ mBrk v (Int32.ofNat h') (t + Int32.ofNat i) ≠ 0) ∧ (∀ i' : Nat, i' < i → ∀ h' : Nat, (h' : Int) < (v 9 0).toInt → ¬ mBrk v (Int32.ofNat h') (t + Int32.ofNat i') ≠ 0) ∧ r = if what.toInt = 0 then t + Int32.ofNat i else Int32.ofNat h
theorem brk_eq {v : Vf} {t what r q : Int32} (h1 : BrkR v t what r) (h2 : BrkR v t what q) : r.toInt = q.toInt := by
  rcases h1 with ⟨a1, a2⟩ | ⟨i, h, a0, a1, a2, a3, a4⟩
  · rcases h2 with ⟨b1, b2⟩ | ⟨j, k, b0, b1, b2, b3, b4⟩
    · omega
    · exact absurd b1 (a2 j b0.1 k b0.2)
  · rcases h2 with ⟨b1, b2⟩ | ⟨j, k, b0, b1, b2, b3, b4⟩
    · exact absurd a1 (b2 i a0.1 h a0.2)
    · have e : i = j := by
        rcases Nat.lt_trichotomy i j with z | z | z
        · exact absurd a1 (b3 i z h a0.2)
        · exact z
        · exact absurd b1 (a3 j z k b0.2)
      subst e
      have e : h = k := by
        rcases Nat.lt_trichotomy h k with z | z | z
        · exact absurd a1 (b2 h z)
        · exact z
        · exact absurd b1 (a2 k z)
      subst e
      rw [a4, b4]
/-- no wall past its hinge at the steps ahead -/
def NoB (v : Vf) (t : Int32) (i : Int) : Prop := ∀ j : Nat, (j : Int) < i → ∀ h : Nat, (h : Int) < (v 9 0).toInt → ¬ mBrk v (Int32.ofNat h) (t + Int32.ofNat j) ≠ 0
def NoH (v : Vf) (x : Int32) (h : Int) : Prop := ∀ k : Nat, (k : Int) < h → ¬ mBrk v (Int32.ofNat k) x ≠ 0
theorem noh_next {v : Vf} {x h h2 : Int32} (n : NoH v x h.toInt) (h0 : 0 ≤ h.toInt) (e : h2.toInt = h.toInt + 1) (hn : ¬ mBrk v h x ≠ 0) : NoH v x h2.toInt := by
  intro k hk
  have en := i_nat h0
  by_cases q : k = h.toNatClampNeg
  · subst q
    rw [i_ofN h0]
    exact hn
  · exact n k (by omega)
theorem nob_next {v : Vf} {t x i i2 : Int32} (n : NoB v t i.toInt) (h0 : 0 ≤ i.toInt) (e : i2.toInt = i.toInt + 1) (ex : x = t + i) (hn : NoH v x (v 9 0).toInt) : NoB v t i2.toInt := by
  intro j hj
  have en := i_nat h0
  by_cases q : j = i.toNatClampNeg
  · subst q
    rw [i_ofN h0, ← ex]
    exact hn
  · exact n j (by omega)
theorem brk_at {v : Vf} {t x i h what r : Int32} (n : NoB v t i.toInt) (m : NoH v x h.toInt) (h0 : 0 ≤ i.toInt ∧ i.toInt < (v 22 0).toInt) (h1 : 0 ≤ h.toInt ∧ h.toInt < (v 9 0).toInt) (ex : x = t + i) (hb : mBrk v h x ≠ 0) (hr : r = if what.toInt = 0 then x else h) : BrkR v t what r := by
  have ei := i_nat h0.1
  have eh := i_nat h1.1
  refine Or.inr ⟨i.toNatClampNeg, h.toNatClampNeg, ⟨by omega, by omega⟩, ?_, fun k hk => ?_, fun j hj => n j (by omega), ?_⟩
  · rw [i_ofN h0.1, i_ofN h1.1, ← ex]
    exact hb
  · rw [i_ofN h0.1, ← ex]
    exact m k (by omega)
  · rw [i_ofN h0.1, i_ofN h1.1, ← ex]
    exact hr
/-! deeds -/
noncomputable def mWhN (v : Vf) (d t : Int32) : Nat → Int32
  | 0 => 0
  | n + 1 => @ite _ ((v 20 d.toNatClampNeg).toInt ≤ (mH v (Int32.ofNat n) t).toInt ∧ (mH v (Int32.ofNat n) t).toInt ≤ (v 21 d.toNatClampNeg).toInt) (Classical.propDecidable _) (mWhN v d t n ||| (1 : Int32) <<< (Int32.ofNat n &&& 31)) (mWhN v d t n)
noncomputable def mWh (v : Vf) (d t : Int32) : Int32 := mWhN v d t ((v 0 0).toInt * (v 1 0).toInt).toNat
theorem wh_next {v : Vf} {d t s k k2 x : Int32} (e : s = mWhN v d t k.toNatClampNeg) (h0 : 0 ≤ k.toInt) (h2 : k2.toInt = k.toInt + 1) (hx : (((v 20 d.toNatClampNeg).toInt ≤ (mH v k t).toInt ∧ (mH v k t).toInt ≤ (v 21 d.toNatClampNeg).toInt) ∧ x = s ||| (1 : Int32) <<< (k &&& 31)) ∨ (¬ ((v 20 d.toNatClampNeg).toInt ≤ (mH v k t).toInt ∧ (mH v k t).toInt ≤ (v 21 d.toNatClampNeg).toInt) ∧ x = s)) : x = mWhN v d t k2.toNatClampNeg := by
  rw [i_nat1 h0 h2]
  show x = @ite _ ((v 20 d.toNatClampNeg).toInt ≤ (mH v (Int32.ofNat k.toNatClampNeg) t).toInt ∧ (mH v (Int32.ofNat k.toNatClampNeg) t).toInt ≤ (v 21 d.toNatClampNeg).toInt) (Classical.propDecidable _) (mWhN v d t k.toNatClampNeg ||| (1 : Int32) <<< (Int32.ofNat k.toNatClampNeg &&& 31)) (mWhN v d t k.toNatClampNeg)
  rw [i_ofN h0, ← e]
  rcases hx with ⟨a, b⟩ | ⟨a, b⟩
  · rw [if_pos a]
    exact b
  · rw [if_neg a]
    exact b
/-! odds -/
noncomputable def mOdd (v : Vf) (k q c lim t : Int32) : Int32 := (if mLean v c t ≤ lim then 0 else 10000000 * q) + (if mLean (up2 v 62 0 k) c t ≤ lim then 0 else 1000000000 - 10000000 * q)
theorem rw_away {vm vp vs : Vf} {k : Int32} (h : RW vm vp vs) : RW (up2 vm 62 0 k) vp vs := h
theorem cw_away {vm : Vf} {k c : Int32} (h : cW vm c) : cW (up2 vm 62 0 k) c := h
/-! the book -/
noncomputable def jdC (v : Vf) : Nat → Int32
  | 0 => v 27 0
  | n + 1 => mGo v (jdC v n) (v 76 n) (v 23 0 + Int32.ofNat n + 1)
noncomputable def jdP (v : Vf) : Nat → Int32
  | 0 => 0
  | n + 1 => jdP v n + mCost v (jdC v n) (jdC v (n + 1)) (v 23 0 + Int32.ofNat n + 1)
/-- up to here each step may be -/
def JdO (v : Vf) (i : Int) : Prop := ∀ j : Nat, (j : Int) < i → 0 ≤ (jdC v (j + 1)).toInt
def JdR (v : Vf) (what r : Int32) : Prop := (JdO v (v 75 0).toInt ∧ ((what.toInt = 0 ∧ r.toInt = -1) ∨ (what.toInt = 1 ∧ r = jdP v (v 75 0).toNatClampNeg))) ∨ ∃ k : Nat, (k : Int) < (v 75 0).toInt ∧ JdO v k ∧ (jdC v (k + 1)).toInt < 0 ∧ ((what.toInt = 0 ∧ r.toInt = k) ∨ (what.toInt = 1 ∧ r = jdP v k))
theorem jd_eq {v : Vf} {what r q : Int32} (h1 : JdR v what r) (h2 : JdR v what q) : r.toInt = q.toInt := by
  rcases h1 with ⟨a1, a2⟩ | ⟨k, a0, a1, a2, a3⟩
  · rcases h2 with ⟨b1, b2⟩ | ⟨j, b0, b1, b2, b3⟩
    · rcases a2 with ⟨a, a'⟩ | ⟨a, a'⟩
      · rcases b2 with ⟨b, b'⟩ | ⟨b, b'⟩
        · omega
        · omega
      · rcases b2 with ⟨b, b'⟩ | ⟨b, b'⟩
        · omega
        · rw [a', b']
    · have := a1 j b0
      omega
  · rcases h2 with ⟨b1, b2⟩ | ⟨j, b0, b1, b2, b3⟩
    · have := b1 k a0
      omega
    · have e : k = j := by
        rcases Nat.lt_trichotomy k j with z | z | z
        · have := b1 k (by omega)
          omega
        · exact z
        · have := a1 j (by omega)
          omega
      subst e
      rcases a3 with ⟨a, a'⟩ | ⟨a, a'⟩
      · rcases b3 with ⟨b, b'⟩ | ⟨b, b'⟩
        · omega
        · omega
      · rcases b3 with ⟨b, b'⟩ | ⟨b, b'⟩
        · omega
        · rw [a', b']
