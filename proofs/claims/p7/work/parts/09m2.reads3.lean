/-! ===== needs, what stays, odds, the book: last steps of both sides ===== -/
theorem house_c {vm vp vs : Vf} {h x : Int32} (hR : RW vm vp vs) (h0 : 0 ≤ h.toInt) (hh : h.toInt < (vm 9 0).toInt) (e : x = vp 61 h.toNatClampNeg) : cW vm x := by
  have hn := i_nat h0
  have h9 := hR.2.2.2.1.2.1.2.1
  have o := hR.2.2.2.2.1 h.toNatClampNeg (by omega)
  have q := hR.1.2.2.1.2 h.toNatClampNeg (by omega)
  have b10 := hR.2.2.2.1.2.2.2.2.1.1 h.toNatClampNeg (by omega)
  rw [e, q.1]
  exact ⟨b10.1, o.1⟩
theorem wo_step {vm vp vs : Vf} {h t t2 x r w z : Int32} (hR : RW vm vp vs) (h0 : 0 ≤ h.toInt) (hh : h.toInt < (vm 9 0).toInt) (hw : WoP (leI vm h) t.toInt w.toInt) (ht : 0 ≤ t.toInt ∧ t.toInt ≤ 729) (h2 : t2.toInt = t.toInt + 1) (ex : x = vp 61 h.toNatClampNeg) (er : r = mLean vm x t) (e : z.toInt = max w.toInt r.toInt) : WoP (leI vm h) t2.toInt z.toInt := by
  have hn := i_nat h0
  have h9 := hR.2.2.2.1.2.1.2.1
  have q := hR.1.2.2.1.2 h.toNatClampNeg (by omega)
  have b10 := hR.2.2.2.1.2.2.2.2.1.1 h.toNatClampNeg (by omega)
  have hW := houses_w hR (by omega)
  have et := i_nat ht.1
  have b := leI_b (h := h) hR.2.2.2.1 hW b10 (n := t.toNatClampNeg) (by omega)
  refine wo_next hw ht.1 h2 ?_ b e
  unfold leI
  rw [i_ofN ht.1, er, ex, q.1]
theorem need_cls {vm vp vs : Vf} {h t p worst y z r : Int32} (hR : RW vm vp vs) (h0 : 0 ≤ h.toInt) (hh : h.toInt < (vm 9 0).toInt) (h4 : p = vm 22 0) (hw : WoP (leI vm h) t.toInt worst.toInt) (ht : t.toInt = p.toInt) (ey : y = vp 62 h.toNatClampNeg) (ez : z = worst - y) (er : r.toInt = max (0 : Int32).toInt z.toInt) : r = mNeed vm h := by
  have hn := i_nat h0
  have n0 : (0 : Int32).toInt = 0 := by decide
  have h9 := hR.2.2.2.1.2.1.2.1
  have o := hR.2.2.2.2.1 h.toNatClampNeg (by omega)
  have q := hR.1.2.2.1.2 h.toNatClampNeg (by omega)
  have hW := houses_w hR (by omega)
  have b10 := hR.2.2.2.1.2.2.2.2.1.1 h.toNatClampNeg (by omega)
  have h22 := hR.2.2.2.1.2.1.2.2.2.2.2
  have en := i_nat (x := vm 22 0) (by omega)
  have pn := need_p (h := h) hR.2.2.2.1 hW b10 o.2 (vm 22 0).toNatClampNeg (by omega)
  have hw1 := hw.1
  have x := i_sub ez (by rw [ey, q.2]; omega)
  refine i_eqr (ne_uniq ?_ pn)
  exact wo_end hw (by rw [en, ht, h4]) o.2.1 (by rw [er, x, ey, q.2, n0])
/-! what stays -/
noncomputable def mStN (v : Vf) (d : Int32) : Nat → Int32
  | 0 => ((1 : Int32) <<< ((v 0 0 * v 1 0) &&& 31)) - 1
  | n + 1 => mStN v d n &&& mWh v d (Int32.ofNat n)
noncomputable def mSt (v : Vf) (d : Int32) : Int32 := mStN v d (v 22 0).toNatClampNeg
theorem st_next {v : Vf} {d s t t2 x : Int32} (e : s = mStN v d t.toNatClampNeg) (h0 : 0 ≤ t.toInt) (h2 : t2.toInt = t.toInt + 1) (ex : x = s &&& mWh v d t) : x = mStN v d t2.toNatClampNeg := by
  rw [i_nat1 h0 h2]
  show x = mStN v d t.toNatClampNeg &&& mWh v d (Int32.ofNat t.toNatClampNeg)
  rw [i_ofN h0, ← e]
  exact ex
theorem sh_24 : ∀ a : Fin 25, ((1 : Int32) <<< (Int32.ofNat a.val &&& 31)).toBitVec.toNat = 2 ^ a.val := by decide +kernel
theorem sh_pow {k : Int32} (h : 0 ≤ k.toInt ∧ k.toInt ≤ 24) : ((1 : Int32) <<< (k &&& 31)).toBitVec.toNat = 2 ^ k.toNatClampNeg := by
  have e := i_nat h.1
  have q : ((1 : Int32) <<< (Int32.ofNat k.toNatClampNeg &&& 31)).toBitVec.toNat = 2 ^ k.toNatClampNeg := sh_24 ⟨k.toNatClampNeg, by omega⟩
  rw [i_ofN h.1] at q
  exact q
theorem ite_2 {α : Type} {c : Prop} {i : Decidable c} {a b : α} : @ite α c i a b = a ∨ @ite α c i a b = b := by
  by_cases h : c
  · exact Or.inl (if_pos h)
  · exact Or.inr (if_neg h)
theorem or_lt {x y : Int32} {n : Nat} (hx : x.toBitVec.toNat < 2 ^ n) (hy : y.toBitVec.toNat < 2 ^ n) : (x ||| y).toBitVec.toNat < 2 ^ n := by
  have a : (x ||| y).toBitVec = x.toBitVec ||| y.toBitVec := rfl
  rw [a, BitVec.toNat_or]
  exact Nat.or_lt_two_pow hx hy
theorem wh_lt {v : Vf} {d t : Int32} : ∀ n : Nat, n ≤ 24 → (mWhN v d t n).toBitVec.toNat < 2 ^ n
  | 0, _ => (by decide : (0 : Int32).toBitVec.toNat < 2 ^ 0)
  | n + 1, h => by
    have ih := wh_lt (v := v) (d := d) (t := t) n (by omega)
    have e : (Int32.ofNat n).toInt = (n : Int) := Int32.toInt_ofNat_of_lt (by omega)
    have en : (Int32.ofNat n).toNatClampNeg = n := by
      show (Int32.ofNat n).toInt.toNat = n
      omega
    have s := sh_pow (k := Int32.ofNat n) (by omega)
    rw [en] at s
    have p : 2 ^ (n + 1) = 2 ^ n * 2 := Nat.pow_succ 2 n
    have z : mWhN v d t (n + 1) = (mWhN v d t n ||| (1 : Int32) <<< (Int32.ofNat n &&& 31)) ∨ mWhN v d t (n + 1) = mWhN v d t n := ite_2
    rcases z with z | z
    · rw [z]
      exact or_lt (by omega) (by omega)
    · rw [z]
      omega
theorem and_mask {x y : Int32} {n : Nat} (hx : x.toBitVec.toNat = 2 ^ n - 1) (hy : y.toBitVec.toNat < 2 ^ n) : x &&& y = y := by
  refine Int32.toBitVec_inj.mp (BitVec.eq_of_toNat_eq ?_)
  have h1 : (x &&& y).toBitVec = x.toBitVec &&& y.toBitVec := rfl
  rw [h1, BitVec.toNat_and, hx, Nat.and_comm, Nat.and_two_pow_sub_one_eq_mod, Nat.mod_eq_of_lt hy]
theorem mask_nat {c : Int32} (h : 0 ≤ c.toInt ∧ c.toInt ≤ 24) : (((1 : Int32) <<< (c &&& 31)) - 1).toBitVec.toNat = 2 ^ c.toNatClampNeg - 1 := by
  have s := sh_pow h
  have en := i_nat h.1
  have p1 : 1 ≤ 2 ^ c.toNatClampNeg := Nat.one_le_two_pow
  have p2 : 2 ^ c.toNatClampNeg ≤ 2 ^ 24 := Nat.pow_le_pow_right (by decide) (by omega)
  have e : (((1 : Int32) <<< (c &&& 31)) - 1).toBitVec = ((1 : Int32) <<< (c &&& 31)).toBitVec - 1#32 := rfl
  have k32 : (2 : Nat) ^ 32 = 4294967296 := by decide
  have k24 : (2 : Nat) ^ 24 = 16777216 := by decide
  have one : (1#32).toNat = 1 := rfl
  rw [e, BitVec.toNat_sub, s, one, k32]
  rw [k24] at p2
  generalize 2 ^ c.toNatClampNeg = P at *
  omega
theorem st_1 {v : Vf} {d : Int32} (hG : mdG v) : mStN v d 1 = mWh v d 0 := by
  have tc : (v 0 0 * v 1 0).toInt = (v 0 0).toInt * (v 1 0).toInt := (i_mul66 (z := v 0 0 * v 1 0) rfl hG.1 hG.2.1).1
  have hp := Int.mul_nonneg hG.1.1 hG.2.1.1
  have h24 := hG.2.2
  have m := mask_nat (c := v 0 0 * v 1 0) (by omega)
  have w := wh_lt (v := v) (d := d) (t := 0) ((v 0 0).toInt * (v 1 0).toInt).toNat (by omega)
  have ec : (v 0 0 * v 1 0).toNatClampNeg = ((v 0 0).toInt * (v 1 0).toInt).toNat := by
    show (v 0 0 * v 1 0).toInt.toNat = _
    rw [tc]
  rw [ec] at m
  exact and_mask m w
/-! odds -/
theorem odd_cls {a b lim s p u r : Int32} (h : (a ≤ lim ∧ s = 0) ∨ (¬ a ≤ lim ∧ s = 0 + p)) (h2 : (b ≤ lim ∧ r = s) ∨ (¬ b ≤ lim ∧ r = s + u)) : r = (if a ≤ lim then 0 else p) + (if b ≤ lim then 0 else u) := by
  have hs : s = if a ≤ lim then 0 else p := by
    rcases h with ⟨q, e⟩ | ⟨q, e⟩
    · rw [if_pos q, e]
    · rw [if_neg q, e, Int32.zero_add]
  rw [← hs]
  rcases h2 with ⟨q, e⟩ | ⟨q, e⟩
  · rw [if_pos q, e, Int32.add_zero]
  · rw [if_neg q, e]
theorem odd_if {a lim b1 b3 p : Int32} (h1 : b1.toInt ≠ 0 ↔ ¬ a ≤ lim) (h3 : (b1.toInt ≠ 0 ∧ b3 = p) ∨ (b1.toInt = 0 ∧ b3 = 0)) : b3 = if a ≤ lim then 0 else p := by
  rcases h3 with ⟨q, e⟩ | ⟨q, e⟩
  · rw [if_neg (h1.mp q), e]
  · by_cases z : a ≤ lim
    · rw [if_pos z, e]
    · exact absurd q (h1.mpr z)
theorem odd_m {a b lim b1 b2 b3 b4 p u r : Int32} (h1 : b1.toInt ≠ 0 ↔ ¬ a ≤ lim) (h2 : b2.toInt ≠ 0 ↔ ¬ b ≤ lim) (h3 : (b1.toInt ≠ 0 ∧ b3 = p) ∨ (b1.toInt = 0 ∧ b3 = 0)) (h4 : (b2.toInt ≠ 0 ∧ b4 = u) ∨ (b2.toInt = 0 ∧ b4 = 0)) (er : r = b3 + b4) : r = (if a ≤ lim then 0 else p) + (if b ≤ lim then 0 else u) := by
  rw [er, ← odd_if h1 h3, ← odd_if h2 h4]
/-! bells -/
theorem fs_next2 {T : Int32 → Prop} {s i i2 f x b z : Int32} (h : FsP (fun j => T (s + Int32.ofNat j)) i.toInt f) (h0 : 0 ≤ i.toInt) (h2 : i2.toInt = i.toInt + 1) (ex : x = s + i) (hb : b.toInt ≠ 0 ↔ T x) (hz : ((b.toInt ≠ 0 ∧ f.toInt < 0) ∧ z = i) ∨ (¬ (b.toInt ≠ 0 ∧ f.toInt < 0) ∧ z = f)) : FsP (fun j => T (s + Int32.ofNat j)) i2.toInt z := by
  have e : s + Int32.ofNat i.toNatClampNeg = x := by rw [i_ofN h0, ex]
  refine fs_next h h0 h2 ?_
  show (T (s + Int32.ofNat i.toNatClampNeg) ∧ f.toInt < 0 ∧ z = i) ∨ (¬ (T (s + Int32.ofNat i.toNatClampNeg) ∧ f.toInt < 0) ∧ z = f)
  rw [e]
  rcases hz with ⟨⟨a, b⟩, c⟩ | ⟨a, c⟩
  · exact Or.inl ⟨hb.mp a, b, c⟩
  · exact Or.inr ⟨fun q => a ⟨hb.mpr q.1, q.2⟩, c⟩
theorem rg_b {b1 b3 rg z : Int32} {Q : Prop} {i : Decidable Q} (hb : b1.toInt ≠ 0 ↔ Q) (h3 : (b1.toInt ≠ 0 ∧ b3 = 1) ∨ (b1.toInt = 0 ∧ b3 = 0)) (e : z = rg + b3) : z = @ite _ Q i (rg + 1) rg := by
  rcases h3 with ⟨q, w⟩ | ⟨q, w⟩
  · rw [if_pos (hb.mp q), e, w]
  · rw [if_neg (fun z => hb.mpr z q), e, w, Int32.add_zero]
/-! the greatest pull -/
def MosP (v : Vf) (c t what r : Int32) : Prop := (what.toInt = 0 ∧ r = mBest v c t) ∨ (what.toInt = 1 ∧ r = mPull v c (mBest v c t))
theorem mos_eq {v : Vf} {c t what r q : Int32} (h1 : MosP v c t what r) (h2 : MosP v c t what q) : r.toInt = q.toInt := by
  rcases h1 with ⟨a, b⟩ | ⟨a, b⟩
  · rcases h2 with ⟨c, d⟩ | ⟨c, d⟩
    · rw [b, d]
    · omega
  · rcases h2 with ⟨c, d⟩ | ⟨c, d⟩
    · omega
    · rw [b, d]
/-! the book -/
def BkR (v vm : Vf) : Prop := v 12 0 = vm 75 0 ∧ ∀ j : Nat, (j : Int) < (vm 75 0).toInt → v 11 j = vm 76 j ∧ 0 ≤ (vm 76 j).toInt ∧ (vm 76 j).toInt ≤ 4
theorem add_sw {a i x : Int32} (e : x = a + 1 + i) : x = a + i + 1 := by rw [e, Int32.add_assoc, Int32.add_comm 1 i, ← Int32.add_assoc]
theorem jd_c {v : Vf} {i i2 k w t r : Int32} (hk : k = jdC v i.toNatClampNeg) (h0 : 0 ≤ i.toInt) (h2 : i2.toInt = i.toInt + 1) (ew : w = v 76 i.toNatClampNeg) (et : t = v 23 0 + i + 1) (hr : r = mGo v k w t) : r = jdC v i2.toNatClampNeg := by
  rw [i_nat1 h0 h2]
  show r = mGo v (jdC v i.toNatClampNeg) (v 76 i.toNatClampNeg) (v 23 0 + Int32.ofNat i.toNatClampNeg + 1)
  rw [i_ofN h0, ← hk, ← ew, ← et]
  exact hr
theorem jd_p {v : Vf} {i i2 k s t r c x : Int32} (hk : k = jdC v i.toNatClampNeg) (hs : s = jdP v i.toNatClampNeg) (h0 : 0 ≤ i.toInt) (h2 : i2.toInt = i.toInt + 1) (et : t = v 23 0 + i + 1) (hr : r = jdC v i2.toNatClampNeg) (hc : c = mCost v k r t) (ex : x = s + c) : x = jdP v i2.toNatClampNeg := by
  rw [i_nat1 h0 h2] at hr ⊢
  show x = jdP v i.toNatClampNeg + mCost v (jdC v i.toNatClampNeg) (jdC v (i.toNatClampNeg + 1)) (v 23 0 + Int32.ofNat i.toNatClampNeg + 1)
  rw [i_ofN h0, ← hk, ← hs, ← hr, ← et, ← hc]
  exact ex
theorem jd_o {v : Vf} {i i2 r : Int32} (hO : JdO v i.toInt) (h0 : 0 ≤ i.toInt) (h2 : i2.toInt = i.toInt + 1) (hr : r = jdC v i2.toNatClampNeg) (hn : 0 ≤ r.toInt) : JdO v i2.toInt := by
  intro j hj
  rw [i_nat1 h0 h2] at hr
  have e := i_nat h0
  by_cases q : j = i.toNatClampNeg
  · subst q
    rw [← hr]
    exact hn
  · exact hO j (by omega)
theorem jd_stop {v : Vf} {i k w t : Int32} (hk : k = jdC v i.toNatClampNeg) (h0 : 0 ≤ i.toInt) (ew : w = v 76 i.toNatClampNeg) (et : t = v 23 0 + i + 1) (h : (mGo v k w t).toInt < 0) : (jdC v (i.toNatClampNeg + 1)).toInt < 0 := by
  show (mGo v (jdC v i.toNatClampNeg) (v 76 i.toNatClampNeg) (v 23 0 + Int32.ofNat i.toNatClampNeg + 1)).toInt < 0
  rw [i_ofN h0, ← hk, ← ew, ← et]
  exact h
theorem jd_cls {v : Vf} {i i2 k ps w there t push ps2 : Int32} (hk : k = jdC v i.toNatClampNeg) (hs : ps = jdP v i.toNatClampNeg) (hO : JdO v i.toInt) (h0 : 0 ≤ i.toInt) (h2 : i2.toInt = i.toInt + 1) (ew : w = v 76 i.toNatClampNeg) (et : t = v 23 0 + i + 1) (hp : PuP v k w there t push) (hne : push.toInt ≠ -1) (ex : ps2 = ps + push) : (there = jdC v i2.toNatClampNeg ∧ ps2 = jdP v i2.toNatClampNeg ∧ JdO v i2.toInt) ∧ 0 ≤ there.toInt := by
  rcases hp with ⟨a, b⟩ | ⟨a, b, c, d⟩
  · exact absurd b hne
  · have q := jd_c hk h0 h2 ew et a.symm
    exact ⟨⟨q, jd_p hk hs h0 h2 et q c ex, jd_o hO h0 h2 q b⟩, b⟩
theorem jd_clz {v : Vf} {i k w there t push : Int32} (hk : k = jdC v i.toNatClampNeg) (h0 : 0 ≤ i.toInt) (ew : w = v 76 i.toNatClampNeg) (et : t = v 23 0 + i + 1) (hp : PuP v k w there t push) (hne : push.toInt = -1) : (jdC v (i.toNatClampNeg + 1)).toInt < 0 := by
  rcases hp with ⟨a, b⟩ | ⟨a, b, c, d⟩
  · exact jd_stop hk h0 ew et (by omega)
  · omega
theorem jd_end {v : Vf} {i what r ps : Int32} (hO : JdO v i.toInt) (hs : ps = jdP v i.toNatClampNeg) (e : i = v 75 0) (h : (what.toInt = 0 ∧ r.toInt = -1) ∨ (what.toInt = 1 ∧ r = ps)) : JdR v what r := Or.inl ⟨by rw [← e]; exact hO, h.imp id (fun q => ⟨q.1, by rw [q.2, hs, e]⟩)⟩
theorem jd_at {v : Vf} {i what r ps : Int32} (hO : JdO v i.toInt) (hs : ps = jdP v i.toNatClampNeg) (h0 : 0 ≤ i.toInt) (hi : i.toInt < (v 75 0).toInt) (hst : (jdC v (i.toNatClampNeg + 1)).toInt < 0) (h : (what.toInt = 0 ∧ r = i) ∨ (what.toInt = 1 ∧ r = ps)) : JdR v what r := by
  have e := i_nat h0
  exact Or.inr ⟨i.toNatClampNeg, by omega, by rw [e]; exact hO, hst, h.imp (fun q => ⟨q.1, by rw [q.2]; exact e.symm⟩) (fun q => ⟨q.1, by rw [q.2, hs]⟩)⟩
