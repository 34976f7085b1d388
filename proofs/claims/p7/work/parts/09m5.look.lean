/-! ===== the next look: how many have the height that most of them have ===== -/
def cnN (f : Nat → Int32) (p : Int32) : Nat → Nat
  | 0 => 0
  | n + 1 => if f n = p then cnN f p n + 1 else cnN f p n
def mxN (f : Nat → Int32) : Nat → Nat
  | 0 => 0
  | n + 1 => max (mxN f n) (cnN f (f n) (n + 1))
theorem mxN_le {f : Nat → Int32} {n : Nat} : ∀ m : Nat, n ≤ m → mxN f n ≤ mxN f m
  | 0, h => by
    obtain rfl : n = 0 := by omega
    exact Nat.le_refl _
  | m + 1, h => by
    by_cases q : n = m + 1
    · subst q
      exact Nat.le_refl _
    · have ih := mxN_le (f := f) (n := n) m (by omega)
      have : mxN f (m + 1) = max (mxN f m) (cnN f (f m) (m + 1)) := rfl
      omega
theorem cnN_le {f : Nat → Int32} {p : Int32} : ∀ n : Nat, cnN f p n ≤ n
  | 0 => Nat.le_refl _
  | n + 1 => by
    have ih := cnN_le (f := f) (p := p) n
    show (if f n = p then cnN f p n + 1 else cnN f p n) ≤ n + 1
    split <;> omega
theorem mxN_len {f : Nat → Int32} : ∀ n : Nat, mxN f n ≤ n
  | 0 => Nat.le_refl _
  | n + 1 => by
    have ih := mxN_len (f := f) n
    have c := cnN_le (f := f) (p := f n) (n + 1)
    have : mxN f (n + 1) = max (mxN f n) (cnN f (f n) (n + 1)) := rfl
    omega
theorem cnN_y {f : Nat → Int32} {p : Int32} {n : Nat} (h : f n = p) : cnN f p (n + 1) = cnN f p n + 1 := if_pos h
theorem cnN_n {f : Nat → Int32} {p : Int32} {n : Nat} (h : ¬ f n = p) : cnN f p (n + 1) = cnN f p n := if_neg h
/-- a row of counts, by pull -/
def CntR (f : Nat → Int32) (d n : Nat) (u : Nat → Int32) : Prop := ∀ p : Int32, -27 ≤ p.toInt → p.toInt ≤ 27 → (u (p.toInt + (d : Int)).toNat).toInt = (cnN f p n : Int)
theorem cntr_0 {f : Nat → Int32} {d N : Nat} {u : Nat → Int32} (hd : 27 ≤ d) (hN : d + 27 < N) (h : ∀ j : Nat, j < N → u j = 0) : CntR f d 0 u := by
  intro p h1 h2
  rw [h _ (by omega)]
  show (0 : Int32).toInt = ((0 : Nat) : Int)
  decide
theorem cntr_next {f : Nat → Int32} {d n : Nat} {u : Nat → Int32} {i x z : Int32} (h : CntR f d n u) (hd : 27 ≤ d ∧ d ≤ 30) (hb : -27 ≤ (f n).toInt ∧ (f n).toInt ≤ 27) (hi : i.toInt = (f n).toInt + (d : Int)) (hx : x = u i.toNatClampNeg) (hn : n ≤ 729) (hz : z = x + 1) : CntR f d (n + 1) (upd u i.toNatClampNeg z) ∧ z.toInt = (cnN f (f n) (n + 1) : Int) := by
  have ei : i.toNatClampNeg = ((f n).toInt + (d : Int)).toNat := by
    show i.toInt.toNat = _
    rw [hi]
  have hc := h (f n) hb.1 hb.2
  have le := cnN_le (f := f) (p := f n) n
  have y := cnN_y (f := f) (p := f n) (n := n) rfl
  have n1 : (1 : Int32).toInt = 1 := by decide
  rw [← ei, ← hx] at hc
  have tz := i_add hz (by omega)
  have ez : z.toInt = (cnN f (f n) (n + 1) : Int) := by omega
  refine ⟨fun p h1 h2 => ?_, ez⟩
  by_cases q : f n = p
  · subst q
    rw [← ei, updA]
    exact ez
  · have ne := i_ne q
    rw [updN (by omega), cnN_n q]
    exact h p h1 h2
def atL : List Nat → Nat → Nat
  | [], _ => 0
  | x :: _, 0 => x
  | _ :: l, n + 1 => atL l n
theorem atL_get : ∀ (L : List Nat) (j : Nat) (h : j < L.length), atL L j = L[j]
  | [], _, h => absurd h (Nat.not_lt_zero _)
  | _ :: _, 0, _ => rfl
  | _ :: l, j + 1, h => atL_get l j (Nat.lt_of_succ_lt_succ h)
noncomputable def pulF (v : Vf) (c t : Int32) (j : Nat) : Int32 := mPull (shS v (atL (fitL v (shAll v)) j)) c t
noncomputable def woN (v : Vf) (c t : Int32) : Nat := if mStiff v c = 0 then (fitL v (shAll v)).length else mxN (pulF v c t) (fitL v (shAll v)).length
theorem woN_le {v : Vf} {c t : Int32} : woN v c t ≤ (fitL v (shAll v)).length := by
  unfold woN
  split
  · exact Nat.le_refl _
  · exact mxN_len _
theorem woN_1 {v : Vf} {c t : Int32} (h : (fitL v (shAll v)).length ≤ 1) : woN v c t = (fitL v (shAll v)).length := by
  unfold woN
  split
  · rfl
  · generalize pulF v c t = f
    rcases (show (fitL v (shAll v)).length = 0 ∨ (fitL v (shAll v)).length = 1 by omega) with q | q
    · rw [q]
      rfl
    · rw [q]
      have y : cnN f (f 0) 1 = 1 := (cnN_y (f := f) (p := f 0) (n := 0) rfl).trans rfl
      show max 0 (cnN f (f 0) 1) = 1
      rw [y]
      rfl
/-- the best so far: how many are left, and where (24 times the step and the cell; -1: nowhere) -/
noncomputable def lkC (v : Vf) (t : Nat) (s : Nat × Int) : Nat → Nat × Int
  | 0 => s
  | n + 1 => if woN v (Int32.ofNat n) (Int32.ofNat t) < (lkC v t s n).1 then (woN v (Int32.ofNat n) (Int32.ofNat t), 24 * (t : Int) + (n : Int)) else lkC v t s n
noncomputable def lkT (v : Vf) : Nat → Nat × Int
  | 0 => ((fitL v (shAll v)).length, -1)
  | t + 1 => lkC v t (lkT v t) ((v 0 0).toInt * (v 1 0).toInt).toNat
theorem lkC_y {v : Vf} {t n : Nat} {s : Nat × Int} (h : woN v (Int32.ofNat n) (Int32.ofNat t) < (lkC v t s n).1) : lkC v t s (n + 1) = (woN v (Int32.ofNat n) (Int32.ofNat t), 24 * (t : Int) + (n : Int)) := if_pos h
theorem lkC_n {v : Vf} {t n : Nat} {s : Nat × Int} (h : ¬ woN v (Int32.ofNat n) (Int32.ofNat t) < (lkC v t s n).1) : lkC v t s (n + 1) = lkC v t s n := if_neg h
theorem lkC_1 {v : Vf} {t : Nat} {s : Nat × Int} (h : (fitL v (shAll v)).length ≤ 1) (hs : s.1 = (fitL v (shAll v)).length) : ∀ n : Nat, lkC v t s n = s
  | 0 => rfl
  | n + 1 => by
    have ih := lkC_1 (t := t) h hs n
    rw [lkC_n (by rw [ih, woN_1 h, hs]; omega)]
    exact ih
theorem lkT_1 {v : Vf} (h : (fitL v (shAll v)).length ≤ 1) : ∀ t : Nat, lkT v t = ((fitL v (shAll v)).length, -1)
  | 0 => rfl
  | t + 1 => by
    have ih := lkT_1 h t
    show lkC v t (lkT v t) _ = _
    rw [ih]
    exact lkC_1 h rfl _
/-- a state that is sound: nowhere, and as many as fit; or somewhere, and fewer -/
def LkO (v : Vf) (s : Nat × Int) : Prop := (s.2 = -1 ∧ s.1 = (fitL v (shAll v)).length) ∨ ((0 ≤ s.2 ∧ s.2 ≤ 287) ∧ s.1 < (fitL v (shAll v)).length)
theorem lkC_o {v : Vf} {t : Nat} {s : Nat × Int} (ht : t < 12) (h : LkO v s) : ∀ n : Nat, n ≤ 24 → LkO v (lkC v t s n)
  | 0, _ => h
  | n + 1, hn => by
    have ih := lkC_o ht h n (by omega)
    by_cases q : woN v (Int32.ofNat n) (Int32.ofNat t) < (lkC v t s n).1
    · rw [lkC_y q]
      refine Or.inr ⟨⟨by show 0 ≤ 24 * (t : Int) + (n : Int); omega, by show 24 * (t : Int) + (n : Int) ≤ 287; omega⟩, ?_⟩
      show woN v (Int32.ofNat n) (Int32.ofNat t) < _
      rcases ih with ⟨-, i2⟩ | ⟨-, i2⟩ <;> omega
    · rw [lkC_n q]
      exact ih
theorem lkT_o {v : Vf} (hG : mdG v) : ∀ t : Nat, t ≤ 12 → LkO v (lkT v t)
  | 0, _ => Or.inl ⟨rfl, rfl⟩
  | t + 1, ht => by
    have h24 := hG.2.2
    exact lkC_o (by omega) (lkT_o hG t (by omega)) _ (by omega)
def LooR (v : Vf) (what r : Int32) : Prop := ((lkT v 12).2 = -1 ∧ r.toInt = -1) ∨ ((0 ≤ (lkT v 12).2 ∧ (lkT v 12).2 ≤ 287) ∧ ((what.toInt = 0 ∧ ∃ c : Int32, c.toInt = (lkT v 12).2 % 24 ∧ r = mPair v c) ∨ (what.toInt = 1 ∧ r.toInt = (lkT v 12).2 / 24) ∨ (what.toInt = 2 ∧ r.toInt = ((lkT v 12).1 : Int))))
theorem loo_eq {v : Vf} {what r q : Int32} (h1 : LooR v what r) (h2 : LooR v what q) : r.toInt = q.toInt := by
  rcases h1 with ⟨a1, a2⟩ | ⟨a1, ⟨a2, c, a3, a4⟩ | ⟨a2, a3⟩ | ⟨a2, a3⟩⟩
  · rcases h2 with ⟨b1, b2⟩ | ⟨b1, -⟩ <;> omega
  · rcases h2 with ⟨b1, b2⟩ | ⟨b1, ⟨b2, d, b3, b4⟩ | ⟨b2, b3⟩ | ⟨b2, b3⟩⟩
    · omega
    · have e : c = d := i_eqr (by rw [a3, b3])
      rw [a4, b4, e]
    · omega
    · omega
  · rcases h2 with ⟨b1, b2⟩ | ⟨b1, ⟨b2, d, b3, b4⟩ | ⟨b2, b3⟩ | ⟨b2, b3⟩⟩ <;> omega
  · rcases h2 with ⟨b1, b2⟩ | ⟨b1, ⟨b2, d, b3, b4⟩ | ⟨b2, b3⟩ | ⟨b2, b3⟩⟩ <;> omega
/-! what the looks depend on -/
def fr4 (v w : Vf) : Prop := ∀ t, t ≠ 24 → t ≠ 71 → t ≠ 72 → t ≠ 73 → t ≠ 74 → w t = v t
theorem fr4.rf {v : Vf} : fr4 v v := fun _ _ _ _ _ _ => rfl
theorem fr4.tr {v w u : Vf} (h : fr4 v w) (g : fr4 w u) : fr4 v u := fun t a b c d e => (g t a b c d e).trans (h t a b c d e)
theorem fr4_shN {v w : Vf} (h : fr4 v w) (m : Nat) : shN w m = shN v m := by
  unfold shN
  rw [h 4 (by decide) (by decide) (by decide) (by decide) (by decide), h 5 (by decide) (by decide) (by decide) (by decide) (by decide)]
theorem fr4_all {v w : Vf} (h : fr4 v w) : shAll w = shAll v := by
  unfold shAll
  rw [fr4_shN h, fr4_shN h, fr4_shN h]
theorem fr4_sm {v w : Vf} (h : fr4 v w) (n : Nat) : sm24 (shS v n) (shS w n) := by
  have ea : shA w n = shA v n := by unfold shA; rw [fr4_shN h, fr4_shN h]
  have eb : shB w n = shB v n := by unfold shB; rw [fr4_shN h, fr4_shN h]
  have ec : shC w n = shC v n := by unfold shC; rw [fr4_shN h]
  refine ⟨fun t h1 h2 => ?_, h 62 (by decide) (by decide) (by decide) (by decide) (by decide), fun j _ => ?_⟩
  · show up3 w 24 _ t = up3 v 24 _ t
    rw [up3_ne h2, up3_ne h2]
    exact h t h2 (by omega) (by omega) (by omega) (by omega)
  · show (if j = 0 then shA w n else if j = 1 then shB w n else shC w n) = if j = 0 then shA v n else if j = 1 then shB v n else shC v n
    rw [ea, eb, ec]
theorem fr4_seen {v w : Vf} (h : fr4 v w) (h3 : 0 ≤ (v 4 0).toInt ∧ (v 4 0).toInt ≤ 3) (n : Nat) : SeenQ (shS w n) ↔ SeenQ (shS v n) := seen_24 (fr4_sm h n) h3 ⟨h 67 (by decide) (by decide) (by decide) (by decide) (by decide), h 68 (by decide) (by decide) (by decide) (by decide) (by decide), h 69 (by decide) (by decide) (by decide) (by decide) (by decide), h 70 (by decide) (by decide) (by decide) (by decide) (by decide)⟩
theorem fr4_fit {v w : Vf} (h : fr4 v w) (h3 : 0 ≤ (v 4 0).toInt ∧ (v 4 0).toInt ≤ 3) : ∀ n : Nat, fitL w n = fitL v n
  | 0 => rfl
  | n + 1 => by
    have ih := fr4_fit h h3 n
    by_cases q : SeenQ (shS v n)
    · rw [fitL_y q, fitL_y ((fr4_seen h h3 n).mpr q), ih]
    · rw [fitL_n q, fitL_n (fun z => q ((fr4_seen h h3 n).mp z)), ih]
theorem fr4_wo {v w : Vf} {c t : Int32} (h : fr4 v w) (h3 : 0 ≤ (v 4 0).toInt ∧ (v 4 0).toInt ≤ 3) : woN w c t = woN v c t := by
  have e1 : fitL w (shAll w) = fitL v (shAll v) := by rw [fr4_all h, fr4_fit h h3]
  have e2 : pulF w c t = pulF v c t := by
    funext j
    unfold pulF
    rw [e1]
    exact mPull_24 (fr4_sm h _) h3
  have e3 : mStiff w c = mStiff v c := by
    unfold mStiff
    rw [h 3 (by decide) (by decide) (by decide) (by decide) (by decide), h 25 (by decide) (by decide) (by decide) (by decide) (by decide)]
  unfold woN
  rw [e1, e2, e3]
theorem lk_next {v : Vf} {t : Nat} {s : Nat × Int} {k k2 l b r nb nl st : Int32} (h : l.toInt = ((lkC v t s k.toNatClampNeg).1 : Int) ∧ b.toInt = (lkC v t s k.toNatClampNeg).2) (h0 : 0 ≤ k.toInt) (h2 : k2.toInt = k.toInt + 1) (ht : st.toInt = (t : Int)) (ht2 : t ≤ 12) (hr : r.toInt = (woN v k st : Int)) (hb : nb.toInt = if r.toInt < l.toInt then 24 * st.toInt + k.toInt else b.toInt) (hl : nl.toInt = if r.toInt < l.toInt then r.toInt else l.toInt) : nl.toInt = ((lkC v t s k2.toNatClampNeg).1 : Int) ∧ nb.toInt = (lkC v t s k2.toNatClampNeg).2 := by
  have ek : Int32.ofNat k.toNatClampNeg = k := i_ofN h0
  have et : Int32.ofNat t = st := i_eqr (by rw [ofN_t (by omega), ht])
  have en := i_nat h0
  obtain ⟨h1, h3⟩ := h
  rw [i_nat1 h0 h2]
  by_cases q : woN v (Int32.ofNat k.toNatClampNeg) (Int32.ofNat t) < (lkC v t s k.toNatClampNeg).1
  · rw [lkC_y q]
    rw [ek, et] at q ⊢
    have c : r.toInt < l.toInt := by omega
    rw [if_pos c] at hb hl
    refine ⟨by rw [hl]; exact hr, ?_⟩
    show nb.toInt = 24 * (t : Int) + (k.toNatClampNeg : Int)
    omega
  · rw [lkC_n q]
    rw [ek, et] at q
    have c : ¬ r.toInt < l.toInt := by omega
    rw [if_neg c] at hb hl
    exact ⟨by rw [hl]; exact h1, by rw [hb]; exact h3⟩
theorem lk_row {v : Vf} {st st2 k l b : Int32} (h : l.toInt = ((lkC v st.toNatClampNeg (lkT v st.toNatClampNeg) k.toNatClampNeg).1 : Int) ∧ b.toInt = (lkC v st.toNatClampNeg (lkT v st.toNatClampNeg) k.toNatClampNeg).2) (h0 : 0 ≤ st.toInt) (h2 : st2.toInt = st.toInt + 1) (hk : k.toInt = (v 0 0).toInt * (v 1 0).toInt) : l.toInt = ((lkT v st2.toNatClampNeg).1 : Int) ∧ b.toInt = (lkT v st2.toNatClampNeg).2 := by
  have ek : k.toNatClampNeg = ((v 0 0).toInt * (v 1 0).toInt).toNat := by
    show k.toInt.toNat = _
    rw [hk]
  rw [i_nat1 h0 h2]
  rw [ek] at h
  exact h
theorem loo_m {v : Vf} {what r l b c p : Int32} (hG : mdG v) (h : l.toInt = ((lkT v 12).1 : Int) ∧ b.toInt = (lkT v 12).2) (hb : 0 ≤ b.toInt) (hr : (what.toInt = 0 ∧ c.toInt = b.toInt % 24 ∧ r = mPair v c) ∨ (what.toInt = 1 ∧ r.toInt = b.toInt / 24) ∨ (what.toInt = 2 ∧ r = l)) : LooR v what r := by
  have o := lkT_o hG 12 (by decide)
  have h1 := h.1
  have h2 := h.2
  have o2 : 0 ≤ (lkT v 12).2 ∧ (lkT v 12).2 ≤ 287 := by
    rcases o with ⟨a, -⟩ | ⟨a, -⟩
    · omega
    · exact a
  refine Or.inr ⟨o2, ?_⟩
  rcases hr with ⟨a, d, e⟩ | ⟨a, d⟩ | ⟨a, d⟩
  · exact Or.inl ⟨a, c, by rw [d, h2], e⟩
  · exact Or.inr (Or.inl ⟨a, by rw [d, h2]⟩)
  · exact Or.inr (Or.inr ⟨a, by rw [d]; exact h1⟩)
theorem loo_none {v : Vf} {what r : Int32} (hG : mdG v) (hb : (lkT v 12).2 < 0) (hr : r.toInt = -1) : LooR v what r := by
  have o := lkT_o hG 12 (by decide)
  refine Or.inl ⟨?_, hr⟩
  rcases o with ⟨a, -⟩ | ⟨a, -⟩
  · exact a
  · omega
theorem max_cast {f : Nat → Int32} {n : Nat} {d m z : Int32} (hd : d.toInt = max m.toInt z.toInt) (hm : m.toInt = (mxN f n : Int)) (hz : z.toInt = (cnN f (f n) (n + 1) : Int)) : d.toInt = (mxN f (n + 1) : Int) := by
  have e : mxN f (n + 1) = max (mxN f n) (cnN f (f n) (n + 1)) := rfl
  omega
/-- the class's count, that may stop early -/
def WoC (v : Vf) (c t en r : Int32) : Prop := ((woN v c t : Int) < en.toInt → r.toInt = (woN v c t : Int)) ∧ (en.toInt ≤ (woN v c t : Int) → en.toInt ≤ r.toInt)
theorem woc_len {v : Vf} {c t en r : Int32} (hs : mStiff v c = 0) (hr : r.toInt = ((fitL v (shAll v)).length : Int)) : WoC v c t en r := by
  have e : woN v c t = (fitL v (shAll v)).length := by
    unfold woN
    rw [if_pos hs]
  unfold WoC
  rw [e]
  exact ⟨fun _ => hr, fun q => by omega⟩
theorem woc_end {v : Vf} {c t en r j : Int32} {n : Nat} (hs : ¬ mStiff v c = 0) (hr : r.toInt = (mxN (pulF v c t) n : Int)) (hn : n ≤ (fitL v (shAll v)).length) (he : n = (fitL v (shAll v)).length ∨ en.toInt ≤ r.toInt) : WoC v c t en r := by
  have e : woN v c t = mxN (pulF v c t) (fitL v (shAll v)).length := by
    unfold woN
    rw [if_neg hs]
  have m := mxN_le (f := pulF v c t) _ hn
  unfold WoC
  rw [e]
  rcases he with q | q
  · subst q
    exact ⟨fun _ => hr, fun z => by omega⟩
  · exact ⟨fun z => by omega, fun _ => q⟩
/-- where the class notes the best look -/
def LkQ (s : Nat × Int) (l1 l2 l3 : Int32) : Prop := 0 ≤ s.2 → l1.toInt = s.2 % 24 ∧ l2.toInt = s.2 / 24 ∧ l3.toInt = (s.1 : Int)
theorem lkq_next {v : Vf} {t : Nat} {s : Nat × Int} {k k2 b r nb st a1 a2 a3 b1 b2 b3 : Int32} (h : b.toInt = ((lkC v t s k.toNatClampNeg).1 : Int) ∧ LkQ (lkC v t s k.toNatClampNeg) a1 a2 a3) (h0 : 0 ≤ k.toInt ∧ k.toInt ≤ 23) (h2 : k2.toInt = k.toInt + 1) (ht : st.toInt = (t : Int)) (ht2 : t ≤ 11) (hr : WoC v k st b r) (hb : (r.toInt < b.toInt ∧ nb = r ∧ b1 = k ∧ b2 = st ∧ b3 = r) ∨ (b.toInt ≤ r.toInt ∧ nb = b ∧ b1 = a1 ∧ b2 = a2 ∧ b3 = a3)) : nb.toInt = ((lkC v t s k2.toNatClampNeg).1 : Int) ∧ LkQ (lkC v t s k2.toNatClampNeg) b1 b2 b3 := by
  have ek : Int32.ofNat k.toNatClampNeg = k := i_ofN h0.1
  have et : Int32.ofNat t = st := i_eqr (by rw [ofN_t (by omega), ht])
  have en := i_nat h0.1
  obtain ⟨h1, h3⟩ := h
  obtain ⟨r1, r2⟩ := hr
  rw [i_nat1 h0.1 h2]
  by_cases q : woN v (Int32.ofNat k.toNatClampNeg) (Int32.ofNat t) < (lkC v t s k.toNatClampNeg).1
  · rw [lkC_y q]
    rw [ek, et] at q ⊢
    have e := r1 (by omega)
    rcases hb with ⟨-, c2, c3, c4, c5⟩ | ⟨c1, -⟩
    · refine ⟨by rw [c2]; exact e, fun _ => ?_⟩
      show b1.toInt = (24 * (t : Int) + (k.toNatClampNeg : Int)) % 24 ∧ b2.toInt = (24 * (t : Int) + (k.toNatClampNeg : Int)) / 24 ∧ b3.toInt = (woN v k st : Int)
      rw [c3, c4, c5]
      exact ⟨by omega, by omega, e⟩
    · omega
  · rw [lkC_n q]
    rw [ek, et] at q
    have e := r2 (by omega)
    rcases hb with ⟨c1, -⟩ | ⟨-, c2, c3, c4, c5⟩
    · omega
    · rw [c2, c3, c4, c5]
      exact ⟨h1, h3⟩
theorem lkq_row {v : Vf} {st st2 k b a1 a2 a3 : Int32} (h : b.toInt = ((lkC v st.toNatClampNeg (lkT v st.toNatClampNeg) k.toNatClampNeg).1 : Int) ∧ LkQ (lkC v st.toNatClampNeg (lkT v st.toNatClampNeg) k.toNatClampNeg) a1 a2 a3) (h0 : 0 ≤ st.toInt) (h2 : st2.toInt = st.toInt + 1) (hk : k.toInt = (v 0 0).toInt * (v 1 0).toInt) : b.toInt = ((lkT v st2.toNatClampNeg).1 : Int) ∧ LkQ (lkT v st2.toNatClampNeg) a1 a2 a3 := by
  have ek : k.toNatClampNeg = ((v 0 0).toInt * (v 1 0).toInt).toNat := by
    show k.toInt.toNat = _
    rw [hk]
  rw [i_nat1 h0 h2]
  rw [ek] at h
  exact h
theorem lk_b {v : Vf} (hG : mdG v) (h : 0 ≤ (lkT v 12).2) : 0 ≤ (lkT v 12).2 ∧ (lkT v 12).2 ≤ 287 := by
  rcases lkT_o hG 12 (by decide) with ⟨a, -⟩ | ⟨a, -⟩
  · omega
  · exact a
theorem lkT_z {v : Vf} (h : (v 0 0).toInt * (v 1 0).toInt = 0) : ∀ t : Nat, (lkT v t).2 = -1
  | 0 => rfl
  | t + 1 => by
    show (lkC v t (lkT v t) ((v 0 0).toInt * (v 1 0).toInt).toNat).2 = -1
    rw [h]
    exact lkT_z h t
theorem look_0 {v : Vf} {what c r w : Int32} (hG : mdG v) (h : 0 ≤ (lkT v 12).2) (hw : what.toInt = 0) (hc : c.toInt = (lkT v 12).2 % 24) (w0 : w = v 0 0) (hp : (w.toInt < 1 → r = 0) ∧ (1 ≤ w.toInt → r = (c - c / w * w) * 10 + c / w)) : LooR v what r := by
  have nn := Int.mul_nonneg hG.1.1 hG.2.1.1
  have wd : 1 ≤ (v 0 0).toInt * (v 1 0).toInt := by
    rcases Int.lt_or_le 0 ((v 0 0).toInt * (v 1 0).toInt) with q | q
    · omega
    · have z := lkT_z (v := v) (by omega) 12
      omega
  have w1 := wd_pos hG.1.1 wd
  exact Or.inr ⟨lk_b hG h, Or.inl ⟨hw, c, hc, pair_cls (hp.2 (by rw [w0]; exact w1)) w0⟩⟩
