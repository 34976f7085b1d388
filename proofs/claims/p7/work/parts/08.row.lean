/-! the row of a moon, as the class reads it -/
def RowI (T : Nat → Int32) (n : Int) (b : Nat) (p0 : Int) (s0 : Nat → Int) (g0 w0 : Int) (i : Nat) (p g w : Int) (mr : Nat → Int32) : Prop :=
  (g0 ≠ 0 ∧ g = g0 ∧ w = w0) ∨ (g0 = 0 ∧ ((g ≠ 0 ∧ rowF T n b 9 0 p0 s0 = .inl (g, w)) ∨ (g = 0 ∧ w = w0 ∧ ∃ s1 : Nat → Int, rowF T n b 9 0 p0 s0 = rowF T n b (9 - i) i p s1 ∧ ∀ j, j < i → (mr j).toInt = s1 (b + j))))
def RowE (T : Nat → Int32) (n : Int) (b : Nat) (p0 : Int) (s0 : Nat → Int) (g0 w0 : Int) (i : Nat) (p g w : Int) (mr : Nat → Int32) : Prop :=
  (g0 ≠ 0 ∧ g = g0 ∧ w = w0) ∨ (g0 = 0 ∧ ((g ≠ 0 ∧ rowF T n b 9 0 p0 s0 = .inl (g, w)) ∨ (g = 0 ∧ w = w0 ∧ ∃ s1 : Nat → Int, rowF T n b 9 0 p0 s0 = (if i < 2 then .inl (1, p) else .inr (i, p, s1)) ∧ ∀ j, j < i → (mr j).toInt = s1 (b + j))))
theorem RowI.out {T : Nat → Int32} {n : Int} {b : Nat} {p0 : Int} {s0 : Nat → Int} {g0 w0 : Int} {i : Nat} {p g w : Int} {mr : Nat → Int32} (h : RowI T n b p0 s0 g0 w0 i p g w mr) (hg : g ≠ 0) : RowE T n b p0 s0 g0 w0 i p g w mr := by
  rcases h with h | ⟨h0, h | h⟩
  · exact Or.inl h
  · exact Or.inr ⟨h0, Or.inl h⟩
  · exact absurd h.1 hg
theorem row_upd {mr : Nat → Int32} {s1 : Nat → Int} {b i : Nat} {x : Int32} {v : Int} (h : ∀ j, j < i → (mr j).toInt = s1 (b + j)) (hx : x.toInt = v) : ∀ j, j < i + 1 → (upd mr i x j).toInt = upI s1 (b + i) v (b + j) := by
  intro j hj
  unfold upI
  by_cases hq : j = i
  · subst hq
    rw [updA, if_pos rfl]
    exact hx
  · rw [updN hq, if_neg (by omega)]
    exact h j (by omega)
theorem RowI.back {T : Nat → Int32} {n : Int} {b : Nat} {p0 : Int} {s0 : Nat → Int} {g0 w0 : Int} {i : Nat} {p g w g1 w1 r e na z : Int} {mr : Nat → Int32} {x : Int32} (h : RowI T n b p0 s0 g0 w0 i p g w mr) (hg : g = 0) (hi : i < 9) (hn : CF (numF T n 0 18 p) g w g1 w1 (fun y => r = y.1 ∧ e = y.2.1 ∧ na = y.2.2)) (hz : z = skp T n e) (hc : z < n ∧ tc T z = 44 ∧ i + 1 ≠ 9) (hx : x.toInt = r - 9) : RowI T n b p0 s0 g0 w0 (i + 1) (z + 1) g1 w1 (upd mr i x) := by
  rcases h with h | ⟨h0, h | ⟨h1, h2, s1, h3, h4⟩⟩
  · omega
  · omega
  · rw [show 9 - i = (9 - (i + 1)) + 1 by omega] at h3
    rcases hn with q | ⟨-, ⟨k, q, q1, q2, q3⟩ | ⟨y, q1, q2, q3, q4⟩⟩
    · omega
    · have := okF.num _ _ q1
      exact Or.inr ⟨h0, Or.inl ⟨by omega, by rw [h3, row_no q1, q2, q3]⟩⟩
    · obtain ⟨v, e', na'⟩ := y
      obtain ⟨r1, r2, r3⟩ := q4
      have r1 : r = v := r1
      have r2 : e = e' := r2
      subst r1 r2
      exact Or.inr ⟨h0, Or.inr ⟨q2, by omega, _, by rw [h3, row_on q1 hz hc], row_upd h4 hx⟩⟩
theorem RowI.exit {T : Nat → Int32} {n : Int} {b : Nat} {p0 : Int} {s0 : Nat → Int} {g0 w0 : Int} {i : Nat} {p g w g1 w1 r e na z : Int} {mr : Nat → Int32} {x : Int32} (h : RowI T n b p0 s0 g0 w0 i p g w mr) (hg : g = 0) (hi : i < 9) (hn : CF (numF T n 0 18 p) g w g1 w1 (fun y => r = y.1 ∧ e = y.2.1 ∧ na = y.2.2)) (hz : z = skp T n e) (hc : ¬ (z < n ∧ tc T z = 44 ∧ i + 1 ≠ 9)) (hx : x.toInt = r - 9) : RowE T n b p0 s0 g0 w0 (i + 1) z g1 w1 (upd mr i x) := by
  rcases h with h | ⟨h0, h | ⟨h1, h2, s1, h3, h4⟩⟩
  · omega
  · omega
  · rw [show 9 - i = (9 - (i + 1)) + 1 by omega] at h3
    rcases hn with q | ⟨-, ⟨k, q, q1, q2, q3⟩ | ⟨y, q1, q2, q3, q4⟩⟩
    · omega
    · have := okF.num _ _ q1
      exact Or.inr ⟨h0, Or.inl ⟨by omega, by rw [h3, row_no q1, q2, q3]⟩⟩
    · obtain ⟨v, e', na'⟩ := y
      obtain ⟨r1, r2, r3⟩ := q4
      have r1 : r = v := r1
      have r2 : e = e' := r2
      subst r1 r2
      exact Or.inr ⟨h0, Or.inr ⟨q2, by omega, _, by rw [h3, row_end q1 hz hc], row_upd h4 hx⟩⟩
theorem RowE.fin {T : Nat → Int32} {n : Int} {b : Nat} {p0 : Int} {s0 : Nat → Int} {g0 w0 : Int} {i : Nat} {p g w g1 w1 c : Int} {mr : Nat → Int32} (h : RowE T n b p0 s0 g0 w0 i p g w mr) (hc : (c = 0 ∧ 2 ≤ i) ∨ (c = 1 ∧ i < 2)) (hr : (c ≠ 0 ∧ g = 0 ∧ g1 = 1 ∧ w1 = p) ∨ ((c = 0 ∨ g ≠ 0) ∧ g1 = g ∧ w1 = w)) : CF (rowF T n b 9 0 p0 s0) g0 w0 g1 w1 (fun z => i = z.1 ∧ p = z.2.1 ∧ ∀ j, j < z.1 → (mr j).toInt = z.2.2 (b + j)) := by
  rcases h with ⟨h1, h2, h3⟩ | ⟨h0, ⟨h1, h2⟩ | ⟨h1, h2, s1, h3, h4⟩⟩
  · exact CF.old h1 (by omega) (by omega)
  · exact CF.no h0 h2 (by omega) (by omega)
  · rcases hc with ⟨c1, c2⟩ | ⟨c1, c2⟩
    · rw [if_neg (by omega)] at h3
      exact CF.ok h0 h3 (by omega) (by omega) ⟨rfl, rfl, h4⟩
    · rw [if_pos c2] at h3
      exact CF.no h0 h3 (by omega) (by omega)
theorem row_keep {T : Nat → Int32} {n : Int} {b : Nat} : ∀ (f i : Nat) (p : Int) (s : Nat → Int) (z : Nat × Int × (Nat → Int)), rowF T n b f i p s = .inr z → z.1 ≤ i + f ∧ i < z.1 ∧ 2 ≤ z.1 ∧ ∀ j, j < b + i ∨ b + z.1 ≤ j → z.2.2 j = s j
  | 0, i, p, s, z, h => by cases h
  | f + 1, i, p, s, z, h => by
    cases hn : numF T n 0 18 p with
    | inl e => obtain ⟨k1, q1⟩ := e; rw [row_no hn] at h; cases h
    | inr e =>
      obtain ⟨v, e, q0⟩ := e
      by_cases hc : skp T n e < n ∧ tc T (skp T n e) = 44 ∧ i + 1 ≠ 9
      · rw [row_on hn rfl hc] at h
        obtain ⟨r1, r2, r3, r4⟩ := row_keep f _ _ _ z h
        refine ⟨by omega, by omega, r3, fun j hj => ?_⟩
        rw [r4 j (by omega)]
        exact if_neg (by omega)
      · rw [row_end hn rfl hc] at h
        split at h
        · cases h
        · rename_i q
          cases h
          exact ⟨by omega, by omega, by show 2 ≤ i + 1; omega, fun j hj => if_neg (by show ¬ j = b + i; have hj : j < b + i ∨ b + (i + 1) ≤ j := hj; omega)⟩
def moonS (S : St0) (px py : Int) (r : Nat × Int × (Nat → Int)) : St0 := fun t j => cond (Nat.beq t 47) (r.2.2 j) (upS (upS (upS (upS S 43 0 (S 43 0 + 1)) 44 (S 43 0).toNat r.1) 45 (S 43 0).toNat px) 46 (S 43 0).toNat py t j)
theorem RowI.start {T : Nat → Int32} {n : Int} {b : Nat} {p : Int} {s0 : Nat → Int} {g w : Int} {mr : Nat → Int32} : RowI T n b p s0 g w 0 p g w mr := by
  rcases Decidable.em (g = 0) with h | h
  · exact Or.inr ⟨h, Or.inr ⟨h, rfl, s0, rfl, fun j hj => absurd hj (by omega)⟩⟩
  · exact Or.inl ⟨h, rfl, rfl⟩
theorem CF.stop {α β : Type} {a : Rd α} {s : α → Rd β} {g w g' w' : Int} {ok : α → Prop} {ok2 : α × β → Prop} (h : CF a g w g' w' ok) (hg : g' ≠ 0) : CF (th a s) g w g' w' ok2 := by
  rcases h with h | ⟨q1, ⟨k, q, q2, q3, q4⟩ | ⟨x, q2, q3, q4, q5⟩⟩
  · exact Or.inl h
  · exact CF.no q1 (th_no q2) q3 q4
  · exact absurd q3 hg
theorem g_pos {W D c : Int} (hc : c = W * D) (h : (W = 0 ∧ D = 0) ∨ (1 ≤ W ∧ 1 ≤ D)) : (1 ≤ W ∧ 1 ≤ c) ∨ (W = 0 ∧ c = 0) := by
  rcases h with ⟨h1, h2⟩ | ⟨h1, h2⟩
  · exact Or.inr ⟨h1, by rw [hc, h1, Int.zero_mul]⟩
  · have := Int.mul_le_mul h1 h2 (by omega) (by omega)
    exact Or.inl ⟨h1, by omega⟩
theorem gr_step {v : Vf} {k x b s : Int32} (h : ∀ j : Nat, (j : Int) < k.toInt → v 3 j = b ∧ v 4 j = s) (hk : 0 ≤ k.toInt) (hx : x.toInt = k.toInt + 1) : ∀ j : Nat, (j : Int) < x.toInt → up2 (up2 v 3 k.toNatClampNeg b) 4 k.toNatClampNeg s 3 j = b ∧ up2 (up2 v 3 k.toNatClampNeg b) 4 k.toNatClampNeg s 4 j = s := by
  intro j hj
  show upd (v 3) k.toInt.toNat b j = b ∧ upd (v 4) k.toInt.toNat s j = s
  by_cases hq : j = k.toInt.toNat
  · rw [hq, updA, updA]
    exact ⟨rfl, rfl⟩
  · rw [updN hq, updN hq]
    exact h j (by omega)
theorem upd_low {f : Nat → Int32} {a : Nat} {x : Int32} {L : Int} (hL : L ≤ (a : Int)) : ∀ j : Nat, (j : Int) < L → upd f a x j = f j := fun j hj => updN (by omega)
theorem lt_aux {j k : Nat} {a : Int} (h : (j : Int) < a) (ha : a ≤ 9) (m : Nat) (hm : k < m) : 9 * k + j < 9 * m := by omega
theorem rp_moon0 {S : St0} {vp : Vf} {cx ck px py mc len : Int32} {mr mr' ma' : Nat → Int32} {r : Nat × Int × (Nat → Int)} (hR : Rp S vp cx ck) (hm : S 43 0 = 0) (hmc : mc.toInt = 1) (hlen : len.toInt = r.1) (hmr : ∀ j, j < r.1 → (mr' j).toInt = r.2.2 (0 + j)) (hdb : ∀ j, j < r.1 → mr' (r.1 + j) = mr' j) (hah : ∀ c : Nat, (c : Int) < S 37 0 * S 38 0 → (ma' c).toInt = px.toInt * ((c : Int) % S 37 0) + py.toInt * ((c : Int) / S 37 0)) (h37 : S 37 0 ≠ 0) (hlow : ∀ j, j < 0 → r.2.2 j = S 47 j) : Rp (moonS S px.toInt py.toInt r) (up2 (up3 (up3 (up2 (up3 (up2 (up2 vp 21 0 px) 22 0 py) 23 mr) 20 0 len) 23 mr') 24 ma') 5 0 mc) cx ck := by
  obtain ⟨h1, h2, ⟨m0, m1, m2, m3⟩, h4, h5, h6, h7⟩ := hR
  have ek : (S 43 0).toNat = 0 := by omega
  have ea0 : moonS S px.toInt py.toInt r 44 0 = r.1 ∧ moonS S px.toInt py.toInt r 45 0 = px.toInt ∧ moonS S px.toInt py.toInt r 46 0 = py.toInt := by
    refine ⟨?_, ?_, ?_⟩
    · show cond (Nat.beq 0 (S 43 0).toNat) (r.1 : Int) (S 44 0) = r.1
      rw [ek]
      rfl
    · show cond (Nat.beq 0 (S 43 0).toNat) px.toInt (S 45 0) = px.toInt
      rw [ek]
      rfl
    · show cond (Nat.beq 0 (S 43 0).toNat) py.toInt (S 46 0) = py.toInt
      rw [ek]
      rfl
  refine ⟨h1, h2, ⟨⟨?_, fun q => absurd (show S 37 0 = 0 from q) h37⟩, ⟨fun hq => ?_, fun hq => ?_⟩, ⟨fun hq => ?_, fun hq => ?_⟩, ⟨fun hq => ?_, fun hq => ?_⟩⟩, h4, h5, h6, h7⟩
  · show mc.toInt = S 43 0 + 1
    omega
  · rw [ea0.1, ea0.2.1, ea0.2.2]
    refine ⟨hlen, rfl, rfl, fun j hj => ?_, fun j hj => ?_, hah⟩
    · exact hmr j (Int.ofNat_lt.mp hj)
    · rw [show ((r.1 : Nat) : Int).toNat = r.1 from rfl]
      exact hdb j (Int.ofNat_lt.mp hj)
  · have hq : S 43 0 + 1 ≤ ((0 : Nat) : Int) := hq
    omega
  · have hq : ((1 : Nat) : Int) < S 43 0 + 1 := hq
    omega
  · exact m2.2 (by omega)
  · have hq : ((2 : Nat) : Int) < S 43 0 + 1 := hq
    omega
  · exact m3.2 (by omega)
theorem rp_moon1 {S : St0} {vp : Vf} {cx ck px py mc len : Int32} {mr mr' ma' : Nat → Int32} {r : Nat × Int × (Nat → Int)} (hR : Rp S vp cx ck) (hm : S 43 0 = 1) (hmc : mc.toInt = 2) (hlen : len.toInt = r.1) (hmr : ∀ j, j < r.1 → (mr' j).toInt = r.2.2 (9 + j)) (hdb : ∀ j, j < r.1 → mr' (r.1 + j) = mr' j) (hah : ∀ c : Nat, (c : Int) < S 37 0 * S 38 0 → (ma' c).toInt = px.toInt * ((c : Int) % S 37 0) + py.toInt * ((c : Int) / S 37 0)) (h37 : S 37 0 ≠ 0) (hlow : ∀ j, j < 9 → r.2.2 j = S 47 j) (hs0 : S 44 0 ≤ 9) : Rp (moonS S px.toInt py.toInt r) (up2 (up3 (up3 (up2 (up3 (up2 (up2 vp 31 0 px) 32 0 py) 33 mr) 30 0 len) 33 mr') 34 ma') 5 0 mc) cx ck := by
  obtain ⟨h1, h2, ⟨m0, m1, m2, m3⟩, h4, h5, h6, h7⟩ := hR
  have ek : (S 43 0).toNat = 1 := by omega
  have ea0 : moonS S px.toInt py.toInt r 44 0 = S 44 0 ∧ moonS S px.toInt py.toInt r 45 0 = S 45 0 ∧ moonS S px.toInt py.toInt r 46 0 = S 46 0 := by
    refine ⟨?_, ?_, ?_⟩
    · show cond (Nat.beq 0 (S 43 0).toNat) (r.1 : Int) (S 44 0) = S 44 0
      rw [ek]
      rfl
    · show cond (Nat.beq 0 (S 43 0).toNat) px.toInt (S 45 0) = S 45 0
      rw [ek]
      rfl
    · show cond (Nat.beq 0 (S 43 0).toNat) py.toInt (S 46 0) = S 46 0
      rw [ek]
      rfl
  have ea1 : moonS S px.toInt py.toInt r 44 1 = r.1 ∧ moonS S px.toInt py.toInt r 45 1 = px.toInt ∧ moonS S px.toInt py.toInt r 46 1 = py.toInt := by
    refine ⟨?_, ?_, ?_⟩
    · show cond (Nat.beq 1 (S 43 0).toNat) (r.1 : Int) (S 44 1) = r.1
      rw [ek]
      rfl
    · show cond (Nat.beq 1 (S 43 0).toNat) px.toInt (S 45 1) = px.toInt
      rw [ek]
      rfl
    · show cond (Nat.beq 1 (S 43 0).toNat) py.toInt (S 46 1) = py.toInt
      rw [ek]
      rfl
  refine ⟨h1, h2, ⟨⟨?_, fun q => absurd (show S 37 0 = 0 from q) h37⟩, ⟨fun hq => ?_, fun hq => ?_⟩, ⟨fun hq => ?_, fun hq => ?_⟩, ⟨fun hq => ?_, fun hq => ?_⟩⟩, h4, h5, h6, h7⟩
  · show mc.toInt = S 43 0 + 1
    omega
  · have q := m1.1 (by omega)
    rw [ea0.1, ea0.2.1, ea0.2.2]
    refine ⟨q.1, q.2.1, q.2.2.1, fun j hj => ?_, q.2.2.2.2.1, q.2.2.2.2.2⟩
    show _ = r.2.2 (9 * 0 + j)
    rw [hlow (9 * 0 + j) (lt_aux (k := 0) hj hs0 1 (by decide))]
    exact q.2.2.2.1 j hj
  · have hq : S 43 0 + 1 ≤ ((0 : Nat) : Int) := hq
    omega
  · rw [ea1.1, ea1.2.1, ea1.2.2]
    refine ⟨hlen, rfl, rfl, fun j hj => ?_, fun j hj => ?_, hah⟩
    · exact hmr j (Int.ofNat_lt.mp hj)
    · rw [show ((r.1 : Nat) : Int).toNat = r.1 from rfl]
      exact hdb j (Int.ofNat_lt.mp hj)
  · have hq : S 43 0 + 1 ≤ ((1 : Nat) : Int) := hq
    omega
  · have hq : ((2 : Nat) : Int) < S 43 0 + 1 := hq
    omega
  · exact m3.2 (by omega)
theorem rp_moon2 {S : St0} {vp : Vf} {cx ck px py mc len : Int32} {mr mr' ma' : Nat → Int32} {r : Nat × Int × (Nat → Int)} (hR : Rp S vp cx ck) (hm : S 43 0 = 2) (hmc : mc.toInt = 3) (hlen : len.toInt = r.1) (hmr : ∀ j, j < r.1 → (mr' j).toInt = r.2.2 (18 + j)) (hdb : ∀ j, j < r.1 → mr' (r.1 + j) = mr' j) (hah : ∀ c : Nat, (c : Int) < S 37 0 * S 38 0 → (ma' c).toInt = px.toInt * ((c : Int) % S 37 0) + py.toInt * ((c : Int) / S 37 0)) (h37 : S 37 0 ≠ 0) (hlow : ∀ j, j < 18 → r.2.2 j = S 47 j) (hs0 : S 44 0 ≤ 9) (hs1 : S 44 1 ≤ 9) : Rp (moonS S px.toInt py.toInt r) (up2 (up3 (up3 (up2 (up3 (up2 (up2 vp 41 0 px) 42 0 py) 43 mr) 40 0 len) 43 mr') 44 ma') 5 0 mc) cx ck := by
  obtain ⟨h1, h2, ⟨m0, m1, m2, m3⟩, h4, h5, h6, h7⟩ := hR
  have ek : (S 43 0).toNat = 2 := by omega
  have ea0 : moonS S px.toInt py.toInt r 44 0 = S 44 0 ∧ moonS S px.toInt py.toInt r 45 0 = S 45 0 ∧ moonS S px.toInt py.toInt r 46 0 = S 46 0 := by
    refine ⟨?_, ?_, ?_⟩
    · show cond (Nat.beq 0 (S 43 0).toNat) (r.1 : Int) (S 44 0) = S 44 0
      rw [ek]
      rfl
    · show cond (Nat.beq 0 (S 43 0).toNat) px.toInt (S 45 0) = S 45 0
      rw [ek]
      rfl
    · show cond (Nat.beq 0 (S 43 0).toNat) py.toInt (S 46 0) = S 46 0
      rw [ek]
      rfl
  have ea1 : moonS S px.toInt py.toInt r 44 1 = S 44 1 ∧ moonS S px.toInt py.toInt r 45 1 = S 45 1 ∧ moonS S px.toInt py.toInt r 46 1 = S 46 1 := by
    refine ⟨?_, ?_, ?_⟩
    · show cond (Nat.beq 1 (S 43 0).toNat) (r.1 : Int) (S 44 1) = S 44 1
      rw [ek]
      rfl
    · show cond (Nat.beq 1 (S 43 0).toNat) px.toInt (S 45 1) = S 45 1
      rw [ek]
      rfl
    · show cond (Nat.beq 1 (S 43 0).toNat) py.toInt (S 46 1) = S 46 1
      rw [ek]
      rfl
  have ea2 : moonS S px.toInt py.toInt r 44 2 = r.1 ∧ moonS S px.toInt py.toInt r 45 2 = px.toInt ∧ moonS S px.toInt py.toInt r 46 2 = py.toInt := by
    refine ⟨?_, ?_, ?_⟩
    · show cond (Nat.beq 2 (S 43 0).toNat) (r.1 : Int) (S 44 2) = r.1
      rw [ek]
      rfl
    · show cond (Nat.beq 2 (S 43 0).toNat) px.toInt (S 45 2) = px.toInt
      rw [ek]
      rfl
    · show cond (Nat.beq 2 (S 43 0).toNat) py.toInt (S 46 2) = py.toInt
      rw [ek]
      rfl
  refine ⟨h1, h2, ⟨⟨?_, fun q => absurd (show S 37 0 = 0 from q) h37⟩, ⟨fun hq => ?_, fun hq => ?_⟩, ⟨fun hq => ?_, fun hq => ?_⟩, ⟨fun hq => ?_, fun hq => ?_⟩⟩, h4, h5, h6, h7⟩
  · show mc.toInt = S 43 0 + 1
    omega
  · have q := m1.1 (by omega)
    rw [ea0.1, ea0.2.1, ea0.2.2]
    refine ⟨q.1, q.2.1, q.2.2.1, fun j hj => ?_, q.2.2.2.2.1, q.2.2.2.2.2⟩
    show _ = r.2.2 (9 * 0 + j)
    rw [hlow (9 * 0 + j) (lt_aux (k := 0) hj hs0 2 (by decide))]
    exact q.2.2.2.1 j hj
  · have hq : S 43 0 + 1 ≤ ((0 : Nat) : Int) := hq
    omega
  · have q := m2.1 (by omega)
    rw [ea1.1, ea1.2.1, ea1.2.2]
    refine ⟨q.1, q.2.1, q.2.2.1, fun j hj => ?_, q.2.2.2.2.1, q.2.2.2.2.2⟩
    show _ = r.2.2 (9 * 1 + j)
    rw [hlow (9 * 1 + j) (lt_aux (k := 1) hj hs1 2 (by decide))]
    exact q.2.2.2.1 j hj
  · have hq : S 43 0 + 1 ≤ ((1 : Nat) : Int) := hq
    omega
  · rw [ea2.1, ea2.2.1, ea2.2.2]
    refine ⟨hlen, rfl, rfl, fun j hj => ?_, fun j hj => ?_, hah⟩
    · exact hmr j (Int.ofNat_lt.mp hj)
    · rw [show ((r.1 : Nat) : Int).toNat = r.1 from rfl]
      exact hdb j (Int.ofNat_lt.mp hj)
  · have hq : S 43 0 + 1 ≤ ((2 : Nat) : Int) := hq
    omega
theorem CF.mono2 {α : Type} {a : Rd α} {g w g' w' : Int} {ok ok' : α → Prop} (h : CF a g w g' w' ok) (hm : g = 0 → g' = 0 → ∀ x, a = .inr x → ok x → ok' x) : CF a g w g' w' ok' := by
  rcases h with h | ⟨q1, h | ⟨x, q2, q3, q4, q5⟩⟩
  · exact Or.inl h
  · exact Or.inr ⟨q1, Or.inl h⟩
  · exact CF.ok q1 q2 q3 q4 (hm q1 q3 x q2 q5)
theorem up2N {v : Vf} {k j t : Nat} {x : Int32} (h : t ≠ k) : up2 v k j x t = v t := by
  show cond (Nat.beq t k) _ _ = _
  rw [beqN h]
  rfl
theorem chk_no {P : Prop} [Decidable P] {k q : Int} {x : Unit} (h : chk (decide P) k q = .inr x) : ¬ P := by
  intro hp
  rw [decide_eq_true hp] at h
  cases h
