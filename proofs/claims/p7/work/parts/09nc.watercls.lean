/-! ===== water: what both sides answer ===== -/
theorem lvf_fr {v w : Vf} {t : Int32} (h : scL lWt v w) : lvF w t = lvF v t := by
  funext k
  have hp : ∀ c t, ∀ n, mPullN w c t n = mPullN v c t n := by
    intro c t n
    induction n with
    | zero => rfl
    | succ n ih =>
      show mPullN w c t n + mPart w (Int32.ofNat n) c t = mPullN v c t n + mPart v (Int32.ofNat n) c t
      rw [ih]
      unfold mPart
      rw [h 62 (by decide), h 8 (by decide), h 24 (by decide), h 6 (by decide), h 0 (by decide), h 7 (by decide), h 5 (by decide)]
  unfold lvF mFl mH mStiff mPull
  rw [h 17 (by decide), h 18 (by decide), h 2 (by decide), h 3 (by decide), h 25 (by decide), h 4 (by decide), hp]
def WLev (v : Vf) (x t : Int32) (T N : Int) : Prop := (x.toInt = 0 ∧ N = 1 ∧ (∃ w, w < (v 16 0).toNatClampNeg ∧ lvF v t w = T) ∧ ∀ w, w < (v 16 0).toNatClampNeg → T ≤ lvF v t w) ∨ (0 < x.toInt ∧ ∃ p, wG x.toInt (lvF v t) p (v 16 0).toNatClampNeg ∧ T = x.toInt + wS (lvF v t) p (v 16 0).toNatClampNeg ∧ N = wN p (v 16 0).toNatClampNeg)
theorem wlev_eq {v : Vf} {x t : Int32} {T N T2 N2 : Int} (h1 : WLev v x t T N) (h2 : WLev v x t T2 N2) : T = T2 ∧ N = N2 := by
  rcases h1 with ⟨a1, a2, ⟨w, a3, a4⟩, a5⟩ | ⟨a1, p, a2, a3, a4⟩
  · rcases h2 with ⟨b1, b2, ⟨u, b3, b4⟩, b5⟩ | ⟨b1, -⟩
    · have x1 := a5 u b3
      have x2 := b5 w a3
      omega
    · omega
  · rcases h2 with ⟨b1, -⟩ | ⟨b1, q, b2, b3, b4⟩
    · omega
    · have z := wG_uniq a2 b2
      exact ⟨by rw [a3, b3, z.2.1], by rw [a4, b4, z.2.2]⟩
/-! sets of wells -/
set_option maxRecDepth 100000 in
theorem bit_eq : ∀ m : Fin 32, ∀ w : Fin 5, lvP (Int32.ofNat m.val) w.val = Nat.testBit m.val w.val := by decide +kernel
theorem lvp_bit {r : Int32} (h : 0 ≤ r.toInt ∧ r.toInt ≤ 31) {w : Nat} (hw : w < 5) : lvP r w = Nat.testBit r.toNatClampNeg w := by
  have n := i_nat h.1
  have z : lvP (Int32.ofNat r.toNatClampNeg) w = Nat.testBit r.toNatClampNeg w := bit_eq ⟨r.toNatClampNeg, by omega⟩ ⟨w, hw⟩
  rw [i_ofN h.1] at z
  exact z
theorem pow_5 {k : Nat} (hk : k ≤ 5) : 2 ^ k ≤ 32 := Nat.pow_le_pow_right (n := 2) (by decide) hk
def WtC (g : Nat → Int) (be ab : Int) (k : Nat) (r : Int32) : Prop := (0 ≤ r.toInt ∧ r.toInt < ((2 ^ k : Nat) : Int)) ∧ ∀ w, w < k → (lvP r w = true ↔ g w * be < ab)
theorem wtc_eq {g : Nat → Int} {be ab : Int} {k : Nat} {r q : Int32} (hk : k ≤ 5) (h1 : WtC g be ab k r) (h2 : WtC g be ab k q) : r.toInt = q.toInt := by
  have p := pow_5 hk
  obtain ⟨⟨a1, a2⟩, a3⟩ := h1
  obtain ⟨⟨b1, b2⟩, b3⟩ := h2
  have r1 := i_nat a1
  have q1 := i_nat b1
  have e : r.toNatClampNeg = q.toNatClampNeg := Nat.eq_of_testBit_eq fun w => by
    by_cases z : w < k
    · rw [← lvp_bit ⟨a1, by omega⟩ (by omega), ← lvp_bit ⟨b1, by omega⟩ (by omega)]
      exact Bool.eq_iff_iff.mpr ((a3 w z).trans (b3 w z).symm)
    · have pw : 2 ^ k ≤ 2 ^ w := Nat.pow_le_pow_right (n := 2) (by decide) (by omega)
      rw [Nat.testBit_lt_two_pow (show r.toNatClampNeg < 2 ^ w by omega), Nat.testBit_lt_two_pow (show q.toNatClampNeg < 2 ^ w by omega)]
  omega
theorem wtc_0 {g : Nat → Int} {be ab : Int} {z r : Int32} (hz : z.toInt = 0) (hr : r.toInt = 0) : WtC g be ab z.toNatClampNeg r := by
  have e : z.toNatClampNeg = 0 := by
    show z.toInt.toNat = 0
    omega
  rw [e]
  exact ⟨⟨by omega, by rw [hr]; decide⟩, fun w hw => absurd hw (Nat.not_lt_zero _)⟩
theorem wtc_n {g : Nat → Int} {be ab : Int} {r i i2 : Int32} (h : WtC g be ab i.toNatClampNeg r) (hi : 0 ≤ i.toInt ∧ i.toInt ≤ 4) (h2 : i2.toInt = i.toInt + 1) (hn : ¬ g i.toNatClampNeg * be < ab) : WtC g be ab i2.toNatClampNeg r := by
  have ii := i_nat hi.1
  have p := pow_5 (k := i.toNatClampNeg) (by omega)
  obtain ⟨⟨a1, a2⟩, a3⟩ := h
  have rn := i_nat a1
  rw [i_nat1 hi.1 h2]
  have ps : 2 ^ (i.toNatClampNeg + 1) = 2 ^ i.toNatClampNeg * 2 := Nat.pow_succ 2 i.toNatClampNeg
  refine ⟨⟨a1, by omega⟩, fun w hw => ?_⟩
  by_cases z : w = i.toNatClampNeg
  · rw [z, lvp_bit ⟨a1, by omega⟩ (by omega), Nat.testBit_lt_two_pow (show r.toNatClampNeg < 2 ^ i.toNatClampNeg by omega)]
    exact ⟨fun q => absurd q (by decide), fun q => absurd q hn⟩
  · exact a3 w (by omega)
set_option maxRecDepth 100000 in
theorem bit_put : ∀ m : Fin 32, ∀ i : Fin 5, m.val < 2 ^ i.val → (Int32.ofNat m.val ||| (1 : Int32) <<< (Int32.ofNat i.val &&& 31)).toInt = ((m.val + 2 ^ i.val : Nat) : Int) ∧ ∀ w : Fin 5, lvP (Int32.ofNat m.val ||| (1 : Int32) <<< (Int32.ofNat i.val &&& 31)) w.val = if w.val = i.val then true else lvP (Int32.ofNat m.val) w.val := by decide +kernel
theorem wtc_y {g : Nat → Int} {be ab : Int} {r r2 i i2 : Int32} (h : WtC g be ab i.toNatClampNeg r) (hi : 0 ≤ i.toInt ∧ i.toInt ≤ 4) (h2 : i2.toInt = i.toInt + 1) (hn : g i.toNatClampNeg * be < ab) (er : r2 = r ||| (1 : Int32) <<< (i &&& 31)) : WtC g be ab i2.toNatClampNeg r2 := by
  have ii := i_nat hi.1
  have p := pow_5 (k := i.toNatClampNeg) (by omega)
  obtain ⟨⟨a1, a2⟩, a3⟩ := h
  have rn := i_nat a1
  rw [i_nat1 hi.1 h2]
  have ps : 2 ^ (i.toNatClampNeg + 1) = 2 ^ i.toNatClampNeg * 2 := Nat.pow_succ 2 i.toNatClampNeg
  have b : (Int32.ofNat r.toNatClampNeg ||| (1 : Int32) <<< (Int32.ofNat i.toNatClampNeg &&& 31)).toInt = ((r.toNatClampNeg + 2 ^ i.toNatClampNeg : Nat) : Int) ∧ ∀ w : Fin 5, lvP (Int32.ofNat r.toNatClampNeg ||| (1 : Int32) <<< (Int32.ofNat i.toNatClampNeg &&& 31)) w.val = if w.val = i.toNatClampNeg then true else lvP (Int32.ofNat r.toNatClampNeg) w.val := bit_put ⟨r.toNatClampNeg, by omega⟩ ⟨i.toNatClampNeg, by omega⟩ (show r.toNatClampNeg < 2 ^ i.toNatClampNeg by omega)
  rw [i_ofN a1, i_ofN hi.1, ← er] at b
  refine ⟨⟨by omega, by omega⟩, fun w hw => ?_⟩
  have c : lvP r2 w = if w = i.toNatClampNeg then true else lvP r w := b.2 ⟨w, by omega⟩
  rw [c]
  by_cases z : w = i.toNatClampNeg
  · rw [if_pos z, z]
    exact ⟨fun _ => hn, fun _ => rfl⟩
  · rw [if_neg z]
    exact a3 w (by omega)
theorem wtc_end {g : Nat → Int} {be ab : Int} {r i k : Int32} (h : WtC g be ab i.toNatClampNeg r) (e : i = k) : WtC g be ab k.toNatClampNeg r := by
  rw [← e]
  exact h
/-- what water answers -/
def WatR (v : Vf) (x t what r : Int32) : Prop := ∃ T N g : Int32, WLev v x t T.toInt N.toInt ∧ g.toInt = (Int.gcd T.toInt N.toInt : Int) ∧ ((what.toInt = 0 ∧ r = T / g) ∨ (what.toInt = 1 ∧ r = N / g) ∨ (what.toInt = 2 ∧ WtC (lvF v t) N.toInt T.toInt (v 16 0).toNatClampNeg r))
theorem wat_eq {v : Vf} {x t what r q : Int32} (h5 : 0 ≤ (v 16 0).toInt ∧ (v 16 0).toInt ≤ 5) (h1 : WatR v x t what r) (h2 : WatR v x t what q) : r.toInt = q.toInt := by
  obtain ⟨T, N, g, a1, a2, a3⟩ := h1
  obtain ⟨T2, N2, g2, b1, b2, b3⟩ := h2
  have e := wlev_eq a1 b1
  obtain rfl := i_eqr e.1
  obtain rfl := i_eqr e.2
  obtain rfl := i_eqr (a2.trans b2.symm)
  have kk := i_nat h5.1
  rcases a3 with ⟨c1, c2⟩ | ⟨c1, c2⟩ | ⟨c1, c2⟩
  · rcases b3 with ⟨d1, d2⟩ | ⟨d1, d2⟩ | ⟨d1, d2⟩
    · rw [c2, d2]
    · omega
    · omega
  · rcases b3 with ⟨d1, d2⟩ | ⟨d1, d2⟩ | ⟨d1, d2⟩
    · omega
    · rw [c2, d2]
    · omega
  · rcases b3 with ⟨d1, d2⟩ | ⟨d1, d2⟩ | ⟨d1, d2⟩
    · omega
    · omega
    · exact wtc_eq (by omega) c2 d2
/-! the class: a sorted row -/
def sI (g : Nat → Int32) (j : Nat) : Int := (g j).toInt
def SetQ (v : Vf) (t i : Int32) (ga gb : Nat → Int32) : Prop := (∀ w, w < i.toNatClampNeg → (ga w).toInt = lvF v t w) ∧ PermS (lvF v t) (sI gb) i.toNatClampNeg ∧ SortS (sI gb) i.toNatClampNeg ∧ ∀ j, j < i.toNatClampNeg → -342 ≤ sI gb j ∧ sI gb j ≤ 342
theorem gS_e (g : Int → Int) (s : Nat → Int) : gS g s 0 = 0 := rfl
theorem setq_0 {v : Vf} {t z : Int32} {ga gb : Nat → Int32} (hz : z.toInt = 0) : SetQ v t z ga gb := by
  have e : z.toNatClampNeg = 0 := by
    show z.toInt.toNat = 0
    omega
  unfold SetQ
  rw [e]
  exact ⟨fun w h => absurd h (Nat.not_lt_zero _), fun g => (gS_e g _).trans (gS_e g _).symm, fun i j _ h => absurd h (Nat.not_lt_zero _), fun w h => absurd h (Nat.not_lt_zero _)⟩
/-- what insert does -/
def InsQ (s u : Nat → Int32) (n fl : Int32) : Prop := ∃ i, InsS (sI s) (sI u) n.toNatClampNeg i fl.toInt ∧ (i = 0 ∨ sI s (i - 1) ≤ fl.toInt) ∧ ∀ j, i ≤ j → j < n.toNatClampNeg → fl.toInt ≤ sI s j
def InsL (s g : Nat → Int32) (n i fl : Int32) : Prop := (∀ j, j < i.toNatClampNeg → g j = s j) ∧ (∀ j, i.toNatClampNeg ≤ j → j < n.toNatClampNeg → g (j + 1) = s j) ∧ ∀ j, i.toNatClampNeg ≤ j → j < n.toNatClampNeg → fl.toInt ≤ sI s j
theorem insl_0 {s : Nat → Int32} {n fl : Int32} : InsL s s n n fl := ⟨fun _ _ => rfl, fun j a b => absurd a (by omega), fun j a b => absurd a (by omega)⟩
theorem insl_next {s g g2 : Nat → Int32} {n i i2 fl y x : Int32} (h : InsL s g n i fl) (hi : 0 < i.toInt ∧ i.toInt ≤ n.toInt) (h2 : i2.toInt = i.toInt - 1) (hy : y = i2) (hx : x = g y.toNatClampNeg) (hf : fl.toInt < x.toInt) (eg : upd g i.toNatClampNeg x = g2) : InsL s g2 n i2 fl := by
  have ii := i_nat (x := i) (by omega)
  have i3 := i_nat (x := i2) (by omega)
  have nn := i_nat (x := n) (by omega)
  obtain ⟨a1, a2, a3⟩ := h
  have ex : x = s i2.toNatClampNeg := by rw [hx, hy, a1 _ (by omega)]
  rw [← eg]
  refine ⟨fun j hj => ?_, fun j h1 h2 => ?_, fun j h1 h2 => ?_⟩
  · rw [updN (by omega)]
    exact a1 j (by omega)
  · by_cases z : j = i2.toNatClampNeg
    · rw [show j + 1 = i.toNatClampNeg by omega, updA, z, ex]
    · rw [updN (by omega)]
      exact a2 j (by omega) h2
  · by_cases z : j = i2.toNatClampNeg
    · rw [z]
      unfold sI
      rw [← ex]
      omega
    · exact a3 j (by omega) h2
theorem ins_end {s g u : Nat → Int32} {n i fl : Int32} (h : InsL s g n i fl) (hi : 0 ≤ i.toInt ∧ i.toInt ≤ n.toInt) (hz : i.toInt = 0 ∨ ∃ y : Int32, y.toInt = i.toInt - 1 ∧ (g y.toNatClampNeg).toInt ≤ fl.toInt) (eg : upd g i.toNatClampNeg fl = u) : InsQ s u n fl := by
  have ii := i_nat hi.1
  have nn := i_nat (x := n) (by omega)
  obtain ⟨a1, a2, a3⟩ := h
  rw [← eg]
  refine ⟨i.toNatClampNeg, ⟨by omega, fun j hj => ?_, ?_, fun j h1 h2 => ?_⟩, ?_, a3⟩
  · unfold sI
    rw [updN (by omega), a1 j hj]
  · unfold sI
    rw [updA]
  · unfold sI
    rw [updN (by omega), a2 j h1 h2]
  · by_cases q : i.toInt = 0
    · exact Or.inl (by omega)
    · obtain ⟨y, y1, y2⟩ := hz.resolve_left q
      have yy := i_nat (x := y) (by omega)
      rw [a1 _ (by omega)] at y2
      refine Or.inr ?_
      rw [show i.toNatClampNeg - 1 = y.toNatClampNeg by omega]
      exact y2
theorem ins_bnd {s u : Nat → Int} {n i : Nat} {x : Int} (h : InsS s u n i x) (hs : ∀ j, j < n → -342 ≤ s j ∧ s j ≤ 342) (hx : -342 ≤ x ∧ x ≤ 342) : ∀ j, j < n + 1 → -342 ≤ u j ∧ u j ≤ 342 := by
  obtain ⟨h0, h1, h2, h3⟩ := h
  intro j hj
  rcases Nat.lt_trichotomy j i with q | q | q
  · rw [h1 j q]
    exact hs j (by omega)
  · rw [q, h2]
    exact hx
  · have z := h3 (j - 1) (by omega) (by omega)
    rw [show j - 1 + 1 = j by omega] at z
    rw [z]
    exact hs (j - 1) (by omega)
theorem setq_next {v : Vf} {t i i2 fl : Int32} {ga gb ga2 gb2 : Nat → Int32} (h : SetQ v t i ga gb) (hi : 0 ≤ i.toInt) (h2 : i2.toInt = i.toInt + 1) (hf : fl.toInt = lvF v t i.toNatClampNeg) (hb : -342 ≤ fl.toInt ∧ fl.toInt ≤ 342) (ea : upd ga i.toNatClampNeg fl = ga2) (hq : InsQ gb gb2 i fl) : SetQ v t i2 ga2 gb2 := by
  obtain ⟨a1, a2, a3, a4⟩ := h
  obtain ⟨k, k1, k2, k3⟩ := hq
  unfold SetQ
  rw [i_nat1 hi h2]
  rw [hf] at k1 k2 k3 hb
  refine ⟨fun w hw => ?_, ins_perm a2 k1, ins_sort a3 k1 k2 k3, ins_bnd k1 a4 hb⟩
  rw [← ea]
  by_cases z : w = i.toNatClampNeg
  · rw [z, updA, hf]
  · rw [updN z]
    exact a1 w (by omega)
theorem gS_le {s : Nat → Int} {M : Int} : ∀ n : Nat, (∀ j, j < n → s j ≤ M) → gS id s n ≤ M * (n : Int)
  | 0, _ => by
    rw [show ((0 : Nat) : Int) = 0 from rfl, Int.mul_zero]
    exact Int.le_refl _
  | n + 1, h => by
    have ih := gS_le (M := M) n (fun j hj => h j (by omega))
    have z := h n (by omega)
    rw [gS_s, show ((n + 1 : Nat) : Int) = (n : Int) + 1 from by omega, Int.mul_add, Int.mul_one]
    show gS id s n + s n ≤ _
    omega
theorem gS_z {g : Int → Int} {s : Nat → Int} : ∀ n : Nat, (∀ j, j < n → g (s j) = 0) → gS g s n = 0
  | 0, _ => rfl
  | n + 1, h => by
    rw [gS_s, gS_z n (fun j hj => h j (by omega)), h n (by omega)]
    rfl
theorem gS_nn {g : Int → Int} {s : Nat → Int} (hg : ∀ z, 0 ≤ g z) : ∀ n : Nat, 0 ≤ gS g s n ∧ ∀ j, j < n → g (s j) ≤ gS g s n
  | 0 => ⟨Int.le_refl _, fun j h => absurd h (Nat.not_lt_zero _)⟩
  | n + 1 => by
    have ih := gS_nn (s := s) hg n
    have z := hg (s n)
    rw [gS_s]
    refine ⟨by omega, fun j hj => ?_⟩
    by_cases q : j = n
    · rw [q]
      omega
    · have := ih.2 j (by omega)
      omega
/-- the least of a row stands first when it is sorted -/
theorem perm_min {f s : Nat → Int} {k : Nat} (hp : PermS f s k) (hs : SortS s k) (hk : 0 < k) : (∃ w, w < k ∧ f w = s 0) ∧ ∀ w, w < k → s 0 ≤ f w := by
  refine ⟨?_, fun w hw => ?_⟩
  · rcases Classical.em (∃ w, w < k ∧ f w = s 0) with q | q
    · exact q
    · exfalso
      have z := gS_z (g := fun y => if y = s 0 then 1 else 0) (s := f) k (fun j hj => if_neg (fun y => q ⟨j, hj, y⟩))
      rw [hp] at z
      have y := (gS_nn (g := fun y => if y = s 0 then 1 else 0) (s := s) (fun y => by
        show (0 : Int) ≤ if y = s 0 then 1 else 0
        split <;> omega) k).2 0 hk
      rw [z] at y
      have y2 : (if s 0 = s 0 then (1 : Int) else 0) ≤ 0 := y
      rw [if_pos rfl] at y2
      omega
  · rcases Int.lt_or_le (f w) (s 0) with q | q
    · exfalso
      have z := gS_z (g := fun y => if y < s 0 then 1 else 0) (s := s) k (fun j hj => if_neg (by have := hs 0 j (Nat.zero_le _) hj; omega))
      rw [← hp] at z
      have y := (gS_nn (g := fun y => if y < s 0 then 1 else 0) (s := f) (fun y => by
        show (0 : Int) ≤ if y < s 0 then 1 else 0
        split <;> omega) k).2 w hw
      rw [z] at y
      have y2 : (if f w < s 0 then (1 : Int) else 0) ≤ 0 := y
      rw [if_pos q] at y2
      omega
    · exact q
/-- the class's walk over the sorted row -/
def SumQ (x : Int32) (gb : Nat → Int32) (sm j : Int32) : Prop := sm.toInt = x.toInt + gS id (sI gb) j.toNatClampNeg ∧ (j.toNatClampNeg = 0 ∨ sI gb j.toNatClampNeg * (j.toNatClampNeg : Int) < x.toInt + gS id (sI gb) j.toNatClampNeg)
theorem sumq_0 {x z : Int32} {gb : Nat → Int32} (hz : z.toInt = 0) : SumQ x gb x z := by
  have e : z.toNatClampNeg = 0 := by
    show z.toInt.toNat = 0
    omega
  unfold SumQ
  rw [e]
  exact ⟨(Int.add_zero _).symm, Or.inl rfl⟩
theorem sumq_b {v : Vf} {t i x sm j : Int32} {ga gb : Nat → Int32} (hq : SetQ v t i ga gb) (h : SumQ x gb sm j) (hj : 0 ≤ j.toInt ∧ j.toInt ≤ i.toInt) (hi : i.toInt ≤ 5) (hx : 0 ≤ x.toInt ∧ x.toInt ≤ 9999) : -1710 ≤ sm.toInt ∧ sm.toInt ≤ 11709 := by
  have jj := i_nat hj.1
  have ii := i_nat (x := i) (by omega)
  have key : ∀ n : Nat, n ≤ i.toNatClampNeg → -342 * (n : Int) ≤ gS id (sI gb) n ∧ gS id (sI gb) n ≤ 342 * (n : Int) := by
    intro n
    induction n with
    | zero =>
      intro _
      rw [gS_e]
      exact ⟨by decide, by decide⟩
    | succ n ih =>
      intro hn
      have a := ih (by omega)
      have b := hq.2.2.2 n (by omega)
      rw [gS_s]
      show -342 * ((n + 1 : Nat) : Int) ≤ gS id (sI gb) n + sI gb n ∧ gS id (sI gb) n + sI gb n ≤ 342 * ((n + 1 : Nat) : Int)
      omega
  have z := key j.toNatClampNeg (by omega)
  have e := h.1
  omega
theorem sumq_add {x sm j j2 s2 y : Int32} {gb : Nat → Int32} (h : SumQ x gb sm j) (hj : 0 ≤ j.toInt) (h2 : j2.toInt = j.toInt + 1) (hy : y = gb j.toNatClampNeg) (es : s2.toInt = sm.toInt + y.toInt) : s2.toInt = x.toInt + gS id (sI gb) j2.toNatClampNeg := by
  rw [i_nat1 hj h2, gS_s, es, h.1, hy]
  show _ = x.toInt + (gS id (sI gb) j.toNatClampNeg + sI gb j.toNatClampNeg)
  unfold sI
  omega
theorem wat_lev {v : Vf} {t i x sm j s2 j2 y : Int32} {ga gb : Nat → Int32} (hq : SetQ v t i ga gb) (ei : i = v 16 0) (hx : 0 ≤ x.toInt) (hi : 0 ≤ i.toInt) (h : SumQ x gb sm j) (hj : 0 ≤ j.toInt ∧ j.toInt < i.toInt) (h2 : j2.toInt = j.toInt + 1) (hy : y = gb j.toNatClampNeg) (es : s2.toInt = sm.toInt + y.toInt) (he : j2.toInt = i.toInt ∨ s2.toInt ≤ sI gb j2.toNatClampNeg * (j2.toNatClampNeg : Int)) : WLev v x t s2.toInt j2.toInt := by
  have jj := i_nat hj.1
  have ii := i_nat hi
  have k2 := i_nat1 hj.1 h2
  have s2e := sumq_add h hj.1 h2 hy es
  obtain ⟨q1, q2, q3, q4⟩ := hq
  rw [k2] at s2e he
  by_cases z : x.toInt = 0
  · have j0 : j.toNatClampNeg = 0 := by
      rcases h.2 with q | q
      · exact q
      · exfalso
        have l := gS_le (s := sI gb) (M := sI gb j.toNatClampNeg) j.toNatClampNeg (fun a ha => q3 a j.toNatClampNeg (by omega) (by omega))
        omega
    have m := perm_min q2 q3 (by omega)
    rw [j0] at s2e
    have e1 : gS id (sI gb) (0 + 1) = 0 + sI gb 0 := rfl
    rw [ei] at m
    refine Or.inl ⟨z, by omega, ?_, ?_⟩
    · obtain ⟨w, w1, w2⟩ := m.1
      exact ⟨w, w1, by omega⟩
    · intro w hw
      have := m.2 w hw
      omega
  · have w := wat_cls (x := x.toInt) (i := j.toNatClampNeg) (by omega) q2 q3 (by omega) h.2 (by
      rcases he with q | q
      · exact Or.inl (by omega)
      · exact Or.inr (by rw [← s2e]; exact q))
    rw [ei] at w
    exact Or.inr ⟨by omega, _, w.1, by rw [w.2.2]; exact s2e, by rw [w.2.1]; omega⟩
theorem sumq_next {x sm j j2 s2 y : Int32} {gb : Nat → Int32} (h : SumQ x gb sm j) (hj : 0 ≤ j.toInt) (h2 : j2.toInt = j.toInt + 1) (hy : y = gb j.toNatClampNeg) (es : s2.toInt = sm.toInt + y.toInt) (hn : sI gb j2.toNatClampNeg * (j2.toNatClampNeg : Int) < s2.toInt) : SumQ x gb s2 j2 := by
  have e := sumq_add h hj h2 hy es
  exact ⟨e, Or.inr (by rw [← e]; exact hn)⟩
theorem fl_b {v : Vf} {t w : Int32} (hH : MdH v) (hw : 1 ≤ (v 0 0).toInt) (hk : 0 ≤ w.toInt ∧ w.toInt < (v 16 0).toInt) (ht : 0 ≤ t.toInt ∧ t.toInt ≤ 2000000) : (mFl v w t).toInt = (mH v (v 17 w.toNatClampNeg) t).toInt - (v 18 w.toNatClampNeg).toInt ∧ -342 ≤ (mFl v w t).toInt ∧ (mFl v w t).toInt ≤ 342 := by
  have wn := i_nat hk.1
  have c16 := hH.2.1.2.2.2.1
  have c := hH.2.2.2.2.1.2.2.1 w.toNatClampNeg (by omega)
  have f := hH.2.2.2.2.1.2.2.2.2 w.toNatClampNeg (by omega)
  have m := mH_b hH hw c ht
  have s := i_sub (z := mFl v w t) rfl (by omega)
  exact ⟨s, by omega, by omega⟩
/-! the reference -/
theorem lv_yes {v : Vf} {t set w lw r n s : Int32} {f : Int} (hf : lvF v t w.toNatClampNeg = f) (hp : (r.toInt = 1 ∧ lvP set w.toNatClampNeg = true) ∨ (r.toInt = 0 ∧ lvP set w.toNatClampNeg = false)) (hl : (lw.toInt = 1 ∧ f * n.toInt < s.toInt) ∨ (lw.toInt = 0 ∧ s.toInt ≤ f * n.toInt)) (e : lw.toInt = r.toInt) : lvP set w.toNatClampNeg = true ↔ lvF v t w.toNatClampNeg * n.toInt < s.toInt := by
  rw [hf]
  rcases hp with ⟨a1, a2⟩ | ⟨a1, a2⟩
  · rcases hl with ⟨b1, b2⟩ | ⟨b1, b2⟩
    · exact ⟨fun _ => b2, fun _ => a2⟩
    · omega
  · rcases hl with ⟨b1, b2⟩ | ⟨b1, b2⟩
    · omega
    · exact ⟨fun q => absurd q (by rw [a2]; decide), fun q => by omega⟩
theorem lev_iff {P : Nat → Prop} {i i2 : Int32} (h : ∀ w, w < i.toNatClampNeg → P w) (h0 : 0 ≤ i.toInt) (h2 : i2.toInt = i.toInt + 1) (hn : P i.toNatClampNeg) : ∀ w, w < i2.toNatClampNeg → P w := by
  rw [i_nat1 h0 h2]
  intro w hw
  by_cases q : w = i.toNatClampNeg
  · rw [q]
    exact hn
  · exact h w (by omega)
theorem lev_mk {v : Vf} {x t set n s w2 : Int32} (h1 : 1 ≤ n.toInt) (hw : w2 = v 16 0) (hS : s.toInt = x.toInt + wS (lvF v t) (lvP set) (v 16 0).toNatClampNeg) (hN : n.toInt = wN (lvP set) (v 16 0).toNatClampNeg) (h : ∀ w, w < w2.toNatClampNeg → (lvP set w = true ↔ lvF v t w * n.toInt < s.toInt)) : mLev v x t set := by
  rw [hw] at h
  refine ⟨by omega, fun w a => ?_⟩
  have z := h w a
  rw [hS, hN] at z
  exact z
/-- the first set that fits has no bits above the wells -/
theorem wet_min {v : Vf} {x t s : Int32} (hk : 1 ≤ (v 16 0).toInt ∧ (v 16 0).toInt ≤ 5) (hs : 1 ≤ s.toInt ∧ s.toInt ≤ 31) (hl : mLev v x t s) (hn : ∀ u : Int32, 1 ≤ u.toInt → u.toInt < s.toInt → ¬ mLev v x t u) : s.toInt < ((2 ^ (v 16 0).toNatClampNeg : Nat) : Int) := by
  have kk := i_nat (x := v 16 0) (by omega)
  have sn := i_nat (x := s) (by omega)
  have p := pow_5 (k := (v 16 0).toNatClampNeg) (by omega)
  have p0 : 0 < 2 ^ (v 16 0).toNatClampNeg := Nat.pow_pos (by decide)
  rcases Int.lt_or_le s.toInt ((2 ^ (v 16 0).toNatClampNeg : Nat) : Int) with q | q
  · exact q
  · exfalso
    have m := Nat.mod_lt s.toNatClampNeg p0
    have o := ofN_t (n := s.toNatClampNeg % 2 ^ (v 16 0).toNatClampNeg) (by omega)
    have un := i_nat (x := Int32.ofNat (s.toNatClampNeg % 2 ^ (v 16 0).toNatClampNeg)) (by omega)
    have eq_ : ∀ w, w < (v 16 0).toNatClampNeg → lvP (Int32.ofNat (s.toNatClampNeg % 2 ^ (v 16 0).toNatClampNeg)) w = lvP s w := fun w hw => by
      rw [lvp_bit ⟨by omega, by omega⟩ (by omega), lvp_bit ⟨by omega, by omega⟩ (by omega), show (Int32.ofNat (s.toNatClampNeg % 2 ^ (v 16 0).toNatClampNeg)).toNatClampNeg = s.toNatClampNeg % 2 ^ (v 16 0).toNatClampNeg by omega, Nat.testBit_mod_two_pow, decide_eq_true hw, Bool.true_and]
    have c := wc_S (f := lvF v t) (v 16 0).toNatClampNeg eq_
    have lu : mLev v x t (Int32.ofNat (s.toNatClampNeg % 2 ^ (v 16 0).toNatClampNeg)) := by
      unfold mLev wG
      rw [c.1, c.2]
      exact ⟨hl.1, fun w hw => by rw [eq_ w hw]; exact hl.2 w hw⟩
    by_cases z : s.toNatClampNeg % 2 ^ (v 16 0).toNatClampNeg = 0
    · have z1 := lu.1
      have zf : ∀ w, w < (v 16 0).toNatClampNeg → lvP (Int32.ofNat (s.toNatClampNeg % 2 ^ (v 16 0).toNatClampNeg)) w = (fun _ => false) w := fun w hw => by
        rw [lvp_bit ⟨by omega, by omega⟩ (by omega), show (Int32.ofNat (s.toNatClampNeg % 2 ^ (v 16 0).toNatClampNeg)).toNatClampNeg = 0 by omega]
        exact Nat.zero_testBit w
      have c2 := wc_S (f := lvF v t) (v 16 0).toNatClampNeg zf
      have z2 : ∀ n, wN (fun _ => false) n = 0 := by
        intro n
        induction n with
        | zero => rfl
        | succ n ih =>
          rw [wN_s, ih]
          rfl
      rw [c2.2, z2] at z1
      omega
    · exact hn _ (by omega) (by omega) lu
/-- what the reference has found when it divides -/
def FwQ (v : Vf) (x t : Int32) (w : Vf) : Prop := WLev v x t (w 64 0).toInt (w 65 0).toInt ∧ WtC (lvF v t) (w 65 0).toInt (w 64 0).toInt (v 16 0).toNatClampNeg (w 66 0)
theorem fwq_lev {v w : Vf} {x t s : Int32} (hk : 1 ≤ (v 16 0).toInt ∧ (v 16 0).toInt ≤ 5) (hx : 0 < x.toInt) (hs : 1 ≤ s.toInt ∧ s.toInt ≤ 31) (hl : mLev v x t s) (hn : ∀ u : Int32, 1 ≤ u.toInt → u.toInt < s.toInt → ¬ mLev v x t u) (h64 : (w 64 0).toInt = x.toInt + wS (lvF v t) (lvP s) (v 16 0).toNatClampNeg) (h65 : (w 65 0).toInt = wN (lvP s) (v 16 0).toNatClampNeg) (h66 : w 66 0 = s) : FwQ v x t w := by
  refine ⟨Or.inr ⟨hx, lvP s, hl, h64, h65⟩, ⟨by rw [h66]; omega, by rw [h66]; exact wet_min hk hs hl hn⟩, fun u hu => ?_⟩
  rw [h66, h64, h65]
  exact hl.2 u hu
theorem fwq_0 {v w : Vf} {x t i : Int32} (hk : 0 ≤ (v 16 0).toInt ∧ (v 16 0).toInt ≤ 5) (hx : x.toInt = 0) (ei : i = v 16 0) (h : (∃ u, u < i.toNatClampNeg ∧ lvF v t u = (w 64 0).toInt) ∧ ∀ u, u < i.toNatClampNeg → (w 64 0).toInt ≤ lvF v t u) (h65 : (w 65 0).toInt = 1) (h66 : (w 66 0).toInt = 0) : FwQ v x t w := by
  rw [ei] at h
  have kk := i_nat hk.1
  refine ⟨Or.inl ⟨hx, h65, h.1, h.2⟩, ⟨by omega, by rw [h66]; exact Int.ofNat_lt.mpr (Nat.pow_pos (by decide))⟩, fun u hu => ?_⟩
  have r0 : (w 66 0).toNatClampNeg = 0 := by
    show (w 66 0).toInt.toNat = 0
    omega
  rw [lvp_bit ⟨by omega, by omega⟩ (by omega), r0, Nat.zero_testBit, h65, Int.mul_one]
  have := h.2 u hu
  exact ⟨fun q => absurd q (by decide), fun q => by omega⟩
theorem min_next {v : Vf} {t w w2 a b : Int32} (h : (∃ u, u < w.toNatClampNeg ∧ lvF v t u = a.toInt) ∧ ∀ u, u < w.toNatClampNeg → a.toInt ≤ lvF v t u) (h0 : 0 ≤ w.toInt) (h2 : w2.toInt = w.toInt + 1) (hb : (b.toInt = a.toInt ∧ a.toInt ≤ lvF v t w.toNatClampNeg) ∨ (b.toInt = lvF v t w.toNatClampNeg ∧ lvF v t w.toNatClampNeg ≤ a.toInt)) : (∃ u, u < w2.toNatClampNeg ∧ lvF v t u = b.toInt) ∧ ∀ u, u < w2.toNatClampNeg → b.toInt ≤ lvF v t u := by
  rw [i_nat1 h0 h2]
  obtain ⟨⟨u, u1, u2⟩, u3⟩ := h
  rcases hb with ⟨b1, b2⟩ | ⟨b1, b2⟩
  · refine ⟨⟨u, by omega, by omega⟩, fun y hy => ?_⟩
    by_cases q : y = w.toNatClampNeg
    · rw [q]
      omega
    · have := u3 y (by omega)
      omega
  · refine ⟨⟨w.toNatClampNeg, by omega, b1.symm⟩, fun y hy => ?_⟩
    by_cases q : y = w.toNatClampNeg
    · rw [q]
      omega
    · have := u3 y (by omega)
      omega
theorem tn1 : (1 : Int32).toNatClampNeg = 1 := by decide
theorem wat_he {gb : Nat → Int32} {j2 a b y m : Int32} (hj : 0 ≤ j2.toInt ∧ j2.toInt ≤ 5) (ea : a.toInt = j2.toInt) (eb : b.toInt = j2.toInt) (ey : y = gb a.toNatClampNeg) (hy : -342 ≤ y.toInt ∧ y.toInt ≤ 342) (em : m = y * b) : m.toInt = sI gb j2.toNatClampNeg * (j2.toNatClampNeg : Int) := by
  obtain rfl := i_eqr ea
  obtain rfl := i_eqr eb
  rw [i_mul5 em hy hj, ey, i_nat hj.1]
  rfl
/-- a level in lowest terms stands above the same floors -/
theorem wtc_red {f f2 : Nat → Int} {T N g ab be r : Int32} {k : Nat} (hT : -100000 ≤ T.toInt ∧ T.toInt ≤ 100000) (hN : 1 ≤ N.toInt ∧ N.toInt ≤ 5) (hg : g.toInt = (Int.gcd T.toInt N.toInt : Int)) (ea : ab = T / g) (eb : be = N / g) : (0 ≤ be.toInt ∧ be.toInt ≤ 5) ∧ ((∀ w, w < k → f2 w = f w) → WtC f2 be.toInt ab.toInt k r → WtC f N.toInt T.toInt k r) := by
  have gg := gcd_le' (a := T.toInt) (b := N.toInt) hN.1
  have dT : (g.toInt) ∣ T.toInt := by
    rw [hg]
    exact Int.gcd_dvd_left ..
  have dN : (g.toInt) ∣ N.toInt := by
    rw [hg]
    exact Int.gcd_dvd_right ..
  have qT : ab.toInt = T.toInt.tdiv g.toInt := by
    rw [ea]
    exact Int32.toInt_div_of_ne_left T g (fun q => by rw [q] at hT; exact absurd hT.1 (by decide))
  have qN : be.toInt = N.toInt.tdiv g.toInt := by
    rw [eb]
    exact Int32.toInt_div_of_ne_left N g (fun q => by rw [q] at hN; exact absurd hN.1 (by decide))
  have mT : ab.toInt * g.toInt = T.toInt := by
    rw [qT]
    exact Int.tdiv_mul_cancel dT
  have mN : be.toInt * g.toInt = N.toInt := by
    rw [qN]
    exact Int.tdiv_mul_cancel dN
  have b0 : 0 ≤ be.toInt := by
    rw [qN]
    exact Int.tdiv_nonneg (by omega) (by omega)
  have b5 : be.toInt ≤ be.toInt * g.toInt := by
    have z := Int.mul_le_mul_of_nonneg_left (show (1 : Int) ≤ g.toInt by omega) b0
    omega
  refine ⟨⟨b0, by omega⟩, fun hf h => ⟨h.1, fun w hw => ?_⟩⟩
  rw [h.2 w hw, hf w hw, lt_mul (show (0 : Int) < g.toInt by omega), Int.mul_assoc, mN, mT]
theorem sumq_b2 {v : Vf} {t i x sm j s2 j2 y : Int32} {ga gb : Nat → Int32} (hq : SetQ v t i ga gb) (h : SumQ x gb sm j) (hj : 0 ≤ j.toInt ∧ j.toInt < i.toInt) (hi : i.toInt ≤ 5) (hx : 0 ≤ x.toInt ∧ x.toInt ≤ 9999) (h2 : j2.toInt = j.toInt + 1) (hy : y = gb j.toNatClampNeg) (es : s2.toInt = sm.toInt + y.toInt) : -2052 ≤ s2.toInt ∧ s2.toInt ≤ 12051 := by
  have b := sumq_b hq h ⟨hj.1, by omega⟩ hi hx
  have jj := i_nat hj.1
  have ii := i_nat (x := i) (by omega)
  have c := hq.2.2.2 j.toNatClampNeg (by omega)
  unfold sI at c
  rw [← hy] at c
  omega
