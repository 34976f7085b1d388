section
/-! ===== the class's plan and state against the reference's values ===== -/
def RqM (vm vp : Vf) (m b0 b1 b2 b3 b4 : Nat) : Prop := ((m : Int) < (vm 4 0).toInt → (vp b0 0 = vm 5 m ∧ vp b1 0 = vm 6 m ∧ vp b2 0 = vm 7 m) ∧ (∀ j : Nat, (j : Int) < (vm 5 m).toInt → vp b3 j = vm 8 (9 * m + j) ∧ vp b3 ((vm 5 m).toInt.toNat + j) = vm 8 (9 * m + j)) ∧ (∀ c : Nat, (c : Int) < (vm 0 0).toInt * (vm 1 0).toInt → (vp b4 c).toInt = (vm 6 m).toInt * ((c : Int) % (vm 0 0).toInt) + (vm 7 m).toInt * ((c : Int) / (vm 0 0).toInt))) ∧ ((vm 4 0).toInt ≤ (m : Int) → vp b0 0 = 1 ∧ vp b3 0 = 0 ∧ vp b3 1 = 0)
def RqG (vm vp : Vf) : Prop := vp 0 0 = vm 0 0 ∧ vp 1 0 = vm 1 0 ∧ ∀ c : Nat, (c : Int) < (vm 0 0).toInt * (vm 1 0).toInt → vp 3 c = vm 2 c ∧ vp 4 c = vm 3 c
def RqMs (vm vp : Vf) : Prop := vp 5 0 = vm 4 0 ∧ RqM vm vp 0 20 21 22 23 24 ∧ RqM vm vp 1 30 31 32 33 34 ∧ RqM vm vp 2 40 41 42 43 44
def RqH (vm vp : Vf) : Prop := vp 60 0 = vm 9 0 ∧ ∀ k : Nat, (k : Int) < (vm 9 0).toInt → vp 61 k = vm 10 k ∧ vp 62 k = vm 11 k
def RqK (vm vp : Vf) : Prop := vp 70 0 = vm 12 0 ∧ ∀ k : Nat, (k : Int) < (vm 12 0).toInt → vp 71 k = vm 13 k ∧ vp 72 k = vm 14 k ∧ vp 73 k = vm 15 k
def RqW (vm vp : Vf) : Prop := vp 80 0 = vm 16 0 ∧ ∀ k : Nat, (k : Int) < (vm 16 0).toInt → vp 81 k = vm 17 k ∧ vp 82 k = vm 18 k
def RqD (vm vp : Vf) : Prop := vp 90 0 = vm 19 0 ∧ ∀ k : Nat, (k : Int) < (vm 19 0).toInt → vp 92 k = vm 20 k ∧ vp 93 k = vm 21 k
def RqP (vm vp : Vf) : Prop := RqG vm vp ∧ RqMs vm vp ∧ RqH vm vp ∧ RqK vm vp ∧ RqW vm vp ∧ RqD vm vp
def RqL (vm vs : Vf) : Prop := vs 0 0 = vm 23 0 ∧ (∀ j, j < 3 → vs 1 j = vm 24 j) ∧ (∀ j, j < 24 → vs 2 j = vm 25 j) ∧ (∀ j, j < 6 → vs 3 j = vm 26 j) ∧ vs 4 0 = vm 27 0 ∧ vs 5 0 = vm 28 0 ∧ vs 6 0 = vm 29 0 ∧ vs 7 0 = vm 30 0
/-- a shift is below its row's length; the cart is on the ground -/
def shI (vm : Vf) : Prop := ∀ m : Nat, (m : Int) < (vm 4 0).toInt → 0 ≤ (vm 24 m).toInt ∧ (vm 24 m).toInt < (vm 5 m).toInt
def stI (vm : Vf) : Prop := shI vm ∧ ((vm 0 0).toInt = 0 ∨ (vm 27 0).toInt < (vm 0 0).toInt * (vm 1 0).toInt)
/-- what was told is sound -/
def okM (v : Vf) : Prop := (∀ k : Nat, (k : Int) < (v 9 0).toInt → (v 10 k).toInt < (v 0 0).toInt * (v 1 0).toInt ∧ 0 ≤ (v 11 k).toInt ∧ (v 11 k).toInt ≤ 99) ∧ (∀ k : Nat, (k : Int) < (v 12 0).toInt → (v 13 k).toInt < (v 0 0).toInt * (v 1 0).toInt ∧ 0 ≤ (v 14 k).toInt ∧ (v 14 k).toInt ≤ 1) ∧ (∀ k i : Nat, (k : Int) < (v 12 0).toInt → i < k → ¬ (v 13 i = v 13 k ∧ v 14 i = v 14 k)) ∧ (∀ k : Nat, (k : Int) < (v 16 0).toInt → (v 17 k).toInt < (v 0 0).toInt * (v 1 0).toInt) ∧ (v 22 0).toInt = perI (fun j => (v 5 j).toInt) (v 4 0).toInt.toNat ∧ (∀ m : Nat, m < 3 → (v 4 0).toInt ≤ (m : Int) → (v 4 0).toInt = 0 ∨ (v 5 m).toInt = 1)
def RW (vm vp vs : Vf) : Prop := RqP vm vp ∧ RqL vm vs ∧ stI vm ∧ MdH vm ∧ okM vm
def cW (vm : Vf) (c : Int32) : Prop := 0 ≤ c.toInt ∧ c.toInt < (vm 0 0).toInt * (vm 1 0).toInt
theorem mpart_eq {vm : Vf} {k c t : Int32} {m : Nat} (hm : k.toNatClampNeg = m) (hW : 1 ≤ (vm 0 0).toInt ∧ (vm 0 0).toInt ≤ 6) (hc : 0 ≤ c.toInt ∧ c.toInt ≤ 23) (ht : 0 ≤ t.toInt ∧ t.toInt ≤ 2000000) (hk : 0 ≤ k.toInt ∧ k.toInt ≤ 2) (hn : 1 ≤ (vm 5 m).toInt ∧ (vm 5 m).toInt ≤ 9) (hx : 0 ≤ (vm 6 m).toInt ∧ (vm 6 m).toInt ≤ 8) (hy : 0 ≤ (vm 7 m).toInt ∧ (vm 7 m).toInt ≤ 8) (hs : 0 ≤ (vm 24 m).toInt ∧ (vm 24 m).toInt ≤ 999) (ha : ¬ k = vm 62 0) :
    mPart vm k c t = vm 8 (9 * m + ((t.toInt + (vm 24 m).toInt + (vm 6 m).toInt * (c.toInt % (vm 0 0).toInt) + (vm 7 m).toInt * (c.toInt / (vm 0 0).toInt)) % (vm 5 m).toInt).toNat) := by
  unfold mPart
  rw [if_neg ha, hm]
  have td := i_div (z := c / vm 0 0) rfl hc.1 (by omega)
  have tr := i_rem (z := c - c / vm 0 0 * vm 0 0) rfl hc.1 (by omega)
  generalize c / vm 0 0 = q at *
  generalize hr : c - q * vm 0 0 = r at *
  have b1 := mul_b (A := 8) (B := 23) hx (b := r.toInt) (by omega)
  have b2 := mul_b (A := 8) (B := 23) hy (b := q.toInt) (by omega)
  have t1 := i_mul (z := vm 6 m * r) rfl (by omega)
  have t2 := i_mul (z := vm 7 m * q) rfl (by omega)
  have t3 := i_add (z := t + vm 24 m) rfl (by omega)
  have t4 := i_add (z := (t + vm 24 m) + vm 6 m * r) rfl (by omega)
  have t5 := i_add (z := ((t + vm 24 m) + vm 6 m * r) + vm 7 m * q) rfl (by omega)
  generalize ((t + vm 24 m) + vm 6 m * r) + vm 7 m * q = s at *
  have t6 := i_rem (z := s - s / vm 5 m * vm 5 m) rfl (by omega) (by omega)
  generalize s - s / vm 5 m * vm 5 m = w at *
  have n9 : (9 : Int32).toInt = 9 := by decide
  have t7 := i_mul (z := 9 * k) rfl (by rw [n9]; omega)
  rw [n9] at t7
  have t8 := i_add (z := 9 * k + w) rfl (by omega)
  have e : (9 * k + w).toNatClampNeg = 9 * m + w.toInt.toNat := by
    show (9 * k + w).toInt.toNat = _
    have hm2 : k.toInt.toNat = m := hm
    omega
  rw [e, t6.1, t5, t4, t3, t1, t2, tr.1, td.1]
theorem row_at {mr P : Nat → Int32} {n r0 s : Int} (h : ∀ j : Nat, (j : Int) < n → mr j = P j ∧ mr (n.toNat + j) = P j) (hr : 0 ≤ r0 ∧ r0 < n) (hs : 0 ≤ s ∧ s < n) : mr (r0 + s).toNat = P ((r0 + s) % n).toNat := by
  rcases Int.lt_or_le (r0 + s) n with q | q
  · rw [Int.emod_eq_of_lt (by omega) q]
    exact (h _ (by omega)).1
  · have e : (r0 + s) % n = r0 + s - n := by
      rw [show r0 + s = (r0 + s - n) + n * 1 by omega, Int.add_mul_emod_self_left, Int.emod_eq_of_lt (by omega) (by omega)]
      omega
    have z := (h (r0 + s - n).toNat (by omega)).2
    rw [show n.toNat + (r0 + s - n).toNat = (r0 + s).toNat by omega] at z
    rw [e]
    exact z
theorem part_cls {vm vp vs : Vf} {m b0 b1 b2 b3 b4 : Nat} {k cell step x : Int32} (h : RW vm vp vs) (hM : RqM vm vp m b0 b1 b2 b3 b4) (hm : (m : Int) < (vm 4 0).toInt) (hk : k.toInt = m) (hc : 0 ≤ cell.toInt ∧ cell.toInt ≤ 23) (hcc : cell.toInt < (vm 0 0).toInt * (vm 1 0).toInt) (ht : 0 ≤ step.toInt ∧ step.toInt ≤ 2000000) (ha : ¬ k = vm 62 0) (hx : x = vp b3 ((step.toInt + (vp b4 cell.toNatClampNeg).toInt) % (vp b0 0).toInt + (vs 1 m).toInt).toNat) : x = mPart vm k cell step := by
  obtain ⟨hP, hL, ⟨hs, -⟩, hH, -⟩ := h
  obtain ⟨hmG, hmC, hmZ, hmM, hmA, hmS, hmT⟩ := hH
  obtain ⟨⟨e0, e1, e2⟩, hr, hah⟩ := hM.1 hm
  have hm3 : m < 3 := by have := hmC.1; omega
  have hkm : k.toNatClampNeg = m := by show k.toInt.toNat = m; omega
  have hW : 1 ≤ (vm 0 0).toInt := wd_pos hmG.1.1 (show 1 ≤ (vm 0 0).toInt * (vm 1 0).toInt by omega)
  have hn := (hmM.2.1.resolve_left (by omega)) m hm3
  have hxy := hmM.2.2.1 m hm
  have hsh := hs m hm
  have hc2 : ((cell.toNatClampNeg : Nat) : Int) = cell.toInt := i_nat hc.1
  have ha2 := hah cell.toNatClampNeg (by rw [hc2]; exact hcc)
  rw [hc2] at ha2
  have hd0 : 0 ≤ cell.toInt % (vm 0 0).toInt := Int.emod_nonneg _ (by omega)
  have hq0 : 0 ≤ cell.toInt / (vm 0 0).toInt := Int.ediv_nonneg hc.1 (by omega)
  rw [mpart_eq hkm ⟨hW, hmG.1.2⟩ hc ht (by omega) hn hxy.1 hxy.2 (by omega) ha, hx, e0, ha2, hL.2.1 m hm3]
  have m1 := Int.emod_nonneg (step.toInt + ((vm 6 m).toInt * (cell.toInt % (vm 0 0).toInt) + (vm 7 m).toInt * (cell.toInt / (vm 0 0).toInt))) (show (vm 5 m).toInt ≠ 0 by omega)
  have m2 := Int.emod_lt_of_pos (step.toInt + ((vm 6 m).toInt * (cell.toInt % (vm 0 0).toInt) + (vm 7 m).toInt * (cell.toInt / (vm 0 0).toInt))) (show 0 < (vm 5 m).toInt by omega)
  rw [row_at (P := fun j => vm 8 (9 * m + j)) hr ⟨m1, m2⟩ hsh]
  show vm 8 (9 * m + _) = vm 8 (9 * m + _)
  congr 3
  rw [Int.add_emod, Int.emod_emod, ← Int.add_emod]
  congr 1
  omega
theorem pull_skip {v : Vf} {c t s k k2 g : Int32} (hs : s = mPullN v c t k.toNatClampNeg) (h0 : 0 ≤ k.toInt) (h1 : k2.toInt = k.toInt + 1) (hk : k = g) (hg : g = v 62 0) : s = mPullN v c t k2.toNatClampNeg := by
  rw [i_nat1 h0 h1, hs]
  show _ = mPullN v c t k.toNatClampNeg + mPart v (Int32.ofNat k.toNatClampNeg) c t
  rw [i_ofN h0]
  unfold mPart
  rw [if_pos (hk.trans hg), Int32.add_zero]
theorem stiff_eq {s : Int32} : (if (0 : Int32) < s then s else 0) = (if s < 0 then 0 else s) := by
  by_cases h1 : (0 : Int32) < s
  · have q := i_lt h1
    rw [if_pos h1, if_neg (fun h2 => by have q2 := i_lt h2; omega)]
  · rw [if_neg h1]
    by_cases h2 : s < 0
    · rw [if_pos h2]
    · rw [if_neg h2]
      have q := i_nlt h1
      have q2 := i_nlt h2
      exact i_eqr (by omega)
/-! what both sides hold after a text -/
theorem rqm_of {S : St0} {v vp w : Vf} {m b0 b1 b2 b3 b4 : Nat} (h : RpM1 S vp m b0 b1 b2 b3 b4) (hw : ∀ t, 37 ≤ t → t ≤ 60 → ∀ j, S t j = (w t j).toInt) (hm3 : m < 3) (W0 : (v 0 0).toInt = S 37 0) (D0 : (v 1 0).toInt = S 38 0) (M0 : (v 4 0).toInt = S 43 0) (hB : CpB v w 3) (hC : CpC v w 27) (h9 : (v 5 m).toInt ≤ 9) : RqM v vp m b0 b1 b2 b3 b4 := by
  refine ⟨fun hm => ?_, fun hm => h.2 (by rw [← M0]; exact hm)⟩
  obtain ⟨a0, a1, a2, a3, a4, a5⟩ := h.1 (by rw [← M0]; exact hm)
  have b := hB m (by omega)
  have e5 : v 5 m = w 44 m := by rw [b.1, if_pos (by rw [← hw 43 (by decide) (by decide) 0, ← M0]; exact hm)]
  have s44 := hw 44 (by decide) (by decide) m
  have s45 := hw 45 (by decide) (by decide) m
  have s46 := hw 46 (by decide) (by decide) m
  have n5 : (v 5 m).toInt = S 44 m := by rw [e5, s44]
  refine ⟨⟨i_eqr (by rw [a0, n5]), i_eqr (by rw [a1, b.2.1, s45]), i_eqr (by rw [a2, b.2.2, s46])⟩, fun j hj => ?_, fun c hc => ?_⟩
  · rw [n5] at hj h9
    have c1 : vp b3 j = v 8 (9 * m + j) := i_eqr (by rw [a3 j hj, hC (9 * m + j) (by omega)]; exact hw 47 (by decide) (by decide) _)
    exact ⟨c1, by rw [n5, a4 j hj]; exact c1⟩
  · have q := a5 c (by rw [← W0, ← D0]; exact hc)
    rw [q, b.2.1, b.2.2, ← s45, ← s46, W0]
theorem i_subr {x y z : Int32} {k n : Int} (hy : y.toInt = n) (hx : x.toInt = k) (hz : z.toInt = k - n) : z = x - y := by
  have r := i_rng z
  refine i_eqr ?_
  rw [i_sub (z := x - y) rfl (by omega)]
  omega
theorem rq_of {S : St0} {v vp : Vf} {cx ck : Int32} (hR : Rp S vp cx ck) (hM : RpMF S v) (hO : okS S) (hH : MdH v) : RqP v vp ∧ okM v := by
  obtain ⟨w, hw, ⟨n0, n1, n4, n9, n12, n16, n19⟩, hA, hB, hC, hD, hE, hF, hP⟩ := hM
  obtain ⟨⟨g1, g2, g3, g4⟩, -, ⟨⟨m0, m0'⟩, m1, m2, m3⟩, ⟨h0, h1⟩, ⟨k0, k1⟩, ⟨w0, w1⟩, ⟨d0, d1⟩⟩ := hR
  obtain ⟨o0, o1, o2, o3, o4, o5⟩ := hO
  obtain ⟨hmG, hmC, hmZ, hmM, hmA, hmS, hmT⟩ := hH
  obtain ⟨c4, c9, c12, c16, c19, c22⟩ := hmC
  have s : ∀ t, 37 ≤ t → t ≤ 60 → ∀ j, (w t j).toInt = S t j := fun t q1 q2 j => (hw t q1 q2 j).symm
  have W0 : (v 0 0).toInt = S 37 0 := by rw [n0]; exact s 37 (by decide) (by decide) 0
  have D0 : (v 1 0).toInt = S 38 0 := by rw [n1]; exact s 38 (by decide) (by decide) 0
  have M0 : (v 4 0).toInt = S 43 0 := by rw [n4]; exact s 43 (by decide) (by decide) 0
  have H0 : (v 9 0).toInt = S 48 0 := by rw [n9]; exact s 48 (by decide) (by decide) 0
  have K0 : (v 12 0).toInt = S 51 0 := by rw [n12]; exact s 51 (by decide) (by decide) 0
  have L0 : (v 16 0).toInt = S 55 0 := by rw [n16]; exact s 55 (by decide) (by decide) 0
  have E0 : (v 19 0).toInt = S 58 0 := by rw [n19]; exact s 58 (by decide) (by decide) 0
  have hWD := hmG.2.2
  have n30 : (30 : Int32).toInt = 30 := by decide
  have n100 : (100 : Int32).toInt = 100 := by decide
  refine ⟨⟨⟨i_eqr (by rw [g1, W0]), i_eqr (by rw [g2, D0]), fun c hc => ?_⟩, ⟨i_eqr (by rw [m0, M0]), rqm_of m1 hw (by decide) W0 D0 M0 hB hC (hmM.1 0 (by decide)).2, rqm_of m2 hw (by decide) W0 D0 M0 hB hC (hmM.1 1 (by decide)).2, rqm_of m3 hw (by decide) W0 D0 M0 hB hC (hmM.1 2 (by decide)).2⟩, ⟨i_eqr (by rw [h0, H0]), fun k hk => ?_⟩, ⟨i_eqr (by rw [k0, K0]), fun k hk => ?_⟩, ⟨i_eqr (by rw [w0, L0]), fun k hk => ?_⟩, ⟨i_eqr (by rw [d0, E0]), fun k hk => ?_⟩⟩, fun k hk => ?_, fun k hk => ?_, fun k i hk hi => ?_, fun k hk => ?_, ?_, fun m hm3 hm => ?_⟩
  · have q := g3 c (by rw [← W0, ← D0]; exact hc)
    have a := hA c (by omega)
    exact ⟨i_eqr (by rw [q.1, a.1]; exact hw 39 (by decide) (by decide) c), i_eqr (by rw [q.2, a.2]; exact hw 40 (by decide) (by decide) c)⟩
  · have q := h1 k (by omega)
    have a := hD k (by omega)
    exact ⟨i_eqr (by rw [q.1, a.1]; exact hw 49 (by decide) (by decide) k), i_eqr (by rw [q.2, a.2.1]; exact hw 50 (by decide) (by decide) k)⟩
  · have q := k1 k (by omega)
    have a := hD k (by omega)
    exact ⟨i_eqr (by rw [q.1, a.2.2.1]; exact hw 52 (by decide) (by decide) k), i_eqr (by rw [q.2.1, a.2.2.2.1]; exact hw 53 (by decide) (by decide) k), by rw [a.2.2.2.2]; exact i_subr n30 (s 54 (by decide) (by decide) k) q.2.2⟩
  · have q := w1 k (by omega)
    have a := hE k (by omega)
    exact ⟨i_eqr (by rw [q.1, a.1]; exact hw 56 (by decide) (by decide) k), i_eqr (by rw [q.2, a.2]; exact hw 57 (by decide) (by decide) k)⟩
  · have q := d1 k (by omega)
    have a := hF k (by omega)
    exact ⟨by rw [a.1]; exact i_subr n100 (s 59 (by decide) (by decide) k) q.1, by rw [a.2]; exact i_subr n100 (s 60 (by decide) (by decide) k) q.2⟩
  · have a := hD k (by omega)
    have q := o2 k (by omega)
    rw [a.1, a.2.1, s 49 (by decide) (by decide) k, s 50 (by decide) (by decide) k, W0, D0]
    exact ⟨q.1.2, q.2⟩
  · have a := hD k (by omega)
    have q := o3 k (by omega)
    rw [a.2.2.1, a.2.2.2.1, s 52 (by decide) (by decide) k, s 53 (by decide) (by decide) k, W0, D0]
    exact ⟨q.1.2, q.2⟩
  · have a := hD k (by omega)
    have b := hD i (by omega)
    intro q
    refine o4 k i (by omega) hi ⟨?_, ?_⟩
    · rw [← s 52 (by decide) (by decide) i, ← s 52 (by decide) (by decide) k, ← a.2.2.1, ← b.2.2.1, q.1]
    · rw [← s 53 (by decide) (by decide) i, ← s 53 (by decide) (by decide) k, ← a.2.2.2.1, ← b.2.2.2.1, q.2]
  · have a := hE k (by omega)
    rw [a.1, s 56 (by decide) (by decide) k, W0, D0]
    exact (o5 k (by omega)).2
  · rw [hP]
    refine perI_ones 3 (by omega) (fun j h1 h2 => ?_)
    rw [(hB j (by omega)).1, if_neg (by rw [s 43 (by decide) (by decide) 0]; omega)]
    decide
  · rw [(hB m (by omega)).1, if_neg (by rw [s 43 (by decide) (by decide) 0]; omega)]
    exact Or.inr (by decide)
/-! bounds -/
theorem mPart_b {vm : Vf} {k c t : Int32} (hH : MdH vm) (hW : 1 ≤ (vm 0 0).toInt) (hk : 0 ≤ k.toInt ∧ k.toInt < (vm 4 0).toInt) (hc : 0 ≤ c.toInt ∧ c.toInt ≤ 23) (ht : 0 ≤ t.toInt ∧ t.toInt ≤ 2000000) : -9 ≤ (mPart vm k c t).toInt ∧ (mPart vm k c t).toInt ≤ 9 := by
  by_cases ha : k = vm 62 0
  · unfold mPart
    rw [if_pos ha]
    decide
  · obtain ⟨hmG, hmC, hmZ, hmM, hmA, hmS, hmT⟩ := hH
    have hk2 : k.toInt ≤ 2 := by have := hmC.1; omega
    have hn := (hmM.2.1.resolve_left (by omega)) k.toNatClampNeg (i_natlt (by omega) (by decide))
    have hxy := hmM.2.2.1 k.toNatClampNeg (by rw [i_nat hk.1]; exact hk.2)
    have hs := hmS.2.1 k.toNatClampNeg (i_natlt (by omega) (by decide))
    rw [mpart_eq rfl ⟨hW, hmG.1.2⟩ hc ht ⟨hk.1, hk2⟩ hn hxy.1 hxy.2 hs ha]
    have e : k.toNatClampNeg = k.toInt.toNat := rfl
    generalize t.toInt + (vm 24 k.toNatClampNeg).toInt + (vm 6 k.toNatClampNeg).toInt * (c.toInt % (vm 0 0).toInt) + (vm 7 k.toNatClampNeg).toInt * (c.toInt / (vm 0 0).toInt) = X
    have q1 := Int.emod_nonneg X (show (vm 5 k.toNatClampNeg).toInt ≠ 0 by omega)
    have q2 := Int.emod_lt_of_pos X (show 0 < (vm 5 k.toNatClampNeg).toInt by omega)
    exact hmM.2.2.2 _ (by omega)
theorem mPullN_b {vm : Vf} {c t : Int32} (hH : MdH vm) (hW : 1 ≤ (vm 0 0).toInt) (hc : 0 ≤ c.toInt ∧ c.toInt ≤ 23) (ht : 0 ≤ t.toInt ∧ t.toInt ≤ 2000000) : ∀ n : Nat, (n : Int) ≤ (vm 4 0).toInt → -9 * (n : Int) ≤ (mPullN vm c t n).toInt ∧ (mPullN vm c t n).toInt ≤ 9 * (n : Int)
  | 0, _ => (by decide : -9 * ((0 : Nat) : Int) ≤ (0 : Int32).toInt ∧ (0 : Int32).toInt ≤ 9 * ((0 : Nat) : Int))
  | n + 1, h => by
    have h4 := hH.2.1.1
    have q := mPullN_b hH hW hc ht n (by omega)
    have e : (Int32.ofNat n).toInt = (n : Int) := Int32.toInt_ofNat_of_lt (by omega)
    have p := mPart_b (k := Int32.ofNat n) hH hW ⟨by omega, by omega⟩ hc ht
    have s := i_add (z := mPullN vm c t n + mPart vm (Int32.ofNat n) c t) rfl (by omega)
    show -9 * ((n + 1 : Nat) : Int) ≤ (mPullN vm c t n + mPart vm (Int32.ofNat n) c t).toInt ∧ (mPullN vm c t n + mPart vm (Int32.ofNat n) c t).toInt ≤ 9 * ((n + 1 : Nat) : Int)
    rw [s]
    omega
theorem mPull_b {vm : Vf} {c t : Int32} (hH : MdH vm) (hW : 1 ≤ (vm 0 0).toInt) (hc : 0 ≤ c.toInt ∧ c.toInt ≤ 23) (ht : 0 ≤ t.toInt ∧ t.toInt ≤ 2000000) : -27 ≤ (mPull vm c t).toInt ∧ (mPull vm c t).toInt ≤ 27 := by
  have h4 := hH.2.1.1
  have e := i_nat h4.1
  have q := mPullN_b hH hW hc ht (vm 4 0).toNatClampNeg (by omega)
  unfold mPull
  omega
theorem mStiff_b {vm : Vf} {c : Int32} (hH : MdH vm) (hW : 1 ≤ (vm 0 0).toInt) (hc : 0 ≤ c.toInt ∧ c.toInt ≤ 23) : 0 ≤ (mStiff vm c).toInt ∧ (mStiff vm c).toInt ≤ 9 := by
  obtain ⟨hmG, hmC, hmZ, hmM, hmA, hmS, hmT⟩ := hH
  have b3 := (hmA.2.2.2.1.resolve_left (by omega)).2 c.toNatClampNeg (i_natlt (by omega) (by decide))
  have b25 := hmS.2.2.1 c.toNatClampNeg (i_natlt (by omega) (by decide))
  have n10 : (10 : Int32).toInt = 10 := by decide
  have n0 : (0 : Int32).toInt = 0 := by decide
  have td := i_div (z := vm 25 c.toNatClampNeg / 10) rfl b25.1 (by decide)
  have ts := i_sub (z := vm 3 c.toNatClampNeg - vm 25 c.toNatClampNeg / 10) rfl (by omega)
  unfold mStiff
  split
  · decide
  · rename_i h
    have q := i_nlt h
    omega
theorem mH_b {vm : Vf} {c t : Int32} (hH : MdH vm) (hW : 1 ≤ (vm 0 0).toInt) (hc : 0 ≤ c.toInt ∧ c.toInt ≤ 23) (ht : 0 ≤ t.toInt ∧ t.toInt ≤ 2000000) : -243 ≤ (mH vm c t).toInt ∧ (mH vm c t).toInt ≤ 342 := by
  have p := mPull_b hH hW hc ht
  have s := mStiff_b hH hW hc
  have b2 := (hH.2.2.2.2.1.2.2.2.1.resolve_left (by omega)).1 c.toNatClampNeg (i_natlt (by omega) (by decide))
  have m := i_mulr (z := mStiff vm c * mPull vm c t) rfl s p
  have a := i_add (z := vm 2 c.toNatClampNeg + mStiff vm c * mPull vm c t) rfl (by omega)
  unfold mH
  omega
/-! cells beside a cell -/
theorem way_d {way : Int32} (h : 0 ≤ way.toInt ∧ way.toInt ≤ 4) : wyX way.toNatClampNeg = mDx way ∧ wyY way.toNatClampNeg = mDy way := by
  rcases (show way.toInt = 0 ∨ way.toInt = 1 ∨ way.toInt = 2 ∨ way.toInt = 3 ∨ way.toInt = 4 by omega) with q | q | q | q | q
  · rw [show way = 0 from i_eqr (by rw [q]; rfl)]; decide
  · rw [show way = 1 from i_eqr (by rw [q]; rfl)]; decide
  · rw [show way = 2 from i_eqr (by rw [q]; rfl)]; decide
  · rw [show way = 3 from i_eqr (by rw [q]; rfl)]; decide
  · rw [show way = 4 from i_eqr (by rw [q]; rfl)]; decide
theorem bes_eq {vm : Vf} {c way r X Y : Int32} (hG : mdG vm) (hX : X = (c - c / vm 0 0 * vm 0 0) + mDx way) (hY : Y = c / vm 0 0 + mDy way) (h : (r.toInt = -1 ∧ (X.toInt < 0 ∨ (vm 0 0).toInt ≤ X.toInt ∨ Y.toInt < 0 ∨ (vm 1 0).toInt ≤ Y.toInt)) ∨ (r.toInt = (vm 0 0).toInt * Y.toInt + X.toInt ∧ (0 ≤ X.toInt ∧ X.toInt < (vm 0 0).toInt) ∧ 0 ≤ Y.toInt ∧ Y.toInt < (vm 1 0).toInt)) : r = mBes vm c way := by
  obtain ⟨g1, g2, g3⟩ := hG
  unfold mBes
  rw [← hX, ← hY]
  rcases h with ⟨h1, h2⟩ | ⟨h1, h2, h3⟩
  · rw [if_neg (fun q => by obtain ⟨⟨q1, q2⟩, q3, q4⟩ := q; omega)]
    exact i_eqr (by rw [h1]; decide)
  · rw [if_pos ⟨h2, h3⟩]
    have hb := mul_b (a := (vm 0 0).toInt) (b := Y.toInt) (A := 6) (B := 6) (by omega) (by omega)
    have t1 := i_mul (z := vm 0 0 * Y) rfl (by omega)
    have t2 := i_add (z := vm 0 0 * Y + X) rfl (by omega)
    exact i_eqr (by omega)
end
section
/-! the greatest divisor and the period, as the class has them -/
theorem lcm_step {p m z q d : Int32} (hd : d.toInt = (Int.gcd p.toInt m.toInt : Int)) (eq_ : q = p / d) (ez : z = q * m) (b1 : 1 ≤ p.toInt ∧ p.toInt ≤ 81) (bm : 1 ≤ m.toInt ∧ m.toInt ≤ 9) : z.toInt = lcmS p.toInt m.toInt ∧ 1 ≤ z.toInt := by
  have g := gcd_le (a := p.toInt) (b := m.toInt) b1.1
  have h1 := i_div eq_ (by omega) (by omega)
  have h3 := mul_b (a := q.toInt) (b := m.toInt) (A := 81) (B := 9) (by omega) (by omega)
  have h2 := i_mul ez (by omega)
  have h4 := perl eq_ ez b1 (by omega) bm
  refine ⟨?_, h4.1⟩
  unfold lcmS
  rw [← hd, h2, h1.1]
def gdI (a b hi lo i : Int) : Prop := (0 ≤ hi ∧ hi ≤ 100000) ∧ (0 ≤ lo ∧ lo + i ≤ 60) ∧ Int.gcd hi lo = Int.gcd a b
theorem abs_in {a x : Int32} (h : -100000 ≤ a.toInt ∧ a.toInt ≤ 100000) (e : x = if 0 ≤ a then a else 0 - a) : x.toInt = (a.toInt.natAbs : Int) := by
  have n0 : (0 : Int32).toInt = 0 := by decide
  by_cases q : 0 ≤ a
  · rw [if_pos q] at e
    have q2 := i_le q
    rw [e]
    omega
  · rw [if_neg q] at e
    have q2 := i_nle q
    rw [i_sub e (by omega)]
    omega
theorem gd_in {a b x y : Int32} (ha : -100000 ≤ a.toInt ∧ a.toInt ≤ 100000) (hb : 0 ≤ b.toInt ∧ b.toInt ≤ 60) (ex : x = if 0 ≤ a then a else 0 - a) (ey : y = if 0 ≤ b then b else 0 - b) : gdI a.toInt b.toInt x.toInt y.toInt (0 : Int32).toInt := by
  have n0 : (0 : Int32).toInt = 0 := by decide
  have h1 := abs_in ha ex
  have h2 := abs_in (by omega) ey
  refine ⟨by omega, by omega, ?_⟩
  show Nat.gcd x.toInt.natAbs y.toInt.natAbs = Nat.gcd a.toInt.natAbs b.toInt.natAbs
  rw [show x.toInt.natAbs = a.toInt.natAbs by omega, show y.toInt.natAbs = b.toInt.natAbs by omega]
theorem gd_next {a b : Int} {hi lo i i2 z : Int32} (h : gdI a b hi.toInt lo.toInt i.toInt) (hl : lo.toInt ≠ 0) (ez : z = hi - hi / lo * lo) (h2 : i2.toInt = i.toInt + 1) (hi0 : 0 ≤ i.toInt) : gdI a b lo.toInt z.toInt i2.toInt := by
  obtain ⟨h0, h1, h3⟩ := h
  have q := i_rem ez h0.1 (by omega)
  refine ⟨by omega, by omega, ?_⟩
  rw [← h3, ← gcd_step hi.toInt lo.toInt, Int.tmod_eq_emod_of_nonneg h0.1, q.1]
theorem gd_out {a b : Int} {hi lo i : Int32} (h : gdI a b hi.toInt lo.toInt i.toInt) (he : lo.toInt = 0 ∨ 64 ≤ i.toInt) : hi.toInt = (Int.gcd a b : Int) := by
  obtain ⟨h0, h1, h3⟩ := h
  have hl : lo.toInt = 0 := by omega
  rw [hl, Int.gcd_zero_right] at h3
  omega
/-! cracks between two cells -/
theorem dm {W c : Int} (hW : 1 ≤ W) : c = W * (c / W) + c % W ∧ 0 ≤ c % W ∧ c % W < W := ⟨(Int.mul_ediv_add_emod c W).symm, Int.emod_nonneg c (by omega), Int.emod_lt_of_pos c (by omega)⟩
/-- the cell beside, by whole numbers -/
theorem bes_i {vm : Vf} {c way : Int32} {dx dy : Int} (hG : mdG vm) (hW : 1 ≤ (vm 0 0).toInt) (hc : 0 ≤ c.toInt ∧ c.toInt ≤ 23) (ex : (mDx way).toInt = dx) (ey : (mDy way).toInt = dy) (hd : -1 ≤ dx ∧ dx ≤ 1 ∧ -1 ≤ dy ∧ dy ≤ 1) : ((mBes vm c way).toInt = -1 ∧ ¬ ((0 ≤ c.toInt % (vm 0 0).toInt + dx ∧ c.toInt % (vm 0 0).toInt + dx < (vm 0 0).toInt) ∧ 0 ≤ c.toInt / (vm 0 0).toInt + dy ∧ c.toInt / (vm 0 0).toInt + dy < (vm 1 0).toInt)) ∨ ((mBes vm c way).toInt = c.toInt + dx + (vm 0 0).toInt * dy ∧ ((0 ≤ c.toInt % (vm 0 0).toInt + dx ∧ c.toInt % (vm 0 0).toInt + dx < (vm 0 0).toInt) ∧ 0 ≤ c.toInt / (vm 0 0).toInt + dy ∧ c.toInt / (vm 0 0).toInt + dy < (vm 1 0).toInt)) := by
  obtain ⟨g1, g2, g3⟩ := hG
  have td := i_div (z := c / vm 0 0) rfl hc.1 (by omega)
  have tr := i_rem (z := c - c / vm 0 0 * vm 0 0) rfl hc.1 (by omega)
  have d1 := dm (W := (vm 0 0).toInt) (c := c.toInt) hW
  have t1 := i_add (z := (c - c / vm 0 0 * vm 0 0) + mDx way) rfl (by omega)
  have t2 := i_add (z := c / vm 0 0 + mDy way) rfl (by omega)
  unfold mBes
  by_cases q : mIn vm ((c - c / vm 0 0 * vm 0 0) + mDx way) (c / vm 0 0 + mDy way)
  · rw [if_pos q]
    obtain ⟨q1, q2⟩ := q
    have hb := mul_b (a := (vm 0 0).toInt) (b := (c / vm 0 0 + mDy way).toInt) (A := 6) (B := 6) (by omega) (by omega)
    have t3 := i_mul (z := vm 0 0 * (c / vm 0 0 + mDy way)) rfl (by omega)
    have t4 := i_add (z := vm 0 0 * (c / vm 0 0 + mDy way) + ((c - c / vm 0 0 * vm 0 0) + mDx way)) rfl (by omega)
    refine Or.inr ⟨?_, by omega⟩
    have e : (vm 0 0).toInt * (c.toInt / (vm 0 0).toInt + dy) = (vm 0 0).toInt * (c.toInt / (vm 0 0).toInt) + (vm 0 0).toInt * dy := Int.mul_add _ _ _
    rw [t4, t3, t2, t1, td.1, tr.1, ex, ey, e]
    omega
  · rw [if_neg q]
    refine Or.inl ⟨by decide, fun z => q ⟨by omega, by omega⟩⟩
theorem bes_0 {vm : Vf} {c : Int32} (hG : mdG vm) (hW : 1 ≤ (vm 0 0).toInt) (hc : cW vm c) : mBes vm c 0 = c := by
  have h24 := hG.2.2
  have d1 := dm (W := (vm 0 0).toInt) (c := c.toInt) hW
  have hq : c.toInt / (vm 0 0).toInt < (vm 1 0).toInt := Int.ediv_lt_of_lt_mul (by omega) (by rw [Int.mul_comm]; exact hc.2)
  have hq0 : 0 ≤ c.toInt / (vm 0 0).toInt := Int.ediv_nonneg hc.1 (by omega)
  rcases bes_i (way := 0) (dx := 0) (dy := 0) hG hW ⟨hc.1, by have := hc.2; omega⟩ (by decide) (by decide) (by decide) with ⟨-, h⟩ | ⟨h, -⟩
  · exact absurd ⟨by omega, by omega⟩ h
  · exact i_eqr (by omega)
theorem barN_iff {v : Vf} {a b t : Int32} : ∀ n : Nat, mBarN v a b t n ≠ 0 ↔ ∃ k, k < n ∧ mBet v a b k ≠ 0 ∧ mOpen v (Int32.ofNat k) t ≠ 0
  | 0 => ⟨fun h => absurd rfl h, fun ⟨k, h, _⟩ => absurd h (by omega)⟩
  | n + 1 => by
    rw [mBarN_s]
    have ih := barN_iff (v := v) (a := a) (b := b) (t := t) n
    constructor
    · intro h
      by_cases q : mBarN v a b t n ≠ 0
      · obtain ⟨k, h1, h2⟩ := ih.mp q
        exact ⟨k, by omega, h2⟩
      · rw [if_neg q] at h
        by_cases q2 : mBet v a b n ≠ 0
        · rw [if_pos q2] at h
          by_cases q3 : mOpen v (Int32.ofNat n) t ≠ 0
          · exact ⟨n, by omega, q2, q3⟩
          · rw [if_neg q3] at h
            exact absurd rfl h
        · rw [if_neg q2] at h
          exact absurd rfl h
    · intro ⟨k, h1, h2, h3⟩
      by_cases q : mBarN v a b t n ≠ 0
      · rw [if_pos q]
        decide
      · rw [if_neg q]
        by_cases e : k = n
        · subst e
          rw [if_pos h2, if_pos h3]
          decide
        · exact absurd (ih.mpr ⟨k, by omega, h2, h3⟩) q
theorem bet_iff {v : Vf} {a b : Int32} {k : Nat} : mBet v a b k ≠ 0 ↔ (v 13 k = a ∧ mOth v k = b) ∨ (v 13 k = b ∧ mOth v k = a) := by
  unfold mBet mB2
  by_cases h1 : v 13 k = a
  · rw [if_pos h1]
    by_cases h2 : mOth v k = b
    · rw [if_pos h2]
      exact ⟨fun _ => Or.inl ⟨h1, h2⟩, fun _ => by decide⟩
    · rw [if_neg h2]
      by_cases h3 : v 13 k = b
      · rw [if_pos h3]
        by_cases h4 : mOth v k = a
        · rw [if_pos h4]
          exact ⟨fun _ => Or.inr ⟨h3, h4⟩, fun _ => by decide⟩
        · rw [if_neg h4]
          exact ⟨fun h => absurd rfl h, fun h => h.elim (fun q => absurd q.2 h2) (fun q => absurd q.2 h4)⟩
      · rw [if_neg h3]
        exact ⟨fun h => absurd rfl h, fun h => h.elim (fun q => absurd q.2 h2) (fun q => absurd q.1 h3)⟩
  · rw [if_neg h1]
    by_cases h3 : v 13 k = b
    · rw [if_pos h3]
      by_cases h4 : mOth v k = a
      · rw [if_pos h4]
        exact ⟨fun _ => Or.inr ⟨h3, h4⟩, fun _ => by decide⟩
      · rw [if_neg h4]
        exact ⟨fun h => absurd rfl h, fun h => h.elim (fun q => absurd q.1 h1) (fun q => absurd q.2 h4)⟩
    · rw [if_neg h3]
      exact ⟨fun h => absurd rfl h, fun h => h.elim (fun q => absurd q.1 h1) (fun q => absurd q.1 h3)⟩
theorem dm_u {W c q r : Int} (hW : 1 ≤ W) (h : c = W * q + r) (hr : 0 ≤ r ∧ r < W) : c % W = r ∧ c / W = q := by
  subst h
  constructor
  · rw [Int.add_comm, Int.add_mul_emod_self_left, Int.emod_eq_of_lt hr.1 hr.2]
  · rw [Int.add_comm, Int.add_mul_ediv_left _ _ (by omega), Int.ediv_eq_zero_of_lt hr.1 hr.2]
    omega
theorem cW_d {vm : Vf} {c : Int32} (hG : mdG vm) (hW : 1 ≤ (vm 0 0).toInt) (hc : cW vm c) : (0 ≤ c.toInt ∧ c.toInt ≤ 23) ∧ (0 ≤ c.toInt % (vm 0 0).toInt ∧ c.toInt % (vm 0 0).toInt < (vm 0 0).toInt) ∧ (0 ≤ c.toInt / (vm 0 0).toInt ∧ c.toInt / (vm 0 0).toInt < (vm 1 0).toInt) := by
  have h24 := hG.2.2
  have d1 := dm (W := (vm 0 0).toInt) (c := c.toInt) hW
  exact ⟨⟨hc.1, by have := hc.2; omega⟩, d1.2, Int.ediv_nonneg hc.1 (by omega), Int.ediv_lt_of_lt_mul (by omega) (by rw [Int.mul_comm]; exact hc.2)⟩
theorem bes_e {vm : Vf} {c : Int32} (hG : mdG vm) (hW : 1 ≤ (vm 0 0).toInt) (hc : cW vm c) : ((mBes vm c 2).toInt = c.toInt + 1 ∧ c.toInt % (vm 0 0).toInt + 1 < (vm 0 0).toInt) ∨ ((mBes vm c 2).toInt = -1 ∧ ¬ c.toInt % (vm 0 0).toInt + 1 < (vm 0 0).toInt) := by
  have d := cW_d hG hW hc
  rcases bes_i (way := 2) (dx := 1) (dy := 0) hG hW d.1 (by decide) (by decide) (by decide) with ⟨h1, h2⟩ | ⟨h1, h2⟩
  · exact Or.inr ⟨h1, fun q => h2 ⟨by omega, by omega⟩⟩
  · exact Or.inl ⟨by omega, h2.1.2⟩
theorem bes_w {vm : Vf} {c : Int32} (hG : mdG vm) (hW : 1 ≤ (vm 0 0).toInt) (hc : cW vm c) : ((mBes vm c 4).toInt = c.toInt - 1 ∧ 1 ≤ c.toInt % (vm 0 0).toInt) ∨ ((mBes vm c 4).toInt = -1 ∧ ¬ 1 ≤ c.toInt % (vm 0 0).toInt) := by
  have d := cW_d hG hW hc
  rcases bes_i (way := 4) (dx := -1) (dy := 0) hG hW d.1 (by decide) (by decide) (by decide) with ⟨h1, h2⟩ | ⟨h1, h2⟩
  · exact Or.inr ⟨h1, fun q => h2 ⟨by omega, by omega⟩⟩
  · exact Or.inl ⟨by omega, by omega⟩
theorem bes_s {vm : Vf} {c : Int32} (hG : mdG vm) (hW : 1 ≤ (vm 0 0).toInt) (hc : cW vm c) : ((mBes vm c 3).toInt = c.toInt + (vm 0 0).toInt ∧ c.toInt / (vm 0 0).toInt + 1 < (vm 1 0).toInt) ∨ ((mBes vm c 3).toInt = -1 ∧ ¬ c.toInt / (vm 0 0).toInt + 1 < (vm 1 0).toInt) := by
  have d := cW_d hG hW hc
  rcases bes_i (way := 3) (dx := 0) (dy := 1) hG hW d.1 (by decide) (by decide) (by decide) with ⟨h1, h2⟩ | ⟨h1, h2⟩
  · exact Or.inr ⟨h1, fun q => h2 ⟨by omega, by omega⟩⟩
  · exact Or.inl ⟨by omega, h2.2.2⟩
theorem bes_n {vm : Vf} {c : Int32} (hG : mdG vm) (hW : 1 ≤ (vm 0 0).toInt) (hc : cW vm c) : ((mBes vm c 1).toInt = c.toInt - (vm 0 0).toInt ∧ 1 ≤ c.toInt / (vm 0 0).toInt) ∨ ((mBes vm c 1).toInt = -1 ∧ ¬ 1 ≤ c.toInt / (vm 0 0).toInt) := by
  have d := cW_d hG hW hc
  rcases bes_i (way := 1) (dx := 0) (dy := -1) hG hW d.1 (by decide) (by decide) (by decide) with ⟨h1, h2⟩ | ⟨h1, h2⟩
  · exact Or.inr ⟨h1, fun q => h2 ⟨by omega, by omega⟩⟩
  · exact Or.inl ⟨by omega, by omega⟩
def adjS (W D o m : Int) : Prop := (m = o + 1 ∧ o % W + 1 < W) ∨ (m = o + W ∧ o / W + 1 < D)
theorem adj_of {vm : Vf} {a b way : Int32} (hG : mdG vm) (hW : 1 ≤ (vm 0 0).toInt) (ha : cW vm a) (hw : 1 ≤ way.toInt ∧ way.toInt ≤ 4) (hb : b = mBes vm a way) (h0 : 0 ≤ b.toInt) : (a.toInt ≤ b.toInt ∧ adjS (vm 0 0).toInt (vm 1 0).toInt a.toInt b.toInt) ∨ (b.toInt ≤ a.toInt ∧ adjS (vm 0 0).toInt (vm 1 0).toInt b.toInt a.toInt) := by
  have d := cW_d hG hW ha
  have dd := dm (W := (vm 0 0).toInt) (c := a.toInt) hW
  subst hb
  rcases (show way.toInt = 1 ∨ way.toInt = 2 ∨ way.toInt = 3 ∨ way.toInt = 4 by omega) with q | q | q | q
  · obtain rfl : way = 1 := i_eqr (by rw [q]; rfl)
    rcases bes_n hG hW ha with ⟨h1, h2⟩ | ⟨h1, h2⟩
    · have e : (vm 0 0).toInt * (a.toInt / (vm 0 0).toInt - 1) = (vm 0 0).toInt * (a.toInt / (vm 0 0).toInt) - (vm 0 0).toInt := by rw [Int.mul_sub, Int.mul_one]
      have u := dm_u (W := (vm 0 0).toInt) (c := (mBes vm a 1).toInt) (q := a.toInt / (vm 0 0).toInt - 1) (r := a.toInt % (vm 0 0).toInt) hW (by omega) dd.2
      refine Or.inr ⟨by omega, Or.inr ⟨by omega, ?_⟩⟩
      rw [u.2]
      omega
    · omega
  · obtain rfl : way = 2 := i_eqr (by rw [q]; rfl)
    rcases bes_e hG hW ha with ⟨h1, h2⟩ | ⟨h1, h2⟩
    · exact Or.inl ⟨by omega, Or.inl ⟨by omega, h2⟩⟩
    · omega
  · obtain rfl : way = 3 := i_eqr (by rw [q]; rfl)
    rcases bes_s hG hW ha with ⟨h1, h2⟩ | ⟨h1, h2⟩
    · exact Or.inl ⟨by omega, Or.inr ⟨by omega, h2⟩⟩
    · omega
  · obtain rfl : way = 4 := i_eqr (by rw [q]; rfl)
    rcases bes_w hG hW ha with ⟨h1, h2⟩ | ⟨h1, h2⟩
    · have u := dm_u (W := (vm 0 0).toInt) (c := (mBes vm a 4).toInt) (q := a.toInt / (vm 0 0).toInt) (r := a.toInt % (vm 0 0).toInt - 1) hW (by omega) (by omega)
      refine Or.inr ⟨by omega, Or.inl ⟨by omega, ?_⟩⟩
      rw [u.1]
      omega
    · omega
theorem oth_i {vm : Vf} {k : Nat} (hG : mdG vm) (hW : 1 ≤ (vm 0 0).toInt) (hC : cW vm (vm 13 k)) (h14 : 0 ≤ (vm 14 k).toInt ∧ (vm 14 k).toInt ≤ 1) : ((vm 14 k).toInt = 0 ∧ mOth vm k = mBes vm (vm 13 k) 2) ∨ ((vm 14 k).toInt = 1 ∧ mOth vm k = mBes vm (vm 13 k) 3) := by
  unfold mOth
  rcases (show (vm 14 k).toInt = 0 ∨ (vm 14 k).toInt = 1 by omega) with q | q
  · exact Or.inl ⟨q, by rw [if_pos (show vm 14 k = 0 from i_eqr (by rw [q]; rfl))]⟩
  · exact Or.inr ⟨q, by rw [if_neg (show ¬ vm 14 k = 0 from fun z => by rw [z] at q; exact absurd q (by decide))]⟩
/-- what lies beyond a crack, and on which side a cell lies -/
theorem oth_side {vm : Vf} {k : Nat} {own mx sd : Int32} (hG : mdG vm) (hW : 1 ≤ (vm 0 0).toInt) (hC : cW vm (vm 13 k)) (h14 : 0 ≤ (vm 14 k).toInt ∧ (vm 14 k).toInt ≤ 1) (hA : adjS (vm 0 0).toInt (vm 1 0).toInt own.toInt mx.toInt) (hm : 0 ≤ mx.toInt) (ho : cW vm own) (hsd : sd = if mBes vm own 2 = mx then 0 else 1) : (vm 13 k = own ∧ mOth vm k = mx) ↔ (vm 13 k = own ∧ vm 14 k = sd) := by
  have hE : (mx.toInt = own.toInt + 1 ∧ own.toInt % (vm 0 0).toInt + 1 < (vm 0 0).toInt ∧ sd = 0) ∨ (mx.toInt = own.toInt + (vm 0 0).toInt ∧ own.toInt / (vm 0 0).toInt + 1 < (vm 1 0).toInt ∧ ¬ mBes vm own 2 = mx ∧ sd = 1) := by
    rcases bes_e hG hW ho with ⟨h1, h2⟩ | ⟨h1, h2⟩
    · rcases hA with ⟨a1, a2⟩ | ⟨a1, a2⟩
      · exact Or.inl ⟨a1, a2, by rw [hsd, if_pos (i_eqr (by omega))]⟩
      · have d := cW_d hG hW ho
        have hn : ¬ mBes vm own 2 = mx := fun q => by rw [q] at h1; omega
        exact Or.inr ⟨a1, a2, hn, by rw [hsd, if_neg hn]⟩
    · rcases hA with ⟨a1, a2⟩ | ⟨a1, a2⟩
      · exact absurd a2 h2
      · have hn : ¬ mBes vm own 2 = mx := fun q => by rw [q] at h1; omega
        exact Or.inr ⟨a1, a2, hn, by rw [hsd, if_neg hn]⟩
  refine and_congr_right (fun e => ?_)
  have hO := oth_i hG hW hC h14
  rw [e] at hO
  have d := cW_d hG hW ho
  rcases hO with ⟨q1, q2⟩ | ⟨q1, q2⟩
  · rcases hE with ⟨e1, e2, e3⟩ | ⟨e1, e2, e3, e4⟩
    · rcases bes_e hG hW ho with ⟨h1, h2⟩ | ⟨h1, h2⟩
      · exact ⟨fun _ => by rw [e3]; exact i_eqr (by rw [q1]; rfl), fun _ => by rw [q2]; exact i_eqr (by omega)⟩
      · exact absurd e2 h2
    · exact ⟨fun q => absurd (q2.symm.trans q) e3, fun q => by rw [q, e4] at q1; exact absurd q1 (by decide)⟩
  · rcases hE with ⟨e1, e2, e3⟩ | ⟨e1, e2, e3, e4⟩
    · refine ⟨fun q => ?_, fun q => by rw [q, e3] at q1; exact absurd q1 (by decide)⟩
      rcases bes_s hG hW ho with ⟨h1, h2⟩ | ⟨h1, h2⟩
      · rw [← q2, q] at h1
        omega
      · rw [← q2, q] at h1
        omega
    · rcases bes_s hG hW ho with ⟨h1, h2⟩ | ⟨h1, h2⟩
      · exact ⟨fun _ => by rw [e4]; exact i_eqr (by rw [q1]; rfl), fun _ => by rw [q2]; exact i_eqr (by omega)⟩
      · exact absurd e2 h2
theorem oth_gt {vm : Vf} {k : Nat} (hG : mdG vm) (hW : 1 ≤ (vm 0 0).toInt) (hC : cW vm (vm 13 k)) (h14 : 0 ≤ (vm 14 k).toInt ∧ (vm 14 k).toInt ≤ 1) : (mOth vm k).toInt = -1 ∨ (vm 13 k).toInt < (mOth vm k).toInt := by
  rcases oth_i hG hW hC h14 with ⟨-, q⟩ | ⟨-, q⟩ <;> rw [q]
  · rcases bes_e hG hW hC with ⟨h1, h2⟩ | ⟨h1, h2⟩ <;> omega
  · rcases bes_s hG hW hC with ⟨h1, h2⟩ | ⟨h1, h2⟩ <;> omega
/-- between two cells side by side: the crack of the lesser one -/
theorem bet_side {vm : Vf} {a b own mx sd : Int32} {k : Nat} (hG : mdG vm) (hW : 1 ≤ (vm 0 0).toInt) (ha : cW vm a) (hb : cW vm b) (hA : (a.toInt ≤ b.toInt ∧ adjS (vm 0 0).toInt (vm 1 0).toInt a.toInt b.toInt) ∨ (b.toInt ≤ a.toInt ∧ adjS (vm 0 0).toInt (vm 1 0).toInt b.toInt a.toInt)) (eo : own.toInt = min a.toInt b.toInt) (em : mx.toInt = max a.toInt b.toInt) (hsd : sd = if mBes vm own 2 = mx then 0 else 1) (hC : cW vm (vm 13 k)) (h14 : 0 ≤ (vm 14 k).toInt ∧ (vm 14 k).toInt ≤ 1) : mBet vm a b k ≠ 0 ↔ (vm 13 k = own ∧ vm 14 k = sd) := by
  have hg := oth_gt hG hW hC h14
  have ha0 := ha.1
  have hb0 := hb.1
  rw [bet_iff]
  rcases hA with ⟨h1, h2⟩ | ⟨h1, h2⟩
  · obtain rfl : own = a := i_eqr (by omega)
    obtain rfl : mx = b := i_eqr (by omega)
    rw [← oth_side hG hW hC h14 h2 hb0 ha hsd]
    refine ⟨fun q => q.elim id (fun z => ?_), Or.inl⟩
    have e1 := i_eq z.1
    have e2 := i_eq z.2
    have e3 : own.toInt = mx.toInt := by omega
    have e4 : own = mx := i_eqr e3
    exact ⟨z.1.trans e4.symm, z.2.trans e4⟩
  · obtain rfl : own = b := i_eqr (by omega)
    obtain rfl : mx = a := i_eqr (by omega)
    rw [← oth_side hG hW hC h14 h2 ha0 hb hsd]
    refine ⟨fun q => q.elim (fun z => ?_) id, Or.inr⟩
    have e1 := i_eq z.1
    have e2 := i_eq z.2
    have e3 : own.toInt = mx.toInt := by omega
    have e4 : own = mx := i_eqr e3
    exact ⟨z.1.trans e4.symm, z.2.trans e4⟩
theorem bes_cW {vm : Vf} {c way : Int32} (hG : mdG vm) (h : 0 ≤ (mBes vm c way).toInt) : cW vm (mBes vm c way) := by
  obtain ⟨g1, g2, g3⟩ := hG
  refine ⟨h, ?_⟩
  unfold mBes at h ⊢
  by_cases q : mIn vm ((c - c / vm 0 0 * vm 0 0) + mDx way) (c / vm 0 0 + mDy way)
  · rw [if_pos q] at h ⊢
    obtain ⟨q1, q2⟩ := q
    have m := mcell_lt (x := (c - c / vm 0 0 * vm 0 0) + mDx way) (y := c / vm 0 0 + mDy way) g1 g3 q1.1 q1.2 q2.1 q2.2
    have t3 := i_mul (z := vm 0 0 * (c / vm 0 0 + mDy way)) rfl (by omega)
    have t4 := i_add (z := vm 0 0 * (c / vm 0 0 + mDy way) + ((c - c / vm 0 0 * vm 0 0) + mDx way)) rfl (by omega)
    omega
  · rw [if_neg q] at h
    exact absurd h (by decide)
theorem ofN_nat {r : Int32} (h : 0 ≤ r.toInt) : Int32.ofNat r.toNatClampNeg = r := i_ofN h
/-- the class's way to a crack, and the reference's -/
theorem bar_cls {vm vp vs : Vf} {cell there own mx sd r way t : Int32} (hR : RW vm vp vs) (hw : 1 ≤ way.toInt ∧ way.toInt ≤ 4) (hb : there = mBes vm cell way) (hc : cW vm cell) (h0 : 0 ≤ there.toInt) (eo : own.toInt = min cell.toInt there.toInt) (em : mx.toInt = max cell.toInt there.toInt) (hsd : sd = if mBes vm own 2 = mx then 0 else 1) (hf : ((r.toInt = -1 ∧ anyE2 (fI (vp 71)) (fI (vp 72)) own.toInt sd.toInt (vp 70 0).toInt.toNat = false) ∨ (0 ≤ r.toInt ∧ anyE2 (fI (vp 71)) (fI (vp 72)) own.toInt sd.toInt (vp 70 0).toInt.toNat = true)) ∧ (0 ≤ r.toInt → r.toInt < (vp 70 0).toInt ∧ (vp 71 r.toNatClampNeg).toInt = own.toInt ∧ (vp 72 r.toNatClampNeg).toInt = sd.toInt)) : mBar vm cell there t ≠ 0 ↔ (r.toInt ≠ -1 ∧ mOpen vm r t ≠ 0) := by
  obtain ⟨⟨-, -, -, ⟨k0, k1⟩, -⟩, -, -, hH, ⟨-, o2, o3, -⟩⟩ := hR
  have hG := hH.1
  have hK := hH.2.1.2.2.1
  have hA2 := hH.2.2.2.2.1.2.1
  have hW : 1 ≤ (vm 0 0).toInt := wd_pos hG.1.1 (show 1 ≤ (vm 0 0).toInt * (vm 1 0).toInt by have := hc.1; have := hc.2; omega)
  have hbc : cW vm there := by rw [hb] at h0 ⊢; exact bes_cW hG h0
  have hA := adj_of hG hW hc hw hb h0
  rw [k0] at hf
  have hB : ∀ k : Nat, (k : Int) < (vm 12 0).toInt → (mBet vm cell there k ≠ 0 ↔ (vm 13 k = own ∧ vm 14 k = sd)) := fun k hk => bet_side hG hW hc hbc hA eo em hsd ⟨(hA2 k (by omega)).1, (o2 k hk).1⟩ (o2 k hk).2
  have en := i_nat hK.1
  unfold mBar
  rw [barN_iff]
  obtain ⟨hf1, hf2⟩ := hf
  constructor
  · rintro ⟨k, h1, h2, h3⟩
    have hk : (k : Int) < (vm 12 0).toInt := by omega
    have q := (hB k hk).mp h2
    have e := k1 k hk
    rcases hf1 with ⟨f1, f2⟩ | ⟨f1, f2⟩
    · exact absurd ⟨by show (vp 71 k).toInt = _; rw [e.1, q.1], by show (vp 72 k).toInt = _; rw [e.2.1, q.2]⟩ (any2_all _ f2 k (by omega))
    · have g := hf2 f1
      have en2 := i_nat f1
      have e2 := k1 r.toNatClampNeg (by omega)
      have er : r.toNatClampNeg = k := by
        rcases Nat.lt_trichotomy k r.toNatClampNeg with z | z | z
        · exact absurd ⟨q.1.trans (i_eqr (by rw [← g.2.1, e2.1])), q.2.trans (i_eqr (by rw [← g.2.2, e2.2.1]))⟩ (o3 r.toNatClampNeg k (by omega) z)
        · exact z.symm
        · exact absurd ⟨(i_eqr (by rw [← e2.1, g.2.1])).trans q.1.symm, (i_eqr (by rw [← e2.2.1, g.2.2])).trans q.2.symm⟩ (o3 k r.toNatClampNeg hk z)
      refine ⟨by omega, ?_⟩
      rw [← er, i_ofN f1] at h3
      exact h3
  · rintro ⟨h1, h2⟩
    rcases hf1 with ⟨f1, f2⟩ | ⟨f1, f2⟩
    · exact absurd f1 h1
    · have g := hf2 f1
      have en2 := i_nat f1
      have e2 := k1 r.toNatClampNeg (by omega)
      refine ⟨r.toNatClampNeg, by omega, (hB _ (by omega)).mpr ⟨i_eqr (by rw [← e2.1, g.2.1]), i_eqr (by rw [← e2.2.1, g.2.2])⟩, ?_⟩
      rw [i_ofN f1]
      exact h2
/-- a step of the cart, as the class judges it -/
def PuP (vm : Vf) (cell way there step r : Int32) : Prop := ((mGo vm cell way step).toInt = -1 ∧ r.toInt = -1) ∨ (mGo vm cell way step = there ∧ 0 ≤ there.toInt ∧ r = mCost vm cell there step ∧ 0 ≤ r.toInt)
theorem way_ne {vm : Vf} {cell there way : Int32} (hG : mdG vm) (hW : 1 ≤ (vm 0 0).toInt) (hb : there = mBes vm cell way) (hc : cW vm cell) (hne : ¬ there = cell) : ¬ way = 0 := fun e => hne (by rw [hb, e, bes_0 hG hW hc])
theorem nn_if {s : Int32} : 0 ≤ (if s < 0 then (0 : Int32) else s).toInt := by
  have n0 : (0 : Int32).toInt = 0 := by decide
  split
  · omega
  · rename_i h
    have := i_nlt h
    omega
theorem pu_same {vm : Vf} {cell there way step : Int32} (hG : mdG vm) (hW : 1 ≤ (vm 0 0).toInt) (hw : 0 ≤ way.toInt ∧ way.toInt ≤ 4) (hb : there = mBes vm cell way) (hc : cW vm cell) (e : there = cell) : PuP vm cell way there step 0 := by
  by_cases q : way = 0
  · subst q
    refine Or.inr ⟨?_, by rw [e]; exact hc.1, ?_, by decide⟩
    · unfold mGo
      rw [if_pos rfl]
      exact e.symm
    · unfold mCost mSl
      rw [if_pos e.symm]
      rfl
  · exfalso
    have q2 := i_ne q
    have n0 : (0 : Int32).toInt = 0 := by decide
    have h0 := hc.1
    rw [← e] at h0
    rcases adj_of hG hW hc ⟨by omega, hw.2⟩ hb h0 with ⟨-, h⟩ | ⟨-, h⟩
    · rw [e] at h
      rcases h with h | h <;> omega
    · rw [e] at h
      rcases h with h | h <;> omega
theorem pu_none {vm : Vf} {cell there way step : Int32} (hG : mdG vm) (hW : 1 ≤ (vm 0 0).toInt) (hb : there = mBes vm cell way) (hc : cW vm cell) (hne : ¬ there = cell) (e : there = -1) : PuP vm cell way there step (-1) := by
  have hw0 := way_ne hG hW hb hc hne
  refine Or.inl ⟨?_, by decide⟩
  unfold mGo
  rw [if_neg hw0, ← hb, e, if_pos (by decide)]
  decide
theorem pu_go {vm : Vf} {cell there way step r : Int32} (hG : mdG vm) (hW : 1 ≤ (vm 0 0).toInt) (hb : there = mBes vm cell way) (hc : cW vm cell) (hne : ¬ there = cell) (h0 : 0 ≤ there.toInt) (hno : (mBar vm cell there step ≠ 0 ∨ vm 29 0 < mH vm there step - mH vm cell step) → r.toInt = -1) (hyes : ¬ (mBar vm cell there step ≠ 0 ∨ vm 29 0 < mH vm there step - mH vm cell step) → r = if mH vm there step - mH vm cell step < 0 then 0 else mH vm there step - mH vm cell step) : PuP vm cell way there step r := by
  have hw0 := way_ne hG hW hb hc hne
  unfold PuP mGo
  rw [if_neg hw0, ← hb, if_neg (show ¬ there.toInt < 0 by omega)]
  by_cases q : mBar vm cell there step ≠ 0 ∨ vm 29 0 < mH vm there step - mH vm cell step
  · rw [if_pos q]
    exact Or.inl ⟨by decide, hno q⟩
  · rw [if_neg q]
    have e := hyes q
    refine Or.inr ⟨rfl, h0, ?_, ?_⟩
    · unfold mCost mSl
      rw [if_neg (show ¬ cell = there from fun z => hne z.symm)]
      exact e
    · rw [e]
      exact nn_if
end
section
/-! ===== what the calls do that change the state ===== -/
theorem held_min {y : Int32} : (if y < 999999999 then y else 999999999) = mHeld y := by
  unfold mHeld
  by_cases h : y < 999999999
  · rw [if_pos h, if_pos (Int32.le_of_lt h)]
  · rw [if_neg h]
    by_cases h2 : y ≤ 999999999
    · rw [if_pos h2]
      have q1 := i_nlt h
      have q2 := i_le h2
      exact i_eqr (by omega)
    · rw [if_neg h2]
def PassP (n old r new : Int32) : Prop := (r.toInt = -1000000002 ∧ (n.toInt < 1 ∨ 9999 < n.toInt) ∧ new = old) ∨ ((1 ≤ n.toInt ∧ n.toInt ≤ 9999) ∧ ((r.toInt = -1000000004 ∧ 900000 < old.toInt + n.toInt ∧ new = old) ∨ (old.toInt + n.toInt ≤ 900000 ∧ r = new ∧ new.toInt = old.toInt + n.toInt)))
theorem pass_eq {n a r a' b q b' : Int32} (h1 : PassP n a r a') (h2 : PassP n b q b') (e : a = b) : r.toInt = q.toInt ∧ a' = b' := by
  subst e
  rcases h1 with ⟨p1, p2, p3⟩ | ⟨p0, ⟨p1, p2, p3⟩ | ⟨p1, p2, p3⟩⟩
  · rcases h2 with ⟨g1, g2, g3⟩ | ⟨g0, g1⟩
    · exact ⟨by omega, by rw [p3, g3]⟩
    · omega
  · rcases h2 with ⟨g1, g2, g3⟩ | ⟨g0, ⟨g1, g2, g3⟩ | ⟨g1, g2, g3⟩⟩
    · omega
    · exact ⟨by omega, by rw [p3, g3]⟩
    · omega
  · rcases h2 with ⟨g1, g2, g3⟩ | ⟨g0, ⟨g1, g2, g3⟩ | ⟨g1, g2, g3⟩⟩
    · omega
    · omega
    · have e2 : a' = b' := i_eqr (by omega)
      exact ⟨by rw [p2, g2, e2], e2⟩
def inG (x y W D : Int32) : Prop := (0 ≤ x.toInt ∧ x.toInt < W.toInt) ∧ 0 ≤ y.toInt ∧ y.toInt < D.toInt
def LoadP (x y z W D : Int32) (f : Nat → Int32) (r : Int32) (f' : Nat → Int32) : Prop := (r.toInt = -1000000001 ∧ ¬ inG x y W D ∧ f' = f) ∨ (inG x y W D ∧ ((r.toInt = -1000000002 ∧ (z.toInt < 0 ∨ 90 < z.toInt) ∧ f' = f) ∨ ((0 ≤ z.toInt ∧ z.toInt ≤ 90) ∧ r = f (W.toInt * y.toInt + x.toInt).toNat ∧ f' = upd f (W.toInt * y.toInt + x.toInt).toNat z)))
def ShiftP (i z n : Int32) (many f : Nat → Int32) (r : Int32) (f' : Nat → Int32) : Prop := (r.toInt = -1000000001 ∧ (i.toInt < 0 ∨ n.toInt ≤ i.toInt) ∧ f' = f) ∨ ((0 ≤ i.toInt ∧ i.toInt < n.toInt) ∧ ((r.toInt = -1000000002 ∧ (z.toInt < 0 ∨ 999 < z.toInt) ∧ f' = f) ∨ ((0 ≤ z.toInt ∧ z.toInt ≤ 999) ∧ r = f i.toNatClampNeg ∧ ∃ w : Int32, w.toInt = z.toInt % (many i.toNatClampNeg).toInt ∧ f' = upd f i.toNatClampNeg w)))
/-- a step of the cart: step, cart, pushed, before and after -/
def RolP (vm : Vf) (way r t c p t' c' p' : Int32) : Prop := (r.toInt = -1000000002 ∧ (way.toInt < 0 ∨ 4 < way.toInt) ∧ t' = t ∧ c' = c ∧ p' = p) ∨ ((0 ≤ way.toInt ∧ way.toInt ≤ 4) ∧ ((r.toInt = -1000000003 ∧ ((vm 0 0).toInt = 0 ∨ (mGo vm (vm 27 0) way (vm 23 0 + 1)).toInt < 0) ∧ t' = t ∧ c' = c ∧ p' = p) ∨ (((vm 0 0).toInt ≠ 0 ∧ 0 ≤ (mGo vm (vm 27 0) way (vm 23 0 + 1)).toInt) ∧ ((r.toInt = -1000000004 ∧ 900000 ≤ (vm 23 0).toInt ∧ t' = t ∧ c' = c ∧ p' = p) ∨ ((vm 23 0).toInt < 900000 ∧ r = mCost vm (vm 27 0) (mGo vm (vm 27 0) way (vm 23 0 + 1)) (vm 23 0 + 1) ∧ t' = vm 23 0 + 1 ∧ c' = mGo vm (vm 27 0) way (vm 23 0 + 1) ∧ p' = mHeld (vm 28 0 + r))))))
theorem rol_eq {vm : Vf} {way r q t c p t1 c1 p1 t2 c2 p2 : Int32} (h1 : RolP vm way r t c p t1 c1 p1) (h2 : RolP vm way q t c p t2 c2 p2) : r.toInt = q.toInt ∧ t1 = t2 ∧ c1 = c2 ∧ p1 = p2 := by
  rcases h1 with ⟨a1, a2, a3, a4, a5⟩ | ⟨a0, ⟨a1, a2, a3, a4, a5⟩ | ⟨az, ⟨a1, a2, a3, a4, a5⟩ | ⟨a1, a2, a3, a4, a5⟩⟩⟩
  · rcases h2 with ⟨b1, b2, b3, b4, b5⟩ | ⟨b0, -⟩
    · exact ⟨by omega, by rw [a3, b3], by rw [a4, b4], by rw [a5, b5]⟩
    · omega
  · rcases h2 with ⟨b1, b2, b3, b4, b5⟩ | ⟨b0, ⟨b1, b2, b3, b4, b5⟩ | ⟨bz, -⟩⟩
    · omega
    · exact ⟨by omega, by rw [a3, b3], by rw [a4, b4], by rw [a5, b5]⟩
    · omega
  · rcases h2 with ⟨b1, b2, b3, b4, b5⟩ | ⟨b0, ⟨b1, b2, b3, b4, b5⟩ | ⟨bz, ⟨b1, b2, b3, b4, b5⟩ | ⟨b1, b2, b3, b4, b5⟩⟩⟩
    · omega
    · omega
    · exact ⟨by omega, by rw [a3, b3], by rw [a4, b4], by rw [a5, b5]⟩
    · omega
  · rcases h2 with ⟨b1, b2, b3, b4, b5⟩ | ⟨b0, ⟨b1, b2, b3, b4, b5⟩ | ⟨bz, ⟨b1, b2, b3, b4, b5⟩ | ⟨b1, b2, b3, b4, b5⟩⟩⟩
    · omega
    · omega
    · omega
    · exact ⟨by rw [a2, b2], by rw [a3, b3], by rw [a4, b4], by rw [a5, b5, a2, b2]⟩
/-! what the reference's functions depend on -/
def sameP (v w : Vf) : Prop := ∀ t, t ≠ 23 → t ≠ 27 → t ≠ 28 → t ≠ 30 → w t = v t
theorem mPart_fr {v w : Vf} {k c t : Int32} (h : sameP v w) : mPart w k c t = mPart v k c t := by
  unfold mPart
  rw [h 62 (by decide) (by decide) (by decide) (by decide), h 8 (by decide) (by decide) (by decide) (by decide), h 24 (by decide) (by decide) (by decide) (by decide), h 6 (by decide) (by decide) (by decide) (by decide), h 0 (by decide) (by decide) (by decide) (by decide), h 7 (by decide) (by decide) (by decide) (by decide), h 5 (by decide) (by decide) (by decide) (by decide)]
theorem mPullN_fr {v w : Vf} {c t : Int32} (h : sameP v w) : ∀ n : Nat, mPullN w c t n = mPullN v c t n
  | 0 => rfl
  | n + 1 => by
    show mPullN w c t n + mPart w (Int32.ofNat n) c t = mPullN v c t n + mPart v (Int32.ofNat n) c t
    rw [mPullN_fr h n, mPart_fr h]
theorem mPull_fr {v w : Vf} {c t : Int32} (h : sameP v w) : mPull w c t = mPull v c t := by
  unfold mPull
  rw [mPullN_fr h, h 4 (by decide) (by decide) (by decide) (by decide)]
theorem mH_fr {v w : Vf} {c t : Int32} (h : sameP v w) : mH w c t = mH v c t := by
  unfold mH mStiff
  rw [mPull_fr h, h 2 (by decide) (by decide) (by decide) (by decide), h 3 (by decide) (by decide) (by decide) (by decide), h 25 (by decide) (by decide) (by decide) (by decide)]
theorem mCost_fr {v w : Vf} {a b t : Int32} (h : sameP v w) : mCost w a b t = mCost v a b t := by
  unfold mCost mSl
  rw [mH_fr h, mH_fr h]
theorem mBes_fr {v w : Vf} {c way : Int32} (h : sameP v w) : mBes w c way = mBes v c way := by
  unfold mBes mIn
  rw [h 0 (by decide) (by decide) (by decide) (by decide), h 1 (by decide) (by decide) (by decide) (by decide)]
theorem mOpen_fr {v w : Vf} {k t : Int32} (h : sameP v w) : mOpen w k t = mOpen v k t := by
  unfold mOpen
  rw [mPull_fr h, h 13 (by decide) (by decide) (by decide) (by decide), h 15 (by decide) (by decide) (by decide) (by decide)]
theorem mBet_fr {v w : Vf} {a b : Int32} {k : Nat} (h : sameP v w) : mBet w a b k = mBet v a b k := by
  unfold mBet mB2 mOth
  rw [mBes_fr h, h 13 (by decide) (by decide) (by decide) (by decide), h 14 (by decide) (by decide) (by decide) (by decide)]
theorem mBarN_fr {v w : Vf} {a b t : Int32} (h : sameP v w) : ∀ n : Nat, mBarN w a b t n = mBarN v a b t n
  | 0 => rfl
  | n + 1 => by rw [mBarN_s, mBarN_s, mBarN_fr h n, mBet_fr h, mOpen_fr h]
theorem mGo_fr {v w : Vf} {c way t : Int32} (h : sameP v w) : mGo w c way t = mGo v c way t := by
  unfold mGo mBar
  rw [mBes_fr h, mBarN_fr h, mH_fr h, mH_fr h, h 12 (by decide) (by decide) (by decide) (by decide), h 29 (by decide) (by decide) (by decide) (by decide)]
/-! the draws -/
def nxt (s : Int32) : Int32 := (s * 1103515245 + 12345) &&& 2147483647
def dval (z n : Int32) : Int32 := z / 65536 - z / 65536 / n * n
theorem and31 (x : Int32) : (x &&& 2147483647).toInt = x.toInt % 2147483648 := by
  have h1 : (x &&& 2147483647).toBitVec = x.toBitVec &&& 2147483647#32 := rfl
  have h2 : (x.toBitVec &&& 2147483647#32).toNat = x.toBitVec.toNat % 2 ^ 31 := by
    rw [BitVec.toNat_and]
    exact Nat.and_two_pow_sub_one_eq_mod _ 31
  have h3 : (x &&& 2147483647).toInt = (x.toBitVec &&& 2147483647#32).toInt := by rw [← h1]; rfl
  have h4 : x.toInt = x.toBitVec.toInt := rfl
  have h5 := BitVec.toInt_eq_toNat_cond x.toBitVec
  have h6 := BitVec.toInt_eq_toNat_cond (x.toBitVec &&& 2147483647#32)
  have h7 : x.toBitVec.toNat < 2 ^ 32 := x.toBitVec.isLt
  rw [h3, h6, h2, h4, h5]
  split <;> split <;> omega
theorem seed_eq {s w : Int32} {x y z : Int64} (h : 0 ≤ s.toInt) (ex : x = s.toInt64 * 1103515245) (ey : y = x + 12345) (ez : z = y - y / 2147483648 * 2147483648) (ew : w = z.toInt32) : w = nxt s := by
  have hs := i_rng s
  have k1 : (1103515245 : Int64).toInt = 1103515245 := by decide
  have k2 : (12345 : Int64).toInt = 12345 := by decide
  have k3 : (2147483648 : Int64).toInt = 2147483648 := by decide
  have h1 : x.toInt = s.toInt * 1103515245 := by
    rw [ex, Int64.toInt_mul, Int32.toInt_toInt64, k1, l_bmod (by omega)]
  have h2 : y.toInt = s.toInt * 1103515245 + 12345 := by
    rw [ey, Int64.toInt_add, h1, k2, l_bmod (by omega)]
  have h3 : (y / 2147483648).toInt = y.toInt / 2147483648 := by
    rw [Int64.toInt_div_of_ne_right y _ (by decide), k3, Int.tdiv_eq_ediv_of_nonneg (by omega)]
  have h4 : (y / 2147483648 * 2147483648).toInt = y.toInt / 2147483648 * 2147483648 := by
    rw [Int64.toInt_mul, h3, k3, l_bmod (by omega)]
  have h5 : z.toInt = y.toInt - y.toInt / 2147483648 * 2147483648 := by
    rw [ez, Int64.toInt_sub, h4, l_bmod (by omega)]
  have h6 : w.toInt = z.toInt := by
    rw [ew, Int64.toInt_toInt32]
    exact i_bmod (by omega)
  refine i_eqr ?_
  unfold nxt
  rw [and31, Int32.toInt_add, Int32.toInt_mul, show (1103515245 : Int32).toInt = 1103515245 by decide, show (12345 : Int32).toInt = 12345 by decide, h6, h5, h2]
  generalize s.toInt * 1103515245 = m
  have b1 := Int.bmod_def m (2 ^ 32)
  have b2 := Int.bmod_def (m.bmod (2 ^ 32) + 12345) (2 ^ 32)
  omega
theorem dv_eq {z n q r : Int32} (hz : 0 ≤ z.toInt) (hn : 1 ≤ n.toInt) (eq_ : q = z / 65536) (hr : r.toInt = q.toInt % n.toInt) : r = dval z n := by
  have td := i_div (z := z / 65536) rfl hz (by decide)
  have tr := i_rem (z := z / 65536 - z / 65536 / n * n) rfl td.2.1 (by omega)
  unfold dval
  exact i_eqr (by rw [hr, tr.1, eq_])
theorem rol_z {vm vp vs : Vf} (hR : RW vm vp vs) (h : (vp 0 0).toInt * (vp 1 0).toInt = 0) : (vm 0 0).toInt = 0 := by
  rw [hR.1.1.1, hR.1.1.2.1] at h
  rcases hR.2.2.2.1.2.2.1 with q | q
  · have := mul_pos1 q.1 q.2
    omega
  · exact q.1
theorem rol_w {vm vp vs : Vf} (hR : RW vm vp vs) (h : 1 ≤ (vp 0 0).toInt * (vp 1 0).toInt) : 1 ≤ (vm 0 0).toInt := by
  rw [hR.1.1.1, hR.1.1.2.1] at h
  exact wd_pos hR.2.2.2.1.1.1.1 h
theorem rol_c {vm vp vs : Vf} (hR : RW vm vp vs) (hW : 1 ≤ (vm 0 0).toInt) : cW vm (vs 4 0) := by
  have e : vs 4 0 = vm 27 0 := hR.2.1.2.2.2.2.1
  have q := hR.2.2.1.2
  have b := hR.2.2.2.1.2.2.2.2.2.1.2.2.2.1
  rw [e]
  exact ⟨b.1, q.resolve_left (by omega)⟩
theorem rol_pu {vm vp vs : Vf} {way there t push : Int32} (hR : RW vm vp vs) (hc : cW vm (vs 4 0)) (hp : PuP vm (vs 4 0) way there t push) (et : t = vs 0 0 + 1) : (push.toInt = -1 → (mGo vm (vm 27 0) way (vm 23 0 + 1)).toInt < 0) ∧ (push.toInt ≠ -1 → mGo vm (vm 27 0) way (vm 23 0 + 1) = there ∧ 0 ≤ there.toInt ∧ push = mCost vm (vm 27 0) there (vm 23 0 + 1)) := by
  have e4 : vs 4 0 = vm 27 0 := hR.2.1.2.2.2.2.1
  have e0 : vs 0 0 = vm 23 0 := hR.2.1.1
  rw [et, e4, e0] at hp
  rcases hp with ⟨h1, h2⟩ | ⟨h1, h2, h3, h4⟩
  · exact ⟨fun _ => by omega, fun q => absurd h2 q⟩
  · exact ⟨fun q => by omega, fun _ => ⟨h1, h2, h3⟩⟩
end
section
/-! ===== days by draws: a step of the reference's values, and both sides along it ===== -/
def lod (x : Int32) : Int32 := if x ≤ 90 then x else 90
theorem lod_min {y : Int32} : (if y < 90 then y else 90) = lod y := by
  unfold lod
  by_cases h : y < 90
  · rw [if_pos h, if_pos (Int32.le_of_lt h)]
  · rw [if_neg h]
    by_cases h2 : y ≤ 90
    · rw [if_pos h2]
      have q1 := i_nlt h
      have q2 := i_le h2
      exact i_eqr (by omega)
    · rw [if_neg h2]
theorem lod_b {a d : Int32} (ha : 0 ≤ a.toInt ∧ a.toInt ≤ 90) (hd : 0 ≤ d.toInt ∧ d.toInt ≤ 30) : 0 ≤ (lod (a + d)).toInt ∧ (lod (a + d)).toInt ≤ 90 := by
  have n90 : (90 : Int32).toInt = 90 := by decide
  have t := i_add (z := a + d) rfl (by omega)
  unfold lod
  by_cases h : a + d ≤ 90
  · rw [if_pos h]
    have q := i_le h
    omega
  · rw [if_neg h]
    omega
theorem nxt_nn (s : Int32) : 0 ≤ (nxt s).toInt := by
  unfold nxt
  rw [and31]
  exact Int.emod_nonneg _ (by decide)
theorem dval_b {z n : Int32} (hz : 0 ≤ z.toInt) (hn : 1 ≤ n.toInt) : 0 ≤ (dval z n).toInt ∧ (dval z n).toInt < n.toInt := by
  have td := i_div (z := z / 65536) rfl hz (by decide)
  have tr := i_rem (z := z / 65536 - z / 65536 / n * n) rfl td.2.1 (by omega)
  unfold dval
  exact ⟨tr.2.1, tr.2.2.1⟩
theorem cel_eq {r w d : Int32} (h : r.toInt = w.toInt * d.toInt) (hw : 0 ≤ w.toInt ∧ w.toInt ≤ 6) (hd : 0 ≤ d.toInt ∧ d.toInt ≤ 6) : r = w * d := i_eqr (by rw [h, (i_mul66 (z := w * d) rfl hw hd).1])
theorem pair_cls {vm : Vf} {r x w : Int32} (h : r = (x - x / w * w) * 10 + x / w) (e : w = vm 0 0) : r = mPair vm x := by
  unfold mPair
  rw [h, e, Int32.mul_comm 10]
def dr1 (v : Vf) : Vf := up2 v 30 0 (nxt (v 30 0))
def rlV (v : Vf) (tt : Int32) : Vf := up2 (up2 (up2 v 23 0 (v 23 0 + 1)) 28 0 (mHeld (v 28 0 + mCost v (v 27 0) tt (v 23 0 + 1)))) 27 0 tt
noncomputable def drG (v : Vf) : Int32 := mGo v (v 27 0) (dval (v 30 0) 5) (v 23 0 + 1)
noncomputable def drT (v : Vf) : Int32 := if (drG v).toInt < 0 then v 27 0 else drG v
def drL (v : Vf) (c : Int32) : Vf := up2 (dr1 v) 25 c.toNatClampNeg (lod (v 25 c.toNatClampNeg + dval (nxt (v 30 0)) 30))
def drW (v : Vf) : Vf := if dval (v 30 0) 12 = 0 then drL (dr1 v) (dval (nxt (v 30 0)) (v 0 0 * v 1 0)) else v
noncomputable def drS (v : Vf) : Vf := dr1 (rlV (dr1 v) (drT (dr1 v)))
noncomputable def drf (v : Vf) : Vf := drW (drS v)
noncomputable def drN (v : Vf) : Nat → Vf
  | 0 => v
  | n + 1 => drf (drN v n)
abbrev lDr : List Nat := [23, 25, 27, 28, 30]
theorem dr1_fr {v w : Vf} (h : fr lDr v w) : fr lDr v (dr1 w) := h.up (by decide)
theorem rlV_fr {v w : Vf} {tt : Int32} (h : fr lDr v w) : fr lDr v (rlV w tt) := ((h.up (by decide)).up (by decide)).up (by decide)
theorem drL_fr {v w : Vf} {c : Int32} (h : fr lDr v w) : fr lDr v (drL w c) := (dr1_fr h).up (by decide)
theorem drS_fr {v w : Vf} (h : fr lDr v w) : fr lDr v (drS w) := dr1_fr (rlV_fr (dr1_fr h))
theorem drf_fr {v w : Vf} (h : fr lDr v w) : fr lDr v (drf w) := by
  unfold drf drW
  split
  · exact drL_fr (dr1_fr (drS_fr h))
  · exact drS_fr h
theorem drN_fr {v : Vf} : ∀ n : Nat, fr lDr v (drN v n)
  | 0 => fr.rf
  | n + 1 => drf_fr (drN_fr n)
/-! the reference: all that it has, but for places of rows of one -/
def Ag (v w : Vf) : Prop := sameP v w ∧ w 23 0 = v 23 0 ∧ w 27 0 = v 27 0 ∧ w 28 0 = v 28 0 ∧ w 30 0 = v 30 0
theorem Ag.rf {v : Vf} : Ag v v := ⟨fun _ _ _ _ _ => rfl, rfl, rfl, rfl, rfl⟩
theorem Ag.draw {v w w' : Vf} (h : Ag v w) (hf : fr [30] w w') (e : w' 30 0 = nxt (w 30 0)) : Ag (dr1 v) w' := by
  refine ⟨fun t h1 h2 h3 h4 => ?_, ?_, ?_, ?_, ?_⟩
  · rw [hf t (fun q => h4 (List.mem_singleton.mp q)), h.1 t h1 h2 h3 h4]
    exact (up2_ne h4).symm
  · rw [hf 23 (by decide)]
    exact h.2.1
  · rw [hf 27 (by decide)]
    exact h.2.2.1
  · rw [hf 28 (by decide)]
    exact h.2.2.2.1
  · rw [e, h.2.2.2.2]
    rfl
theorem Ag.roll {v w w' : Vf} {tt r : Int32} (h : Ag v w) (hf : fr [23, 27, 28] w w') (e1 : w' 23 0 = w 23 0 + 1) (e2 : w' 27 0 = tt) (e3 : w' 28 0 = mHeld (w 28 0 + r)) (er : r = mCost w (w 27 0) tt (w 23 0 + 1)) : Ag (rlV v tt) w' := by
  refine ⟨fun t h1 h2 h3 h4 => ?_, ?_, ?_, ?_, ?_⟩
  · have hn : t ∉ [23, 27, 28] := fun q => by
      rcases List.mem_cons.mp q with q | q
      · exact h1 q
      · rcases List.mem_cons.mp q with q | q
        · exact h2 q
        · exact h3 (List.mem_singleton.mp q)
    rw [hf t hn, h.1 t h1 h2 h3 h4]
    exact ((up2_ne h2).trans ((up2_ne h3).trans (up2_ne h1))).symm
  · rw [e1, h.2.1]
    rfl
  · rw [e2]
    rfl
  · rw [e3, er, h.2.2.2.1, h.2.2.1, h.2.1, mCost_fr h.1]
    rfl
  · rw [hf 30 (by decide)]
    exact h.2.2.2.2
theorem Ag.load {v w w' : Vf} {k : Nat} {x : Int32} (h : Ag v w) (e : up2 w 25 k x = w') : Ag (up2 v 25 k x) w' := by
  subst e
  refine ⟨fun t h1 h2 h3 h4 => ?_, h.2.1, h.2.2.1, h.2.2.2.1, h.2.2.2.2⟩
  show cond (Nat.beq t 25) (upd (w t) k x) (w t) = cond (Nat.beq t 25) (upd (v t) k x) (v t)
  rw [h.1 t h1 h2 h3 h4]
theorem Ag.goes {v w : Vf} {r c way t : Int32} (h : Ag v w) (hr : r = mGo w c way t) (ec : c = v 27 0) (ew : way = dval (v 30 0) 5) (et : t = w 23 0 + 1) : r = drG v := by
  rw [hr, mGo_fr h.1, ec, ew, et, h.2.1]
  rfl
theorem Ag.takes {v w w' : Vf} {c x l : Int32} {n : Int32} (h : Ag v w) (hz : dval (v 30 0) 12 = 0) (hc : c = dval (nxt (w 30 0)) n) (hn : n = w 0 0 * w 1 0) {u : Vf} (h1 : Ag (dr1 v) u) {y : Vf} (h2 : Ag (dr1 (dr1 v)) y) (hx : x = lod l) (hl : l = u 25 c.toNatClampNeg + dval (nxt (u 30 0)) 30) (e : up2 y 25 c.toNatClampNeg x = w') : Ag (drW v) w' := by
  have q := h2.load e
  have e0 : w 0 = v 0 := h.1 0 (by decide) (by decide) (by decide) (by decide)
  have e1 : w 1 = v 1 := h.1 1 (by decide) (by decide) (by decide) (by decide)
  have hc2 : c = dval (nxt (v 30 0)) (v 0 0 * v 1 0) := by rw [hc, hn, h.2.2.2.2, e0, e1]
  have hl2 : l = dr1 v 25 c.toNatClampNeg + dval (nxt (dr1 v 30 0)) 30 := by rw [hl, h1.1 25 (by decide) (by decide) (by decide) (by decide), h1.2.2.2.2]
  unfold drW
  rw [if_pos hz, ← hc2]
  unfold drL
  rw [← hl2, ← hx]
  exact q
theorem Ag.not {v w : Vf} (h : Ag v w) (hz : ¬ dval (v 30 0) 12 = 0) : Ag (drW v) w := by
  unfold drW
  rw [if_neg hz]
  exact h
/-! the class -/
def keepP (v w : Vf) : Prop := ∀ t, t ≤ 22 → w t = v t
theorem rqp_fr {v w vp : Vf} (h : keepP v w) (q : RqP v vp) : RqP w vp := by
  unfold RqP RqG RqMs RqM RqH RqK RqW RqD at q ⊢
  rw [h 0 (by decide), h 1 (by decide), h 2 (by decide), h 3 (by decide), h 4 (by decide), h 5 (by decide), h 6 (by decide), h 7 (by decide), h 8 (by decide), h 9 (by decide), h 10 (by decide), h 11 (by decide), h 12 (by decide), h 13 (by decide), h 14 (by decide), h 15 (by decide), h 16 (by decide), h 17 (by decide), h 18 (by decide), h 19 (by decide), h 20 (by decide), h 21 (by decide)]
  exact q
theorem okm_fr {v w : Vf} (h : keepP v w) (q : okM v) : okM w := by
  unfold okM at q ⊢
  rw [h 0 (by decide), h 1 (by decide), h 4 (by decide), h 5 (by decide), h 9 (by decide), h 10 (by decide), h 11 (by decide), h 12 (by decide), h 13 (by decide), h 14 (by decide), h 16 (by decide), h 17 (by decide), h 22 (by decide)]
  exact q
theorem mh_seed {v : Vf} {x : Int32} (h : MdH v) (hx : 0 ≤ x.toInt) : MdH (up2 v 30 0 x) := ⟨h.1, h.2.1, h.2.2.1, h.2.2.2.1, h.2.2.2.2.1, ⟨h.2.2.2.2.2.1.1, h.2.2.2.2.2.1.2.1, h.2.2.2.2.2.1.2.2.1, h.2.2.2.2.2.1.2.2.2.1, h.2.2.2.2.2.1.2.2.2.2.1, hx⟩, h.2.2.2.2.2.2⟩
theorem mh_roll {v : Vf} {t p c : Int32} (h : MdH v) (ht : 0 ≤ t.toInt ∧ t.toInt ≤ 900000) (hc : 0 ≤ c.toInt ∧ c.toInt ≤ 23) : MdH (up2 (up2 (up2 v 23 0 t) 28 0 p) 27 0 c) := ⟨h.1, h.2.1, h.2.2.1, h.2.2.2.1, h.2.2.2.2.1, ⟨ht, h.2.2.2.2.2.1.2.1, h.2.2.2.2.2.1.2.2.1, hc, h.2.2.2.2.2.1.2.2.2.2⟩, h.2.2.2.2.2.2⟩
theorem mh_load {v : Vf} {x : Int32} {j : Nat} (h : MdH v) (hx : 0 ≤ x.toInt ∧ x.toInt ≤ 90) : MdH (up2 v 25 j x) := ⟨h.1, h.2.1, h.2.2.1, h.2.2.2.1, h.2.2.2.2.1, ⟨h.2.2.2.2.2.1.1, h.2.2.2.2.2.1.2.1, upd_b h.2.2.2.2.2.1.2.2.1 hx.1 hx.2, h.2.2.2.2.2.1.2.2.2⟩, h.2.2.2.2.2.2⟩
theorem RW.draw {vm vp vs vs' : Vf} {z : Int32} (h : RW vm vp vs) (e : vs' = up2 vs 7 0 z) (ez : z = nxt (vs 7 0)) : RW (dr1 vm) vp vs' := by
  obtain ⟨hP, hL, hS, hH, hO⟩ := h
  have e7 : vs 7 0 = vm 30 0 := hL.2.2.2.2.2.2.2
  subst e
  have kp : keepP vm (dr1 vm) := fun t ht => up2_ne (by omega)
  refine ⟨rqp_fr kp hP, ⟨hL.1, hL.2.1, hL.2.2.1, hL.2.2.2.1, hL.2.2.2.2.1, hL.2.2.2.2.2.1, hL.2.2.2.2.2.2.1, ?_⟩, hS, mh_seed hH (nxt_nn _), okm_fr kp hO⟩
  show z = nxt (vm 30 0)
  rw [ez, e7]
theorem RW.roll {vm vp vs vs' : Vf} {tt push : Int32} (h : RW vm vp vs) (hc : cW vm tt) (hs : (vm 23 0).toInt ≤ 899999) (hf : fr [0, 4, 5] vs vs') (e4 : vs' 4 0 = tt) (e0 : vs' 0 0 = vs 0 0 + 1) (e5 : vs' 5 0 = mHeld (vs 5 0 + push)) (ep : push = mCost vm (vm 27 0) tt (vm 23 0 + 1)) : RW (rlV vm tt) vp vs' := by
  obtain ⟨hP, hL, hS, hH, hO⟩ := h
  have l0 : vs 0 0 = vm 23 0 := hL.1
  have l5 : vs 5 0 = vm 28 0 := hL.2.2.2.2.2.1
  have kp : keepP vm (rlV vm tt) := fun t ht => (up2_ne (by omega)).trans ((up2_ne (by omega)).trans (up2_ne (by omega)))
  have b23 := hH.2.2.2.2.2.1.1
  have n1 : (1 : Int32).toInt = 1 := by decide
  have t1 := i_add (z := vm 23 0 + 1) rfl (by omega)
  have h24 := hH.1.2.2
  have hc2 := hc.2
  refine ⟨rqp_fr kp hP, ⟨?_, ?_, ?_, ?_, ?_, ?_, ?_, ?_⟩, ⟨hS.1, Or.inr hc.2⟩, mh_roll hH (by omega) ⟨hc.1, by omega⟩, okm_fr kp hO⟩
  · rw [e0, l0]
    rfl
  · rw [hf 1 (by decide)]
    exact hL.2.1
  · rw [hf 2 (by decide)]
    exact hL.2.2.1
  · rw [hf 3 (by decide)]
    exact hL.2.2.2.1
  · rw [e4]
    rfl
  · rw [e5, l5, ep]
    rfl
  · rw [hf 6 (by decide)]
    exact hL.2.2.2.2.2.2.1
  · rw [hf 7 (by decide)]
    exact hL.2.2.2.2.2.2.2
theorem RW.load {vm vp vs vs' : Vf} {k : Nat} {x : Int32} (h : RW vm vp vs) (e : up2 vs 2 k x = vs') (hx : 0 ≤ x.toInt ∧ x.toInt ≤ 90) : RW (up2 vm 25 k x) vp vs' := by
  subst e
  obtain ⟨hP, hL, hS, hH, hO⟩ := h
  have kp : keepP vm (up2 vm 25 k x) := fun t ht => up2_ne (by omega)
  refine ⟨rqp_fr kp hP, ⟨hL.1, hL.2.1, fun j hj => ?_, hL.2.2.2⟩, hS, mh_load hH hx, okm_fr kp hO⟩
  show upd (vs 2) k x j = upd (vm 25) k x j
  by_cases q : j = k
  · subst q
    rw [updA, updA]
  · rw [updN q, updN q]
    exact hL.2.2.1 j hj
theorem cost_self {v : Vf} {a t : Int32} : mCost v a a t = 0 := by
  unfold mCost mSl
  rw [if_pos rfl]
  rfl
/-- what the class makes of the draw of a way -/
def DrO (V : Vf) (cart there push : Int32) : Prop := cW V cart ∧ V 27 0 = cart ∧ (push.toInt = -1 → drT V = cart) ∧ (push.toInt ≠ -1 → drT V = there ∧ cW V there ∧ push = mCost V (V 27 0) there (V 23 0 + 1))
theorem dr_cls {V vp vs : Vf} {way there t push : Int32} (hR : RW V vp vs) (hg : (-1 : Int32) = V 62 0) (hce : 1 ≤ (vp 0 0).toInt * (vp 1 0).toInt) (hw : way = dval (V 30 0) 5) (hwr : 0 ≤ way.toInt ∧ way.toInt ≤ 4) (hb : ∀ vm : Vf, vp 0 0 = vm 0 0 → vp 1 0 = vm 1 0 → mdG vm → 1 ≤ (vp 0 0).toInt → (0 ≤ way.toInt ∧ way.toInt ≤ 4) → there = mBes vm (vs 4 0) way) (hp : ∀ vm : Vf, RW vm vp vs → (-1 : Int32) = vm 62 0 → ∀ way : Int32, (0 ≤ way.toInt ∧ way.toInt ≤ 4) → there = mBes vm (vs 4 0) way → cW vm (vs 4 0) → PuP vm (vs 4 0) way there t push) (et : t = vs 0 0 + 1) : DrO V (vs 4 0) there push := by
  have hG := hR.2.2.2.1.1
  have hW := rol_w hR hce
  have hcc := rol_c hR hW
  have hb2 := hb V hR.1.1.1 hR.1.1.2.1 hG (by rw [hR.1.1.1]; exact hW) hwr
  have hq := rol_pu hR hcc (hp V hR hg way hwr hb2 hcc) et
  have e4 : vs 4 0 = V 27 0 := hR.2.1.2.2.2.2.1
  refine ⟨hcc, e4.symm, fun h => ?_, fun h => ?_⟩
  · have z := hq.1 h
    rw [hw] at z
    unfold drT drG
    rw [if_pos z, e4]
  · obtain ⟨z1, z2, z3⟩ := hq.2 h
    rw [hw] at z1
    refine ⟨?_, ?_, z3⟩
    · unfold drT drG
      rw [z1, if_neg (by omega)]
    · rw [hb2] at z2 ⊢
      exact bes_cW hG z2
theorem dr_stay {V vp vs vs' : Vf} {there push : Int32} (hR : RW V vp vs) (h : DrO V (vs 4 0) there push) (hs : (V 23 0).toInt ≤ 899999) (hp : push.toInt = -1) (hf : fr [0, 4, 5] vs vs') (e : vs' 4 0 = vs 4 0 ∧ vs' 0 0 = vs 0 0 + 1 ∧ vs' 5 0 = mHeld (vs 5 0 + 0)) : RW (rlV V (drT V)) vp vs' := by
  rw [h.2.2.1 hp]
  exact hR.roll h.1 hs hf e.1 e.2.1 e.2.2 (by rw [h.2.1, cost_self])
theorem dr_go {V vp vs vs' : Vf} {there push : Int32} (hR : RW V vp vs) (h : DrO V (vs 4 0) there push) (hs : (V 23 0).toInt ≤ 899999) (hp : push.toInt ≠ -1) (hf : fr [0, 4, 5] vs vs') (e : vs' 4 0 = there ∧ vs' 0 0 = vs 0 0 + 1 ∧ vs' 5 0 = mHeld (vs 5 0 + push)) : RW (rlV V (drT V)) vp vs' := by
  obtain ⟨q1, q2, q3⟩ := h.2.2.2 hp
  rw [q1]
  exact hR.roll q2 hs hf e.1 e.2.1 e.2.2 q3
theorem dr_no {V vp vs : Vf} (hR : RW V vp vs) (e : ¬ dval (vs 7 0) 12 = 0) : RW (drW V) vp vs := by
  have e7 : vs 7 0 = V 30 0 := hR.2.1.2.2.2.2.2.2.2
  rw [e7] at e
  unfold drW
  rw [if_neg e]
  exact hR
theorem dr_yes {V vp vs vs1 vs2 vs3 : Vf} {c x : Int32} (hR : RW V vp vs) (e : dval (vs 7 0) 12 = 0) (hR1 : RW (dr1 V) vp vs1) (hR2 : RW (dr1 (dr1 V)) vp vs2) (hc : c = dval (nxt (vs 7 0)) (vp 2 0)) (h2 : (vp 2 0).toInt = (vp 0 0).toInt * (vp 1 0).toInt) (hcb : 0 ≤ c.toInt ∧ c.toInt ≤ 23) (hx : x = lod (vs1 2 c.toNatClampNeg + dval (nxt (vs1 7 0)) 30)) (e3 : up2 vs2 2 c.toNatClampNeg x = vs3) : RW (drW V) vp vs3 := by
  have e7 : vs 7 0 = V 30 0 := hR.2.1.2.2.2.2.2.2.2
  have hG := hR.2.2.2.1.1
  have ep : vp 2 0 = V 0 0 * V 1 0 := cel_eq (by rw [h2, hR.1.1.1, hR.1.1.2.1]) hG.1 hG.2.1
  have hk : c.toNatClampNeg < 24 := i_natlt (by omega) (by decide)
  have l25 : vs1 2 c.toNatClampNeg = dr1 V 25 c.toNatClampNeg := hR1.2.1.2.2.1 _ hk
  have l30 : vs1 7 0 = dr1 V 30 0 := hR1.2.1.2.2.2.2.2.2.2
  have b25 := hR1.2.2.2.1.2.2.2.2.2.1.2.2.1 _ hk
  have bd := dval_b (nxt_nn (dr1 V 30 0)) (show 1 ≤ (30 : Int32).toInt by decide)
  have n30 : (30 : Int32).toInt = 30 := by decide
  rw [l25, l30] at hx
  have hxb : 0 ≤ x.toInt ∧ x.toInt ≤ 90 := by
    rw [hx]
    exact lod_b b25 (by omega)
  have q := hR2.load e3 hxb
  have hc2 : c = dval (nxt (V 30 0)) (V 0 0 * V 1 0) := by rw [hc, e7, ep]
  rw [e7] at e
  unfold drW
  rw [if_pos e, ← hc2]
  unfold drL
  rw [← hx]
  exact q
theorem dr_loop {vm vp vs vs' : Vf} {a b : Nat} (h : RW (drN vm a) vp vs ∧ (-1 : Int32) = drN vm a 62 0) (hf : ∀ vm : Vf, RW vm vp vs → (-1 : Int32) = vm 62 0 → (vm 23 0).toInt ≤ 899999 → RW (drf vm) vp vs') (hs : (vs 0 0).toInt ≤ 899999) (e : b = a + 1) : RW (drN vm b) vp vs' ∧ (-1 : Int32) = drN vm b 62 0 := by
  subst e
  have l0 : vs 0 0 = drN vm a 23 0 := h.1.2.1.1
  refine ⟨hf _ h.1 h.2 (by rw [← l0]; exact hs), ?_⟩
  show (-1 : Int32) = drf (drN vm a) 62 0
  rw [drf_fr (fr.rf (v := drN vm a)) 62 (by decide)]
  exact h.2
def DriP (vm : Vf) (n r : Int32) (same new : Prop) : Prop := (r.toInt = -1000000002 ∧ (n.toInt < 1 ∨ 99 < n.toInt) ∧ same) ∨ ((1 ≤ n.toInt ∧ n.toInt ≤ 99) ∧ ((r.toInt = -1000000003 ∧ (vm 0 0).toInt = 0 ∧ same) ∨ ((vm 0 0).toInt ≠ 0 ∧ ((r.toInt = -1000000004 ∧ 899000 < (vm 23 0).toInt ∧ same) ∨ ((vm 23 0).toInt ≤ 899000 ∧ new ∧ r = mPair vm (drN vm n.toNatClampNeg 27 0))))))
theorem dri_end {vm vp vs vsk : Vf} {n i r : Int32} (hR : RW vm vp vs) (hk : RW (drN vm i.toNatClampNeg) vp vsk) (ei : i = n) (hp : 1 ≤ (vp 0 0).toInt → r = (vsk 4 0 - vsk 4 0 / vp 0 0 * vp 0 0) * 10 + vsk 4 0 / vp 0 0) (hW : 1 ≤ (vm 0 0).toInt) : RW (drN vm n.toNatClampNeg) vp vsk ∧ r = mPair vm (drN vm n.toNatClampNeg 27 0) := by
  subst ei
  have e4 : vsk 4 0 = drN vm i.toNatClampNeg 27 0 := hk.2.1.2.2.2.2.1
  have q := pair_cls (hp (by rw [hR.1.1.1]; exact hW)) hR.1.1.1
  rw [e4] at q
  exact ⟨hk, q⟩
theorem drm_end {vm vmk : Vf} {n i r : Int32} (hA : Ag (drN vm i.toNatClampNeg) vmk) (ei : i = n) (hp : r = mPair vmk (vmk 27 0)) : Ag (drN vm n.toNatClampNeg) vmk ∧ r = mPair vm (drN vm n.toNatClampNeg 27 0) := by
  subst ei
  refine ⟨hA, ?_⟩
  have e0 : vmk 0 = vm 0 := (hA.1 0 (by decide) (by decide) (by decide) (by decide)).trans (drN_fr _ 0 (by decide))
  rw [hp, hA.2.2.1]
  unfold mPair
  rw [e0]
theorem dri_eq {vm : Vf} {n r q : Int32} {s1 n1 s2 n2 : Prop} (h1 : DriP vm n r s1 n1) (h2 : DriP vm n q s2 n2) : r.toInt = q.toInt ∧ ((s1 ∧ s2) ∨ (n1 ∧ n2)) := by
  rcases h1 with ⟨a1, a2, a3⟩ | ⟨a0, ⟨a1, a2, a3⟩ | ⟨az, ⟨a1, a2, a3⟩ | ⟨a1, a2, a3⟩⟩⟩
  · rcases h2 with ⟨b1, b2, b3⟩ | ⟨b0, -⟩
    · exact ⟨by omega, Or.inl ⟨a3, b3⟩⟩
    · omega
  · rcases h2 with ⟨b1, b2, b3⟩ | ⟨b0, ⟨b1, b2, b3⟩ | ⟨bz, -⟩⟩
    · omega
    · exact ⟨by omega, Or.inl ⟨a3, b3⟩⟩
    · exact absurd a2 bz
  · rcases h2 with ⟨b1, b2, b3⟩ | ⟨b0, ⟨b1, b2, b3⟩ | ⟨bz, ⟨b1, b2, b3⟩ | ⟨b1, b2, b3⟩⟩⟩
    · omega
    · exact absurd b2 az
    · exact ⟨by omega, Or.inl ⟨a3, b3⟩⟩
    · omega
  · rcases h2 with ⟨b1, b2, b3⟩ | ⟨b0, ⟨b1, b2, b3⟩ | ⟨bz, ⟨b1, b2, b3⟩ | ⟨b1, b2, b3⟩⟩⟩
    · omega
    · exact absurd b2 az
    · omega
    · exact ⟨by rw [a3, b3], Or.inr ⟨a2, b2⟩⟩
theorem fn3 {f g : Nat → Int32} (h0 : f 0 = g 0) (h1 : f 1 = g 1) (h2 : f 2 = g 2) : ∀ j, j < 3 → f j = g j := by
  intro j hj
  rcases (show j = 0 ∨ j = 1 ∨ j = 2 by omega) with rfl | rfl | rfl
  · exact h0
  · exact h1
  · exact h2
/-! rows that grow by one -/
def RowP (r n : Int32) (f f' : Nat → Int32) (x : Int32) : Prop := (r.toInt < 0 ∧ f' = f) ∨ (0 ≤ r.toInt ∧ f' = upd f n.toNatClampNeg x)
def SeeR (r n W x y t h : Int32) (f1 f2 f3 g1 g2 g3 : Nat → Int32) : Prop := (r.toInt < 0 ∧ g1 = f1 ∧ g2 = f2 ∧ g3 = f3) ∨ (0 ≤ r.toInt ∧ ∃ c : Int32, c.toInt = W.toInt * y.toInt + x.toInt ∧ g1 = upd f1 n.toNatClampNeg c ∧ g2 = upd f2 n.toNatClampNeg t ∧ g3 = upd f3 n.toNatClampNeg h)
end
section
/-! ===== reads of the class against the reference's functions ===== -/
theorem mAbs_nn {x : Int32} (h : -1000000 ≤ x.toInt ∧ x.toInt ≤ 1000000) : 0 ≤ (mAbs x).toInt := by
  have n0 : (0 : Int32).toInt = 0 := by decide
  unfold mAbs
  by_cases q : x < 0
  · rw [if_pos q, neg_sub0]
    have q2 := i_lt q
    rw [i_sub (z := 0 - x) rfl (by omega)]
    omega
  · rw [if_neg q]
    have q2 := i_nlt q
    omega
theorem mMx_0 {a : Int32} (h : 0 ≤ a.toInt) : mMx a (mAbs 0) = a := by
  have e : mAbs 0 = 0 := by decide
  have n0 : (0 : Int32).toInt = 0 := by decide
  unfold mMx
  rw [e, if_neg (fun q => by have q2 := i_lt q; omega)]
theorem mMx_nn {a b : Int32} (h : 0 ≤ a.toInt) (hb : 0 ≤ b.toInt) : 0 ≤ (mMx a b).toInt := by
  unfold mMx
  split
  · exact hb
  · exact h
theorem abs_if {x : Int32} : (if 0 ≤ x then x else 0 - x) = mAbs x := by
  unfold mAbs
  by_cases q : 0 ≤ x
  · rw [if_pos q, if_neg (Int32.not_lt.mpr q)]
  · rw [if_neg q, if_pos (Int32.not_le.mp q), neg_sub0]
theorem lean_skip {v : Vf} {c t way way2 lean : Int32} (h : lean = mLeanN v c t (way.toInt - 1).toNat ∧ 0 ≤ lean.toInt) (hw : 1 ≤ way.toInt) (h2 : way2.toInt = way.toInt + 1) (hb : (mBes v c way).toInt < 0) : lean = mLeanN v c t (way2.toInt - 1).toNat ∧ 0 ≤ lean.toInt := by
  refine ⟨lean_m h.1 hw h2 ?_, h.2⟩
  unfold mDif
  rw [if_pos hb, mMx_0 h.2]
theorem lean_next {v : Vf} {c t way way2 lean to x y z hr : Int32} {ht : Int32} (h : lean = mLeanN v c t (way.toInt - 1).toNat ∧ 0 ≤ lean.toInt) (hw : 1 ≤ way.toInt) (h2 : way2.toInt = way.toInt + 1) (hH : MdH v) (hW : 1 ≤ (v 0 0).toInt) (hc : 0 ≤ c.toInt ∧ c.toInt ≤ 23) (hto : 0 ≤ to.toInt ∧ to.toInt ≤ 23) (htt : 0 ≤ t.toInt ∧ t.toInt ≤ 2000000) (hb : to = mBes v c way) (e1 : ht = mH v to t) (e2 : hr = mH v c t) (e3 : x = ht - hr) (e4 : y = if 0 ≤ x then x else 0 - x) (e5 : z = if lean < y then y else lean) : z = mLeanN v c t (way2.toInt - 1).toNat ∧ 0 ≤ z.toInt := by
  have b1 := mH_b hH hW hto htt
  have b2 := mH_b hH hW hc htt
  rw [← e1] at b1
  rw [← e2] at b2
  have t3 := i_sub e3 (by omega)
  have ed : x = mDif v c t way := by
    unfold mDif
    rw [← hb, if_neg (show ¬ to.toInt < 0 by omega), e3, e1, e2]
  have ey : y = mAbs x := by rw [e4, abs_if]
  have ez : z = mMx lean (mAbs (mDif v c t way)) := by rw [e5, ey, ed]; rfl
  refine ⟨lean_m h.1 hw h2 ez, ?_⟩
  rw [ez, ← ed]
  exact mMx_nn h.2 (mAbs_nn (by omega))
theorem per_eq {vm vp vs : Vf} {r : Int32} (hR : RW vm vp vs) (h : r.toInt = perI (fun j => (vp (20 + 10 * j) 0).toInt) (vp 5 0).toInt.toNat) : r = vm 22 0 := by
  have h22 := hR.2.2.2.2.2.2.2.2.1
  have h4 := hR.2.2.2.1.2.1.1
  have e5 : vp 5 0 = vm 4 0 := hR.1.2.1.1
  refine i_eqr ?_
  rw [h, h22, e5]
  refine perI_congr _ (fun j hj => ?_)
  have hj3 : j < 3 := by omega
  rcases (show j = 0 ∨ j = 1 ∨ j = 2 by omega) with rfl | rfl | rfl
  · show (vp 20 0).toInt = _
    rw [(hR.1.2.1.2.1.1 (by omega)).1.1]
  · show (vp 30 0).toInt = _
    rw [(hR.1.2.1.2.2.1.1 (by omega)).1.1]
  · show (vp 40 0).toInt = _
    rw [(hR.1.2.1.2.2.2.1 (by omega)).1.1]
/-! answers: refusals first -/
def UnkP (ok : Prop) (r : Int32) (P : Prop) : Prop := (r.toInt = -1000000001 ∧ ¬ ok) ∨ (ok ∧ P)
def OutP (ok : Prop) (r : Int32) (P : Prop) : Prop := (r.toInt = -1000000002 ∧ ¬ ok) ∨ (ok ∧ P)
def NotP (ok : Prop) (r : Int32) (P : Prop) : Prop := (r.toInt = -1000000003 ∧ ¬ ok) ∨ (ok ∧ P)
theorem unk_eq {ok : Prop} {r q : Int32} {P Q : Prop} (h1 : UnkP ok r P) (h2 : UnkP ok q Q) (h : P → Q → r.toInt = q.toInt) : r.toInt = q.toInt := by
  rcases h1 with ⟨a1, a2⟩ | ⟨a1, a2⟩
  · rcases h2 with ⟨b1, b2⟩ | ⟨b1, b2⟩
    · omega
    · exact absurd b1 a2
  · rcases h2 with ⟨b1, b2⟩ | ⟨b1, b2⟩
    · exact absurd a1 b2
    · exact h a2 b2
theorem out_eq {ok : Prop} {r q : Int32} {P Q : Prop} (h1 : OutP ok r P) (h2 : OutP ok q Q) (h : P → Q → r.toInt = q.toInt) : r.toInt = q.toInt := by
  rcases h1 with ⟨a1, a2⟩ | ⟨a1, a2⟩
  · rcases h2 with ⟨b1, b2⟩ | ⟨b1, b2⟩
    · omega
    · exact absurd b1 a2
  · rcases h2 with ⟨b1, b2⟩ | ⟨b1, b2⟩
    · exact absurd a1 b2
    · exact h a2 b2
theorem not_eq {ok : Prop} {r q : Int32} {P Q : Prop} (h1 : NotP ok r P) (h2 : NotP ok q Q) (h : P → Q → r.toInt = q.toInt) : r.toInt = q.toInt := by
  rcases h1 with ⟨a1, a2⟩ | ⟨a1, a2⟩
  · rcases h2 with ⟨b1, b2⟩ | ⟨b1, b2⟩
    · omega
    · exact absurd b1 a2
  · rcases h2 with ⟨b1, b2⟩ | ⟨b1, b2⟩
    · exact absurd a1 b2
    · exact h a2 b2
/-- an answer out of a table of what is asked -/
def TabP (n : Int) (w r : Int32) (a : Nat → Int32) : Prop := ((w.toInt < 0 ∨ n < w.toInt) ∧ r.toInt = -1000000002) ∨ ∃ k : Nat, w.toInt = k ∧ (k : Int) ≤ n ∧ r = a k
theorem tab_eq {n : Int} {w r q : Int32} {a : Nat → Int32} (h1 : TabP n w r a) (h2 : TabP n w q a) : r.toInt = q.toInt := by
  rcases h1 with ⟨a1, a2⟩ | ⟨k, a1, a2, a3⟩
  · rcases h2 with ⟨b1, b2⟩ | ⟨j, b1, b2, b3⟩
    · omega
    · omega
  · rcases h2 with ⟨b1, b2⟩ | ⟨j, b1, b2, b3⟩
    · omega
    · have e : k = j := by omega
      subst e
      rw [a3, b3]
theorem ans_eq {r q x : Int32} (h1 : r = x) (h2 : q = x) : r.toInt = q.toInt := by rw [h1, h2]
/-- the next of a period at which something holds -/
def NxP (P : Nat → Prop) (n : Int) (r : Int32) : Prop := (r.toInt = -1 ∧ ∀ i : Nat, (i : Int) < n → ¬ P i) ∨ ∃ k : Nat, r.toInt = k ∧ (k : Int) < n ∧ P k ∧ ∀ i : Nat, i < k → ¬ P i
theorem nx_eq {P : Nat → Prop} {n : Int} {r q : Int32} (h1 : NxP P n r) (h2 : NxP P n q) : r.toInt = q.toInt := by
  rcases h1 with ⟨a1, a2⟩ | ⟨k, a1, a2, a3, a4⟩
  · rcases h2 with ⟨b1, b2⟩ | ⟨j, b1, b2, b3, b4⟩
    · omega
    · exact absurd b3 (a2 j b2)
  · rcases h2 with ⟨b1, b2⟩ | ⟨j, b1, b2, b3, b4⟩
    · exact absurd a3 (b2 k a2)
    · rcases Nat.lt_trichotomy k j with z | z | z
      · exact absurd a3 (b4 k z)
      · omega
      · exact absurd b3 (a4 j z)
theorem nx_no {P : Nat → Prop} {i i2 : Int32} (h : ∀ j : Nat, (j : Int) < i.toInt → ¬ P j) (h0 : 0 ≤ i.toInt) (h1 : i2.toInt = i.toInt + 1) (hn : ¬ P i.toNatClampNeg) : ∀ j : Nat, (j : Int) < i2.toInt → ¬ P j := by
  intro j hj
  have e := i_nat h0
  by_cases q : j = i.toNatClampNeg
  · subst q
    exact hn
  · exact h j (by omega)
theorem nx_at {P : Nat → Prop} {n : Int} {i : Int32} (h : ∀ j : Nat, (j : Int) < i.toInt → ¬ P j) (h0 : 0 ≤ i.toInt) (hi : i.toInt < n) (hp : P i.toNatClampNeg) : NxP P n i := by
  have e := i_nat h0
  exact Or.inr ⟨i.toNatClampNeg, e.symm, by omega, hp, fun j hj => h j (by omega)⟩
theorem nx_end {P : Nat → Prop} {n : Int} {i r : Int32} (h : ∀ j : Nat, (j : Int) < i.toInt → ¬ P j) (hi : n ≤ i.toInt) (hr : r.toInt = -1) : NxP P n r := Or.inl ⟨hr, fun j hj => h j (by omega)⟩
def mC (v : Vf) (x y : Int32) : Int32 := v 0 0 * y + x
theorem mC_i {v : Vf} {x y : Int32} (hG : mdG v) (h : inG x y (v 0 0) (v 1 0)) : (mC v x y).toInt = (v 0 0).toInt * y.toInt + x.toInt := by
  obtain ⟨⟨x0, x1⟩, y0, y1⟩ := h
  have hb := mul_b (a := (v 0 0).toInt) (b := y.toInt) (A := 6) (B := 6) hG.1 (by have := hG.2.1; omega)
  have g := hG.1
  have t1 := i_mul (z := v 0 0 * y) rfl (by omega)
  have t2 := i_add (z := v 0 0 * y + x) rfl (by omega)
  unfold mC
  rw [t2, t1]
theorem mC_cW {v : Vf} {x y : Int32} (hG : mdG v) (h : inG x y (v 0 0) (v 1 0)) : cW v (mC v x y) := by
  have e := mC_i hG h
  have q := mcell_lt hG.1 hG.2.2 h.1.1 h.1.2 h.2.1 h.2.2
  have x0 := h.1.1
  exact ⟨by omega, by omega⟩
theorem mC_eq {v : Vf} {x y r W D : Int32} (hG : mdG v) (eW : W = v 0 0) (eD : D = v 1 0) (h : inG x y W D) (hr : r.toInt = W.toInt * y.toInt + x.toInt) : r = mC v x y := by
  subst eW
  subst eD
  exact i_eqr (by rw [hr, mC_i hG h])
def mTv (v : Vf) (k : Nat) : Int32 := match k with
  | 0 => v 0 0
  | 1 => v 1 0
  | 2 => v 4 0
  | 3 => v 9 0
  | 4 => v 12 0
  | 5 => v 16 0
  | 6 => v 19 0
  | 7 => v 32 0
  | 8 => v 23 0
  | 9 => v 22 0
  | 10 => if (v 0 0).toInt = 0 then 0 else mPair v (v 27 0)
  | 11 => v 28 0
  | 12 => v 29 0
  | 13 => v 67 0
  | _ => v 75 0
noncomputable def mCv (v : Vf) (c : Int32) (k : Nat) : Int32 := match k with
  | 0 => v 2 c.toNatClampNeg
  | 1 => v 3 c.toNatClampNeg
  | 2 => v 25 c.toNatClampNeg
  | 3 => mStiff v c
  | 4 => mPull v c (v 23 0)
  | 5 => mH v c (v 23 0)
  | _ => mLean v c (v 23 0)
def mMv (v : Vf) (i : Int32) (k : Nat) : Int32 := match k with
  | 0 => v 5 i.toNatClampNeg
  | 1 => v 6 i.toNatClampNeg
  | 2 => v 7 i.toNatClampNeg
  | 3 => v 24 i.toNatClampNeg
  | _ => mPart v i 0 (v 23 0)
theorem pair_told {vm vp vs : Vf} {r : Int32} (hR : RW vm vp vs) (h : ((vp 0 0).toInt < 1 → r = 0) ∧ (1 ≤ (vp 0 0).toInt → r = (vs 4 0 - vs 4 0 / vp 0 0 * vp 0 0) * 10 + vs 4 0 / vp 0 0)) : r = if (vm 0 0).toInt = 0 then 0 else mPair vm (vm 27 0) := by
  have e0 : vp 0 0 = vm 0 0 := hR.1.1.1
  have e4 : vs 4 0 = vm 27 0 := hR.2.1.2.2.2.2.1
  have g := hR.2.2.2.1.1.1
  by_cases q : (vm 0 0).toInt = 0
  · rw [if_pos q]
    exact h.1 (by rw [e0]; omega)
  · rw [if_neg q]
    have z := pair_cls (h.2 (by rw [e0]; omega)) e0
    rw [e4] at z
    exact z
theorem moons_w {vm vp vs : Vf} (hR : RW vm vp vs) (h : 1 ≤ (vm 4 0).toInt) : 1 ≤ (vm 0 0).toInt ∧ 1 ≤ (vm 0 0).toInt * (vm 1 0).toInt := by
  rcases hR.2.2.2.1.2.2.1 with q | q
  · exact ⟨q.1, mul_pos1 q.1 q.2⟩
  · omega
theorem part0_cls {vm vp vs : Vf} {m b0 b1 b2 b3 b4 : Nat} {k step x : Int32} (hR : RW vm vp vs) (hM : RqM vm vp m b0 b1 b2 b3 b4) (hm : (m : Int) < (vm 4 0).toInt) (hk : k.toInt = m) (hg : (-1 : Int32) = vm 62 0) (ht : 0 ≤ step.toInt ∧ step.toInt ≤ 2000000) (hx : x = vp b3 ((step.toInt + (vp b4 (0 : Int32).toNatClampNeg).toInt) % (vp b0 0).toInt + (vs 1 m).toInt).toNat) : x = mPart vm k 0 step := by
  have hw := moons_w hR (by omega)
  have n0 : (0 : Int32).toInt = 0 := by decide
  refine part_cls hR hM hm hk (by decide) (by rw [n0]; omega) ht (fun q => ?_) hx
  rw [← hg] at q
  rw [q] at hk
  rw [show (-1 : Int32).toInt = -1 by decide] at hk
  omega
end
section
/-! ===== houses, turns, aslant, the greatest pull, bells, deeds, odds, the book ===== -/
theorem mDif_b {v : Vf} {c t way : Int32} (hH : MdH v) (hW : 1 ≤ (v 0 0).toInt) (hc : 0 ≤ c.toInt ∧ c.toInt ≤ 23) (ht : 0 ≤ t.toInt ∧ t.toInt ≤ 2000000) : -585 ≤ (mDif v c t way).toInt ∧ (mDif v c t way).toInt ≤ 585 := by
  have b2 := mH_b hH hW hc ht
  unfold mDif
  by_cases q : (mBes v c way).toInt < 0
  · rw [if_pos q]
    decide
  · rw [if_neg q]
    have z := bes_cW (vm := v) (c := c) (way := way) hH.1 (by omega)
    have h24 := hH.1.2.2
    have z2 := z.2
    have b1 := mH_b hH hW (c := mBes v c way) ⟨z.1, by omega⟩ ht
    have s := i_sub (z := mH v (mBes v c way) t - mH v c t) rfl (by omega)
    omega
theorem mAbs_b {x : Int32} (h : -585 ≤ x.toInt ∧ x.toInt ≤ 585) : 0 ≤ (mAbs x).toInt ∧ (mAbs x).toInt ≤ 585 := by
  have n0 : (0 : Int32).toInt = 0 := by decide
  unfold mAbs
  by_cases q : x < 0
  · rw [if_pos q, neg_sub0]
    have q2 := i_lt q
    rw [i_sub (z := 0 - x) rfl (by omega)]
    omega
  · rw [if_neg q]
    have q2 := i_nlt q
    omega
theorem mMx_b {a b : Int32} (ha : 0 ≤ a.toInt ∧ a.toInt ≤ 585) (hb : 0 ≤ b.toInt ∧ b.toInt ≤ 585) : 0 ≤ (mMx a b).toInt ∧ (mMx a b).toInt ≤ 585 := by
  unfold mMx
  split
  · exact hb
  · exact ha
theorem mLeanN_b {v : Vf} {c t : Int32} (hH : MdH v) (hW : 1 ≤ (v 0 0).toInt) (hc : 0 ≤ c.toInt ∧ c.toInt ≤ 23) (ht : 0 ≤ t.toInt ∧ t.toInt ≤ 2000000) : ∀ n : Nat, 0 ≤ (mLeanN v c t n).toInt ∧ (mLeanN v c t n).toInt ≤ 585
  | 0 => by
    show 0 ≤ (0 : Int32).toInt ∧ (0 : Int32).toInt ≤ 585
    decide
  | n + 1 => mMx_b (mLeanN_b hH hW hc ht n) (mAbs_b (mDif_b hH hW hc ht))
noncomputable def mBrk (v : Vf) (h t : Int32) : Int32 := if mLean v (v 10 h.toNatClampNeg) t ≤ v 11 h.toNatClampNeg + v 26 h.toNatClampNeg then 0 else 1
noncomputable def mNeedN (v : Vf) (h : Int32) : Nat → Int32
  | 0 => 0
  | n + 1 => mMx (mNeedN v h n) (mLean v (v 10 h.toNatClampNeg) (Int32.ofNat n) - v 11 h.toNatClampNeg)
noncomputable def mNeed (v : Vf) (h : Int32) : Int32 := mNeedN v h (v 22 0).toNatClampNeg
theorem need_m {v : Vf} {h t t2 mo x d : Int32} (e : mo = mNeedN v h t.toNatClampNeg) (h0 : 0 ≤ t.toInt) (h2 : t2.toInt = t.toInt + 1) (hx : x = mLean v (v 10 h.toNatClampNeg) t - v 11 h.toNatClampNeg) (hd : d = mMx mo x) : d = mNeedN v h t2.toNatClampNeg := by
  rw [i_nat1 h0 h2]
  show d = mMx (mNeedN v h t.toNatClampNeg) (mLean v (v 10 h.toNatClampNeg) (Int32.ofNat t.toNatClampNeg) - v 11 h.toNatClampNeg)
  rw [i_ofN h0, ← hx, ← e]
  exact hd
def NeP (L : Nat → Int) (k : Int) (n : Nat) (r : Int) : Prop := (0 ≤ r ∧ r ≤ 585) ∧ (∀ i, i < n → L i - k ≤ r) ∧ (r = 0 ∨ ∃ i, i < n ∧ r = L i - k)
theorem ne_uniq {L : Nat → Int} {k : Int} {n : Nat} {a b : Int} (h1 : NeP L k n a) (h2 : NeP L k n b) : a = b := by
  obtain ⟨a1, a2, a3⟩ := h1
  obtain ⟨b1, b2, b3⟩ := h2
  rcases a3 with e | ⟨i, hi, e⟩
  · rcases b3 with e' | ⟨j, hj, e'⟩
    · omega
    · have := a2 j hj
      omega
  · rcases b3 with e' | ⟨j, hj, e'⟩
    · have := b2 i hi
      omega
    · have := b2 i hi
      have := a2 j hj
      omega
theorem ne_next {L : Nat → Int} {k : Int} {n : Nat} {mo x : Int32} (hk : 0 ≤ k ∧ k ≤ 99) (hL : 0 ≤ L n ∧ L n ≤ 585) (h : NeP L k n mo.toInt) (hx : x.toInt = L n - k) : NeP L k (n + 1) (mMx mo x).toInt := by
  obtain ⟨a1, a2, a3⟩ := h
  unfold mMx
  by_cases q : mo < x
  · rw [if_pos q]
    have q2 := i_lt q
    refine ⟨by omega, fun i hi => ?_, Or.inr ⟨n, by omega, hx⟩⟩
    by_cases e : i = n
    · subst e
      omega
    · have := a2 i (by omega)
      omega
  · rw [if_neg q]
    have q2 := i_nlt q
    refine ⟨a1, fun i hi => ?_, a3.imp id (fun ⟨i, hi, e⟩ => ⟨i, by omega, e⟩)⟩
    by_cases e : i = n
    · subst e
      omega
    · exact a2 i (by omega)
noncomputable def leI (v : Vf) (h : Int32) (i : Nat) : Int := (mLean v (v 10 h.toNatClampNeg) (Int32.ofNat i)).toInt
theorem leI_b {v : Vf} {h : Int32} (hH : MdH v) (hW : 1 ≤ (v 0 0).toInt) (hc : 0 ≤ (v 10 h.toNatClampNeg).toInt ∧ (v 10 h.toNatClampNeg).toInt ≤ 23) {n : Nat} (hn : n ≤ 729) : 0 ≤ leI v h n ∧ leI v h n ≤ 585 := by
  have e : (Int32.ofNat n).toInt = (n : Int) := Int32.toInt_ofNat_of_lt (by omega)
  exact mLeanN_b hH hW hc (by omega) 4
theorem need_p {v : Vf} {h : Int32} (hH : MdH v) (hW : 1 ≤ (v 0 0).toInt) (hc : 0 ≤ (v 10 h.toNatClampNeg).toInt ∧ (v 10 h.toNatClampNeg).toInt ≤ 23) (hk : 0 ≤ (v 11 h.toNatClampNeg).toInt ∧ (v 11 h.toNatClampNeg).toInt ≤ 99) : ∀ n : Nat, n ≤ 729 → NeP (leI v h) (v 11 h.toNatClampNeg).toInt n (mNeedN v h n).toInt
  | 0, _ => by
    have n0 : (mNeedN v h 0).toInt = 0 := (by decide : (0 : Int32).toInt = 0)
    exact ⟨by omega, fun i hi => absurd hi (by omega), Or.inl n0⟩
  | n + 1, hn => by
    have b := leI_b hH hW hc (n := n) (by omega)
    have x := i_sub (z := mLean v (v 10 h.toNatClampNeg) (Int32.ofNat n) - v 11 h.toNatClampNeg) rfl (by unfold leI at b; omega)
    exact ne_next hk b (need_p hH hW hc hk n (by omega)) x
def WoP (L : Nat → Int) (n : Int) (w : Int) : Prop := (0 ≤ w ∧ w ≤ 585) ∧ (∀ i : Nat, (i : Int) < n → L i ≤ w) ∧ (w = 0 ∨ ∃ i : Nat, (i : Int) < n ∧ w = L i)
theorem wo_next {L : Nat → Int} {t t2 w x z : Int32} (h : WoP L t.toInt w.toInt) (h0 : 0 ≤ t.toInt) (h2 : t2.toInt = t.toInt + 1) (hx : x.toInt = L t.toNatClampNeg) (hb : 0 ≤ L t.toNatClampNeg ∧ L t.toNatClampNeg ≤ 585) (e : z.toInt = max w.toInt x.toInt) : WoP L t2.toInt z.toInt := by
  obtain ⟨a1, a2, a3⟩ := h
  have en := i_nat h0
  refine ⟨by clear a3 a2; omega, fun i hi => ?_, ?_⟩
  · by_cases q : i = t.toNatClampNeg
    · subst q
      clear a3 a2; omega
    · have := a2 i (by clear a3; omega)
      clear a3; omega
  · rcases Int.lt_or_le w.toInt x.toInt with q | q
    · exact Or.inr ⟨t.toNatClampNeg, by clear a3; omega, by clear a3; omega⟩
    · rcases a3 with e' | ⟨i, hi, e'⟩
      · exact Or.inl (by omega)
      · exact Or.inr ⟨i, by omega, by omega⟩
theorem wo_end {L : Nat → Int} {k n : Int} {N : Nat} {w r : Int} (h : WoP L n w) (hn : (N : Int) = n) (hk : 0 ≤ k) (hr : r = max 0 (w - k)) : NeP L k N r := by
  obtain ⟨a1, a2, a3⟩ := h
  refine ⟨by clear a3 a2; omega, fun i hi => ?_, ?_⟩
  · have := a2 i (by clear a3; omega)
    clear a3; omega
  · rcases a3 with e | ⟨i, hi, e⟩
    · exact Or.inl (by omega)
    · rcases Int.lt_or_le 0 (w - k) with q | q
      · exact Or.inr ⟨i, by omega, by omega⟩
      · exact Or.inl (by omega)
theorem houses_w {vm vp vs : Vf} (hR : RW vm vp vs) (h : 1 ≤ (vm 9 0).toInt) : 1 ≤ (vm 0 0).toInt := by
  rcases hR.2.2.2.1.2.2.1 with q | q
  · exact q.1
  · omega
noncomputable def mHv (v : Vf) (h : Int32) (k : Nat) : Int32 := match k with
  | 0 => mPair v (v 10 h.toNatClampNeg)
  | 1 => v 11 h.toNatClampNeg
  | 2 => v 26 h.toNatClampNeg
  | 3 => mBrk v h (v 23 0)
  | _ => mNeed v h
noncomputable def mPrN (v : Vf) (z : Int32) : Nat → Int32
  | 0 => 0
  | n + 1 => mPrN v z n + (mNeed v (Int32.ofNat n) + z - 1) / z
theorem pr_next {v : Vf} {z s h h2 x : Int32} (e : s = mPrN v z h.toNatClampNeg) (h0 : 0 ≤ h.toInt) (e2 : h2.toInt = h.toInt + 1) (ex : x = s + (mNeed v h + z - 1) / z) : x = mPrN v z h2.toNatClampNeg := by
  rw [i_nat1 h0 e2]
  show x = mPrN v z h.toNatClampNeg + (mNeed v (Int32.ofNat h.toNatClampNeg) + z - 1) / z
  rw [i_ofN h0, ← e]
  exact ex
/-! turns -/
def TrnP (v : Vf) (c t : Int32) : Prop := ((mH v c (t - 1)).toInt < (mH v c t).toInt ∧ (mH v c (t + 1)).toInt < (mH v c t).toInt) ∨ ((mH v c t).toInt < (mH v c (t - 1)).toInt ∧ (mH v c t).toInt < (mH v c (t + 1)).toInt)
theorem nxs_no {T : Int32 → Prop} {s i i2 x : Int32} (h : ∀ j : Nat, (j : Int) < i.toInt → ¬ T (s + Int32.ofNat j)) (h0 : 0 ≤ i.toInt) (h1 : i2.toInt = i.toInt + 1) (ex : x = s + i) (hn : ¬ T x) : ∀ j : Nat, (j : Int) < i2.toInt → ¬ T (s + Int32.ofNat j) := nx_no (P := fun j => T (s + Int32.ofNat j)) h h0 h1 (by show ¬ T (s + Int32.ofNat i.toNatClampNeg); rw [i_ofN h0, ← ex]; exact hn)
theorem nxs_at {T : Int32 → Prop} {n : Int} {s i x : Int32} (h : ∀ j : Nat, (j : Int) < i.toInt → ¬ T (s + Int32.ofNat j)) (h0 : 0 ≤ i.toInt) (hi : i.toInt < n) (ex : x = s + i) (hp : T x) : NxP (fun j => T (s + Int32.ofNat j)) n i := nx_at (P := fun j => T (s + Int32.ofNat j)) h h0 hi (by show T (s + Int32.ofNat i.toNatClampNeg); rw [i_ofN h0, ← ex]; exact hp)
theorem nxs_end {T : Int32 → Prop} {n : Int} {s i r : Int32} (h : ∀ j : Nat, (j : Int) < i.toInt → ¬ T (s + Int32.ofNat j)) (hi : n ≤ i.toInt) (hr : r.toInt = -1) : NxP (fun j => T (s + Int32.ofNat j)) n r := nx_end (P := fun j => T (s + Int32.ofNat j)) h hi hr
/-! aslant -/
def LikP (v : Vf) (c way t : Int32) : Prop := 0 ≤ (mBes v c way).toInt ∧ mH v (mBes v c way) t = mH v c t
def AslQ (v : Vf) (t : Int32) (n : Int) : Prop := ∀ j : Nat, (j : Int) < n → ¬ LikP v (Int32.ofNat j) 2 t ∧ ¬ LikP v (Int32.ofNat j) 3 t
def AslP (v : Vf) (t : Int32) : Prop := 1 < (v 0 0).toInt * (v 1 0).toInt ∧ AslQ v t ((v 0 0).toInt * (v 1 0).toInt)
theorem lik_none {v : Vf} {c way t o r : Int32} (ho : o = mBes v c way) (h : o.toInt < 0) (hr : r.toInt = 0) : r.toInt ≠ 0 ↔ LikP v c way t := by
  unfold LikP
  rw [← ho]
  exact ⟨fun q => absurd hr q, fun q => absurd q.1 (by omega)⟩
theorem lik_cmp {v : Vf} {c way t o r a b : Int32} (ho : o = mBes v c way) (h : 0 ≤ o.toInt) (ea : a = mH v c t) (eb : b = mH v o t) (hr : r.toInt ≠ 0 ↔ a = b) : r.toInt ≠ 0 ↔ LikP v c way t := by
  unfold LikP
  rw [← ho, ← ea, ← eb, hr]
  exact ⟨fun q => ⟨h, q.symm⟩, fun q => q.2.symm⟩
theorem asl_next {v : Vf} {t k k2 : Int32} (h : AslQ v t k.toInt) (h0 : 0 ≤ k.toInt) (h2 : k2.toInt = k.toInt + 1) (h3 : ¬ LikP v k 2 t ∧ ¬ LikP v k 3 t) : AslQ v t k2.toInt := by
  intro j hj
  have e := i_nat h0
  by_cases q : j = k.toNatClampNeg
  · subst q
    rw [i_ofN h0]
    exact h3
  · exact h j (by omega)
theorem asl_at {v : Vf} {t k : Int32} {n : Int} (h : AslQ v t n) (h0 : 0 ≤ k.toInt) (h1 : k.toInt < n) : ¬ LikP v k 2 t ∧ ¬ LikP v k 3 t := by
  have e := i_nat h0
  have z := h k.toNatClampNeg (by omega)
  rw [i_ofN h0] at z
  exact z
theorem asl_le {v : Vf} {t : Int32} {n m : Int} (h : AslQ v t n) (hm : m ≤ n) : AslQ v t m := fun j hj => h j (by omega)
theorem asl_way {v : Vf} {t k way way2 s s2 : Int32} {A : Prop} (hw : 2 ≤ way.toInt ∧ way.toInt ≤ 3) (h2 : way2.toInt = way.toInt + 1) (h : s.toInt ≠ 0 ↔ (A ∧ (2 < way.toInt → ¬ LikP v k 2 t) ∧ (3 < way.toInt → ¬ LikP v k 3 t))) (e : s2.toInt ≠ 0 ↔ (s.toInt ≠ 0 ∧ ¬ LikP v k way t)) : s2.toInt ≠ 0 ↔ (A ∧ (2 < way2.toInt → ¬ LikP v k 2 t) ∧ (3 < way2.toInt → ¬ LikP v k 3 t)) := by
  rw [e, h]
  rcases (show way.toInt = 2 ∨ way.toInt = 3 by omega) with q | q
  · obtain rfl : way = 2 := i_eqr (by rw [q]; rfl)
    constructor
    · rintro ⟨⟨a, -, -⟩, d⟩
      exact ⟨a, fun _ => d, fun z => by omega⟩
    · rintro ⟨a, d, -⟩
      exact ⟨⟨a, fun z => by omega, fun z => by omega⟩, d (by omega)⟩
  · obtain rfl : way = 3 := i_eqr (by rw [q]; rfl)
    constructor
    · rintro ⟨⟨a, b, -⟩, d⟩
      exact ⟨a, fun _ => b (by omega), fun _ => d⟩
    · rintro ⟨a, b, d⟩
      exact ⟨⟨a, fun _ => b (by omega), fun z => by omega⟩, d (by omega)⟩
theorem asl_row {v : Vf} {t k k2 way s : Int32} {A : Prop} (h0 : 0 ≤ k.toInt) (h2 : k2.toInt = k.toInt + 1) (hw : 4 ≤ way.toInt) (h : s.toInt ≠ 0 ↔ ((A ∧ AslQ v t k.toInt) ∧ (2 < way.toInt → ¬ LikP v k 2 t) ∧ (3 < way.toInt → ¬ LikP v k 3 t))) : s.toInt ≠ 0 ↔ (A ∧ AslQ v t k2.toInt) := by
  rw [h]
  constructor
  · rintro ⟨⟨a, b⟩, c, d⟩
    exact ⟨a, asl_next b h0 h2 ⟨c (by omega), d (by omega)⟩⟩
  · rintro ⟨a, b⟩
    have z := asl_at (k := k) b h0 (by omega)
    exact ⟨⟨a, asl_le b (by omega)⟩, fun _ => z.1, fun _ => z.2⟩
/-! the greatest pull -/
def mBestN (v : Vf) (c t : Int32) : Nat → Int32
  | 0 => t
  | n + 1 => if mPull v c (mBestN v c t n) < mPull v c (t + Int32.ofNat (n + 1)) then t + Int32.ofNat (n + 1) else mBestN v c t n
def mBest (v : Vf) (c t : Int32) : Int32 := mBestN v c t ((v 22 0).toInt - 1).toNat
theorem best_next {v : Vf} {c t b i i2 x z : Int32} (e : b = mBestN v c t (i.toInt - 1).toNat) (h1 : 1 ≤ i.toInt) (h2 : i2.toInt = i.toInt + 1) (ex : x = t + i) (hz : z = if mPull v c b < mPull v c x then x else b) : z = mBestN v c t (i2.toInt - 1).toNat := by
  have e1 : (i2.toInt - 1).toNat = (i.toInt - 1).toNat + 1 := by omega
  have e2 : Int32.ofNat ((i.toInt - 1).toNat + 1) = i := by
    rw [show (i.toInt - 1).toNat + 1 = i.toNatClampNeg from by show _ = i.toInt.toNat; omega]
    exact i_ofN (by omega)
  rw [e1]
  show z = if mPull v c (mBestN v c t (i.toInt - 1).toNat) < mPull v c (t + Int32.ofNat ((i.toInt - 1).toNat + 1)) then t + Int32.ofNat ((i.toInt - 1).toNat + 1) else mBestN v c t (i.toInt - 1).toNat
  rw [e2, ← ex, ← e]
  exact hz
/-! bells -/
noncomputable def mRgN (v : Vf) (c lim t : Int32) : Nat → Int32
  | 0 => 0
  | n + 1 => if lim < mLean v c (t + Int32.ofNat n) then mRgN v c lim t n + 1 else mRgN v c lim t n
theorem rg_next {v : Vf} {c lim t s i i2 x z : Int32} (e : s = mRgN v c lim t i.toNatClampNeg) (h0 : 0 ≤ i.toInt) (h2 : i2.toInt = i.toInt + 1) (ex : x = t + i) (hz : z = if lim < mLean v c x then s + 1 else s) : z = mRgN v c lim t i2.toNatClampNeg := by
  rw [i_nat1 h0 h2]
  show z = if lim < mLean v c (t + Int32.ofNat i.toNatClampNeg) then mRgN v c lim t i.toNatClampNeg + 1 else mRgN v c lim t i.toNatClampNeg
  rw [i_ofN h0, ← ex, ← e]
  exact hz
def BelP (v : Vf) (c lim t what r : Int32) : Prop := (what.toInt = 0 ∧ NxP (fun j => lim < mLean v c (t + Int32.ofNat j)) (v 22 0).toInt r) ∨ (what.toInt = 1 ∧ r = mRgN v c lim t (v 22 0).toNatClampNeg)
theorem bel_eq {v : Vf} {c lim t what r q : Int32} (h1 : BelP v c lim t what r) (h2 : BelP v c lim t what q) : r.toInt = q.toInt := by
  rcases h1 with ⟨a, b⟩ | ⟨a, b⟩
  · rcases h2 with ⟨c, d⟩ | ⟨c, d⟩
    · exact nx_eq b d
    · omega
  · rcases h2 with ⟨c, d⟩ | ⟨c, d⟩
    · omega
    · rw [b, d]
/-- the first so far, or none -/
def FsP (P : Nat → Prop) (i : Int) (f : Int32) : Prop := (f.toInt = -1 ∧ ∀ j : Nat, (j : Int) < i → ¬ P j) ∨ ∃ k : Nat, f.toInt = k ∧ (k : Int) < i ∧ P k ∧ ∀ j : Nat, j < k → ¬ P j
theorem fs_next {P : Nat → Prop} {i i2 f z : Int32} (h : FsP P i.toInt f) (h0 : 0 ≤ i.toInt) (h2 : i2.toInt = i.toInt + 1) (hz : (P i.toNatClampNeg ∧ f.toInt < 0 ∧ z = i) ∨ (¬ (P i.toNatClampNeg ∧ f.toInt < 0) ∧ z = f)) : FsP P i2.toInt z := by
  have e := i_nat h0
  rcases hz with ⟨a, b, c⟩ | ⟨a, c⟩
  · rcases h with ⟨h3, h4⟩ | ⟨k, h3, -⟩
    · exact Or.inr ⟨i.toNatClampNeg, by rw [c]; exact e.symm, by omega, a, fun j hj => h4 j (by omega)⟩
    · omega
  · rcases h with ⟨h3, h4⟩ | ⟨k, h3, h5, h6, h7⟩
    · refine Or.inl ⟨by rw [c]; exact h3, fun j hj => ?_⟩
      by_cases q : j = i.toNatClampNeg
      · subst q
        exact fun z => a ⟨z, by omega⟩
      · exact h4 j (by omega)
    · exact Or.inr ⟨k, by rw [c]; exact h3, by omega, h6, h7⟩
/-! the first wall -/
def BrkR (v : Vf) (t what r : Int32) : Prop := (r.toInt = -1 ∧ ∀ i : Nat, (i : Int) < (v 22 0).toInt → ∀ h : Nat, (h : Int) < (v 9 0).toInt → ¬ mBrk v (Int32.ofNat h) (t + Int32.ofNat i) ≠ 0) ∨ ∃ i h : Nat, ((i : Int) < (v 22 0).toInt ∧ (h : Int) < (v 9 0).toInt) ∧ mBrk v (Int32.ofNat h) (t + Int32.ofNat i) ≠ 0 ∧ (∀ h' : Nat, h' < h → ¬ mBrk v (Int32.ofNat h') (t + Int32.ofNat i) ≠ 0) ∧ (∀ i' : Nat, i' < i → ∀ h' : Nat, (h' : Int) < (v 9 0).toInt → ¬ mBrk v (Int32.ofNat h') (t + Int32.ofNat i') ≠ 0) ∧ r = if what.toInt = 0 then t + Int32.ofNat i else Int32.ofNat h
theorem brk_eq {v : Vf} {t what r q : Int32} (h1 : BrkR v t what r) (h2 : BrkR v t what q) : r.toInt = q.toInt := by
  rcases h1 with ⟨a1, a2⟩ | ⟨i, h, a0, a1, a2, a3, a4⟩
  · rcases h2 with ⟨b1, b2⟩ | ⟨j, k, b0, b1, b2, b3, b4⟩
    · omega
    · exact absurd b1 (a2 j b0.1 k b0.2)
  · rcases h2 with ⟨b1, b2⟩ | ⟨j, k, b0, b1, b2, b3, b4⟩
    · exact absurd a1 (b2 i a0.1 h a0.2)
    · have e : i = j := by
        rcases Nat.lt_trichotomy i j with z | z | z
        · exact absurd a1 (b3 i z h a0.2)
        · exact z
        · exact absurd b1 (a3 j z k b0.2)
      subst e
      have e : h = k := by
        rcases Nat.lt_trichotomy h k with z | z | z
        · exact absurd a1 (b2 h z)
        · exact z
        · exact absurd b1 (a2 k z)
      subst e
      rw [a4, b4]
/-- no wall past its hinge at the steps ahead -/
def NoB (v : Vf) (t : Int32) (i : Int) : Prop := ∀ j : Nat, (j : Int) < i → ∀ h : Nat, (h : Int) < (v 9 0).toInt → ¬ mBrk v (Int32.ofNat h) (t + Int32.ofNat j) ≠ 0
def NoH (v : Vf) (x : Int32) (h : Int) : Prop := ∀ k : Nat, (k : Int) < h → ¬ mBrk v (Int32.ofNat k) x ≠ 0
theorem noh_next {v : Vf} {x h h2 : Int32} (n : NoH v x h.toInt) (h0 : 0 ≤ h.toInt) (e : h2.toInt = h.toInt + 1) (hn : ¬ mBrk v h x ≠ 0) : NoH v x h2.toInt := by
  intro k hk
  have en := i_nat h0
  by_cases q : k = h.toNatClampNeg
  · subst q
    rw [i_ofN h0]
    exact hn
  · exact n k (by omega)
theorem nob_next {v : Vf} {t x i i2 : Int32} (n : NoB v t i.toInt) (h0 : 0 ≤ i.toInt) (e : i2.toInt = i.toInt + 1) (ex : x = t + i) (hn : NoH v x (v 9 0).toInt) : NoB v t i2.toInt := by
  intro j hj
  have en := i_nat h0
  by_cases q : j = i.toNatClampNeg
  · subst q
    rw [i_ofN h0, ← ex]
    exact hn
  · exact n j (by omega)
theorem brk_at {v : Vf} {t x i h what r : Int32} (n : NoB v t i.toInt) (m : NoH v x h.toInt) (h0 : 0 ≤ i.toInt ∧ i.toInt < (v 22 0).toInt) (h1 : 0 ≤ h.toInt ∧ h.toInt < (v 9 0).toInt) (ex : x = t + i) (hb : mBrk v h x ≠ 0) (hr : r = if what.toInt = 0 then x else h) : BrkR v t what r := by
  have ei := i_nat h0.1
  have eh := i_nat h1.1
  refine Or.inr ⟨i.toNatClampNeg, h.toNatClampNeg, ⟨by omega, by omega⟩, ?_, fun k hk => ?_, fun j hj => n j (by omega), ?_⟩
  · rw [i_ofN h0.1, i_ofN h1.1, ← ex]
    exact hb
  · rw [i_ofN h0.1, ← ex]
    exact m k (by omega)
  · rw [i_ofN h0.1, i_ofN h1.1, ← ex]
    exact hr
/-! deeds -/
noncomputable def mWhN (v : Vf) (d t : Int32) : Nat → Int32
  | 0 => 0
  | n + 1 => @ite _ ((v 20 d.toNatClampNeg).toInt ≤ (mH v (Int32.ofNat n) t).toInt ∧ (mH v (Int32.ofNat n) t).toInt ≤ (v 21 d.toNatClampNeg).toInt) (Classical.propDecidable _) (mWhN v d t n ||| (1 : Int32) <<< (Int32.ofNat n &&& 31)) (mWhN v d t n)
noncomputable def mWh (v : Vf) (d t : Int32) : Int32 := mWhN v d t ((v 0 0).toInt * (v 1 0).toInt).toNat
theorem wh_next {v : Vf} {d t s k k2 x : Int32} (e : s = mWhN v d t k.toNatClampNeg) (h0 : 0 ≤ k.toInt) (h2 : k2.toInt = k.toInt + 1) (hx : (((v 20 d.toNatClampNeg).toInt ≤ (mH v k t).toInt ∧ (mH v k t).toInt ≤ (v 21 d.toNatClampNeg).toInt) ∧ x = s ||| (1 : Int32) <<< (k &&& 31)) ∨ (¬ ((v 20 d.toNatClampNeg).toInt ≤ (mH v k t).toInt ∧ (mH v k t).toInt ≤ (v 21 d.toNatClampNeg).toInt) ∧ x = s)) : x = mWhN v d t k2.toNatClampNeg := by
  rw [i_nat1 h0 h2]
  show x = @ite _ ((v 20 d.toNatClampNeg).toInt ≤ (mH v (Int32.ofNat k.toNatClampNeg) t).toInt ∧ (mH v (Int32.ofNat k.toNatClampNeg) t).toInt ≤ (v 21 d.toNatClampNeg).toInt) (Classical.propDecidable _) (mWhN v d t k.toNatClampNeg ||| (1 : Int32) <<< (Int32.ofNat k.toNatClampNeg &&& 31)) (mWhN v d t k.toNatClampNeg)
  rw [i_ofN h0, ← e]
  rcases hx with ⟨a, b⟩ | ⟨a, b⟩
  · rw [if_pos a]
    exact b
  · rw [if_neg a]
    exact b
/-! odds -/
noncomputable def mOdd (v : Vf) (k q c lim t : Int32) : Int32 := (if mLean v c t ≤ lim then 0 else 10000000 * q) + (if mLean (up2 v 62 0 k) c t ≤ lim then 0 else 1000000000 - 10000000 * q)
theorem rw_away {vm vp vs : Vf} {k : Int32} (h : RW vm vp vs) : RW (up2 vm 62 0 k) vp vs := h
theorem cw_away {vm : Vf} {k c : Int32} (h : cW vm c) : cW (up2 vm 62 0 k) c := h
/-! the book -/
noncomputable def jdC (v : Vf) : Nat → Int32
  | 0 => v 27 0
  | n + 1 => mGo v (jdC v n) (v 76 n) (v 23 0 + Int32.ofNat n + 1)
noncomputable def jdP (v : Vf) : Nat → Int32
  | 0 => 0
  | n + 1 => jdP v n + mCost v (jdC v n) (jdC v (n + 1)) (v 23 0 + Int32.ofNat n + 1)
/-- up to here each step may be -/
def JdO (v : Vf) (i : Int) : Prop := ∀ j : Nat, (j : Int) < i → 0 ≤ (jdC v (j + 1)).toInt
def JdR (v : Vf) (what r : Int32) : Prop := (JdO v (v 75 0).toInt ∧ ((what.toInt = 0 ∧ r.toInt = -1) ∨ (what.toInt = 1 ∧ r = jdP v (v 75 0).toNatClampNeg))) ∨ ∃ k : Nat, (k : Int) < (v 75 0).toInt ∧ JdO v k ∧ (jdC v (k + 1)).toInt < 0 ∧ ((what.toInt = 0 ∧ r.toInt = k) ∨ (what.toInt = 1 ∧ r = jdP v k))
theorem jd_eq {v : Vf} {what r q : Int32} (h1 : JdR v what r) (h2 : JdR v what q) : r.toInt = q.toInt := by
  rcases h1 with ⟨a1, a2⟩ | ⟨k, a0, a1, a2, a3⟩
  · rcases h2 with ⟨b1, b2⟩ | ⟨j, b0, b1, b2, b3⟩
    · rcases a2 with ⟨a, a'⟩ | ⟨a, a'⟩
      · rcases b2 with ⟨b, b'⟩ | ⟨b, b'⟩
        · omega
        · omega
      · rcases b2 with ⟨b, b'⟩ | ⟨b, b'⟩
        · omega
        · rw [a', b']
    · have := a1 j b0
      omega
  · rcases h2 with ⟨b1, b2⟩ | ⟨j, b0, b1, b2, b3⟩
    · have := b1 k a0
      omega
    · have e : k = j := by
        rcases Nat.lt_trichotomy k j with z | z | z
        · have := b1 k (by omega)
          omega
        · exact z
        · have := a1 j (by omega)
          omega
      subst e
      rcases a3 with ⟨a, a'⟩ | ⟨a, a'⟩
      · rcases b3 with ⟨b, b'⟩ | ⟨b, b'⟩
        · omega
        · omega
      · rcases b3 with ⟨b, b'⟩ | ⟨b, b'⟩
        · omega
        · rw [a', b']
end
section
/-! ===== needs, what stays, odds, the book: last steps of both sides ===== -/
theorem house_c {vm vp vs : Vf} {h x : Int32} (hR : RW vm vp vs) (h0 : 0 ≤ h.toInt) (hh : h.toInt < (vm 9 0).toInt) (e : x = vp 61 h.toNatClampNeg) : cW vm x := by
  have hn := i_nat h0
  have h9 := hR.2.2.2.1.2.1.2.1
  have o := hR.2.2.2.2.1 h.toNatClampNeg (by omega)
  have q := hR.1.2.2.1.2 h.toNatClampNeg (by omega)
  have b10 := hR.2.2.2.1.2.2.2.2.1.1 h.toNatClampNeg (by omega)
  rw [e, q.1]
  exact ⟨b10.1, o.1⟩
theorem wo_step {vm vp vs : Vf} {h t t2 x r w z : Int32} (hR : RW vm vp vs) (h0 : 0 ≤ h.toInt) (hh : h.toInt < (vm 9 0).toInt) (hw : WoP (leI vm h) t.toInt w.toInt) (ht : 0 ≤ t.toInt ∧ t.toInt ≤ 729) (h2 : t2.toInt = t.toInt + 1) (ex : x = vp 61 h.toNatClampNeg) (er : r = mLean vm x t) (e : z.toInt = max w.toInt r.toInt) : WoP (leI vm h) t2.toInt z.toInt := by
  have hn := i_nat h0
  have h9 := hR.2.2.2.1.2.1.2.1
  have q := hR.1.2.2.1.2 h.toNatClampNeg (by omega)
  have b10 := hR.2.2.2.1.2.2.2.2.1.1 h.toNatClampNeg (by omega)
  have hW := houses_w hR (by omega)
  have et := i_nat ht.1
  have b := leI_b (h := h) hR.2.2.2.1 hW b10 (n := t.toNatClampNeg) (by omega)
  refine wo_next hw ht.1 h2 ?_ b e
  unfold leI
  rw [i_ofN ht.1, er, ex, q.1]
theorem need_cls {vm vp vs : Vf} {h t p worst y z r : Int32} (hR : RW vm vp vs) (h0 : 0 ≤ h.toInt) (hh : h.toInt < (vm 9 0).toInt) (h4 : p = vm 22 0) (hw : WoP (leI vm h) t.toInt worst.toInt) (ht : t.toInt = p.toInt) (ey : y = vp 62 h.toNatClampNeg) (ez : z = worst - y) (er : r.toInt = max (0 : Int32).toInt z.toInt) : r = mNeed vm h := by
  have hn := i_nat h0
  have n0 : (0 : Int32).toInt = 0 := by decide
  have h9 := hR.2.2.2.1.2.1.2.1
  have o := hR.2.2.2.2.1 h.toNatClampNeg (by omega)
  have q := hR.1.2.2.1.2 h.toNatClampNeg (by omega)
  have hW := houses_w hR (by omega)
  have b10 := hR.2.2.2.1.2.2.2.2.1.1 h.toNatClampNeg (by omega)
  have h22 := hR.2.2.2.1.2.1.2.2.2.2.2
  have en := i_nat (x := vm 22 0) (by omega)
  have pn := need_p (h := h) hR.2.2.2.1 hW b10 o.2 (vm 22 0).toNatClampNeg (by omega)
  have hw1 := hw.1
  have x := i_sub ez (by rw [ey, q.2]; omega)
  refine i_eqr (ne_uniq ?_ pn)
  exact wo_end hw (by rw [en, ht, h4]) o.2.1 (by rw [er, x, ey, q.2, n0])
/-! what stays -/
noncomputable def mStN (v : Vf) (d : Int32) : Nat → Int32
  | 0 => ((1 : Int32) <<< ((v 0 0 * v 1 0) &&& 31)) - 1
  | n + 1 => mStN v d n &&& mWh v d (Int32.ofNat n)
noncomputable def mSt (v : Vf) (d : Int32) : Int32 := mStN v d (v 22 0).toNatClampNeg
theorem st_next {v : Vf} {d s t t2 x : Int32} (e : s = mStN v d t.toNatClampNeg) (h0 : 0 ≤ t.toInt) (h2 : t2.toInt = t.toInt + 1) (ex : x = s &&& mWh v d t) : x = mStN v d t2.toNatClampNeg := by
  rw [i_nat1 h0 h2]
  show x = mStN v d t.toNatClampNeg &&& mWh v d (Int32.ofNat t.toNatClampNeg)
  rw [i_ofN h0, ← e]
  exact ex
theorem sh_24 : ∀ a : Fin 25, ((1 : Int32) <<< (Int32.ofNat a.val &&& 31)).toBitVec.toNat = 2 ^ a.val := by decide +kernel
theorem sh_pow {k : Int32} (h : 0 ≤ k.toInt ∧ k.toInt ≤ 24) : ((1 : Int32) <<< (k &&& 31)).toBitVec.toNat = 2 ^ k.toNatClampNeg := by
  have e := i_nat h.1
  have q : ((1 : Int32) <<< (Int32.ofNat k.toNatClampNeg &&& 31)).toBitVec.toNat = 2 ^ k.toNatClampNeg := sh_24 ⟨k.toNatClampNeg, by omega⟩
  rw [i_ofN h.1] at q
  exact q
theorem ite_2 {α : Type} {c : Prop} {i : Decidable c} {a b : α} : @ite α c i a b = a ∨ @ite α c i a b = b := by
  by_cases h : c
  · exact Or.inl (if_pos h)
  · exact Or.inr (if_neg h)
theorem or_lt {x y : Int32} {n : Nat} (hx : x.toBitVec.toNat < 2 ^ n) (hy : y.toBitVec.toNat < 2 ^ n) : (x ||| y).toBitVec.toNat < 2 ^ n := by
  have a : (x ||| y).toBitVec = x.toBitVec ||| y.toBitVec := rfl
  rw [a, BitVec.toNat_or]
  exact Nat.or_lt_two_pow hx hy
theorem wh_lt {v : Vf} {d t : Int32} : ∀ n : Nat, n ≤ 24 → (mWhN v d t n).toBitVec.toNat < 2 ^ n
  | 0, _ => (by decide : (0 : Int32).toBitVec.toNat < 2 ^ 0)
  | n + 1, h => by
    have ih := wh_lt (v := v) (d := d) (t := t) n (by omega)
    have e : (Int32.ofNat n).toInt = (n : Int) := Int32.toInt_ofNat_of_lt (by omega)
    have en : (Int32.ofNat n).toNatClampNeg = n := by
      show (Int32.ofNat n).toInt.toNat = n
      omega
    have s := sh_pow (k := Int32.ofNat n) (by omega)
    rw [en] at s
    have p : 2 ^ (n + 1) = 2 ^ n * 2 := Nat.pow_succ 2 n
    have z : mWhN v d t (n + 1) = (mWhN v d t n ||| (1 : Int32) <<< (Int32.ofNat n &&& 31)) ∨ mWhN v d t (n + 1) = mWhN v d t n := ite_2
    rcases z with z | z
    · rw [z]
      exact or_lt (by omega) (by omega)
    · rw [z]
      omega
theorem and_mask {x y : Int32} {n : Nat} (hx : x.toBitVec.toNat = 2 ^ n - 1) (hy : y.toBitVec.toNat < 2 ^ n) : x &&& y = y := by
  refine Int32.toBitVec_inj.mp (BitVec.eq_of_toNat_eq ?_)
  have h1 : (x &&& y).toBitVec = x.toBitVec &&& y.toBitVec := rfl
  rw [h1, BitVec.toNat_and, hx, Nat.and_comm, Nat.and_two_pow_sub_one_eq_mod, Nat.mod_eq_of_lt hy]
theorem mask_nat {c : Int32} (h : 0 ≤ c.toInt ∧ c.toInt ≤ 24) : (((1 : Int32) <<< (c &&& 31)) - 1).toBitVec.toNat = 2 ^ c.toNatClampNeg - 1 := by
  have s := sh_pow h
  have en := i_nat h.1
  have p1 : 1 ≤ 2 ^ c.toNatClampNeg := Nat.one_le_two_pow
  have p2 : 2 ^ c.toNatClampNeg ≤ 2 ^ 24 := Nat.pow_le_pow_right (by decide) (by omega)
  have e : (((1 : Int32) <<< (c &&& 31)) - 1).toBitVec = ((1 : Int32) <<< (c &&& 31)).toBitVec - 1#32 := rfl
  have k32 : (2 : Nat) ^ 32 = 4294967296 := by decide
  have k24 : (2 : Nat) ^ 24 = 16777216 := by decide
  have one : (1#32).toNat = 1 := rfl
  rw [e, BitVec.toNat_sub, s, one, k32]
  rw [k24] at p2
  generalize 2 ^ c.toNatClampNeg = P at *
  omega
theorem st_1 {v : Vf} {d : Int32} (hG : mdG v) : mStN v d 1 = mWh v d 0 := by
  have tc : (v 0 0 * v 1 0).toInt = (v 0 0).toInt * (v 1 0).toInt := (i_mul66 (z := v 0 0 * v 1 0) rfl hG.1 hG.2.1).1
  have hp := Int.mul_nonneg hG.1.1 hG.2.1.1
  have h24 := hG.2.2
  have m := mask_nat (c := v 0 0 * v 1 0) (by omega)
  have w := wh_lt (v := v) (d := d) (t := 0) ((v 0 0).toInt * (v 1 0).toInt).toNat (by omega)
  have ec : (v 0 0 * v 1 0).toNatClampNeg = ((v 0 0).toInt * (v 1 0).toInt).toNat := by
    show (v 0 0 * v 1 0).toInt.toNat = _
    rw [tc]
  rw [ec] at m
  exact and_mask m w
/-! odds -/
theorem odd_cls {a b lim s p u r : Int32} (h : (a ≤ lim ∧ s = 0) ∨ (¬ a ≤ lim ∧ s = 0 + p)) (h2 : (b ≤ lim ∧ r = s) ∨ (¬ b ≤ lim ∧ r = s + u)) : r = (if a ≤ lim then 0 else p) + (if b ≤ lim then 0 else u) := by
  have hs : s = if a ≤ lim then 0 else p := by
    rcases h with ⟨q, e⟩ | ⟨q, e⟩
    · rw [if_pos q, e]
    · rw [if_neg q, e, Int32.zero_add]
  rw [← hs]
  rcases h2 with ⟨q, e⟩ | ⟨q, e⟩
  · rw [if_pos q, e, Int32.add_zero]
  · rw [if_neg q, e]
theorem odd_if {a lim b1 b3 p : Int32} (h1 : b1.toInt ≠ 0 ↔ ¬ a ≤ lim) (h3 : (b1.toInt ≠ 0 ∧ b3 = p) ∨ (b1.toInt = 0 ∧ b3 = 0)) : b3 = if a ≤ lim then 0 else p := by
  rcases h3 with ⟨q, e⟩ | ⟨q, e⟩
  · rw [if_neg (h1.mp q), e]
  · by_cases z : a ≤ lim
    · rw [if_pos z, e]
    · exact absurd q (h1.mpr z)
theorem odd_m {a b lim b1 b2 b3 b4 p u r : Int32} (h1 : b1.toInt ≠ 0 ↔ ¬ a ≤ lim) (h2 : b2.toInt ≠ 0 ↔ ¬ b ≤ lim) (h3 : (b1.toInt ≠ 0 ∧ b3 = p) ∨ (b1.toInt = 0 ∧ b3 = 0)) (h4 : (b2.toInt ≠ 0 ∧ b4 = u) ∨ (b2.toInt = 0 ∧ b4 = 0)) (er : r = b3 + b4) : r = (if a ≤ lim then 0 else p) + (if b ≤ lim then 0 else u) := by
  rw [er, ← odd_if h1 h3, ← odd_if h2 h4]
/-! bells -/
theorem fs_next2 {T : Int32 → Prop} {s i i2 f x b z : Int32} (h : FsP (fun j => T (s + Int32.ofNat j)) i.toInt f) (h0 : 0 ≤ i.toInt) (h2 : i2.toInt = i.toInt + 1) (ex : x = s + i) (hb : b.toInt ≠ 0 ↔ T x) (hz : ((b.toInt ≠ 0 ∧ f.toInt < 0) ∧ z = i) ∨ (¬ (b.toInt ≠ 0 ∧ f.toInt < 0) ∧ z = f)) : FsP (fun j => T (s + Int32.ofNat j)) i2.toInt z := by
  have e : s + Int32.ofNat i.toNatClampNeg = x := by rw [i_ofN h0, ex]
  refine fs_next h h0 h2 ?_
  show (T (s + Int32.ofNat i.toNatClampNeg) ∧ f.toInt < 0 ∧ z = i) ∨ (¬ (T (s + Int32.ofNat i.toNatClampNeg) ∧ f.toInt < 0) ∧ z = f)
  rw [e]
  rcases hz with ⟨⟨a, b⟩, c⟩ | ⟨a, c⟩
  · exact Or.inl ⟨hb.mp a, b, c⟩
  · exact Or.inr ⟨fun q => a ⟨hb.mpr q.1, q.2⟩, c⟩
theorem rg_b {b1 b3 rg z : Int32} {Q : Prop} {i : Decidable Q} (hb : b1.toInt ≠ 0 ↔ Q) (h3 : (b1.toInt ≠ 0 ∧ b3 = 1) ∨ (b1.toInt = 0 ∧ b3 = 0)) (e : z = rg + b3) : z = @ite _ Q i (rg + 1) rg := by
  rcases h3 with ⟨q, w⟩ | ⟨q, w⟩
  · rw [if_pos (hb.mp q), e, w]
  · rw [if_neg (fun z => hb.mpr z q), e, w, Int32.add_zero]
/-! the greatest pull -/
def MosP (v : Vf) (c t what r : Int32) : Prop := (what.toInt = 0 ∧ r = mBest v c t) ∨ (what.toInt = 1 ∧ r = mPull v c (mBest v c t))
theorem mos_eq {v : Vf} {c t what r q : Int32} (h1 : MosP v c t what r) (h2 : MosP v c t what q) : r.toInt = q.toInt := by
  rcases h1 with ⟨a, b⟩ | ⟨a, b⟩
  · rcases h2 with ⟨c, d⟩ | ⟨c, d⟩
    · rw [b, d]
    · omega
  · rcases h2 with ⟨c, d⟩ | ⟨c, d⟩
    · omega
    · rw [b, d]
/-! the book -/
def BkR (v vm : Vf) : Prop := v 12 0 = vm 75 0 ∧ ∀ j : Nat, (j : Int) < (vm 75 0).toInt → v 11 j = vm 76 j ∧ 0 ≤ (vm 76 j).toInt ∧ (vm 76 j).toInt ≤ 4
theorem add_sw {a i x : Int32} (e : x = a + 1 + i) : x = a + i + 1 := by rw [e, Int32.add_assoc, Int32.add_comm 1 i, ← Int32.add_assoc]
theorem jd_c {v : Vf} {i i2 k w t r : Int32} (hk : k = jdC v i.toNatClampNeg) (h0 : 0 ≤ i.toInt) (h2 : i2.toInt = i.toInt + 1) (ew : w = v 76 i.toNatClampNeg) (et : t = v 23 0 + i + 1) (hr : r = mGo v k w t) : r = jdC v i2.toNatClampNeg := by
  rw [i_nat1 h0 h2]
  show r = mGo v (jdC v i.toNatClampNeg) (v 76 i.toNatClampNeg) (v 23 0 + Int32.ofNat i.toNatClampNeg + 1)
  rw [i_ofN h0, ← hk, ← ew, ← et]
  exact hr
theorem jd_p {v : Vf} {i i2 k s t r c x : Int32} (hk : k = jdC v i.toNatClampNeg) (hs : s = jdP v i.toNatClampNeg) (h0 : 0 ≤ i.toInt) (h2 : i2.toInt = i.toInt + 1) (et : t = v 23 0 + i + 1) (hr : r = jdC v i2.toNatClampNeg) (hc : c = mCost v k r t) (ex : x = s + c) : x = jdP v i2.toNatClampNeg := by
  rw [i_nat1 h0 h2] at hr ⊢
  show x = jdP v i.toNatClampNeg + mCost v (jdC v i.toNatClampNeg) (jdC v (i.toNatClampNeg + 1)) (v 23 0 + Int32.ofNat i.toNatClampNeg + 1)
  rw [i_ofN h0, ← hk, ← hs, ← hr, ← et, ← hc]
  exact ex
theorem jd_o {v : Vf} {i i2 r : Int32} (hO : JdO v i.toInt) (h0 : 0 ≤ i.toInt) (h2 : i2.toInt = i.toInt + 1) (hr : r = jdC v i2.toNatClampNeg) (hn : 0 ≤ r.toInt) : JdO v i2.toInt := by
  intro j hj
  rw [i_nat1 h0 h2] at hr
  have e := i_nat h0
  by_cases q : j = i.toNatClampNeg
  · subst q
    rw [← hr]
    exact hn
  · exact hO j (by omega)
theorem jd_stop {v : Vf} {i k w t : Int32} (hk : k = jdC v i.toNatClampNeg) (h0 : 0 ≤ i.toInt) (ew : w = v 76 i.toNatClampNeg) (et : t = v 23 0 + i + 1) (h : (mGo v k w t).toInt < 0) : (jdC v (i.toNatClampNeg + 1)).toInt < 0 := by
  show (mGo v (jdC v i.toNatClampNeg) (v 76 i.toNatClampNeg) (v 23 0 + Int32.ofNat i.toNatClampNeg + 1)).toInt < 0
  rw [i_ofN h0, ← hk, ← ew, ← et]
  exact h
theorem jd_cls {v : Vf} {i i2 k ps w there t push ps2 : Int32} (hk : k = jdC v i.toNatClampNeg) (hs : ps = jdP v i.toNatClampNeg) (hO : JdO v i.toInt) (h0 : 0 ≤ i.toInt) (h2 : i2.toInt = i.toInt + 1) (ew : w = v 76 i.toNatClampNeg) (et : t = v 23 0 + i + 1) (hp : PuP v k w there t push) (hne : push.toInt ≠ -1) (ex : ps2 = ps + push) : (there = jdC v i2.toNatClampNeg ∧ ps2 = jdP v i2.toNatClampNeg ∧ JdO v i2.toInt) ∧ 0 ≤ there.toInt := by
  rcases hp with ⟨a, b⟩ | ⟨a, b, c, d⟩
  · exact absurd b hne
  · have q := jd_c hk h0 h2 ew et a.symm
    exact ⟨⟨q, jd_p hk hs h0 h2 et q c ex, jd_o hO h0 h2 q b⟩, b⟩
theorem jd_clz {v : Vf} {i k w there t push : Int32} (hk : k = jdC v i.toNatClampNeg) (h0 : 0 ≤ i.toInt) (ew : w = v 76 i.toNatClampNeg) (et : t = v 23 0 + i + 1) (hp : PuP v k w there t push) (hne : push.toInt = -1) : (jdC v (i.toNatClampNeg + 1)).toInt < 0 := by
  rcases hp with ⟨a, b⟩ | ⟨a, b, c, d⟩
  · exact jd_stop hk h0 ew et (by omega)
  · omega
theorem jd_end {v : Vf} {i what r ps : Int32} (hO : JdO v i.toInt) (hs : ps = jdP v i.toNatClampNeg) (e : i = v 75 0) (h : (what.toInt = 0 ∧ r.toInt = -1) ∨ (what.toInt = 1 ∧ r = ps)) : JdR v what r := Or.inl ⟨by rw [← e]; exact hO, h.imp id (fun q => ⟨q.1, by rw [q.2, hs, e]⟩)⟩
theorem jd_at {v : Vf} {i what r ps : Int32} (hO : JdO v i.toInt) (hs : ps = jdP v i.toNatClampNeg) (h0 : 0 ≤ i.toInt) (hi : i.toInt < (v 75 0).toInt) (hst : (jdC v (i.toNatClampNeg + 1)).toInt < 0) (h : (what.toInt = 0 ∧ r = i) ∨ (what.toInt = 1 ∧ r = ps)) : JdR v what r := by
  have e := i_nat h0
  exact Or.inr ⟨i.toNatClampNeg, by omega, by rw [e]; exact hO, hst, h.imp (fun q => ⟨q.1, by rw [q.2]; exact e.symm⟩) (fun q => ⟨q.1, by rw [q.2, hs]⟩)⟩
end
section
/-! ===== soonest: sets of cells that the cart can reach ===== -/
noncomputable def mRwN (v : Vf) (c t acc : Int32) : Nat → Int32
  | 0 => acc
  | n + 1 => if (mGo v c (Int32.ofNat (n + 1)) t).toInt < 0 then mRwN v c t acc n else mRwN v c t acc n ||| (1 : Int32) <<< (mGo v c (Int32.ofNat (n + 1)) t &&& 31)
noncomputable def mReN (v : Vf) (on t : Int32) : Nat → Int32
  | 0 => on
  | n + 1 => @ite _ (hasB on (Int32.ofNat n)) (Classical.propDecidable _) (mRwN v (Int32.ofNat n) t (mReN v on t n) 4) (mReN v on t n)
noncomputable def mRe (v : Vf) (on t : Int32) : Int32 := mReN v on t ((v 0 0).toInt * (v 1 0).toInt).toNat
noncomputable def mOnN (v : Vf) (a t : Int32) : Nat → Int32
  | 0 => (1 : Int32) <<< (a &&& 31)
  | n + 1 => mRe v (mOnN v a t n) (t + Int32.ofNat n + 1)
def SoP (v : Vf) (a b t r : Int32) : Prop := NxP (fun n => hasB (mOnN v a t n) b) 61 r
/-- the cells reached so far from one more cell, some ways on -/
def RwP (v : Vf) (on k t : Int32) (w : Int) (s : Int32) : Prop := (¬ hasB on k → s = mReN v on t k.toNatClampNeg) ∧ (hasB on k → s = mRwN v k t (mReN v on t k.toNatClampNeg) (w - 1).toNat)
theorem rwp_in {v : Vf} {on k t s w : Int32} (h : s = mReN v on t k.toNatClampNeg) (hw : w.toInt = 1) : RwP v on k t w.toInt s := by
  refine ⟨fun _ => h, fun _ => ?_⟩
  rw [hw]
  exact h
theorem rwp_out {v : Vf} {on k k2 t s w : Int32} (h : RwP v on k t w.toInt s) (h0 : 0 ≤ k.toInt) (h2 : k2.toInt = k.toInt + 1) (hw : w.toInt = 5 ∨ ¬ hasB on k) : s = mReN v on t k2.toNatClampNeg := by
  rw [i_nat1 h0 h2]
  show s = @ite _ (hasB on (Int32.ofNat k.toNatClampNeg)) (Classical.propDecidable _) (mRwN v (Int32.ofNat k.toNatClampNeg) t (mReN v on t k.toNatClampNeg) 4) (mReN v on t k.toNatClampNeg)
  rw [i_ofN h0]
  by_cases q : hasB on k
  · rw [if_pos q]
    have z := h.2 q
    have w5 := hw.resolve_right (fun n => n q)
    rw [w5] at z
    exact z
  · rw [if_neg q]
    exact h.1 q
theorem way_s {w w2 : Int32} (hw : 1 ≤ w.toInt) (h2 : w2.toInt = w.toInt + 1) : (w2.toInt - 1).toNat = (w.toInt - 1).toNat + 1 ∧ Int32.ofNat ((w.toInt - 1).toNat + 1) = w := by
  refine ⟨by omega, ?_⟩
  rw [show (w.toInt - 1).toNat + 1 = w.toNatClampNeg from by show _ = w.toInt.toNat; omega]
  exact i_ofN (by omega)
theorem rw_step {v : Vf} {c t acc s x w w2 : Int32} (h : s = mRwN v c t acc (w.toInt - 1).toNat) (hw : 1 ≤ w.toInt) (h2 : w2.toInt = w.toInt + 1) (hz : ((mGo v c w t).toInt < 0 ∧ x = s) ∨ (¬ (mGo v c w t).toInt < 0 ∧ x = s ||| (1 : Int32) <<< (mGo v c w t &&& 31))) : x = mRwN v c t acc (w2.toInt - 1).toNat := by
  have e := way_s hw h2
  rw [e.1]
  show x = if (mGo v c (Int32.ofNat ((w.toInt - 1).toNat + 1)) t).toInt < 0 then mRwN v c t acc (w.toInt - 1).toNat else mRwN v c t acc (w.toInt - 1).toNat ||| (1 : Int32) <<< (mGo v c (Int32.ofNat ((w.toInt - 1).toNat + 1)) t &&& 31)
  rw [e.2, ← h]
  rcases hz with ⟨a, b⟩ | ⟨a, b⟩
  · rw [if_pos a]
    exact b
  · rw [if_neg a]
    exact b
theorem rwp_cls {v : Vf} {on k t s x w w2 there push : Int32} (h : RwP v on k t w.toInt s) (hb : hasB on k) (hw : 1 ≤ w.toInt) (h2 : w2.toInt = w.toInt + 1) (hp : PuP v k w there t push) (hz : (push.toInt = -1 ∧ x = s) ∨ (push.toInt ≠ -1 ∧ x = s ||| (1 : Int32) <<< (there &&& 31))) : RwP v on k t w2.toInt x := by
  refine ⟨fun q => absurd hb q, fun _ => rw_step (h.2 hb) hw h2 ?_⟩
  rcases hp with ⟨a, b⟩ | ⟨a, b, c, d⟩
  · rcases hz with ⟨e, f⟩ | ⟨e, f⟩
    · exact Or.inl ⟨by omega, f⟩
    · exact absurd b e
  · rcases hz with ⟨e, f⟩ | ⟨e, f⟩
    · omega
    · exact Or.inr ⟨by rw [a]; omega, by rw [a]; exact f⟩
theorem rwp_m {v : Vf} {on k t s x w w2 go sb : Int32} (h : RwP v on k t w.toInt s) (hb : hasB on k) (hw : 1 ≤ w.toInt) (h2 : w2.toInt = w.toInt + 1) (hg : go = mGo v k w t) (hs : (go.toInt < 0 ∧ sb = 0) ∨ (¬ go.toInt < 0 ∧ sb = (1 : Int32) <<< (go &&& 31))) (ex : x = s ||| sb) : RwP v on k t w2.toInt x := by
  refine ⟨fun q => absurd hb q, fun _ => rw_step (h.2 hb) hw h2 ?_⟩
  rw [← hg]
  rcases hs with ⟨e, f⟩ | ⟨e, f⟩
  · exact Or.inl ⟨e, by rw [ex, f, Int32.or_zero]⟩
  · exact Or.inr ⟨e, by rw [ex, f]⟩
theorem on_next {v : Vf} {a t n n2 s x r : Int32} (h : s = mOnN v a t n.toNatClampNeg) (h0 : 0 ≤ n.toInt) (h2 : n2.toInt = n.toInt + 1) (ex : x = t + n + 1) (hr : r = mRe v s x) : r = mOnN v a t n2.toNatClampNeg := by
  rw [i_nat1 h0 h2]
  show r = mRe v (mOnN v a t n.toNatClampNeg) (t + Int32.ofNat n.toNatClampNeg + 1)
  rw [i_ofN h0, ← h, ← ex]
  exact hr
/-! pairs -/
theorem op_cW {v : Vf} {p : Int32} (hG : mdG v) (h : 0 ≤ (mOP v p).toInt) : cW v (mOP v p) := by
  obtain ⟨g1, g2, g3⟩ := hG
  refine ⟨h, ?_⟩
  unfold mOP at h ⊢
  by_cases q : 0 ≤ p.toInt ∧ mIn v (p / 10) (p - p / 10 * 10)
  · rw [if_pos q] at h ⊢
    obtain ⟨-, q1, q2⟩ := q
    have m := mcell_lt (x := p / 10) (y := p - p / 10 * 10) g1 g3 q1.1 q1.2 q2.1 q2.2
    have t3 := i_mul (z := v 0 0 * (p - p / 10 * 10)) rfl (by omega)
    have t4 := i_add (z := v 0 0 * (p - p / 10 * 10) + p / 10) rfl (by omega)
    omega
  · rw [if_neg q] at h
    exact absurd h (by decide)
end
section
/-! ===== shifts that fit what was seen ===== -/
def shV (v : Vf) (a b c : Int32) : Vf := up3 v 24 (fun j => if j = 0 then a else if j = 1 then b else c)
theorem up3_ne {v : Vf} {k t : Nat} {f : Nat → Int32} (h : t ≠ k) : up3 v k f t = v t := by
  have e : Nat.beq t k = false := by
    cases q : Nat.beq t k
    · rfl
    · exact absurd (Nat.eq_of_beq_eq_true q) h
  unfold up3
  rw [e]
  rfl
def SeenQ (v : Vf) : Prop := ∀ k : Nat, (k : Int) < (v 67 0).toInt → mH v (v 68 k) (v 69 k) = v 70 k
def shN (v : Vf) (m : Nat) : Nat := if (v 4 0).toInt = 0 then 1 else (v 5 m).toInt.toNat
def shA (v : Vf) (n : Nat) : Int32 := Int32.ofNat (n / (shN v 2 * shN v 1))
def shB (v : Vf) (n : Nat) : Int32 := Int32.ofNat (n / shN v 2 % shN v 1)
def shC (v : Vf) (n : Nat) : Int32 := Int32.ofNat (n % shN v 2)
def shS (v : Vf) (n : Nat) : Vf := shV v (shA v n) (shB v n) (shC v n)
def shAll (v : Vf) : Nat := shN v 0 * shN v 1 * shN v 2
noncomputable def fitL (v : Vf) : Nat → List Nat
  | 0 => []
  | n + 1 => @ite _ (SeenQ (shS v n)) (Classical.propDecidable _) (fitL v n ++ [n]) (fitL v n)
theorem fitL_y {v : Vf} {n : Nat} (h : SeenQ (shS v n)) : fitL v (n + 1) = fitL v n ++ [n] := if_pos h
theorem fitL_n {v : Vf} {n : Nat} (h : ¬ SeenQ (shS v n)) : fitL v (n + 1) = fitL v n := if_neg h
theorem fitL_lt {v : Vf} : ∀ n : Nat, ∀ x ∈ fitL v n, x < n
  | 0, x, h => absurd h List.not_mem_nil
  | n + 1, x, h => by
    by_cases q : SeenQ (shS v n)
    · rw [fitL_y q] at h
      rcases List.mem_append.mp h with z | z
      · have := fitL_lt n x z
        omega
      · have := List.mem_singleton.mp z
        omega
    · rw [fitL_n q] at h
      have := fitL_lt n x h
      omega
theorem fitL_len {v : Vf} : ∀ n : Nat, (fitL v n).length ≤ n
  | 0 => Nat.le_refl _
  | n + 1 => by
    have ih := fitL_len (v := v) n
    by_cases q : SeenQ (shS v n)
    · rw [fitL_y q, List.length_append, List.length_singleton]
      omega
    · rw [fitL_n q]
      omega
/-- a row that holds what a list tells -/
def FR (L : List Nat) (e : Nat → Int32) (cnt : Int) (f : Nat → Int32) : Prop := cnt = (L.length : Int) ∧ ∀ (j : Nat) (h : j < L.length), f j = e L[j]
theorem FR.nil {e f : Nat → Int32} {c : Int} (h : c = 0) : FR [] e c f := ⟨h, fun j hj => absurd hj (Nat.not_lt_zero _)⟩
theorem FR.new {L : List Nat} {e f : Nat → Int32} {cnt z x : Int32} {n : Nat} (h : FR L e cnt.toInt f) (hz : z.toInt = cnt.toInt + 1) (hx : x = e n) : FR (L ++ [n]) e z.toInt (upd f cnt.toNatClampNeg x) := by
  obtain ⟨h1, h2⟩ := h
  have en : cnt.toNatClampNeg = L.length := by
    show cnt.toInt.toNat = _
    omega
  have el : (L ++ [n]).length = L.length + 1 := by rw [List.length_append, List.length_singleton]
  rw [en]
  refine ⟨by rw [el]; omega, fun j hj => ?_⟩
  by_cases q : j < L.length
  · rw [updN (by omega), List.getElem_append_left q]
    exact h2 j q
  · have ej : j = L.length := by omega
    subst ej
    rw [updA, List.getElem_append_right (Nat.le_refl _)]
    simp [hx]
/-! heights depend on the shifts of the moons that there are -/
def sm24 (v w : Vf) : Prop := (∀ t, t ≤ 25 → t ≠ 24 → w t = v t) ∧ w 62 = v 62 ∧ ∀ j : Nat, (j : Int) < (v 4 0).toInt → w 24 j = v 24 j
theorem mPart_24 {v w : Vf} {k c t : Int32} (h : sm24 v w) (hk : 0 ≤ k.toInt ∧ k.toInt < (v 4 0).toInt) : mPart w k c t = mPart v k c t := by
  have en := i_nat hk.1
  unfold mPart
  rw [h.2.1, h.1 8 (by decide) (by decide), h.1 6 (by decide) (by decide), h.1 0 (by decide) (by decide), h.1 7 (by decide) (by decide), h.1 5 (by decide) (by decide), h.2.2 k.toNatClampNeg (by omega)]
theorem mPullN_24 {v w : Vf} {c t : Int32} (h : sm24 v w) (h3 : (v 4 0).toInt ≤ 3) : ∀ n : Nat, (n : Int) ≤ (v 4 0).toInt → mPullN w c t n = mPullN v c t n
  | 0, _ => rfl
  | n + 1, hn => by
    have e : (Int32.ofNat n).toInt = (n : Int) := Int32.toInt_ofNat_of_lt (by omega)
    show mPullN w c t n + mPart w (Int32.ofNat n) c t = mPullN v c t n + mPart v (Int32.ofNat n) c t
    rw [mPullN_24 h h3 n (by omega), mPart_24 h (by omega)]
theorem mPull_24 {v w : Vf} {c t : Int32} (h : sm24 v w) (h3 : 0 ≤ (v 4 0).toInt ∧ (v 4 0).toInt ≤ 3) : mPull w c t = mPull v c t := by
  have en := i_nat h3.1
  unfold mPull
  rw [h.1 4 (by decide) (by decide), mPullN_24 h h3.2 _ (by omega)]
theorem mStiff_24 {v w : Vf} {c : Int32} (h : sm24 v w) : mStiff w c = mStiff v c := by
  unfold mStiff
  rw [h.1 3 (by decide) (by decide), h.1 25 (by decide) (by decide)]
theorem mH_24 {v w : Vf} {c t : Int32} (h : sm24 v w) (h3 : 0 ≤ (v 4 0).toInt ∧ (v 4 0).toInt ≤ 3) : mH w c t = mH v c t := by
  unfold mH
  rw [mStiff_24 h, mPull_24 h h3, h.1 2 (by decide) (by decide)]
theorem seen_24 {v w : Vf} (h : sm24 v w) (h3 : 0 ≤ (v 4 0).toInt ∧ (v 4 0).toInt ≤ 3) (h7 : w 67 = v 67 ∧ w 68 = v 68 ∧ w 69 = v 69 ∧ w 70 = v 70) : SeenQ w ↔ SeenQ v := by
  unfold SeenQ
  rw [h7.1, h7.2.1, h7.2.2.1, h7.2.2.2]
  refine ⟨fun q k hk => ?_, fun q k hk => ?_⟩
  · rw [← mH_24 h h3]
    exact q k hk
  · rw [mH_24 h h3]
    exact q k hk
/-! the three shifts of a number -/
theorem shN_b {v : Vf} (hH : MdH v) {m : Nat} (hm : m < 3) : 1 ≤ shN v m ∧ shN v m ≤ 9 := by
  unfold shN
  by_cases q : (v 4 0).toInt = 0
  · rw [if_pos q]
    decide
  · rw [if_neg q]
    have b := (hH.2.2.2.1.2.1.resolve_left q) m hm
    omega
theorem shAll_b {v : Vf} (hH : MdH v) : 1 ≤ shAll v ∧ shAll v ≤ 729 := by
  have a := shN_b hH (m := 0) (by decide)
  have b := shN_b hH (m := 1) (by decide)
  have c := shN_b hH (m := 2) (by decide)
  unfold shAll
  have p1 : shN v 0 * shN v 1 ≤ 9 * 9 := Nat.mul_le_mul a.2 b.2
  have p2 : shN v 0 * shN v 1 * shN v 2 ≤ 81 * 9 := Nat.mul_le_mul p1 c.2
  have q1 : 1 * 1 ≤ shN v 0 * shN v 1 := Nat.mul_le_mul a.1 b.1
  have q2 : 1 * 1 ≤ shN v 0 * shN v 1 * shN v 2 := Nat.mul_le_mul q1 c.1
  omega
theorem sh_lt {v : Vf} (hH : MdH v) {n : Nat} (hn : n < shAll v) : (n / (shN v 2 * shN v 1) < shN v 0 ∧ n / shN v 2 % shN v 1 < shN v 1 ∧ n % shN v 2 < shN v 2) := by
  have b := shN_b hH (m := 1) (by decide)
  have c := shN_b hH (m := 2) (by decide)
  refine ⟨Nat.div_lt_of_lt_mul ?_, Nat.mod_lt _ (by omega), Nat.mod_lt _ (by omega)⟩
  unfold shAll at hn
  rw [Nat.mul_comm (shN v 2) (shN v 1), Nat.mul_comm (shN v 1 * shN v 2) (shN v 0), ← Nat.mul_assoc]
  exact hn
theorem ofN_t {n : Nat} (h : n ≤ 1000000) : (Int32.ofNat n).toInt = (n : Int) := Int32.toInt_ofNat_of_lt (by omega)
theorem sh_t {v : Vf} (hH : MdH v) {n : Nat} (hn : n < shAll v) : (shA v n).toInt = ((n / (shN v 2 * shN v 1) : Nat) : Int) ∧ (shB v n).toInt = ((n / shN v 2 % shN v 1 : Nat) : Int) ∧ (shC v n).toInt = ((n % shN v 2 : Nat) : Int) := by
  have h := sh_lt hH hn
  have a := shN_b hH (m := 0) (by decide)
  have b := shN_b hH (m := 1) (by decide)
  have c := shN_b hH (m := 2) (by decide)
  exact ⟨ofN_t (by omega), ofN_t (by omega), ofN_t (by omega)⟩
/-- the reference's three writes -/
theorem set_sh {v : Vf} {code a b c q : Int32} (hH : MdH v) (hm : (v 4 0).toInt ≠ 0) (h : 0 ≤ code.toInt ∧ code.toInt < (shAll v : Int)) (hc : c = code - code / v 5 2 * v 5 2) (hq : q = code / v 5 2) (hb : b = q - q / v 5 1 * v 5 1) {p : Int32} (hp : p = v 5 2 * v 5 1) (ha : a = code / p) : a = shA v code.toNatClampNeg ∧ b = shB v code.toNatClampNeg ∧ c = shC v code.toNatClampNeg := by
  have en := i_nat h.1
  have al := shAll_b hH
  have t := sh_t hH (n := code.toNatClampNeg) (by omega)
  have m1 := (hH.2.2.2.1.2.1.resolve_left hm) 1 (by decide)
  have m2 := (hH.2.2.2.1.2.1.resolve_left hm) 2 (by decide)
  have e1 : (v 5 1).toInt = (shN v 1 : Int) := by unfold shN; rw [if_neg hm]; omega
  have e2 : (v 5 2).toInt = (shN v 2 : Int) := by unfold shN; rw [if_neg hm]; omega
  have tp := i_mulc 9 hp (by omega) (by omega) (by omega) (by omega) (by omega)
  have tp2 := i_mul hp (by have := mul_b (a := (v 5 2).toInt) (b := (v 5 1).toInt) (A := 9) (B := 9) (by omega) (by omega); omega)
  have pos : 1 ≤ p.toInt := by
    have := mul_pos1 (a := (v 5 2).toInt) (b := (v 5 1).toInt) (by omega) (by omega)
    omega
  have tc := i_rem hc h.1 (by omega)
  have tq := i_div hq h.1 (by omega)
  have tb := i_rem hb tq.2.1 (by omega)
  have ta := i_div ha h.1 (by omega)
  refine ⟨i_eqr ?_, i_eqr ?_, i_eqr ?_⟩
  · rw [ta.1, t.1, tp2, e1, e2, Int.natCast_ediv, Int.natCast_mul, en]
  · rw [tb.1, t.2.1, tq.1, e1, e2, Int.natCast_emod, Int.natCast_ediv, en]
  · rw [tc.1, t.2.2, e2, Int.natCast_emod, en]
theorem sm_set {v w : Vf} {n : Nat} (h4 : (v 4 0).toInt ≤ 3) (hf : ∀ t, t ≤ 25 → t ≠ 24 → w t = v t) (h62 : w 62 = v 62) (ha : w 24 0 = shA v n) (hb : w 24 1 = shB v n) (hc : w 24 2 = shC v n) : sm24 (shS v n) w := by
  refine ⟨fun t h1 h2 => ?_, ?_, fun j hj => ?_⟩
  · rw [hf t h1 h2]
    exact (up3_ne h2).symm
  · rw [h62]
    rfl
  · have hj2 : (j : Int) < (v 4 0).toInt := hj
    rcases (show j = 0 ∨ j = 1 ∨ j = 2 by omega) with rfl | rfl | rfl
    · exact ha
    · exact hb
    · exact hc
theorem sm_none {v w : Vf} {n : Nat} (h4 : (v 4 0).toInt = 0) (hf : ∀ t, t ≤ 25 → t ≠ 24 → w t = v t) (h62 : w 62 = v 62) : sm24 (shS v n) w := by
  refine ⟨fun t h1 h2 => ?_, ?_, fun j hj => ?_⟩
  · rw [hf t h1 h2]
    exact (up3_ne h2).symm
  · rw [h62]
    rfl
  · have hj2 : (j : Int) < (v 4 0).toInt := hj
    omega
theorem seen_next {v : Vf} {i i2 s z : Int32} (h : s.toInt ≠ 0 ↔ ∀ k : Nat, (k : Int) < i.toInt → mH v (v 68 k) (v 69 k) = v 70 k) (hs : s.toInt ≠ 0) (h0 : 0 ≤ i.toInt) (h2 : i2.toInt = i.toInt + 1) (e : z.toInt ≠ 0 ↔ mH v (v 68 i.toNatClampNeg) (v 69 i.toNatClampNeg) = v 70 i.toNatClampNeg) : z.toInt ≠ 0 ↔ ∀ k : Nat, (k : Int) < i2.toInt → mH v (v 68 k) (v 69 k) = v 70 k := by
  have en := i_nat h0
  rw [e]
  refine ⟨fun q k hk => ?_, fun q => q _ (by omega)⟩
  by_cases g : k = i.toNatClampNeg
  · subst g
    exact q
  · exact h.mp hs k (by omega)
theorem all_0 {v : Vf} (h : (v 4 0).toInt = 0) : (1 : Int32).toInt = (shAll v : Int) := by
  unfold shAll shN
  rw [if_pos h, if_pos h, if_pos h]
  decide
theorem codes_all {v : Vf} {r : Int32} (hH : MdH v) (hm : (v 4 0).toInt ≠ 0) (h : r.toInt = ((v 5 0).toInt * (v 5 1).toInt) * (v 5 2).toInt) : r.toInt = (shAll v : Int) := by
  have m0 := (hH.2.2.2.1.2.1.resolve_left hm) 0 (by decide)
  have m1 := (hH.2.2.2.1.2.1.resolve_left hm) 1 (by decide)
  have m2 := (hH.2.2.2.1.2.1.resolve_left hm) 2 (by decide)
  have e0 : (v 5 0).toInt = (shN v 0 : Int) := by unfold shN; rw [if_neg hm]; omega
  have e1 : (v 5 1).toInt = (shN v 1 : Int) := by unfold shN; rw [if_neg hm]; omega
  have e2 : (v 5 2).toInt = (shN v 2 : Int) := by unfold shN; rw [if_neg hm]; omega
  unfold shAll
  rw [h, e0, e1, e2, Int.natCast_mul, Int.natCast_mul]
theorem sh_at {v w : Vf} {n : Nat} {k : Int32} (hk : 0 ≤ k.toInt ∧ k.toInt ≤ 2) (h : w 24 0 = shA v n ∧ w 24 1 = shB v n ∧ w 24 2 = shC v n) : w 24 k.toNatClampNeg = shS v n 24 k.toNatClampNeg := by
  have en := i_nat hk.1
  rcases (show k.toNatClampNeg = 0 ∨ k.toNatClampNeg = 1 ∨ k.toNatClampNeg = 2 by omega) with q | q | q
  · rw [q]
    exact h.1
  · rw [q]
    exact h.2.1
  · rw [q]
    exact h.2.2
def FitR (v : Vf) (i k r : Int32) : Prop := (i.toInt = -1 ∧ r.toInt = ((fitL v (shAll v)).length : Int)) ∨ (i.toInt ≠ -1 ∧ (((i.toInt < 0 ∨ ((fitL v (shAll v)).length : Int) ≤ i.toInt) ∧ r.toInt = -1) ∨ ∃ (h : i.toNatClampNeg < (fitL v (shAll v)).length), 0 ≤ i.toInt ∧ r = shS v ((fitL v (shAll v))[i.toNatClampNeg]) 24 k.toNatClampNeg))
theorem fit_eq {v : Vf} {i k r q : Int32} (h1 : FitR v i k r) (h2 : FitR v i k q) : r.toInt = q.toInt := by
  rcases h1 with ⟨a1, a2⟩ | ⟨a1, ⟨a2, a3⟩ | ⟨a2, a3, a4⟩⟩
  · rcases h2 with ⟨b1, b2⟩ | ⟨b1, -⟩
    · omega
    · omega
  · rcases h2 with ⟨b1, b2⟩ | ⟨b1, ⟨b2, b3⟩ | ⟨b2, b3, b4⟩⟩
    · omega
    · omega
    · have := i_nat b3
      omega
  · rcases h2 with ⟨b1, b2⟩ | ⟨b1, ⟨b2, b3⟩ | ⟨b2, b3, b4⟩⟩
    · omega
    · have := i_nat a3
      omega
    · rw [a4, b4]
end
section
/-! ===== the next look: how many have the height that most of them have ===== -/
def cnN (f : Nat → Int32) (p : Int32) : Nat → Nat
  | 0 => 0
  | n + 1 => if f n = p then cnN f p n + 1 else cnN f p n
def mxN (f : Nat → Int32) : Nat → Nat
  | 0 => 0
  | n + 1 => max (mxN f n) (cnN f (f n) (n + 1))
theorem mxN_le {f : Nat → Int32} {n : Nat} : ∀ m : Nat, n ≤ m → mxN f n ≤ mxN f m
  | 0, h => by
    obtain rfl : n = 0 := by omega
    exact Nat.le_refl _
  | m + 1, h => by
    by_cases q : n = m + 1
    · subst q
      exact Nat.le_refl _
    · have ih := mxN_le (f := f) (n := n) m (by omega)
      have : mxN f (m + 1) = max (mxN f m) (cnN f (f m) (m + 1)) := rfl
      omega
theorem cnN_le {f : Nat → Int32} {p : Int32} : ∀ n : Nat, cnN f p n ≤ n
  | 0 => Nat.le_refl _
  | n + 1 => by
    have ih := cnN_le (f := f) (p := p) n
    show (if f n = p then cnN f p n + 1 else cnN f p n) ≤ n + 1
    split <;> omega
theorem mxN_len {f : Nat → Int32} : ∀ n : Nat, mxN f n ≤ n
  | 0 => Nat.le_refl _
  | n + 1 => by
    have ih := mxN_len (f := f) n
    have c := cnN_le (f := f) (p := f n) (n + 1)
    have : mxN f (n + 1) = max (mxN f n) (cnN f (f n) (n + 1)) := rfl
    omega
theorem cnN_y {f : Nat → Int32} {p : Int32} {n : Nat} (h : f n = p) : cnN f p (n + 1) = cnN f p n + 1 := if_pos h
theorem cnN_n {f : Nat → Int32} {p : Int32} {n : Nat} (h : ¬ f n = p) : cnN f p (n + 1) = cnN f p n := if_neg h
/-- a row of counts, by pull -/
def CntR (f : Nat → Int32) (d n : Nat) (u : Nat → Int32) : Prop := ∀ p : Int32, -27 ≤ p.toInt → p.toInt ≤ 27 → (u (p.toInt + (d : Int)).toNat).toInt = (cnN f p n : Int)
theorem cntr_0 {f : Nat → Int32} {d N : Nat} {u : Nat → Int32} (hd : 27 ≤ d) (hN : d + 27 < N) (h : ∀ j : Nat, j < N → u j = 0) : CntR f d 0 u := by
  intro p h1 h2
  rw [h _ (by omega)]
  show (0 : Int32).toInt = ((0 : Nat) : Int)
  decide
theorem cntr_next {f : Nat → Int32} {d n : Nat} {u : Nat → Int32} {i x z : Int32} (h : CntR f d n u) (hd : 27 ≤ d ∧ d ≤ 30) (hb : -27 ≤ (f n).toInt ∧ (f n).toInt ≤ 27) (hi : i.toInt = (f n).toInt + (d : Int)) (hx : x = u i.toNatClampNeg) (hn : n ≤ 729) (hz : z = x + 1) : CntR f d (n + 1) (upd u i.toNatClampNeg z) ∧ z.toInt = (cnN f (f n) (n + 1) : Int) := by
  have ei : i.toNatClampNeg = ((f n).toInt + (d : Int)).toNat := by
    show i.toInt.toNat = _
    rw [hi]
  have hc := h (f n) hb.1 hb.2
  have le := cnN_le (f := f) (p := f n) n
  have y := cnN_y (f := f) (p := f n) (n := n) rfl
  have n1 : (1 : Int32).toInt = 1 := by decide
  rw [← ei, ← hx] at hc
  have tz := i_add hz (by omega)
  have ez : z.toInt = (cnN f (f n) (n + 1) : Int) := by omega
  refine ⟨fun p h1 h2 => ?_, ez⟩
  by_cases q : f n = p
  · subst q
    rw [← ei, updA]
    exact ez
  · have ne := i_ne q
    rw [updN (by omega), cnN_n q]
    exact h p h1 h2
def atL : List Nat → Nat → Nat
  | [], _ => 0
  | x :: _, 0 => x
  | _ :: l, n + 1 => atL l n
theorem atL_get : ∀ (L : List Nat) (j : Nat) (h : j < L.length), atL L j = L[j]
  | [], _, h => absurd h (Nat.not_lt_zero _)
  | _ :: _, 0, _ => rfl
  | _ :: l, j + 1, h => atL_get l j (Nat.lt_of_succ_lt_succ h)
noncomputable def pulF (v : Vf) (c t : Int32) (j : Nat) : Int32 := mPull (shS v (atL (fitL v (shAll v)) j)) c t
noncomputable def woN (v : Vf) (c t : Int32) : Nat := if mStiff v c = 0 then (fitL v (shAll v)).length else mxN (pulF v c t) (fitL v (shAll v)).length
theorem woN_le {v : Vf} {c t : Int32} : woN v c t ≤ (fitL v (shAll v)).length := by
  unfold woN
  split
  · exact Nat.le_refl _
  · exact mxN_len _
theorem woN_1 {v : Vf} {c t : Int32} (h : (fitL v (shAll v)).length ≤ 1) : woN v c t = (fitL v (shAll v)).length := by
  unfold woN
  split
  · rfl
  · generalize pulF v c t = f
    rcases (show (fitL v (shAll v)).length = 0 ∨ (fitL v (shAll v)).length = 1 by omega) with q | q
    · rw [q]
      rfl
    · rw [q]
      have y : cnN f (f 0) 1 = 1 := (cnN_y (f := f) (p := f 0) (n := 0) rfl).trans rfl
      show max 0 (cnN f (f 0) 1) = 1
      rw [y]
      rfl
/-- the best so far: how many are left, and where (24 times the step and the cell; -1: nowhere) -/
noncomputable def lkC (v : Vf) (t : Nat) (s : Nat × Int) : Nat → Nat × Int
  | 0 => s
  | n + 1 => if woN v (Int32.ofNat n) (Int32.ofNat t) < (lkC v t s n).1 then (woN v (Int32.ofNat n) (Int32.ofNat t), 24 * (t : Int) + (n : Int)) else lkC v t s n
noncomputable def lkT (v : Vf) : Nat → Nat × Int
  | 0 => ((fitL v (shAll v)).length, -1)
  | t + 1 => lkC v t (lkT v t) ((v 0 0).toInt * (v 1 0).toInt).toNat
theorem lkC_y {v : Vf} {t n : Nat} {s : Nat × Int} (h : woN v (Int32.ofNat n) (Int32.ofNat t) < (lkC v t s n).1) : lkC v t s (n + 1) = (woN v (Int32.ofNat n) (Int32.ofNat t), 24 * (t : Int) + (n : Int)) := if_pos h
theorem lkC_n {v : Vf} {t n : Nat} {s : Nat × Int} (h : ¬ woN v (Int32.ofNat n) (Int32.ofNat t) < (lkC v t s n).1) : lkC v t s (n + 1) = lkC v t s n := if_neg h
theorem lkC_1 {v : Vf} {t : Nat} {s : Nat × Int} (h : (fitL v (shAll v)).length ≤ 1) (hs : s.1 = (fitL v (shAll v)).length) : ∀ n : Nat, lkC v t s n = s
  | 0 => rfl
  | n + 1 => by
    have ih := lkC_1 (t := t) h hs n
    rw [lkC_n (by rw [ih, woN_1 h, hs]; omega)]
    exact ih
theorem lkT_1 {v : Vf} (h : (fitL v (shAll v)).length ≤ 1) : ∀ t : Nat, lkT v t = ((fitL v (shAll v)).length, -1)
  | 0 => rfl
  | t + 1 => by
    have ih := lkT_1 h t
    show lkC v t (lkT v t) _ = _
    rw [ih]
    exact lkC_1 h rfl _
/-- a state that is sound: nowhere, and as many as fit; or somewhere, and fewer -/
def LkO (v : Vf) (s : Nat × Int) : Prop := (s.2 = -1 ∧ s.1 = (fitL v (shAll v)).length) ∨ ((0 ≤ s.2 ∧ s.2 ≤ 287) ∧ s.1 < (fitL v (shAll v)).length)
theorem lkC_o {v : Vf} {t : Nat} {s : Nat × Int} (ht : t < 12) (h : LkO v s) : ∀ n : Nat, n ≤ 24 → LkO v (lkC v t s n)
  | 0, _ => h
  | n + 1, hn => by
    have ih := lkC_o ht h n (by omega)
    by_cases q : woN v (Int32.ofNat n) (Int32.ofNat t) < (lkC v t s n).1
    · rw [lkC_y q]
      refine Or.inr ⟨⟨by show 0 ≤ 24 * (t : Int) + (n : Int); omega, by show 24 * (t : Int) + (n : Int) ≤ 287; omega⟩, ?_⟩
      show woN v (Int32.ofNat n) (Int32.ofNat t) < _
      rcases ih with ⟨-, i2⟩ | ⟨-, i2⟩ <;> omega
    · rw [lkC_n q]
      exact ih
theorem lkT_o {v : Vf} (hG : mdG v) : ∀ t : Nat, t ≤ 12 → LkO v (lkT v t)
  | 0, _ => Or.inl ⟨rfl, rfl⟩
  | t + 1, ht => by
    have h24 := hG.2.2
    exact lkC_o (by omega) (lkT_o hG t (by omega)) _ (by omega)
def LooR (v : Vf) (what r : Int32) : Prop := ((lkT v 12).2 = -1 ∧ r.toInt = -1) ∨ ((0 ≤ (lkT v 12).2 ∧ (lkT v 12).2 ≤ 287) ∧ ((what.toInt = 0 ∧ ∃ c : Int32, c.toInt = (lkT v 12).2 % 24 ∧ r = mPair v c) ∨ (what.toInt = 1 ∧ r.toInt = (lkT v 12).2 / 24) ∨ (what.toInt = 2 ∧ r.toInt = ((lkT v 12).1 : Int))))
theorem loo_eq {v : Vf} {what r q : Int32} (h1 : LooR v what r) (h2 : LooR v what q) : r.toInt = q.toInt := by
  rcases h1 with ⟨a1, a2⟩ | ⟨a1, ⟨a2, c, a3, a4⟩ | ⟨a2, a3⟩ | ⟨a2, a3⟩⟩
  · rcases h2 with ⟨b1, b2⟩ | ⟨b1, -⟩ <;> omega
  · rcases h2 with ⟨b1, b2⟩ | ⟨b1, ⟨b2, d, b3, b4⟩ | ⟨b2, b3⟩ | ⟨b2, b3⟩⟩
    · omega
    · have e : c = d := i_eqr (by rw [a3, b3])
      rw [a4, b4, e]
    · omega
    · omega
  · rcases h2 with ⟨b1, b2⟩ | ⟨b1, ⟨b2, d, b3, b4⟩ | ⟨b2, b3⟩ | ⟨b2, b3⟩⟩ <;> omega
  · rcases h2 with ⟨b1, b2⟩ | ⟨b1, ⟨b2, d, b3, b4⟩ | ⟨b2, b3⟩ | ⟨b2, b3⟩⟩ <;> omega
/-! what the looks depend on -/
def fr4 (v w : Vf) : Prop := ∀ t, t ≠ 24 → t ≠ 71 → t ≠ 72 → t ≠ 73 → t ≠ 74 → w t = v t
theorem fr4.rf {v : Vf} : fr4 v v := fun _ _ _ _ _ _ => rfl
theorem fr4.tr {v w u : Vf} (h : fr4 v w) (g : fr4 w u) : fr4 v u := fun t a b c d e => (g t a b c d e).trans (h t a b c d e)
theorem fr4_shN {v w : Vf} (h : fr4 v w) (m : Nat) : shN w m = shN v m := by
  unfold shN
  rw [h 4 (by decide) (by decide) (by decide) (by decide) (by decide), h 5 (by decide) (by decide) (by decide) (by decide) (by decide)]
theorem fr4_all {v w : Vf} (h : fr4 v w) : shAll w = shAll v := by
  unfold shAll
  rw [fr4_shN h, fr4_shN h, fr4_shN h]
theorem fr4_sm {v w : Vf} (h : fr4 v w) (n : Nat) : sm24 (shS v n) (shS w n) := by
  have ea : shA w n = shA v n := by unfold shA; rw [fr4_shN h, fr4_shN h]
  have eb : shB w n = shB v n := by unfold shB; rw [fr4_shN h, fr4_shN h]
  have ec : shC w n = shC v n := by unfold shC; rw [fr4_shN h]
  refine ⟨fun t h1 h2 => ?_, h 62 (by decide) (by decide) (by decide) (by decide) (by decide), fun j _ => ?_⟩
  · show up3 w 24 _ t = up3 v 24 _ t
    rw [up3_ne h2, up3_ne h2]
    exact h t h2 (by omega) (by omega) (by omega) (by omega)
  · show (if j = 0 then shA w n else if j = 1 then shB w n else shC w n) = if j = 0 then shA v n else if j = 1 then shB v n else shC v n
    rw [ea, eb, ec]
theorem fr4_seen {v w : Vf} (h : fr4 v w) (h3 : 0 ≤ (v 4 0).toInt ∧ (v 4 0).toInt ≤ 3) (n : Nat) : SeenQ (shS w n) ↔ SeenQ (shS v n) := seen_24 (fr4_sm h n) h3 ⟨h 67 (by decide) (by decide) (by decide) (by decide) (by decide), h 68 (by decide) (by decide) (by decide) (by decide) (by decide), h 69 (by decide) (by decide) (by decide) (by decide) (by decide), h 70 (by decide) (by decide) (by decide) (by decide) (by decide)⟩
theorem fr4_fit {v w : Vf} (h : fr4 v w) (h3 : 0 ≤ (v 4 0).toInt ∧ (v 4 0).toInt ≤ 3) : ∀ n : Nat, fitL w n = fitL v n
  | 0 => rfl
  | n + 1 => by
    have ih := fr4_fit h h3 n
    by_cases q : SeenQ (shS v n)
    · rw [fitL_y q, fitL_y ((fr4_seen h h3 n).mpr q), ih]
    · rw [fitL_n q, fitL_n (fun z => q ((fr4_seen h h3 n).mp z)), ih]
theorem fr4_wo {v w : Vf} {c t : Int32} (h : fr4 v w) (h3 : 0 ≤ (v 4 0).toInt ∧ (v 4 0).toInt ≤ 3) : woN w c t = woN v c t := by
  have e1 : fitL w (shAll w) = fitL v (shAll v) := by rw [fr4_all h, fr4_fit h h3]
  have e2 : pulF w c t = pulF v c t := by
    funext j
    unfold pulF
    rw [e1]
    exact mPull_24 (fr4_sm h _) h3
  have e3 : mStiff w c = mStiff v c := by
    unfold mStiff
    rw [h 3 (by decide) (by decide) (by decide) (by decide) (by decide), h 25 (by decide) (by decide) (by decide) (by decide) (by decide)]
  unfold woN
  rw [e1, e2, e3]
theorem lk_next {v : Vf} {t : Nat} {s : Nat × Int} {k k2 l b r nb nl st : Int32} (h : l.toInt = ((lkC v t s k.toNatClampNeg).1 : Int) ∧ b.toInt = (lkC v t s k.toNatClampNeg).2) (h0 : 0 ≤ k.toInt) (h2 : k2.toInt = k.toInt + 1) (ht : st.toInt = (t : Int)) (ht2 : t ≤ 12) (hr : r.toInt = (woN v k st : Int)) (hb : nb.toInt = if r.toInt < l.toInt then 24 * st.toInt + k.toInt else b.toInt) (hl : nl.toInt = if r.toInt < l.toInt then r.toInt else l.toInt) : nl.toInt = ((lkC v t s k2.toNatClampNeg).1 : Int) ∧ nb.toInt = (lkC v t s k2.toNatClampNeg).2 := by
  have ek : Int32.ofNat k.toNatClampNeg = k := i_ofN h0
  have et : Int32.ofNat t = st := i_eqr (by rw [ofN_t (by omega), ht])
  have en := i_nat h0
  obtain ⟨h1, h3⟩ := h
  rw [i_nat1 h0 h2]
  by_cases q : woN v (Int32.ofNat k.toNatClampNeg) (Int32.ofNat t) < (lkC v t s k.toNatClampNeg).1
  · rw [lkC_y q]
    rw [ek, et] at q ⊢
    have c : r.toInt < l.toInt := by omega
    rw [if_pos c] at hb hl
    refine ⟨by rw [hl]; exact hr, ?_⟩
    show nb.toInt = 24 * (t : Int) + (k.toNatClampNeg : Int)
    omega
  · rw [lkC_n q]
    rw [ek, et] at q
    have c : ¬ r.toInt < l.toInt := by omega
    rw [if_neg c] at hb hl
    exact ⟨by rw [hl]; exact h1, by rw [hb]; exact h3⟩
theorem lk_row {v : Vf} {st st2 k l b : Int32} (h : l.toInt = ((lkC v st.toNatClampNeg (lkT v st.toNatClampNeg) k.toNatClampNeg).1 : Int) ∧ b.toInt = (lkC v st.toNatClampNeg (lkT v st.toNatClampNeg) k.toNatClampNeg).2) (h0 : 0 ≤ st.toInt) (h2 : st2.toInt = st.toInt + 1) (hk : k.toInt = (v 0 0).toInt * (v 1 0).toInt) : l.toInt = ((lkT v st2.toNatClampNeg).1 : Int) ∧ b.toInt = (lkT v st2.toNatClampNeg).2 := by
  have ek : k.toNatClampNeg = ((v 0 0).toInt * (v 1 0).toInt).toNat := by
    show k.toInt.toNat = _
    rw [hk]
  rw [i_nat1 h0 h2]
  rw [ek] at h
  exact h
theorem loo_m {v : Vf} {what r l b c p : Int32} (hG : mdG v) (h : l.toInt = ((lkT v 12).1 : Int) ∧ b.toInt = (lkT v 12).2) (hb : 0 ≤ b.toInt) (hr : (what.toInt = 0 ∧ c.toInt = b.toInt % 24 ∧ r = mPair v c) ∨ (what.toInt = 1 ∧ r.toInt = b.toInt / 24) ∨ (what.toInt = 2 ∧ r = l)) : LooR v what r := by
  have o := lkT_o hG 12 (by decide)
  have h1 := h.1
  have h2 := h.2
  have o2 : 0 ≤ (lkT v 12).2 ∧ (lkT v 12).2 ≤ 287 := by
    rcases o with ⟨a, -⟩ | ⟨a, -⟩
    · omega
    · exact a
  refine Or.inr ⟨o2, ?_⟩
  rcases hr with ⟨a, d, e⟩ | ⟨a, d⟩ | ⟨a, d⟩
  · exact Or.inl ⟨a, c, by rw [d, h2], e⟩
  · exact Or.inr (Or.inl ⟨a, by rw [d, h2]⟩)
  · exact Or.inr (Or.inr ⟨a, by rw [d]; exact h1⟩)
theorem loo_none {v : Vf} {what r : Int32} (hG : mdG v) (hb : (lkT v 12).2 < 0) (hr : r.toInt = -1) : LooR v what r := by
  have o := lkT_o hG 12 (by decide)
  refine Or.inl ⟨?_, hr⟩
  rcases o with ⟨a, -⟩ | ⟨a, -⟩
  · exact a
  · omega
theorem max_cast {f : Nat → Int32} {n : Nat} {d m z : Int32} (hd : d.toInt = max m.toInt z.toInt) (hm : m.toInt = (mxN f n : Int)) (hz : z.toInt = (cnN f (f n) (n + 1) : Int)) : d.toInt = (mxN f (n + 1) : Int) := by
  have e : mxN f (n + 1) = max (mxN f n) (cnN f (f n) (n + 1)) := rfl
  omega
/-- the class's count, that may stop early -/
def WoC (v : Vf) (c t en r : Int32) : Prop := ((woN v c t : Int) < en.toInt → r.toInt = (woN v c t : Int)) ∧ (en.toInt ≤ (woN v c t : Int) → en.toInt ≤ r.toInt)
theorem woc_len {v : Vf} {c t en r : Int32} (hs : mStiff v c = 0) (hr : r.toInt = ((fitL v (shAll v)).length : Int)) : WoC v c t en r := by
  have e : woN v c t = (fitL v (shAll v)).length := by
    unfold woN
    rw [if_pos hs]
  unfold WoC
  rw [e]
  exact ⟨fun _ => hr, fun q => by omega⟩
theorem woc_end {v : Vf} {c t en r j : Int32} {n : Nat} (hs : ¬ mStiff v c = 0) (hr : r.toInt = (mxN (pulF v c t) n : Int)) (hn : n ≤ (fitL v (shAll v)).length) (he : n = (fitL v (shAll v)).length ∨ en.toInt ≤ r.toInt) : WoC v c t en r := by
  have e : woN v c t = mxN (pulF v c t) (fitL v (shAll v)).length := by
    unfold woN
    rw [if_neg hs]
  have m := mxN_le (f := pulF v c t) _ hn
  unfold WoC
  rw [e]
  rcases he with q | q
  · subst q
    exact ⟨fun _ => hr, fun z => by omega⟩
  · exact ⟨fun z => by omega, fun _ => q⟩
/-- where the class notes the best look -/
def LkQ (s : Nat × Int) (l1 l2 l3 : Int32) : Prop := 0 ≤ s.2 → l1.toInt = s.2 % 24 ∧ l2.toInt = s.2 / 24 ∧ l3.toInt = (s.1 : Int)
theorem lkq_next {v : Vf} {t : Nat} {s : Nat × Int} {k k2 b r nb st a1 a2 a3 b1 b2 b3 : Int32} (h : b.toInt = ((lkC v t s k.toNatClampNeg).1 : Int) ∧ LkQ (lkC v t s k.toNatClampNeg) a1 a2 a3) (h0 : 0 ≤ k.toInt ∧ k.toInt ≤ 23) (h2 : k2.toInt = k.toInt + 1) (ht : st.toInt = (t : Int)) (ht2 : t ≤ 11) (hr : WoC v k st b r) (hb : (r.toInt < b.toInt ∧ nb = r ∧ b1 = k ∧ b2 = st ∧ b3 = r) ∨ (b.toInt ≤ r.toInt ∧ nb = b ∧ b1 = a1 ∧ b2 = a2 ∧ b3 = a3)) : nb.toInt = ((lkC v t s k2.toNatClampNeg).1 : Int) ∧ LkQ (lkC v t s k2.toNatClampNeg) b1 b2 b3 := by
  have ek : Int32.ofNat k.toNatClampNeg = k := i_ofN h0.1
  have et : Int32.ofNat t = st := i_eqr (by rw [ofN_t (by omega), ht])
  have en := i_nat h0.1
  obtain ⟨h1, h3⟩ := h
  obtain ⟨r1, r2⟩ := hr
  rw [i_nat1 h0.1 h2]
  by_cases q : woN v (Int32.ofNat k.toNatClampNeg) (Int32.ofNat t) < (lkC v t s k.toNatClampNeg).1
  · rw [lkC_y q]
    rw [ek, et] at q ⊢
    have e := r1 (by omega)
    rcases hb with ⟨-, c2, c3, c4, c5⟩ | ⟨c1, -⟩
    · refine ⟨by rw [c2]; exact e, fun _ => ?_⟩
      show b1.toInt = (24 * (t : Int) + (k.toNatClampNeg : Int)) % 24 ∧ b2.toInt = (24 * (t : Int) + (k.toNatClampNeg : Int)) / 24 ∧ b3.toInt = (woN v k st : Int)
      rw [c3, c4, c5]
      exact ⟨by omega, by omega, e⟩
    · omega
  · rw [lkC_n q]
    rw [ek, et] at q
    have e := r2 (by omega)
    rcases hb with ⟨c1, -⟩ | ⟨-, c2, c3, c4, c5⟩
    · omega
    · rw [c2, c3, c4, c5]
      exact ⟨h1, h3⟩
theorem lkq_row {v : Vf} {st st2 k b a1 a2 a3 : Int32} (h : b.toInt = ((lkC v st.toNatClampNeg (lkT v st.toNatClampNeg) k.toNatClampNeg).1 : Int) ∧ LkQ (lkC v st.toNatClampNeg (lkT v st.toNatClampNeg) k.toNatClampNeg) a1 a2 a3) (h0 : 0 ≤ st.toInt) (h2 : st2.toInt = st.toInt + 1) (hk : k.toInt = (v 0 0).toInt * (v 1 0).toInt) : b.toInt = ((lkT v st2.toNatClampNeg).1 : Int) ∧ LkQ (lkT v st2.toNatClampNeg) a1 a2 a3 := by
  have ek : k.toNatClampNeg = ((v 0 0).toInt * (v 1 0).toInt).toNat := by
    show k.toInt.toNat = _
    rw [hk]
  rw [i_nat1 h0 h2]
  rw [ek] at h
  exact h
theorem lk_b {v : Vf} (hG : mdG v) (h : 0 ≤ (lkT v 12).2) : 0 ≤ (lkT v 12).2 ∧ (lkT v 12).2 ≤ 287 := by
  rcases lkT_o hG 12 (by decide) with ⟨a, -⟩ | ⟨a, -⟩
  · omega
  · exact a
theorem lkT_z {v : Vf} (h : (v 0 0).toInt * (v 1 0).toInt = 0) : ∀ t : Nat, (lkT v t).2 = -1
  | 0 => rfl
  | t + 1 => by
    show (lkC v t (lkT v t) ((v 0 0).toInt * (v 1 0).toInt).toNat).2 = -1
    rw [h]
    exact lkT_z h t
theorem look_0 {v : Vf} {what c r w : Int32} (hG : mdG v) (h : 0 ≤ (lkT v 12).2) (hw : what.toInt = 0) (hc : c.toInt = (lkT v 12).2 % 24) (w0 : w = v 0 0) (hp : (w.toInt < 1 → r = 0) ∧ (1 ≤ w.toInt → r = (c - c / w * w) * 10 + c / w)) : LooR v what r := by
  have nn := Int.mul_nonneg hG.1.1 hG.2.1.1
  have wd : 1 ≤ (v 0 0).toInt * (v 1 0).toInt := by
    rcases Int.lt_or_le 0 ((v 0 0).toInt * (v 1 0).toInt) with q | q
    · omega
    · have z := lkT_z (v := v) (by omega) 12
      omega
  have w1 := wd_pos hG.1.1 wd
  exact Or.inr ⟨lk_b hG h, Or.inl ⟨hw, c, hc, pair_cls (hp.2 (by rw [w0]; exact w1)) w0⟩⟩
end
section
/-! ===== least pushed: a table by the steps that are left, and the first of the best ways ===== -/
noncomputable def rbV (v : Vf) (c w tm : Int32) (f : Int32 → Int32) : Int32 := if (mGo v c w tm).toInt < 0 then 1000000000 else if (f (mGo v c w tm)).toInt < 1000000000 then f (mGo v c w tm) + mCost v c (mGo v c w tm) tm else 1000000000
noncomputable def mnV (v : Vf) (c tm : Int32) (f : Int32 → Int32) : Nat → Int32
  | 0 => 1000000000
  | n + 1 => if (rbV v c (Int32.ofNat n) tm f).toInt < (mnV v c tm f n).toInt then rbV v c (Int32.ofNat n) tm f else mnV v c tm f n
noncomputable def chV (v : Vf) (c tm : Int32) (f : Int32 → Int32) : Nat → Int32
  | 0 => 0
  | n + 1 => if (rbV v c (Int32.ofNat n) tm f).toInt < (mnV v c tm f n).toInt then Int32.ofNat n else chV v c tm f n
noncomputable def rsV (v : Vf) (b t : Int32) (n : Nat) : Nat → Int32 → Int32
  | 0 => fun c => if c = b then 0 else 1000000000
  | j + 1 => fun c => if c = b then 0 else mnV v c (t + Int32.ofNat (n - (j + 1)) + 1) (rsV v b t n j) 5
noncomputable def ckV (v : Vf) (b t : Int32) (n k : Nat) (c : Int32) : Int32 := if c = b then 0 else chV v c (t + Int32.ofNat k + 1) (rsV v b t n (n - (k + 1))) 5
noncomputable def pcV (v : Vf) (a b t : Int32) (n : Nat) : Nat → Int32
  | 0 => a
  | k + 1 => mGo v (pcV v a b t n k) (ckV v b t n k (pcV v a b t n k)) (t + Int32.ofNat k + 1)
/-- the step i of the way: none, once it is there -/
def WayR (v : Vf) (a b t : Int32) (n : Nat) (i r : Int32) : Prop := (i.toInt < 0 ∧ r.toInt = -1) ∨ (0 ≤ i.toInt ∧ ((∃ k, k ≤ i.toNatClampNeg ∧ pcV v a b t n k = b ∧ ∀ m, m < k → pcV v a b t n m ≠ b) ∧ r.toInt = -1) ∨ (0 ≤ i.toInt ∧ (∀ k, k ≤ i.toNatClampNeg → pcV v a b t n k ≠ b) ∧ r = ckV v b t n i.toNatClampNeg (pcV v a b t n i.toNatClampNeg)))
def LeaR (v : Vf) (a b t : Int32) (n : Nat) (i r : Int32) : Prop := (1000000000 ≤ (rsV v b t n n a).toInt ∧ r.toInt = -1) ∨ ((rsV v b t n n a).toInt < 1000000000 ∧ ((i.toInt = -1 ∧ r = rsV v b t n n a) ∨ (i.toInt ≠ -1 ∧ WayR v a b t n i r)))
theorem way_eq {v : Vf} {a b t : Int32} {n : Nat} {i r q : Int32} (h1 : WayR v a b t n i r) (h2 : WayR v a b t n i q) : r.toInt = q.toInt := by
  rcases h1 with ⟨a1, a2⟩ | ⟨a1, ⟨k, a2, a3, a4⟩, a5⟩ | ⟨a1, a2, a3⟩
  · rcases h2 with ⟨b1, b2⟩ | ⟨b1, -⟩ | ⟨b1, -⟩ <;> omega
  · rcases h2 with ⟨b1, b2⟩ | ⟨b1, -, b5⟩ | ⟨b1, b2, b3⟩
    · omega
    · omega
    · exact absurd a3 (b2 k a2)
  · rcases h2 with ⟨b1, b2⟩ | ⟨b1, ⟨k, b2, b3, b4⟩, b5⟩ | ⟨b1, b2, b3⟩
    · omega
    · exact absurd b3 (a2 k b2)
    · rw [a3, b3]
theorem lea_eq {v : Vf} {a b t : Int32} {n : Nat} {i r q : Int32} (h1 : LeaR v a b t n i r) (h2 : LeaR v a b t n i q) : r.toInt = q.toInt := by
  rcases h1 with ⟨a1, a2⟩ | ⟨a1, ⟨a2, a3⟩ | ⟨a2, a3⟩⟩
  · rcases h2 with ⟨b1, b2⟩ | ⟨b1, -⟩ <;> omega
  · rcases h2 with ⟨b1, b2⟩ | ⟨b1, ⟨b2, b3⟩ | ⟨b2, b3⟩⟩
    · omega
    · rw [a3, b3]
    · omega
  · rcases h2 with ⟨b1, b2⟩ | ⟨b1, ⟨b2, b3⟩ | ⟨b2, b3⟩⟩
    · omega
    · omega
    · exact way_eq a3 b3
/-! bounds -/
theorem go_cW2 {vm : Vf} {c way t : Int32} (hG : mdG vm) (hc : cW vm c) (h : 0 ≤ (mGo vm c way t).toInt) : cW vm (mGo vm c way t) := by
  unfold mGo at h ⊢
  by_cases q : way = 0
  · rw [if_pos q] at h ⊢
    exact hc
  · rw [if_neg q] at h ⊢
    by_cases q2 : (mBes vm c way).toInt < 0
    · rw [if_pos q2] at h
      omega
    · rw [if_neg q2] at h ⊢
      by_cases q3 : mBar vm c (mBes vm c way) t ≠ 0 ∨ vm 29 0 < mH vm (mBes vm c way) t - mH vm c t
      · rw [if_pos q3] at h
        exact absurd h (by decide)
      · rw [if_neg q3] at h ⊢
        exact bes_cW hG h
theorem mCost_b {v : Vf} {a c t : Int32} (hH : MdH v) (hW : 1 ≤ (v 0 0).toInt) (ha : 0 ≤ a.toInt ∧ a.toInt ≤ 23) (hc : 0 ≤ c.toInt ∧ c.toInt ≤ 23) (ht : 0 ≤ t.toInt ∧ t.toInt ≤ 2000000) : 0 ≤ (mCost v a c t).toInt ∧ (mCost v a c t).toInt ≤ 585 := by
  have h1 := mH_b hH hW ha ht
  have h2 := mH_b hH hW hc ht
  have n0 : (0 : Int32).toInt = 0 := by decide
  have e : -585 ≤ (mSl v a c t).toInt ∧ (mSl v a c t).toInt ≤ 585 := by
    unfold mSl
    by_cases q : a = c
    · rw [if_pos q]
      omega
    · rw [if_neg q]
      have s := i_sub (z := mH v c t - mH v a t) rfl (by omega)
      omega
  unfold mCost
  by_cases q : mSl v a c t < 0
  · rw [if_pos q]
    omega
  · rw [if_neg q]
    have := i_nlt q
    omega
def rsB (v : Vf) (j : Nat) (f : Int32 → Int32) : Prop := ∀ c : Int32, cW v c → 0 ≤ (f c).toInt ∧ (f c).toInt ≤ 1000000000 ∧ ((f c).toInt < 1000000000 → (f c).toInt ≤ 585 * (j : Int))
theorem rb_b {v : Vf} {c w tm : Int32} {f : Int32 → Int32} {j : Nat} (hH : MdH v) (hW : 1 ≤ (v 0 0).toInt) (hj : j ≤ 40) (hc : cW v c) (ht : 0 ≤ tm.toInt ∧ tm.toInt ≤ 2000000) (hf : rsB v j f) : 0 ≤ (rbV v c w tm f).toInt ∧ (rbV v c w tm f).toInt ≤ 1000000000 ∧ ((rbV v c w tm f).toInt < 1000000000 → (rbV v c w tm f).toInt ≤ 585 * ((j + 1 : Nat) : Int) ∧ 0 ≤ (mGo v c w tm).toInt ∧ (f (mGo v c w tm)).toInt < 1000000000 ∧ (rbV v c w tm f).toInt = (f (mGo v c w tm)).toInt + (mCost v c (mGo v c w tm) tm).toInt) := by
  have nf : (1000000000 : Int32).toInt = 1000000000 := by decide
  unfold rbV
  by_cases q : (mGo v c w tm).toInt < 0
  · rw [if_pos q]
    exact ⟨by omega, by omega, fun z => by omega⟩
  · rw [if_neg q]
    have g := go_cW2 hH.1 hc (show 0 ≤ (mGo v c w tm).toInt by omega)
    have b := hf _ g
    by_cases q2 : (f (mGo v c w tm)).toInt < 1000000000
    · rw [if_pos q2]
      have h24 := hH.1.2.2
      have g2 := g.2
      have c2 := hc.2
      have k := mCost_b (a := c) (c := mGo v c w tm) hH hW ⟨hc.1, by omega⟩ ⟨g.1, by omega⟩ ht
      have b3 := b.2.2 q2
      have s := i_add (z := f (mGo v c w tm) + mCost v c (mGo v c w tm) tm) rfl (by omega)
      exact ⟨by omega, by omega, fun z => ⟨by omega, by omega, q2, s⟩⟩
    · rw [if_neg q2]
      exact ⟨by omega, by omega, fun z => by omega⟩
theorem mn_b {v : Vf} {c tm : Int32} {f : Int32 → Int32} {j : Nat} (hH : MdH v) (hW : 1 ≤ (v 0 0).toInt) (hj : j ≤ 40) (hc : cW v c) (ht : 0 ≤ tm.toInt ∧ tm.toInt ≤ 2000000) (hf : rsB v j f) : ∀ n : Nat, 0 ≤ (mnV v c tm f n).toInt ∧ (mnV v c tm f n).toInt ≤ 1000000000 ∧ ((mnV v c tm f n).toInt < 1000000000 → (mnV v c tm f n).toInt ≤ 585 * ((j + 1 : Nat) : Int))
  | 0 => by
    have nf : (mnV v c tm f 0).toInt = 1000000000 := (by decide : (1000000000 : Int32).toInt = 1000000000)
    exact ⟨by omega, by omega, fun z => by omega⟩
  | n + 1 => by
    have ih := mn_b hH hW hj hc ht hf n
    have r := rb_b (w := Int32.ofNat n) hH hW hj hc ht hf
    by_cases q : (rbV v c (Int32.ofNat n) tm f).toInt < (mnV v c tm f n).toInt
    · have e : mnV v c tm f (n + 1) = rbV v c (Int32.ofNat n) tm f := if_pos q
      rw [e]
      exact ⟨r.1, r.2.1, fun z => (r.2.2 z).1⟩
    · have e : mnV v c tm f (n + 1) = mnV v c tm f n := if_neg q
      rw [e]
      exact ih
theorem rs_b {v : Vf} {b t : Int32} {n : Nat} (hH : MdH v) (hW : 1 ≤ (v 0 0).toInt) (hn : n ≤ 40) (ht : 0 ≤ t.toInt ∧ t.toInt ≤ 900000) : ∀ j : Nat, j ≤ n → rsB v j (rsV v b t n j)
  | 0, _ => fun c _ => by
    have nf : (1000000000 : Int32).toInt = 1000000000 := by decide
    have n0 : (0 : Int32).toInt = 0 := by decide
    show 0 ≤ (if c = b then (0 : Int32) else 1000000000).toInt ∧ (if c = b then (0 : Int32) else 1000000000).toInt ≤ 1000000000 ∧ ((if c = b then (0 : Int32) else 1000000000).toInt < 1000000000 → (if c = b then (0 : Int32) else 1000000000).toInt ≤ 585 * ((0 : Nat) : Int))
    split
    · exact ⟨by omega, by omega, fun _ => by omega⟩
    · exact ⟨by omega, by omega, fun z => by omega⟩
  | j + 1, hj => fun c hc => by
    have ih := rs_b (b := b) (t := t) hH hW hn ht j (by omega)
    have n0 : (0 : Int32).toInt = 0 := by decide
    have n1 : (1 : Int32).toInt = 1 := by decide
    have o := ofN_t (n := n - (j + 1)) (by omega)
    have t1 := i_add (z := t + Int32.ofNat (n - (j + 1))) rfl (by omega)
    have t2 := i_add (z := t + Int32.ofNat (n - (j + 1)) + 1) rfl (by omega)
    show 0 ≤ (if c = b then (0 : Int32) else mnV v c (t + Int32.ofNat (n - (j + 1)) + 1) (rsV v b t n j) 5).toInt ∧ (if c = b then (0 : Int32) else mnV v c (t + Int32.ofNat (n - (j + 1)) + 1) (rsV v b t n j) 5).toInt ≤ 1000000000 ∧ ((if c = b then (0 : Int32) else mnV v c (t + Int32.ofNat (n - (j + 1)) + 1) (rsV v b t n j) 5).toInt < 1000000000 → (if c = b then (0 : Int32) else mnV v c (t + Int32.ofNat (n - (j + 1)) + 1) (rsV v b t n j) 5).toInt ≤ 585 * ((j + 1 : Nat) : Int))
    split
    · exact ⟨by omega, by omega, fun _ => by omega⟩
    · exact mn_b hH hW (by omega) hc (by omega) ih 5
/-! the first of the best -/
theorem mn_le {v : Vf} {c tm : Int32} {f : Int32 → Int32} : ∀ (n : Nat) (u : Nat), u < n → (mnV v c tm f n).toInt ≤ (rbV v c (Int32.ofNat u) tm f).toInt
  | 0, u, h => absurd h (Nat.not_lt_zero _)
  | n + 1, u, h => by
    by_cases q : (rbV v c (Int32.ofNat n) tm f).toInt < (mnV v c tm f n).toInt
    · have e : mnV v c tm f (n + 1) = rbV v c (Int32.ofNat n) tm f := if_pos q
      rw [e]
      by_cases z : u = n
      · subst z
        exact Int.le_refl _
      · have := mn_le (v := v) (c := c) (tm := tm) (f := f) n u (by omega)
        omega
    · have e : mnV v c tm f (n + 1) = mnV v c tm f n := if_neg q
      rw [e]
      by_cases z : u = n
      · subst z
        omega
      · exact mn_le n u (by omega)
theorem ch_first {v : Vf} {c tm : Int32} {f : Int32 → Int32} : ∀ n : Nat, n ≤ 5 → (mnV v c tm f n).toInt < 1000000000 → (∃ m : Nat, m < n ∧ chV v c tm f n = Int32.ofNat m ∧ rbV v c (Int32.ofNat m) tm f = mnV v c tm f n ∧ ∀ u, u < m → (mnV v c tm f n).toInt < (rbV v c (Int32.ofNat u) tm f).toInt) ∧ ∀ u, u < n → (mnV v c tm f n).toInt ≤ (rbV v c (Int32.ofNat u) tm f).toInt := by
  intro n
  induction n with
  | zero =>
    intro _ h
    have e0 : mnV v c tm f 0 = 1000000000 := rfl
    rw [e0] at h
    exact absurd h (by decide)
  | succ n ih =>
    intro hn h
    by_cases q : (rbV v c (Int32.ofNat n) tm f).toInt < (mnV v c tm f n).toInt
    · have e : mnV v c tm f (n + 1) = rbV v c (Int32.ofNat n) tm f := if_pos q
      have e2 : chV v c tm f (n + 1) = Int32.ofNat n := if_pos q
      rw [e, e2]
      have lo : ∀ u, u < n → (mnV v c tm f n).toInt ≤ (rbV v c (Int32.ofNat u) tm f).toInt := mn_le n
      refine ⟨⟨n, by omega, rfl, rfl, fun u hu => by have := lo u hu; omega⟩, fun u hu => ?_⟩
      by_cases z : u = n
      · subst z
        exact Int.le_refl _
      · have := lo u (by omega)
        omega
    · have e : mnV v c tm f (n + 1) = mnV v c tm f n := if_neg q
      have e2 : chV v c tm f (n + 1) = chV v c tm f n := if_neg q
      rw [e] at h
      obtain ⟨⟨m, h1, h2, h3, h4⟩, h5⟩ := ih (by omega) h
      rw [e, e2]
      refine ⟨⟨m, by omega, h2, h3, h4⟩, fun u hu => ?_⟩
      by_cases z : u = n
      · subst z
        omega
      · exact h5 u (by omega)
end
section
/-! ===== the reference's table of rests ===== -/
theorem mPart_c {v w : Vf} (h : ∀ t, t ≠ 63 → w t = v t) : mPart w = mPart v := by
  funext k c t
  unfold mPart
  rw [h 62 (by decide), h 8 (by decide), h 24 (by decide), h 6 (by decide), h 0 (by decide), h 7 (by decide), h 5 (by decide)]
theorem mPullN_c {v w : Vf} (h : ∀ t, t ≠ 63 → w t = v t) (c t : Int32) : ∀ n, mPullN w c t n = mPullN v c t n
  | 0 => rfl
  | n + 1 => by
    show mPullN w c t n + mPart w (Int32.ofNat n) c t = mPullN v c t n + mPart v (Int32.ofNat n) c t
    rw [mPullN_c h c t n, mPart_c h]
theorem mPull_c {v w : Vf} (h : ∀ t, t ≠ 63 → w t = v t) : mPull w = mPull v := by
  funext c t
  unfold mPull
  rw [h 4 (by decide), mPullN_c h]
theorem mStiff_c {v w : Vf} (h : ∀ t, t ≠ 63 → w t = v t) : mStiff w = mStiff v := by
  funext c
  unfold mStiff
  rw [h 3 (by decide), h 25 (by decide)]
theorem mH_c {v w : Vf} (h : ∀ t, t ≠ 63 → w t = v t) : mH w = mH v := by
  funext c t
  unfold mH
  rw [h 2 (by decide), mStiff_c h, mPull_c h]
theorem mIn_c {v w : Vf} (h : ∀ t, t ≠ 63 → w t = v t) : mIn w = mIn v := by
  funext x y
  unfold mIn
  rw [h 0 (by decide), h 1 (by decide)]
theorem mBes_c {v w : Vf} (h : ∀ t, t ≠ 63 → w t = v t) : mBes w = mBes v := by
  funext c way
  unfold mBes
  rw [h 0 (by decide), mIn_c h]
theorem mOpen_c {v w : Vf} (h : ∀ t, t ≠ 63 → w t = v t) : mOpen w = mOpen v := by
  funext k t
  unfold mOpen
  rw [h 13 (by decide), h 15 (by decide), mPull_c h]
theorem mOth_c {v w : Vf} (h : ∀ t, t ≠ 63 → w t = v t) : mOth w = mOth v := by
  funext k
  unfold mOth
  rw [h 13 (by decide), h 14 (by decide), mBes_c h]
theorem mB2_c {v w : Vf} (h : ∀ t, t ≠ 63 → w t = v t) : mB2 w = mB2 v := by
  funext a b k
  unfold mB2
  rw [h 13 (by decide), mOth_c h]
theorem mBet_c {v w : Vf} (h : ∀ t, t ≠ 63 → w t = v t) : mBet w = mBet v := by
  funext a b k
  unfold mBet
  rw [h 13 (by decide), mOth_c h, mB2_c h]
theorem mBarN_c {v w : Vf} (h : ∀ t, t ≠ 63 → w t = v t) (a b t : Int32) : ∀ n, mBarN w a b t n = mBarN v a b t n
  | 0 => rfl
  | n + 1 => by rw [mBarN_s, mBarN_s, mBarN_c h a b t n, mBet_c h, mOpen_c h]
theorem mBar_c {v w : Vf} (h : ∀ t, t ≠ 63 → w t = v t) : mBar w = mBar v := by
  funext a b t
  unfold mBar
  rw [h 12 (by decide), mBarN_c h]
theorem mGo_c {v w : Vf} (h : ∀ t, t ≠ 63 → w t = v t) : mGo w = mGo v := by
  funext c way t
  unfold mGo
  rw [h 29 (by decide), mBes_c h, mBar_c h, mH_c h]
theorem mCost_c {v w : Vf} (h : ∀ t, t ≠ 63 → w t = v t) : mCost w = mCost v := by
  funext a b t
  unfold mCost mSl
  rw [mH_c h]
theorem mBes_lt {v : Vf} {c way : Int32} (hG : mdG v) (h : 0 ≤ (mBes v c way).toInt) : (mBes v c way).toInt < (v 0 0).toInt * (v 1 0).toInt := by
  unfold mBes at h ⊢
  generalize (c - c / v 0 0 * v 0 0) + mDx way = x at h ⊢
  generalize c / v 0 0 + mDy way = y at h ⊢
  split at h
  · rename_i q
    rw [if_pos q]
    obtain ⟨⟨q1, q2⟩, q3, q4⟩ := id q
    have k := mcell_lt hG.1 hG.2.2 q1 q2 q3 q4
    have ha := i_mul (z := v 0 0 * y) rfl (by have := hG.2.2; omega)
    have hb := i_add (z := v 0 0 * y + x) rfl (by have := hG.2.2; have := hG.1; omega)
    omega
  · exact absurd h (by decide)
theorem mGo_lt {v : Vf} {c way t : Int32} (hG : mdG v) (hc : c.toInt < (v 0 0).toInt * (v 1 0).toInt) (h : 0 ≤ (mGo v c way t).toInt) : (mGo v c way t).toInt < (v 0 0).toInt * (v 1 0).toInt := by
  unfold mGo at h ⊢
  split
  · exact hc
  · rename_i q1
    rw [if_neg q1] at h
    split
    · rename_i q2
      rw [if_pos q2] at h
      exact mBes_lt hG h
    · rename_i q2
      rw [if_neg q2] at h
      split
      · rename_i q3
        rw [if_pos q3] at h
        exact absurd h (by decide)
      · rename_i q3
        rw [if_neg q3] at h
        exact mBes_lt hG h
theorem idx24 {k c x y : Int32} (ex : x = 24 * k) (ey : y = x + c) (hk : 0 ≤ k.toInt ∧ k.toInt ≤ 40) (hc : 0 ≤ c.toInt ∧ c.toInt ≤ 23) : y.toNatClampNeg = 24 * k.toNatClampNeg + c.toNatClampNeg := by
  have n24 : (24 : Int32).toInt = 24 := by decide
  have t1 := i_mul ex (by rw [n24]; omega)
  rw [n24] at t1
  have t2 := i_add ey (by omega)
  have a1 := i_nat hk.1
  have a2 := i_nat hc.1
  have a3 := i_nat (x := y) (by omega)
  omega
theorem idx25 {k c : Int32} (hk : 0 ≤ k.toInt ∧ k.toInt ≤ 39) (hc : 0 ≤ c.toInt ∧ c.toInt ≤ 23) : (24 * (k + 1) + c).toNatClampNeg = 24 * (k.toNatClampNeg + 1) + c.toNatClampNeg := by
  have n1 : (1 : Int32).toInt = 1 := by decide
  have t1 := i_add (z := k + 1) rfl (by rw [n1]; omega)
  rw [n1] at t1
  rw [idx24 (k := k + 1) rfl rfl (by omega) hc, i_nat1 hk.1 t1]
theorem mRB_up {v : Vf} {j : Nat} {x k c way t : Int32} (hG : mdG v) (hk : 0 ≤ k.toInt ∧ k.toInt ≤ 39) (hc : c.toInt < (v 0 0).toInt * (v 1 0).toInt) (hj : j < 24 * (k.toNatClampNeg + 1)) : mRB (up2 v 63 j x) k c way t = mRB v k c way t := by
  have hh : ∀ t, t ≠ 63 → up2 v 63 j x t = v t := fun t ht => up2_ne ht
  unfold mRB
  rw [mGo_c hh, mCost_c hh]
  generalize hg : mGo v c way (t + k + 1) = g
  split
  · rfl
  · rename_i q
    have q0 : 0 ≤ g.toInt := Int.not_lt.mp fun z => q (Int32.lt_iff_toInt_lt.mpr z)
    have q1 := mGo_lt hG hc (hg ▸ q0)
    rw [hg] at q1
    have q2 := hG.2.2
    have e1 : up2 v 63 j x 63 (24 * (k + 1) + g).toNatClampNeg = v 63 (24 * (k + 1) + g).toNatClampNeg := by
      show upd (v 63) j x _ = _
      unfold upd
      rw [if_neg (by rw [idx25 hk ⟨q0, by omega⟩]; omega)]
    rw [e1]
theorem mRB_lt {v : Vf} {k c way t : Int32} (h : (mRB v k c way t).toInt < 1000000000) : 0 ≤ (mGo v c way (t + k + 1)).toInt ∧ (v 63 (24 * (k + 1) + mGo v c way (t + k + 1)).toNatClampNeg).toInt < 1000000000 := by
  have nf : (1000000000 : Int32).toInt = 1000000000 := by decide
  unfold mRB at h
  split at h
  · rw [nf] at h
    omega
  · rename_i q
    refine ⟨Int.not_lt.mp fun z => q (Int32.lt_iff_toInt_lt.mpr z), ?_⟩
    split at h
    · rename_i q2
      have := Int32.lt_iff_toInt_lt.mp q2
      rw [nf] at this
      exact this
    · rw [nf] at h
      omega
def prX (v : Vf) (b t n k c x : Int32) : Prop := x.toInt < 1000000000 → c = b ∨ (k.toInt < n.toInt ∧ ∃ way : Int32, (0 ≤ way.toInt ∧ way.toInt ≤ 4) ∧ mRB v k c way t = x)
def rsG (v : Vf) (b t n k c : Int32) : Prop := prX v b t n k c (v 63 (24 * k.toNatClampNeg + c.toNatClampNeg))
theorem MdI.n63 {v w : Vf} (h : MdI v) (e : ∀ t, t ≠ 63 → w t = v t) : MdI w := h.on (fun t ht => e t (fun q => absurd (q ▸ ht) (by decide)))
theorem rs_put {v : Vf} {b t n k c x : Int32} {j : Nat} (hG : mdG v) (hn : n.toInt ≤ 40) (hk : 0 ≤ k.toInt ∧ k.toInt ≤ n.toInt) (hc : 0 ≤ c.toInt ∧ c.toInt < (v 0 0).toInt * (v 1 0).toInt) (hj : j = 24 * k.toNatClampNeg + c.toNatClampNeg) (hx : prX v b t n k c x)
    (h : ∀ k' c' : Int32, (k.toInt < k'.toInt ∨ (k'.toInt = k.toInt ∧ c'.toInt < c.toInt)) → k'.toInt ≤ n.toInt → 0 ≤ c'.toInt ∧ c'.toInt < (v 0 0).toInt * (v 1 0).toInt → rsG v b t n k' c')
    (k' c' : Int32) (h1 : k.toInt < k'.toInt ∨ (k'.toInt = k.toInt ∧ c'.toInt ≤ c.toInt)) (h2 : k'.toInt ≤ n.toInt) (h3 : 0 ≤ c'.toInt ∧ c'.toInt < (v 0 0).toInt * (v 1 0).toInt) : rsG (up2 v 63 j x) b t n k' c' := by
  have g2 := hG.2.2
  have a1 := i_nat hk.1
  have a2 := i_nat hc.1
  have a3 := i_nat (x := k') (by omega)
  have a4 := i_nat h3.1
  have key : ∀ y : Int32, prX v b t n k' c' y → prX (up2 v 63 j x) b t n k' c' y := by
    intro y hy q
    rcases hy q with z | ⟨z1, way, z2, z3⟩
    · exact Or.inl z
    · refine Or.inr ⟨z1, way, z2, ?_⟩
      rw [mRB_up hG (by omega) h3.2 (by omega)]
      exact z3
  unfold rsG
  show prX (up2 v 63 j x) b t n k' c' (upd (v 63) j x (24 * k'.toNatClampNeg + c'.toNatClampNeg))
  unfold upd
  split
  · rename_i q
    have e1 : k' = k := i_eqr (by omega)
    have e2 : c' = c := i_eqr (by omega)
    rw [e1, e2] at key ⊢
    exact key x hx
  · rename_i q
    refine key _ (h k' c' ?_ h2 h3)
    rcases h1 with z | z
    · exact Or.inl z
    · refine Or.inr ⟨z.1, ?_⟩
      rcases Int.lt_or_le c'.toInt c.toInt with z2 | z2
      · exact z2
      · exact absurd (show 24 * k'.toNatClampNeg + c'.toNatClampNeg = j by omega) q
theorem idx0 (a : Int32) : 24 * (0 : Int32).toNatClampNeg + a.toNatClampNeg = a.toNatClampNeg := by
  have : (0 : Int32).toNatClampNeg = 0 := by decide
  omega
/-! ===== the reference's wells ===== -/
def mHb (x k : Int32) : Prop := (x >>> (k &&& 31)) &&& 1 = 1
def wS (f : Nat → Int) (p : Nat → Bool) : Nat → Int
  | 0 => 0
  | n + 1 => wS f p n + (if p n = true then f n else 0)
def wN (p : Nat → Bool) : Nat → Int
  | 0 => 0
  | n + 1 => wN p n + (if p n = true then 1 else 0)
def wG (x : Int) (f : Nat → Int) (p : Nat → Bool) (k : Nat) : Prop := 0 < wN p k ∧ ∀ w, w < k → (p w = true ↔ f w * wN p k < x + wS f p k)
def wOff (p : Nat → Bool) (w : Nat) : Nat → Bool := fun u => if u = w then false else p u
theorem wN_nn (p : Nat → Bool) : ∀ n, 0 ≤ wN p n
  | 0 => Int.le_refl 0
  | n + 1 => by
    have h := wN_nn p n
    show 0 ≤ wN p n + (if p n = true then 1 else 0)
    split <;> omega
theorem wS_0 (f : Nat → Int) (p : Nat → Bool) : ∀ n, wN p n = 0 → wS f p n = 0
  | 0, _ => rfl
  | n + 1, h => by
    have h0 := wN_nn p n
    have h1 : wN p n + (if p n = true then 1 else 0) = 0 := h
    show wS f p n + (if p n = true then f n else 0) = 0
    split at h1
    · omega
    · rename_i q
      rw [if_neg q, wS_0 f p n (by omega)]
      rfl
theorem wOff_hi (f : Nat → Int) (p : Nat → Bool) (w : Nat) : ∀ n, n ≤ w → wN (wOff p w) n = wN p n ∧ wS f (wOff p w) n = wS f p n
  | 0, _ => ⟨rfl, rfl⟩
  | n + 1, h => by
    have ih := wOff_hi f p w n (by omega)
    have e : wOff p w n = p n := by
      unfold wOff
      rw [if_neg (by omega)]
    refine ⟨?_, ?_⟩
    · show wN (wOff p w) n + (if wOff p w n = true then 1 else 0) = wN p n + (if p n = true then 1 else 0)
      rw [ih.1, e]
    · show wS f (wOff p w) n + (if wOff p w n = true then f n else 0) = wS f p n + (if p n = true then f n else 0)
      rw [ih.2, e]
theorem wOff_lo (f : Nat → Int) (p : Nat → Bool) (w : Nat) (hp : p w = true) : ∀ n, w < n → wN (wOff p w) n = wN p n - 1 ∧ wS f (wOff p w) n = wS f p n - f w
  | 0, h => absurd h (Nat.not_lt_zero w)
  | n + 1, h => by
    rcases Nat.lt_or_ge w n with z | z
    · have ih := wOff_lo f p w hp n z
      have e : wOff p w n = p n := by
        unfold wOff
        rw [if_neg (by omega)]
      refine ⟨?_, ?_⟩
      · show wN (wOff p w) n + (if wOff p w n = true then 1 else 0) = wN p n + (if p n = true then 1 else 0) - 1
        rw [ih.1, e]
        omega
      · show wS f (wOff p w) n + (if wOff p w n = true then f n else 0) = wS f p n + (if p n = true then f n else 0) - f w
        rw [ih.2, e]
        omega
    · have en : n = w := by omega
      subst en
      have ih := wOff_hi f p n n (Nat.le_refl n)
      have e : wOff p n n = false := by
        unfold wOff
        rw [if_pos rfl]
      refine ⟨?_, ?_⟩
      · show wN (wOff p n) n + (if wOff p n n = true then 1 else 0) = wN p n + (if p n = true then 1 else 0) - 1
        rw [ih.1, e, if_pos hp, if_neg (by decide)]
        omega
      · show wS f (wOff p n) n + (if wOff p n n = true then f n else 0) = wS f p n + (if p n = true then f n else 0) - f n
        rw [ih.2, e, if_pos hp, if_neg (by decide)]
        omega
theorem w_mul {N T a b : Int} (hN : 2 ≤ N) (ha : T ≤ a * N) (hb : T ≤ b * N) : T - b ≤ a * (N - 1) := by
  have h1 : (N - 1) * T ≤ (N - 1) * (a * N) := Int.mul_le_mul_of_nonneg_left ha (by omega)
  have h2 : (N - 1) * T = N * T - T := by rw [Int.sub_mul, Int.one_mul]
  have h3 : (N - 1) * (a * N) = N * (a * (N - 1)) := by
    rw [Int.mul_comm (N - 1) (a * N), Int.mul_comm a N, Int.mul_assoc]
  have h4 : N * (T - b) = N * T - b * N := by rw [Int.mul_sub, Int.mul_comm N b]
  exact Int.le_of_mul_le_mul_left (a := N) (by omega) (by omega)
theorem w_go (x : Int) (f : Nat → Int) (k : Nat) (hx : 0 < x) : ∀ (m : Nat) (p : Nat → Bool), wN p k = (m : Int) → 0 < m → (∀ w, w < k → p w = false → x + wS f p k ≤ f w * wN p k) → ∃ p', wG x f p' k
  | 0, _, _, h, _ => absurd h (Nat.lt_irrefl 0)
  | m + 1, p, hm, _, hi => by
    rcases Classical.em (∀ w, w < k → p w = true → f w * wN p k < x + wS f p k) with q | q
    · refine ⟨p, by omega, fun w hw => ⟨fun z => q w hw z, fun z => ?_⟩⟩
      rcases hb : p w with _ | _
      · have := hi w hw hb
        omega
      · rfl
    · have ⟨w, q2⟩ := Classical.not_forall.mp q
      have ⟨hw, q3⟩ := Classical.not_imp.mp q2
      have ⟨hp, q4⟩ := Classical.not_imp.mp q3
      have o := wOff_lo f p w hp k hw
      rcases Nat.eq_zero_or_pos m with z | z
      · have z0 : wN (wOff p w) k = 0 := by rw [o.1, hm, z]; rfl
        have z1 := wS_0 f (wOff p w) k z0
        have z2 : wN p k = 1 := by rw [hm, z]; rfl
        rw [z2, Int.mul_one] at q4
        omega
      · refine w_go x f k hx m (wOff p w) (by rw [o.1, hm]; omega) z (fun u hu hf => ?_)
        rw [o.1, o.2]
        have k1 : x + wS f p k ≤ f u * wN p k := by
          rcases Nat.decEq u w with e | e
          · refine hi u hu ?_
            unfold wOff at hf
            rw [if_neg e] at hf
            exact hf
          · rw [e]
            omega
        have k2 := w_mul (N := wN p k) (T := x + wS f p k) (a := f u) (b := f w) (by omega) k1 (by omega)
        omega
theorem wN_all : ∀ n : Nat, wN (fun _ => true) n = (n : Int)
  | 0 => rfl
  | n + 1 => by
    show wN (fun _ => true) n + (if true = true then 1 else 0) = ((n + 1 : Nat) : Int)
    rw [wN_all n, if_pos rfl]
    omega
theorem w_ex (x : Int) (f : Nat → Int) (k : Nat) (hx : 0 < x) (hk : 0 < k) : ∃ p, wG x f p k := w_go x f k hx k (fun _ => true) (wN_all k) hk (fun _ _ h => absurd h (by decide))
def lvP (set : Int32) (w : Nat) : Bool := decide (((set >>> (Int32.ofNat w &&& 31)) &&& 1) = 1)
def lvF (v : Vf) (t : Int32) (w : Nat) : Int := (mFl v (Int32.ofNat w) t).toInt
def mLev (v : Vf) (x t set : Int32) : Prop := wG x.toInt (lvF v t) (lvP set) (v 16 0).toNatClampNeg
theorem lvP_t {set w : Int32} (h : mHb set w) (h0 : 0 ≤ w.toInt) : lvP set w.toNatClampNeg = true := by
  unfold lvP
  rw [i_ofN h0]
  exact decide_eq_true h
theorem lvP_f {set w : Int32} (h : ¬ mHb set w) (h0 : 0 ≤ w.toInt) : lvP set w.toNatClampNeg = false := by
  unfold lvP
  rw [i_ofN h0]
  exact decide_eq_false h
theorem lvF_e {v : Vf} {t w : Int32} (h0 : 0 ≤ w.toInt) : lvF v t w.toNatClampNeg = (mFl v w t).toInt := by
  unfold lvF
  rw [i_ofN h0]
def encB (b0 b1 b2 b3 b4 : Bool) : Int32 := Int32.ofNat (b0.toNat + 2 * b1.toNat + 4 * b2.toNat + 8 * b3.toNat + 16 * b4.toNat)
set_option maxRecDepth 100000 in
theorem encB_all : ∀ b0 b1 b2 b3 b4 : Bool, (0 ≤ (encB b0 b1 b2 b3 b4).toInt ∧ (encB b0 b1 b2 b3 b4).toInt ≤ 31) ∧ lvP (encB b0 b1 b2 b3 b4) 0 = b0 ∧ lvP (encB b0 b1 b2 b3 b4) 1 = b1 ∧ lvP (encB b0 b1 b2 b3 b4) 2 = b2 ∧ lvP (encB b0 b1 b2 b3 b4) 3 = b3 ∧ lvP (encB b0 b1 b2 b3 b4) 4 = b4 := by decide
theorem wc_S {f : Nat → Int} {p q : Nat → Bool} : ∀ n, (∀ w, w < n → p w = q w) → wS f p n = wS f q n ∧ wN p n = wN q n
  | 0, _ => ⟨rfl, rfl⟩
  | n + 1, h => by
    have ih := wc_S (f := f) n (fun w hw => h w (by omega))
    have e := h n (Nat.lt_succ_self n)
    refine ⟨?_, ?_⟩
    · show wS f p n + (if p n = true then f n else 0) = wS f q n + (if q n = true then f n else 0)
      rw [ih.1, e]
    · show wN p n + (if p n = true then 1 else 0) = wN q n + (if q n = true then 1 else 0)
      rw [ih.2, e]
theorem lev_ex {v : Vf} {x t : Int32} (hx : 0 < x.toInt) (h1 : 1 ≤ (v 16 0).toInt) (h5 : (v 16 0).toInt ≤ 5) : ∃ s : Int32, (1 ≤ s.toInt ∧ s.toInt ≤ 31) ∧ mLev v x t s := by
  have e := i_nat (x := v 16 0) (by omega)
  obtain ⟨p, hp⟩ := w_ex x.toInt (lvF v t) (v 16 0).toNatClampNeg hx (by omega)
  have a := encB_all (p 0) (p 1) (p 2) (p 3) (p 4)
  have hq : ∀ w, w < (v 16 0).toNatClampNeg → lvP (encB (p 0) (p 1) (p 2) (p 3) (p 4)) w = p w := by
    intro w hw
    rcases (show w = 0 ∨ w = 1 ∨ w = 2 ∨ w = 3 ∨ w = 4 by omega) with rfl | rfl | rfl | rfl | rfl
    · exact a.2.1
    · exact a.2.2.1
    · exact a.2.2.2.1
    · exact a.2.2.2.2.1
    · exact a.2.2.2.2.2
  have c := wc_S (f := lvF v t) (v 16 0).toNatClampNeg hq
  have hl : mLev v x t (encB (p 0) (p 1) (p 2) (p 3) (p 4)) := by
    unfold mLev wG
    rw [c.1, c.2]
    exact ⟨hp.1, fun w hw => by rw [hq w hw]; exact hp.2 w hw⟩
  refine ⟨encB (p 0) (p 1) (p 2) (p 3) (p 4), ⟨?_, a.1.2⟩, hl⟩
  rcases Int.lt_or_le 0 (encB (p 0) (p 1) (p 2) (p 3) (p 4)).toInt with z | z
  · omega
  · exfalso
    have z0 : encB (p 0) (p 1) (p 2) (p 3) (p 4) = 0 := i_eqr (by rw [show (0 : Int32).toInt = 0 by decide]; omega)
    have zf : ∀ w, w < (v 16 0).toNatClampNeg → lvP (encB (p 0) (p 1) (p 2) (p 3) (p 4)) w = (fun _ => false) w := by
      intro w hw
      rw [z0]
      rcases (show w = 0 ∨ w = 1 ∨ w = 2 ∨ w = 3 ∨ w = 4 by omega) with rfl | rfl | rfl | rfl | rfl <;> decide
    have c2 := wc_S (f := lvF v t) (v 16 0).toNatClampNeg zf
    have z1 : ∀ n, wN (fun _ => false) n = 0 := by
      intro n
      induction n with
      | zero => rfl
      | succ n ih =>
        show wN (fun _ => false) n + (if false = true then 1 else 0) = 0
        rw [ih]
        rfl
    have z2 := hl.1
    rw [c2.2, z1] at z2
    omega
theorem i_mul5 {z x y : Int32} (e : z = x * y) (hx : -342 ≤ x.toInt ∧ x.toInt ≤ 342) (hy : 0 ≤ y.toInt ∧ y.toInt ≤ 5) : z.toInt = x.toInt * y.toInt := by
  have k1 : y.toInt * x.toInt ≤ y.toInt * 342 := Int.mul_le_mul_of_nonneg_left hx.2 hy.1
  have k2 : y.toInt * (-342) ≤ y.toInt * x.toInt := Int.mul_le_mul_of_nonneg_left hx.1 hy.1
  rw [Int.mul_comm y.toInt x.toInt] at k1 k2
  exact i_mul e (by omega)
theorem wS_s (f : Nat → Int) (p : Nat → Bool) (n : Nat) : wS f p (n + 1) = wS f p n + (if p n = true then f n else 0) := rfl
theorem wN_s (p : Nat → Bool) (n : Nat) : wN p (n + 1) = wN p n + (if p n = true then 1 else 0) := rfl
def lWt : List Nat := [64, 65, 66]
theorem tn0 : (0 : Int32).toNatClampNeg = 0 := by decide
theorem lev_no {v : Vf} {x t set lw r n s : Int32} {w : Nat} {f : Int} (q : mLev v x t set) (hw : w < (v 16 0).toNatClampNeg) (hf : lvF v t w = f) (hN : n.toInt = wN (lvP set) (v 16 0).toNatClampNeg) (hS : s.toInt = x.toInt + wS (lvF v t) (lvP set) (v 16 0).toNatClampNeg) (hp : (r.toInt = 1 ∧ lvP set w = true) ∨ (r.toInt = 0 ∧ lvP set w = false)) (hl : (lw.toInt = 1 ∧ f * n.toInt < s.toInt) ∨ (lw.toInt = 0 ∧ s.toInt ≤ f * n.toInt)) (hne : lw.toInt ≠ r.toInt) : False := by
  have z := q.2 w hw
  rw [hf, ← hN, ← hS] at z
  rcases hp with y | y
  · have z2 := z.mp y.2
    omega
  · have z2 : ¬ (f * n.toInt < s.toInt) := fun k => absurd (z.mpr k) (by rw [y.2]; decide)
    omega
theorem mPart_f {v w : Vf} (h : scL lWt v w) : ∀ t, t ∉ lWt → w t = v t := h
theorem lev_fr {v w : Vf} {x t set : Int32} (h : scL lWt v w) : mLev w x t set = mLev v x t set := by
  have e : lvF w t = lvF v t := by
    funext k
    have hp : ∀ c t, ∀ n, mPullN w c t n = mPullN v c t n := by
      intro c t n
      induction n with
      | zero => rfl
      | succ n ih =>
        show mPullN w c t n + mPart w (Int32.ofNat n) c t = mPullN v c t n + mPart v (Int32.ofNat n) c t
        rw [ih]
        unfold mPart
        rw [h 62 (by decide), h 8 (by decide), h 24 (by decide), h 6 (by decide), h 0 (by decide), h 7 (by decide), h 5 (by decide)]
    unfold lvF mFl mH mStiff mPull
    rw [h 17 (by decide), h 18 (by decide), h 2 (by decide), h 3 (by decide), h 25 (by decide), h 4 (by decide), hp]
  unfold mLev
  rw [e, h 16 (by decide)]
end
section
/-! ===== water: the level is one, and the class's way to it ===== -/
theorem wS_lin {f : Nat → Int} {p : Nat → Bool} {T N : Int} : ∀ n : Nat, wS (fun w => T - f w * N) p n = T * wN p n - wS f p n * N
  | 0 => by
    show (0 : Int) = T * 0 - 0 * N
    rw [Int.mul_zero, Int.zero_mul]
    rfl
  | n + 1 => by
    have ih := wS_lin (f := f) (p := p) (T := T) (N := N) n
    rw [wS_s, wN_s, wS_s, ih]
    by_cases q : p n = true
    · rw [if_pos q, if_pos q, if_pos q, Int.mul_add, Int.add_mul, Int.mul_one]
      omega
    · rw [if_neg q, if_neg q, if_neg q, Int.add_zero, Int.add_zero, Int.add_zero]
theorem wS_mono {h : Nat → Int} {p q : Nat → Bool} : ∀ n : Nat, (∀ w, w < n → p w = true → q w = true) → (∀ w, w < n → q w = true → 0 ≤ h w) → wS h p n ≤ wS h q n
  | 0, _, _ => Int.le_refl _
  | n + 1, h1, h2 => by
    have ih := wS_mono (h := h) (p := p) (q := q) n (fun w hw => h1 w (by omega)) (fun w hw => h2 w (by omega))
    rw [wS_s, wS_s]
    by_cases a : p n = true
    · rw [if_pos a, if_pos (h1 n (by omega) a)]
      omega
    · rw [if_neg a]
      by_cases b : q n = true
      · rw [if_pos b]
        have := h2 n (by omega) b
        omega
      · rw [if_neg b]
        omega
theorem lt_mul {a b c : Int} (hc : 0 < c) : a < b ↔ a * c < b * c := ⟨fun h => Int.mul_lt_mul_of_pos_right h hc, fun h => Int.lt_of_mul_lt_mul_right h (by omega)⟩
theorem wG_sub {x : Int} {f : Nat → Int} {p q : Nat → Bool} {k : Nat} (hp : wG x f p k) (hq : wG x f q k) (h : (x + wS f p k) * wN q k ≤ (x + wS f q k) * wN p k) : ∀ w, w < k → p w = true → q w = true := by
  intro w hw a
  have b := (hp.2 w hw).mp a
  refine (hq.2 w hw).mpr ?_
  have c := (lt_mul hq.1).mp b
  refine (lt_mul hp.1).mpr ?_
  have e : f w * wN q k * wN p k = f w * wN p k * wN q k := by rw [Int.mul_assoc, Int.mul_comm (wN q k), ← Int.mul_assoc]
  omega
theorem wG_le {x : Int} {f : Nat → Int} {p q : Nat → Bool} {k : Nat} (hp : wG x f p k) (hq : wG x f q k) (h : (x + wS f p k) * wN q k ≤ (x + wS f q k) * wN p k) : (x + wS f q k) * wN p k ≤ (x + wS f p k) * wN q k := by
  have s := wG_sub hp hq h
  have m := wS_mono (h := fun w => (x + wS f q k) - f w * wN q k) k s (fun w hw a => by
    have b := (hq.2 w hw).mp a
    show 0 ≤ (x + wS f q k) - f w * wN q k
    omega)
  rw [wS_lin, wS_lin] at m
  rw [Int.add_mul, Int.add_mul] at m ⊢
  omega
theorem wG_eq {x : Int} {f : Nat → Int} {p q : Nat → Bool} {k : Nat} (hp : wG x f p k) (hq : wG x f q k) : (x + wS f p k) * wN q k = (x + wS f q k) * wN p k := by
  rcases Int.le_total ((x + wS f p k) * wN q k) ((x + wS f q k) * wN p k) with h | h
  · have := wG_le hp hq h
    omega
  · have := wG_le hq hp h
    omega
theorem wG_uniq {x : Int} {f : Nat → Int} {p q : Nat → Bool} {k : Nat} (hp : wG x f p k) (hq : wG x f q k) : (∀ w, w < k → p w = q w) ∧ wS f p k = wS f q k ∧ wN p k = wN q k := by
  have e := wG_eq hp hq
  have s1 := wG_sub hp hq (by omega)
  have s2 := wG_sub hq hp (by omega)
  have h : ∀ w, w < k → p w = q w := by
    intro w hw
    have a := s1 w hw
    have b := s2 w hw
    cases hpw : p w <;> cases hqw : q w
    · rfl
    · exact absurd (b hqw) (by rw [hpw]; decide)
    · exact absurd (a hpw) (by rw [hqw]; decide)
    · rfl
  exact ⟨h, wc_S k h⟩
/-! sums over a row -/
def gS (g : Int → Int) (s : Nat → Int) : Nat → Int
  | 0 => 0
  | n + 1 => gS g s n + g (s n)
theorem gS_s (g : Int → Int) (s : Nat → Int) (n : Nat) : gS g s (n + 1) = gS g s n + g (s n) := rfl
theorem gS_c {g : Int → Int} {s u : Nat → Int} : ∀ n : Nat, (∀ j, j < n → s j = u j) → gS g s n = gS g u n
  | 0, _ => rfl
  | n + 1, h => by rw [gS_s, gS_s, gS_c n (fun j hj => h j (by omega)), h n (by omega)]
def PermS (f s : Nat → Int) (n : Nat) : Prop := ∀ g : Int → Int, gS g f n = gS g s n
def SortS (s : Nat → Int) (n : Nat) : Prop := ∀ i j, i ≤ j → j < n → s i ≤ s j
/-- a row with one more in its place -/
def InsS (s u : Nat → Int) (n i : Nat) (x : Int) : Prop := i ≤ n ∧ (∀ j, j < i → u j = s j) ∧ u i = x ∧ ∀ j, i ≤ j → j < n → u (j + 1) = s j
theorem ins_sum {s u : Nat → Int} {n i : Nat} {x : Int} {g : Int → Int} (h : InsS s u n i x) : ∀ m, i ≤ m → m ≤ n → gS g u (m + 1) = gS g s m + g x
  | 0, h1, _ => by
    obtain rfl : i = 0 := by omega
    rw [gS_s, h.2.2.1]
    rfl
  | m + 1, h1, h2 => by
    by_cases q : i = m + 1
    · rw [gS_s, gS_c (m + 1) (fun j hj => h.2.1 j (by omega)), ← q, h.2.2.1]
    · have ih := ins_sum (g := g) h m (by omega) (by omega)
      rw [gS_s, ih, h.2.2.2 m (by omega) (by omega), gS_s]
      omega
theorem ins_perm {f s u : Nat → Int} {n i : Nat} (hp : PermS f s n) (h : InsS s u n i (f n)) : PermS f u (n + 1) := fun g => by rw [ins_sum h n h.1 (Nat.le_refl _), gS_s, hp g]
theorem ins_sort {s u : Nat → Int} {n i : Nat} {x : Int} (hs : SortS s n) (h : InsS s u n i x) (h1 : i = 0 ∨ s (i - 1) ≤ x) (h2 : ∀ j, i ≤ j → j < n → x ≤ s j) : SortS u (n + 1) := by
  obtain ⟨g0, g1, g2, g3⟩ := h
  have lo : ∀ a, a < i → u a ≤ x := fun a ha => by
    rw [g1 a ha]
    have := hs a (i - 1) (by omega) (by omega)
    rcases h1 with q | q <;> omega
  have hi : ∀ b, i < b → b < n + 1 → x ≤ u b ∧ u b = s (b - 1) := fun b hb hb2 => by
    have e := g3 (b - 1) (by omega) (by omega)
    rw [show b - 1 + 1 = b by omega] at e
    exact ⟨by rw [e]; exact h2 (b - 1) (by omega) (by omega), e⟩
  intro a b hab hb
  rcases Nat.lt_trichotomy a i with q | q | q
  · rcases Nat.lt_trichotomy b i with z | z | z
    · rw [g1 a q, g1 b z]
      exact hs a b hab (by omega)
    · rw [z, g2]
      exact lo a q
    · have l := lo a q
      have r := (hi b z (by omega)).1
      omega
  · rcases Nat.lt_or_ge i b with z | z
    · rw [q, g2]
      exact (hi b z (by omega)).1
    · rw [show b = a by omega]
      exact Int.le_refl _
  · rw [(hi a q (by omega)).2, (hi b (by omega) (by omega)).2]
    exact hs (a - 1) (b - 1) (by omega) (by omega)
/-! the level out of a sorted row -/
def wP (f : Nat → Int) (T N : Int) (w : Nat) : Bool := decide (f w * N < T)
theorem gS_N {f : Nat → Int} {T N : Int} : ∀ n : Nat, wN (wP f T N) n = gS (fun z => if z * N < T then 1 else 0) f n
  | 0 => rfl
  | n + 1 => by
    rw [wN_s, gS_s, gS_N n]
    unfold wP
    by_cases q : f n * N < T
    · rw [if_pos (decide_eq_true q), if_pos q]
    · rw [if_neg (by rw [decide_eq_false q]; decide), if_neg q]
theorem gS_S {f : Nat → Int} {T N : Int} : ∀ n : Nat, wS f (wP f T N) n = gS (fun z => if z * N < T then z else 0) f n
  | 0 => rfl
  | n + 1 => by
    rw [wS_s, gS_s, gS_S n]
    unfold wP
    by_cases q : f n * N < T
    · rw [if_pos (decide_eq_true q), if_pos q]
    · rw [if_neg (by rw [decide_eq_false q]; decide), if_neg q]
theorem gS_cut {s : Nat → Int} {T N : Int} {i : Nat} {g : Int → Int} (hy : ∀ j, j ≤ i → s j * N < T) (k : Nat) (hn : ∀ j, i < j → j < k → ¬ s j * N < T) : ∀ n : Nat, n ≤ k → gS (fun z => if z * N < T then g z else 0) s n = gS g s (min n (i + 1))
  | 0, _ => by
    rw [Nat.zero_min]
    rfl
  | n + 1, h => by
    have ih := gS_cut (g := g) hy k hn n (by omega)
    rw [gS_s, ih]
    by_cases q : n ≤ i
    · have e1 : min n (i + 1) = n := by omega
      have e2 : min (n + 1) (i + 1) = n + 1 := by omega
      rw [e1, e2, gS_s]
      show gS g s n + (if s n * N < T then g (s n) else 0) = _
      rw [if_pos (hy n q)]
    · have e1 : min n (i + 1) = i + 1 := by omega
      have e2 : min (n + 1) (i + 1) = i + 1 := by omega
      rw [e1, e2]
      show gS g s (i + 1) + (if s n * N < T then g (s n) else 0) = _
      rw [if_neg (hn n (by omega) (by omega)), Int.add_zero]
theorem gS_1 {s : Nat → Int} : ∀ n : Nat, gS (fun _ => 1) s n = (n : Int)
  | 0 => rfl
  | n + 1 => by
    rw [gS_s, gS_1 n]
    omega
/-- the class stops where the next floor is not below -/
theorem wat_cls {x : Int} {f s : Nat → Int} {k i : Nat} (hx : 0 < x) (hp : PermS f s k) (hs : SortS s k) (hi : i < k) (hb : i = 0 ∨ s i * (i : Int) < x + gS id s i) (he : i + 1 = k ∨ x + gS id s (i + 1) ≤ s (i + 1) * ((i + 1 : Nat) : Int)) : wG x f (wP f (x + gS id s (i + 1)) ((i + 1 : Nat) : Int)) k ∧ wN (wP f (x + gS id s (i + 1)) ((i + 1 : Nat) : Int)) k = ((i + 1 : Nat) : Int) ∧ x + wS f (wP f (x + gS id s (i + 1)) ((i + 1 : Nat) : Int)) k = x + gS id s (i + 1) := by
  have eT : gS id s (i + 1) = gS id s i + s i := rfl
  have e1 : s i * ((i + 1 : Nat) : Int) = s i * (i : Int) + s i := by
    rw [show ((i + 1 : Nat) : Int) = (i : Int) + 1 from by omega, Int.mul_add, Int.mul_one]
  have top : s i * ((i + 1 : Nat) : Int) < x + gS id s (i + 1) := by
    rcases hb with q | q
    · subst q
      have z : gS id s 0 = 0 := rfl
      rw [e1, eT, z]
      have : s 0 * ((0 : Nat) : Int) = 0 := Int.mul_zero _
      omega
    · omega
  have hy : ∀ j, j ≤ i → s j * ((i + 1 : Nat) : Int) < x + gS id s (i + 1) := fun j hj => by
    have a := hs j i hj hi
    have b := Int.mul_le_mul_of_nonneg_right a (show (0 : Int) ≤ ((i + 1 : Nat) : Int) by omega)
    omega
  have hn : ∀ j, i < j → j < k → ¬ s j * ((i + 1 : Nat) : Int) < x + gS id s (i + 1) := fun j h1 h2 => by
    rcases he with q | q
    · omega
    · have a := hs (i + 1) j (by omega) h2
      have b := Int.mul_le_mul_of_nonneg_right a (show (0 : Int) ≤ ((i + 1 : Nat) : Int) by omega)
      omega
  generalize hT : x + gS id s (i + 1) = T at *
  generalize hN : ((i + 1 : Nat) : Int) = N at *
  have cN : wN (wP f T N) k = N := by
    rw [gS_N, hp, gS_cut (g := fun _ => 1) hy k hn k (Nat.le_refl _), show min k (i + 1) = i + 1 by omega, gS_1, hN]
  have cS : x + wS f (wP f T N) k = T := by
    rw [gS_S, hp]
    have c := gS_cut (g := id) hy k hn k (Nat.le_refl _)
    rw [show min k (i + 1) = i + 1 by omega] at c
    have c2 : gS (fun z => if z * N < T then z else 0) s k = gS id s (i + 1) := c
    rw [c2, hT]
  refine ⟨⟨by rw [cN]; omega, fun w hw => ?_⟩, cN, cS⟩
  rw [cN, cS]
  unfold wP
  exact ⟨fun q => of_decide_eq_true q, fun q => decide_eq_true q⟩
end
section
/-! ===== least pushed: both sides' tables ===== -/
theorem go_bes {v : Vf} {c w t : Int32} (hG : mdG v) (hW : 1 ≤ (v 0 0).toInt) (hc : cW v c) (h : 0 ≤ (mGo v c w t).toInt) : mGo v c w t = mBes v c w := by
  have e : mGo v c w t = if w = 0 then c else if (mBes v c w).toInt < 0 then mBes v c w else if mBar v c (mBes v c w) t ≠ 0 ∨ v 29 0 < mH v (mBes v c w) t - mH v c t then -1 else mBes v c w := rfl
  by_cases q : w = 0
  · rw [e, if_pos q, q, bes_0 hG hW hc]
  · rw [e, if_neg q] at h
    rw [e, if_neg q]
    by_cases q2 : (mBes v c w).toInt < 0
    · rw [if_pos q2]
    · rw [if_neg q2] at h
      rw [if_neg q2]
      by_cases q3 : mBar v c (mBes v c w) t ≠ 0 ∨ v 29 0 < mH v (mBes v c w) t - mH v c t
      · rw [if_pos q3] at h
        exact absurd h (by decide)
      · rw [if_neg q3]
theorem rb_cg {v : Vf} {c w tm : Int32} {f g : Int32 → Int32} (hG : mdG v) (hc : cW v c) (h : ∀ x, cW v x → f x = g x) : rbV v c w tm f = rbV v c w tm g := by
  unfold rbV
  by_cases q : (mGo v c w tm).toInt < 0
  · rw [if_pos q, if_pos q]
  · rw [if_neg q, if_neg q, h _ (go_cW2 hG hc (by omega))]
theorem rs_goal {v : Vf} {b t : Int32} {N m : Nat} : rsV v b t N m b = 0 := by
  cases m with
  | zero => exact if_pos rfl
  | succ m => exact if_pos rfl
theorem rs_one {v : Vf} {b t c : Int32} {N : Nat} (h : (rsV v b t N 0 c).toInt < 1000000000) : c = b := by
  by_cases q : c = b
  · exact q
  · have e : rsV v b t N 0 c = 1000000000 := if_neg q
    rw [e] at h
    exact absurd h (by decide)
theorem ck_eq {v : Vf} {b t tm k c : Int32} {N : Nat} (hk : 0 ≤ k.toInt ∧ k.toInt < (N : Int)) (htm : tm = t + k + 1) (hne : c ≠ b) : ckV v b t N k.toNatClampNeg c = chV v c tm (rsV v b t N (N - (k.toNatClampNeg + 1))) 5 ∧ rsV v b t N (N - k.toNatClampNeg) c = mnV v c tm (rsV v b t N (N - (k.toNatClampNeg + 1))) 5 := by
  have hkn := i_nat hk.1
  have e : N - k.toNatClampNeg = (N - (k.toNatClampNeg + 1)) + 1 := by omega
  have e2 : N - ((N - (k.toNatClampNeg + 1)) + 1) = k.toNatClampNeg := by omega
  refine ⟨?_, ?_⟩
  · show (if c = b then (0 : Int32) else chV v c (t + Int32.ofNat k.toNatClampNeg + 1) (rsV v b t N (N - (k.toNatClampNeg + 1))) 5) = _
    rw [if_neg hne, i_ofN hk.1, htm]
  · rw [e]
    show (if c = b then (0 : Int32) else mnV v c (t + Int32.ofNat (N - ((N - (k.toNatClampNeg + 1)) + 1)) + 1) (rsV v b t N (N - (k.toNatClampNeg + 1))) 5) = _
    rw [if_neg hne, e2, i_ofN hk.1, htm]
/-- one step of the way: the chosen way is one that the cart can go -/
theorem ck_go {v : Vf} {b t tm k c : Int32} {N : Nat} (hH : MdH v) (hW : 1 ≤ (v 0 0).toInt) (hN : N ≤ 40) (ht : 0 ≤ t.toInt ∧ t.toInt ≤ 900000) (hk : 0 ≤ k.toInt ∧ k.toInt < (N : Int)) (htm : tm = t + k + 1) (hc : cW v c) (hne : c ≠ b) (hr : (rsV v b t N (N - k.toNatClampNeg) c).toInt < 1000000000) : (0 ≤ (ckV v b t N k.toNatClampNeg c).toInt ∧ (ckV v b t N k.toNatClampNeg c).toInt ≤ 4) ∧ 0 ≤ (mGo v c (ckV v b t N k.toNatClampNeg c) tm).toInt ∧ (rsV v b t N (N - (k.toNatClampNeg + 1)) (mGo v c (ckV v b t N k.toNatClampNeg c) tm)).toInt < 1000000000 := by
  have n1 : (1 : Int32).toInt = 1 := by decide
  have hkn := i_nat hk.1
  have t1 := i_add (z := t + k) rfl (by omega)
  have t2 := i_add (z := t + k + 1) rfl (by omega)
  have e := ck_eq (v := v) (b := b) (c := c) hk htm hne
  rw [e.2] at hr
  obtain ⟨⟨m, m1, m2, m3, -⟩, -⟩ := ch_first (v := v) (c := c) (tm := tm) (f := rsV v b t N (N - (k.toNatClampNeg + 1))) 5 (by omega) hr
  have o := ofN_t (n := m) (by omega)
  rw [e.1, m2]
  rw [← m3] at hr
  have z := (rb_b (j := N - (k.toNatClampNeg + 1)) hH hW (by omega) hc (by rw [htm]; omega) (rs_b hH hW hN ht (N - (k.toNatClampNeg + 1)) (by omega))).2.2 hr
  exact ⟨by omega, z.2.1, z.2.2.1⟩
/-- the class's step over the ways -/
theorem mn_cls {v : Vf} {c tm best bw way way2 x y there push gv : Int32} {f : Int32 → Int32} {j : Nat} (hH : MdH v) (hW : 1 ≤ (v 0 0).toInt) (hj : j ≤ 40) (hc : cW v c) (ht : 0 ≤ tm.toInt ∧ tm.toInt ≤ 2000000) (hf : rsB v j f) (h : best = mnV v c tm f way.toNatClampNeg ∧ bw = chV v c tm f way.toNatClampNeg) (h0 : 0 ≤ way.toInt) (h2 : way2.toInt = way.toInt + 1) (hp : PuP v c way there tm push) (hg : cW v there → gv = f there) (hz : (push.toInt = -1 ∧ x = best ∧ y = bw) ∨ (push.toInt ≠ -1 ∧ ¬ (push + gv).toInt < best.toInt ∧ x = best ∧ y = bw) ∨ (push.toInt ≠ -1 ∧ (push + gv).toInt < best.toInt ∧ x = push + gv ∧ y = way)) : x = mnV v c tm f way2.toNatClampNeg ∧ y = chV v c tm f way2.toNatClampNeg := by
  rw [i_nat1 h0 h2]
  have nf : (1000000000 : Int32).toInt = 1000000000 := by decide
  have bb := mn_b hH hW hj hc ht hf way.toNatClampNeg
  rw [← h.1] at bb
  have key : ((rbV v c way tm f).toInt < best.toInt ∧ push.toInt ≠ -1 ∧ rbV v c way tm f = push + gv ∧ (push + gv).toInt < best.toInt) ∨ (¬ (rbV v c way tm f).toInt < best.toInt ∧ (push.toInt = -1 ∨ ¬ (push + gv).toInt < best.toInt)) := by
    rcases hp with ⟨p1, p2⟩ | ⟨p1, p2, p3, p4⟩
    · have e : rbV v c way tm f = 1000000000 := if_pos (by omega)
      exact Or.inr ⟨by rw [e]; omega, Or.inl p2⟩
    · have g : cW v there := by
        rw [← p1]
        exact go_cW2 hH.1 hc (by rw [p1]; exact p2)
      have eg := hg g
      have b := hf there g
      have h24 := hH.1.2.2
      have g2 := g.2
      have c2 := hc.2
      have kk := mCost_b (a := c) (c := there) hH hW ⟨hc.1, by omega⟩ ⟨g.1, by omega⟩ ht
      rw [← p3] at kk
      rw [← eg] at b
      have s := i_add (z := push + gv) rfl (by omega)
      by_cases q : gv.toInt < 1000000000
      · have e : rbV v c way tm f = push + gv := by
          unfold rbV
          rw [p1, if_neg (by omega), ← eg, if_pos q, ← p3]
          exact Int32.add_comm _ _
        rw [e]
        by_cases q2 : (push + gv).toInt < best.toInt
        · exact Or.inl ⟨q2, by omega, rfl, q2⟩
        · exact Or.inr ⟨q2, Or.inr q2⟩
      · have e : rbV v c way tm f = 1000000000 := by
          unfold rbV
          rw [p1, if_neg (by omega), ← eg, if_neg q]
        exact Or.inr ⟨by rw [e]; omega, Or.inr (by omega)⟩
  show x = (if (rbV v c (Int32.ofNat way.toNatClampNeg) tm f).toInt < (mnV v c tm f way.toNatClampNeg).toInt then rbV v c (Int32.ofNat way.toNatClampNeg) tm f else mnV v c tm f way.toNatClampNeg) ∧ y = (if (rbV v c (Int32.ofNat way.toNatClampNeg) tm f).toInt < (mnV v c tm f way.toNatClampNeg).toInt then Int32.ofNat way.toNatClampNeg else chV v c tm f way.toNatClampNeg)
  rw [i_ofN h0, ← h.1, ← h.2]
  rcases key with ⟨k1, k2, k3, k4⟩ | ⟨k1, k2⟩
  · rw [if_pos k1, if_pos k1, k3]
    rcases hz with ⟨a, b, d⟩ | ⟨a, a2, b, d⟩ | ⟨a, a2, b, d⟩
    · exact absurd a k2
    · exact absurd k4 a2
    · exact ⟨b, d⟩
  · rw [if_neg k1, if_neg k1]
    rcases hz with ⟨a, b, d⟩ | ⟨a, a2, b, d⟩ | ⟨a, a2, b, d⟩
    · exact ⟨b, d⟩
    · exact ⟨b, d⟩
    · exact k2.elim (fun q => absurd q a) (fun q => absurd a2 q)
theorem ch_end {v : Vf} {k b tm best bw way bb : Int32} {f : Int32 → Int32} (h : best = mnV v k tm f way.toNatClampNeg ∧ bw = chV v k tm f way.toNatClampNeg) (hb : bb = if k = b then 0 else best) (hz : k.toInt = b.toInt → bw.toInt = 0) (hw : way.toInt = 5 ∨ k = b) : bb = (if k = b then 0 else mnV v k tm f 5) ∧ bw = (if k = b then 0 else chV v k tm f 5) := by
  by_cases q : k = b
  · rw [if_pos q] at hb
    rw [if_pos q, if_pos q]
    exact ⟨hb, i_eqr (hz (by rw [q]))⟩
  · rw [if_neg q] at hb
    rw [if_neg q, if_neg q]
    have w := hw.resolve_right q
    have e : way.toNatClampNeg = 5 := by
      show way.toInt.toNat = 5
      omega
    rw [e] at h
    exact ⟨hb.trans h.1, h.2⟩
/-! the class's tables -/
def TbA (v : Vf) (b t : Int32) (N m : Nat) (hi : Int) (g : Nat → Int32) : Prop := ∀ c : Int32, cW v c → c.toInt < hi → g c.toNatClampNeg = rsV v b t N m c
def TbC (v : Vf) (b t : Int32) (N : Nat) (i hi : Int) (g : Nat → Int32) : Prop := ∀ k : Nat, i ≤ (k : Int) → k < N → ∀ c : Int32, cW v c → (i < (k : Int) ∨ c.toInt < hi) → g (24 * k + c.toNatClampNeg) = ckV v b t N k c
theorem tb_zero {v : Vf} {b t z : Int32} {N m : Nat} {g : Nat → Int32} (h : z.toInt = 0) : TbA v b t N m z.toInt g := fun c hc q => absurd q (by have := hc.1; omega)
theorem cW_nat {v : Vf} {c d : Int32} (hc : 0 ≤ c.toInt) (hd : 0 ≤ d.toInt) (h : c ≠ d) : c.toNatClampNeg ≠ d.toNatClampNeg := fun q => h (i_eqr (by
  have a := i_nat hc
  have b := i_nat hd
  omega))
theorem tb_put0 {v : Vf} {b t k k2 cv : Int32} {N : Nat} {g g' : Nat → Int32} (h : TbA v b t N 0 k.toInt g) (h0 : 0 ≤ k.toInt) (h2 : k2.toInt = k.toInt + 1) (hv : cv = if k = b then (0 : Int32) else 1000000000) (eg : upd g k.toNatClampNeg cv = g') : TbA v b t N 0 k2.toInt g' := fun c hc q => by
  rw [← eg]
  by_cases e : c = k
  · rw [e, updA, hv]
    rfl
  · rw [updN (cW_nat (v := v) hc.1 h0 e)]
    exact h c hc (by have := i_ne e; omega)
theorem tb_wide {v : Vf} {b t : Int32} {N m : Nat} {hi lo : Int} {g : Nat → Int32} (h : TbA v b t N m hi g) (hh : (v 0 0).toInt * (v 1 0).toInt ≤ hi) : TbA v b t N m lo g := fun c hc _ => h c hc (by have := hc.2; omega)
theorem tb_widc {v : Vf} {b t : Int32} {N : Nat} {i hi lo : Int} {g : Nat → Int32} (h : TbC v b t N i hi g) (hh : (v 0 0).toInt * (v 1 0).toInt ≤ hi) : TbC v b t N i lo g := fun k a b' c hc _ => h k a b' c hc (Or.inr (by have := hc.2; omega))
theorem tb_down {v : Vf} {b t z : Int32} {N : Nat} {i : Int} {g : Nat → Int32} (h : TbC v b t N (i + 1) 24 g) (h24 : (v 0 0).toInt * (v 1 0).toInt ≤ 24) (hz : z.toInt = 0) : TbC v b t N i z.toInt g := fun k a b' c hc q => h k (by have := hc.1; omega) b' c hc (Or.inr (by have := hc.2; omega))
theorem tb_next {v : Vf} {b t tm i kk kk2 : Int32} {N : Nat} {g h g' h' : Nat → Int32} (hi : 0 ≤ i.toInt ∧ i.toInt < (N : Int)) (etm : tm = t + i + 1) (hk : 0 ≤ kk.toInt) (h2 : kk2.toInt = kk.toInt + 1) (h24 : (v 0 0).toInt * (v 1 0).toInt ≤ 24) (hkc : cW v kk) (hA : TbA v b t N (N - i.toInt.toNat) kk.toInt g) (hC : TbC v b t N i.toInt kk.toInt h)
    (e : g' = upd g kk.toNatClampNeg (if kk = b then 0 else mnV v kk tm (rsV v b t N (N - (i.toNatClampNeg + 1))) 5) ∧ h' = upd h (24 * i.toNatClampNeg + kk.toNatClampNeg) (if kk = b then 0 else chV v kk tm (rsV v b t N (N - (i.toNatClampNeg + 1))) 5)) : TbA v b t N (N - i.toInt.toNat) kk2.toInt g' ∧ TbC v b t N i.toInt kk2.toInt h' := by
  have hin := i_nat hi.1
  have ei : i.toInt.toNat = i.toNatClampNeg := rfl
  rw [ei] at hA ⊢
  refine ⟨fun c hc q => ?_, fun k a b' c hc q => ?_⟩
  · rw [e.1]
    by_cases z : c = kk
    · rw [z, updA]
      by_cases y : kk = b
      · rw [if_pos y, y, rs_goal]
      · rw [if_neg y, (ck_eq (v := v) hi etm y).2]
    · rw [updN (cW_nat (v := v) hc.1 hk z)]
      exact hA c hc (by have := i_ne z; omega)
  · rw [e.2]
    have c2 := hc.2
    have cn := i_nat hc.1
    have kn := i_nat hk
    have k2 := hkc.2
    by_cases z : k = i.toNatClampNeg ∧ c = kk
    · rw [z.1, z.2, updA]
      by_cases y : kk = b
      · rw [if_pos y]
        exact (if_pos y).symm
      · rw [if_neg y, (ck_eq (v := v) hi etm y).1]
    · have ne : 24 * k + c.toNatClampNeg ≠ 24 * i.toNatClampNeg + kk.toNatClampNeg := fun y => z ⟨by omega, i_eqr (by omega)⟩
      rw [updN ne]
      refine hC k a b' c hc ?_
      by_cases y : k = i.toNatClampNeg
      · have nz : c ≠ kk := fun u => z ⟨y, u⟩
        have := i_ne nz
        exact Or.inr (by omega)
      · exact Or.inl (by omega)
/-! the class's walk along the ways -/
def PcQ (v : Vf) (a b t : Int32) (N : Nat) (j k : Int32) : Prop := k = pcV v a b t N j.toNatClampNeg ∧ cW v k ∧ (∀ m, m < j.toNatClampNeg → pcV v a b t N m ≠ b) ∧ (rsV v b t N (N - j.toNatClampNeg) k).toInt < 1000000000
theorem pcq_0 {v : Vf} {a b t z : Int32} {N : Nat} (hc : cW v a) (hr : (rsV v b t N N a).toInt < 1000000000) (hz : z.toInt = 0) : PcQ v a b t N z a := by
  have e : z.toNatClampNeg = 0 := by
    show z.toInt.toNat = 0
    omega
  unfold PcQ
  rw [e]
  exact ⟨rfl, hc, fun m q => absurd q (Nat.not_lt_zero _), hr⟩
theorem pcq_go {v : Vf} {a b t j k j2 w : Int32} {N : Nat} (hH : MdH v) (hW : 1 ≤ (v 0 0).toInt) (hN : N ≤ 40) (ht : 0 ≤ t.toInt ∧ t.toInt ≤ 900000) (hQ : PcQ v a b t N j k) (hj : 0 ≤ j.toInt ∧ j.toInt < (N : Int)) (hne : k ≠ b) (ew : w = ckV v b t N j.toNatClampNeg k) (h2 : j2.toInt = j.toInt + 1) : (0 ≤ w.toInt ∧ w.toInt ≤ 4) ∧ 0 ≤ (mGo v k w (t + j + 1)).toInt ∧ PcQ v a b t N j2 (mGo v k w (t + j + 1)) := by
  obtain ⟨q1, q2, q3, q4⟩ := hQ
  have g := ck_go hH hW hN ht hj (tm := t + j + 1) rfl q2 hne q4
  rw [← ew] at g
  refine ⟨g.1, g.2.1, ?_⟩
  unfold PcQ
  rw [i_nat1 hj.1 h2]
  refine ⟨?_, go_cW2 hH.1 q2 g.2.1, fun m hm => ?_, g.2.2⟩
  · show _ = mGo v (pcV v a b t N j.toNatClampNeg) (ckV v b t N j.toNatClampNeg (pcV v a b t N j.toNatClampNeg)) (t + Int32.ofNat j.toNatClampNeg + 1)
    rw [← q1, ← ew, i_ofN hj.1]
  · by_cases y : m = j.toNatClampNeg
    · rw [y, ← q1]
      exact hne
    · exact q3 m (by omega)
theorem pcq_next {v : Vf} {a b t j k j2 w there : Int32} {N : Nat} {g : Nat → Int32} (hH : MdH v) (hW : 1 ≤ (v 0 0).toInt) (hN : N ≤ 40) (ht : 0 ≤ t.toInt ∧ t.toInt ≤ 900000) (hQ : PcQ v a b t N j k) (hT : TbC v b t N 0 24 g) (hj : 0 ≤ j.toInt ∧ j.toInt < (N : Int)) (hne : k ≠ b) (ew : w = g (24 * j.toNatClampNeg + k.toNatClampNeg)) (hb : 0 ≤ w.toInt ∧ w.toInt ≤ 4 → there = mBes v k w) (h2 : j2.toInt = j.toInt + 1) : PcQ v a b t N j2 there := by
  have jn := i_nat hj.1
  have h24 := hH.1.2.2
  have kc := hQ.2.1
  have k2 := kc.2
  have e := ew.trans (hT j.toNatClampNeg (by omega) (by omega) k kc (Or.inr (by omega)))
  have z := pcq_go hH hW hN ht hQ hj hne e h2
  rw [hb z.1, ← go_bes hH.1 hW kc z.2.1]
  exact z.2.2
theorem way_none {v : Vf} {a b t i j k r : Int32} {N : Nat} (hQ : PcQ v a b t N j k) (hj : 0 ≤ j.toInt ∧ j.toInt ≤ (N : Int)) (hi : i.toInt < 0 ∨ j.toInt ≤ i.toInt) (hz : (N : Int) ≤ j.toInt ∨ k = b ∨ k.toInt = -1) (hr : r.toInt = -1) : WayR v a b t N i r := by
  obtain ⟨q1, q2, q3, q4⟩ := hQ
  have jn := i_nat hj.1
  have kb : k = b := by
    rcases hz with z | z | z
    · have e : N - j.toNatClampNeg = 0 := by omega
      rw [e] at q4
      exact rs_one q4
    · exact z
    · have := q2.1
      omega
  by_cases y : i.toInt < 0
  · exact Or.inl ⟨y, hr⟩
  · have i1 := i_nat (x := i) (by omega)
    exact Or.inr (Or.inl ⟨by omega, ⟨j.toNatClampNeg, by omega, by rw [← q1]; exact kb, q3⟩, hr⟩)
theorem way_at {v : Vf} {a b t i j k w : Int32} {N : Nat} {g : Nat → Int32} (h24 : (v 0 0).toInt * (v 1 0).toInt ≤ 24) (hQ : PcQ v a b t N j k) (hT : TbC v b t N 0 24 g) (hj : 0 ≤ j.toInt ∧ j.toInt < (N : Int)) (hne : k ≠ b) (ew : w = g (24 * j.toNatClampNeg + k.toNatClampNeg)) (e : j = i) : WayR v a b t N i w := by
  obtain ⟨q1, q2, q3, q4⟩ := hQ
  have jn := i_nat hj.1
  have k2 := q2.2
  rw [← e]
  refine Or.inr (Or.inr ⟨hj.1, fun m hm => ?_, ?_⟩)
  · by_cases y : m = j.toNatClampNeg
    · rw [y, ← q1]
      exact hne
    · exact q3 m (by omega)
  · rw [← q1]
    exact ew.trans (hT j.toNatClampNeg (by omega) (by omega) k q2 (Or.inr (by omega)))
/-! the reference -/
theorem go_r {v w : Vf} {c way t : Int32} (h : ∀ t, t ≠ 63 → w t = v t) : mGo w c way t = mGo v c way t := by rw [mGo_c h]
theorem mrb_rb {v w : Vf} {k c way t : Int32} (hs : ∀ t, t ≠ 63 → w t = v t) (hG : mdG v) (hk : 0 ≤ k.toInt ∧ k.toInt ≤ 39) (hc : cW v c) : mRB w k c way t = rbV v c way (t + k + 1) (fun x => w 63 (24 * (k.toNatClampNeg + 1) + x.toNatClampNeg)) := by
  have n0 : (0 : Int32).toInt = 0 := by decide
  have nf : (1000000000 : Int32).toInt = 1000000000 := by decide
  unfold mRB rbV
  rw [mGo_c hs]
  by_cases q : (mGo v c way (t + k + 1)).toInt < 0
  · rw [if_pos q, if_pos (Int32.lt_iff_toInt_lt.mpr (by omega))]
  · have g := go_cW2 hG hc (show 0 ≤ (mGo v c way (t + k + 1)).toInt by omega)
    have g2 := g.2
    have h24 := hG.2.2
    rw [if_neg q, if_neg (fun z => q (by have := i_lt z; omega)), idx25 hk ⟨g.1, by omega⟩, mCost_c hs]
    by_cases y : (w 63 (24 * (k.toNatClampNeg + 1) + (mGo v c way (t + k + 1)).toNatClampNeg)).toInt < 1000000000
    · rw [if_pos (Int32.lt_iff_toInt_lt.mpr (by omega)), if_pos y]
    · rw [if_neg (fun z => y (by have := i_lt z; omega)), if_neg y]
def RsM (v : Vf) (b t : Int32) (N : Nat) (k hi : Int) (g : Nat → Int32) : Prop := ∀ m : Nat, m ≤ N → ∀ c : Int32, cW v c → (k < (m : Int) ∨ ((m : Int) = k ∧ c.toInt < hi)) → g (24 * m + c.toNatClampNeg) = rsV v b t N (N - m) c
theorem rb_tab {v w : Vf} {b t k c way : Int32} {N : Nat} {hi : Int} (hs : ∀ t, t ≠ 63 → w t = v t) (hG : mdG v) (hk : 0 ≤ k.toInt ∧ k.toInt < (N : Int)) (hN : N ≤ 40) (hc : cW v c) (h : RsM v b t N k.toInt hi (w 63)) : mRB w k c way t = rbV v c way (t + k + 1) (rsV v b t N (N - (k.toNatClampNeg + 1))) := by
  have kn := i_nat hk.1
  rw [mrb_rb hs hG ⟨hk.1, by omega⟩ hc]
  exact rb_cg hG hc (fun x hx => h (k.toNatClampNeg + 1) (by omega) x hx (Or.inl (by omega)))
theorem rsm_0 {v : Vf} {b t n z : Int32} {g : Nat → Int32} (hn : 0 ≤ n.toInt) (hz : z.toInt = 0) : RsM v b t n.toNatClampNeg n.toInt z.toInt g := fun m hm c hc q => by
  have nn := i_nat hn
  have := hc.1
  omega
theorem rsm_down {v : Vf} {b t k k2 z : Int32} {N : Nat} {hi : Int} {g : Nat → Int32} (h : RsM v b t N k.toInt hi g) (hh : (v 0 0).toInt * (v 1 0).toInt ≤ hi) (h2 : k2.toInt = k.toInt - 1) (hz : z.toInt = 0) : RsM v b t N k2.toInt z.toInt g := fun m hm c hc q => h m hm c hc (by
  have c1 := hc.1
  have c2 := hc.2
  by_cases y : k.toInt < (m : Int)
  · exact Or.inl y
  · exact Or.inr ⟨by omega, by omega⟩)
/-- what the reference's inner loop has found of a cell's rest -/
def RsI (v : Vf) (b t : Int32) (n k c way x : Int32) : Prop := ((k.toInt < n.toInt ∧ c ≠ b) ∧ x = mnV v c (t + k + 1) (rsV v b t n.toNatClampNeg (n.toNatClampNeg - (k.toNatClampNeg + 1))) way.toNatClampNeg) ∨ (¬ (k.toInt < n.toInt ∧ c ≠ b) ∧ x = if c = b then 0 else 1000000000)
theorem rsi_0 {v : Vf} {b t n k c z x : Int32} (hz : z.toInt = 0) (hx : x = if c = b then 0 else 1000000000) : RsI v b t n k c z x := by
  have e : z.toNatClampNeg = 0 := by
    show z.toInt.toNat = 0
    omega
  by_cases q : k.toInt < n.toInt ∧ c ≠ b
  · refine Or.inl ⟨q, ?_⟩
    rw [e, hx, if_neg q.2]
    rfl
  · exact Or.inr ⟨q, hx⟩
theorem rsi_next {v w : Vf} {b t n k c way way2 x y r : Int32} {hi : Int} (hs : ∀ t, t ≠ 63 → w t = v t) (hG : mdG v) (hk : 0 ≤ k.toInt) (hn : n.toInt ≤ 40) (hc : cW v c) (hM : RsM v b t n.toNatClampNeg k.toInt hi (w 63)) (h : RsI v b t n k c way x) (hkn : k.toInt < n.toInt) (hne : c ≠ b) (h0 : 0 ≤ way.toInt) (h2 : way2.toInt = way.toInt + 1) (hr : r = mRB w k c way t) (hy : y = if r.toInt < x.toInt then r else x) : RsI v b t n k c way2 y := by
  have nn := i_nat (x := n) (by omega)
  have e := h.elim (fun q => q.2) (fun q => absurd ⟨hkn, hne⟩ q.1)
  rw [rb_tab hs hG ⟨hk, by omega⟩ (by omega) hc hM] at hr
  refine Or.inl ⟨⟨hkn, hne⟩, ?_⟩
  rw [i_nat1 h0 h2]
  show y = if (rbV v c (Int32.ofNat way.toNatClampNeg) (t + k + 1) (rsV v b t n.toNatClampNeg (n.toNatClampNeg - (k.toNatClampNeg + 1)))).toInt < (mnV v c (t + k + 1) (rsV v b t n.toNatClampNeg (n.toNatClampNeg - (k.toNatClampNeg + 1))) way.toNatClampNeg).toInt then rbV v c (Int32.ofNat way.toNatClampNeg) (t + k + 1) (rsV v b t n.toNatClampNeg (n.toNatClampNeg - (k.toNatClampNeg + 1))) else mnV v c (t + k + 1) (rsV v b t n.toNatClampNeg (n.toNatClampNeg - (k.toNatClampNeg + 1))) way.toNatClampNeg
  rw [i_ofN h0, ← hr, ← e]
  exact hy
theorem rsm_put {v : Vf} {b t n k c c2 way x : Int32} {g : Nat → Int32} (hG : mdG v) (hk : 0 ≤ k.toInt ∧ k.toInt ≤ n.toInt) (hc : cW v c) (h2 : c2.toInt = c.toInt + 1) (hM : RsM v b t n.toNatClampNeg k.toInt c.toInt g) (h : RsI v b t n k c way x) (hw : way.toInt = 5 ∨ ¬ k.toInt < n.toInt ∨ c = b) : RsM v b t n.toNatClampNeg k.toInt c2.toInt (upd g (24 * k.toNatClampNeg + c.toNatClampNeg) x) := fun m hm d hd q => by
  have kn := i_nat hk.1
  have nn := i_nat (x := n) (by omega)
  have cn := i_nat hc.1
  have dn := i_nat hd.1
  have c3 := hc.2
  have d3 := hd.2
  have h24 := hG.2.2
  by_cases z : m = k.toNatClampNeg ∧ d = c
  · rw [z.1, z.2, updA]
    rcases h with ⟨⟨a1, a2⟩, a3⟩ | ⟨a1, a2⟩
    · have w : way.toInt = 5 := by
        rcases hw with w | w | w
        · exact w
        · exact absurd a1 w
        · exact absurd w a2
      have e : way.toNatClampNeg = 5 := by
        show way.toInt.toNat = 5
        omega
      rw [e] at a3
      rw [(ck_eq (v := v) ⟨hk.1, by omega⟩ rfl a2).2]
      exact a3
    · by_cases y : c = b
      · rw [y, rs_goal, a2, if_pos y]
      · have e : n.toNatClampNeg - k.toNatClampNeg = 0 := by
          by_cases u : k.toInt < n.toInt
          · exact absurd ⟨u, y⟩ a1
          · omega
        rw [e, a2]
        rfl
  · have ne : 24 * m + d.toNatClampNeg ≠ 24 * k.toNatClampNeg + c.toNatClampNeg := fun y => z ⟨by omega, i_eqr (by omega)⟩
    rw [updN ne]
    refine hM m hm d hd ?_
    by_cases y : m = k.toNatClampNeg
    · have nz : d ≠ c := fun u => z ⟨y, u⟩
      have := i_ne nz
      exact Or.inr ⟨by omega, by omega⟩
    · exact Or.inl (by omega)
theorem ch_at {v : Vf} {b t tm k c way : Int32} {N : Nat} (hk : 0 ≤ k.toInt ∧ k.toInt < (N : Int)) (htm : tm = t + k + 1) (hne : c ≠ b) (hr : (rsV v b t N (N - k.toNatClampNeg) c).toInt < 1000000000) (hw : 0 ≤ way.toInt ∧ way.toInt ≤ 4) (hno : ∀ u : Nat, (u : Int) < way.toInt → rbV v c (Int32.ofNat u) tm (rsV v b t N (N - (k.toNatClampNeg + 1))) ≠ rsV v b t N (N - k.toNatClampNeg) c) (he : rbV v c way tm (rsV v b t N (N - (k.toNatClampNeg + 1))) = rsV v b t N (N - k.toNatClampNeg) c) : way = ckV v b t N k.toNatClampNeg c := by
  have e := ck_eq (v := v) (b := b) (c := c) hk htm hne
  rw [e.2] at hr he hno
  obtain ⟨⟨m, m1, m2, m3, m4⟩, -⟩ := ch_first (v := v) (c := c) (tm := tm) (f := rsV v b t N (N - (k.toNatClampNeg + 1))) 5 (by omega) hr
  have wn := i_nat hw.1
  rw [e.1, m2]
  by_cases y : way.toNatClampNeg < m
  · have z := m4 _ y
    rw [i_ofN hw.1, he] at z
    omega
  · by_cases y2 : m < way.toNatClampNeg
    · exact absurd m3 (hno m (by omega))
    · rw [show m = way.toNatClampNeg by omega, i_ofN hw.1]
theorem lea_nn {v : Vf} {b t a r : Int32} {N : Nat} (hH : MdH v) (hc : cW v a) (hN : N ≤ 40) (ht : 0 ≤ t.toInt ∧ t.toInt ≤ 900000) (e : r = rsV v b t N N a) : r.toInt ≠ -1 := by
  have hW := wd_pos hH.1.1.1 (show 1 ≤ (v 0 0).toInt * (v 1 0).toInt by have z1 := hc.1; have z2 := hc.2; omega)
  have q := (rs_b (b := b) hH hW hN ht N (Nat.le_refl _) a hc).1
  rw [← e] at q
  omega
end
section
/-! ===== water: what both sides answer ===== -/
theorem lvf_fr {v w : Vf} {t : Int32} (h : scL lWt v w) : lvF w t = lvF v t := by
  funext k
  have hp : ∀ c t, ∀ n, mPullN w c t n = mPullN v c t n := by
    intro c t n
    induction n with
    | zero => rfl
    | succ n ih =>
      show mPullN w c t n + mPart w (Int32.ofNat n) c t = mPullN v c t n + mPart v (Int32.ofNat n) c t
      rw [ih]
      unfold mPart
      rw [h 62 (by decide), h 8 (by decide), h 24 (by decide), h 6 (by decide), h 0 (by decide), h 7 (by decide), h 5 (by decide)]
  unfold lvF mFl mH mStiff mPull
  rw [h 17 (by decide), h 18 (by decide), h 2 (by decide), h 3 (by decide), h 25 (by decide), h 4 (by decide), hp]
def WLev (v : Vf) (x t : Int32) (T N : Int) : Prop := (x.toInt = 0 ∧ N = 1 ∧ (∃ w, w < (v 16 0).toNatClampNeg ∧ lvF v t w = T) ∧ ∀ w, w < (v 16 0).toNatClampNeg → T ≤ lvF v t w) ∨ (0 < x.toInt ∧ ∃ p, wG x.toInt (lvF v t) p (v 16 0).toNatClampNeg ∧ T = x.toInt + wS (lvF v t) p (v 16 0).toNatClampNeg ∧ N = wN p (v 16 0).toNatClampNeg)
theorem wlev_eq {v : Vf} {x t : Int32} {T N T2 N2 : Int} (h1 : WLev v x t T N) (h2 : WLev v x t T2 N2) : T = T2 ∧ N = N2 := by
  rcases h1 with ⟨a1, a2, ⟨w, a3, a4⟩, a5⟩ | ⟨a1, p, a2, a3, a4⟩
  · rcases h2 with ⟨b1, b2, ⟨u, b3, b4⟩, b5⟩ | ⟨b1, -⟩
    · have x1 := a5 u b3
      have x2 := b5 w a3
      omega
    · omega
  · rcases h2 with ⟨b1, -⟩ | ⟨b1, q, b2, b3, b4⟩
    · omega
    · have z := wG_uniq a2 b2
      exact ⟨by rw [a3, b3, z.2.1], by rw [a4, b4, z.2.2]⟩
/-! sets of wells -/
set_option maxRecDepth 100000 in
theorem bit_eq : ∀ m : Fin 32, ∀ w : Fin 5, lvP (Int32.ofNat m.val) w.val = Nat.testBit m.val w.val := by decide +kernel
theorem lvp_bit {r : Int32} (h : 0 ≤ r.toInt ∧ r.toInt ≤ 31) {w : Nat} (hw : w < 5) : lvP r w = Nat.testBit r.toNatClampNeg w := by
  have n := i_nat h.1
  have z : lvP (Int32.ofNat r.toNatClampNeg) w = Nat.testBit r.toNatClampNeg w := bit_eq ⟨r.toNatClampNeg, by omega⟩ ⟨w, hw⟩
  rw [i_ofN h.1] at z
  exact z
theorem pow_5 {k : Nat} (hk : k ≤ 5) : 2 ^ k ≤ 32 := Nat.pow_le_pow_right (n := 2) (by decide) hk
def WtC (g : Nat → Int) (be ab : Int) (k : Nat) (r : Int32) : Prop := (0 ≤ r.toInt ∧ r.toInt < ((2 ^ k : Nat) : Int)) ∧ ∀ w, w < k → (lvP r w = true ↔ g w * be < ab)
theorem wtc_eq {g : Nat → Int} {be ab : Int} {k : Nat} {r q : Int32} (hk : k ≤ 5) (h1 : WtC g be ab k r) (h2 : WtC g be ab k q) : r.toInt = q.toInt := by
  have p := pow_5 hk
  obtain ⟨⟨a1, a2⟩, a3⟩ := h1
  obtain ⟨⟨b1, b2⟩, b3⟩ := h2
  have r1 := i_nat a1
  have q1 := i_nat b1
  have e : r.toNatClampNeg = q.toNatClampNeg := Nat.eq_of_testBit_eq fun w => by
    by_cases z : w < k
    · rw [← lvp_bit ⟨a1, by omega⟩ (by omega), ← lvp_bit ⟨b1, by omega⟩ (by omega)]
      exact Bool.eq_iff_iff.mpr ((a3 w z).trans (b3 w z).symm)
    · have pw : 2 ^ k ≤ 2 ^ w := Nat.pow_le_pow_right (n := 2) (by decide) (by omega)
      rw [Nat.testBit_lt_two_pow (show r.toNatClampNeg < 2 ^ w by omega), Nat.testBit_lt_two_pow (show q.toNatClampNeg < 2 ^ w by omega)]
  omega
theorem wtc_0 {g : Nat → Int} {be ab : Int} {z r : Int32} (hz : z.toInt = 0) (hr : r.toInt = 0) : WtC g be ab z.toNatClampNeg r := by
  have e : z.toNatClampNeg = 0 := by
    show z.toInt.toNat = 0
    omega
  rw [e]
  exact ⟨⟨by omega, by rw [hr]; decide⟩, fun w hw => absurd hw (Nat.not_lt_zero _)⟩
theorem wtc_n {g : Nat → Int} {be ab : Int} {r i i2 : Int32} (h : WtC g be ab i.toNatClampNeg r) (hi : 0 ≤ i.toInt ∧ i.toInt ≤ 4) (h2 : i2.toInt = i.toInt + 1) (hn : ¬ g i.toNatClampNeg * be < ab) : WtC g be ab i2.toNatClampNeg r := by
  have ii := i_nat hi.1
  have p := pow_5 (k := i.toNatClampNeg) (by omega)
  obtain ⟨⟨a1, a2⟩, a3⟩ := h
  have rn := i_nat a1
  rw [i_nat1 hi.1 h2]
  have ps : 2 ^ (i.toNatClampNeg + 1) = 2 ^ i.toNatClampNeg * 2 := Nat.pow_succ 2 i.toNatClampNeg
  refine ⟨⟨a1, by omega⟩, fun w hw => ?_⟩
  by_cases z : w = i.toNatClampNeg
  · rw [z, lvp_bit ⟨a1, by omega⟩ (by omega), Nat.testBit_lt_two_pow (show r.toNatClampNeg < 2 ^ i.toNatClampNeg by omega)]
    exact ⟨fun q => absurd q (by decide), fun q => absurd q hn⟩
  · exact a3 w (by omega)
set_option maxRecDepth 100000 in
theorem bit_put : ∀ m : Fin 32, ∀ i : Fin 5, m.val < 2 ^ i.val → (Int32.ofNat m.val ||| (1 : Int32) <<< (Int32.ofNat i.val &&& 31)).toInt = ((m.val + 2 ^ i.val : Nat) : Int) ∧ ∀ w : Fin 5, lvP (Int32.ofNat m.val ||| (1 : Int32) <<< (Int32.ofNat i.val &&& 31)) w.val = if w.val = i.val then true else lvP (Int32.ofNat m.val) w.val := by decide +kernel
theorem wtc_y {g : Nat → Int} {be ab : Int} {r r2 i i2 : Int32} (h : WtC g be ab i.toNatClampNeg r) (hi : 0 ≤ i.toInt ∧ i.toInt ≤ 4) (h2 : i2.toInt = i.toInt + 1) (hn : g i.toNatClampNeg * be < ab) (er : r2 = r ||| (1 : Int32) <<< (i &&& 31)) : WtC g be ab i2.toNatClampNeg r2 := by
  have ii := i_nat hi.1
  have p := pow_5 (k := i.toNatClampNeg) (by omega)
  obtain ⟨⟨a1, a2⟩, a3⟩ := h
  have rn := i_nat a1
  rw [i_nat1 hi.1 h2]
  have ps : 2 ^ (i.toNatClampNeg + 1) = 2 ^ i.toNatClampNeg * 2 := Nat.pow_succ 2 i.toNatClampNeg
  have b : (Int32.ofNat r.toNatClampNeg ||| (1 : Int32) <<< (Int32.ofNat i.toNatClampNeg &&& 31)).toInt = ((r.toNatClampNeg + 2 ^ i.toNatClampNeg : Nat) : Int) ∧ ∀ w : Fin 5, lvP (Int32.ofNat r.toNatClampNeg ||| (1 : Int32) <<< (Int32.ofNat i.toNatClampNeg &&& 31)) w.val = if w.val = i.toNatClampNeg then true else lvP (Int32.ofNat r.toNatClampNeg) w.val := bit_put ⟨r.toNatClampNeg, by omega⟩ ⟨i.toNatClampNeg, by omega⟩ (show r.toNatClampNeg < 2 ^ i.toNatClampNeg by omega)
  rw [i_ofN a1, i_ofN hi.1, ← er] at b
  refine ⟨⟨by omega, by omega⟩, fun w hw => ?_⟩
  have c : lvP r2 w = if w = i.toNatClampNeg then true else lvP r w := b.2 ⟨w, by omega⟩
  rw [c]
  by_cases z : w = i.toNatClampNeg
  · rw [if_pos z, z]
    exact ⟨fun _ => hn, fun _ => rfl⟩
  · rw [if_neg z]
    exact a3 w (by omega)
theorem wtc_end {g : Nat → Int} {be ab : Int} {r i k : Int32} (h : WtC g be ab i.toNatClampNeg r) (e : i = k) : WtC g be ab k.toNatClampNeg r := by
  rw [← e]
  exact h
/-- what water answers -/
def WatR (v : Vf) (x t what r : Int32) : Prop := ∃ T N g : Int32, WLev v x t T.toInt N.toInt ∧ g.toInt = (Int.gcd T.toInt N.toInt : Int) ∧ ((what.toInt = 0 ∧ r = T / g) ∨ (what.toInt = 1 ∧ r = N / g) ∨ (what.toInt = 2 ∧ WtC (lvF v t) N.toInt T.toInt (v 16 0).toNatClampNeg r))
theorem wat_eq {v : Vf} {x t what r q : Int32} (h5 : 0 ≤ (v 16 0).toInt ∧ (v 16 0).toInt ≤ 5) (h1 : WatR v x t what r) (h2 : WatR v x t what q) : r.toInt = q.toInt := by
  obtain ⟨T, N, g, a1, a2, a3⟩ := h1
  obtain ⟨T2, N2, g2, b1, b2, b3⟩ := h2
  have e := wlev_eq a1 b1
  obtain rfl := i_eqr e.1
  obtain rfl := i_eqr e.2
  obtain rfl := i_eqr (a2.trans b2.symm)
  have kk := i_nat h5.1
  rcases a3 with ⟨c1, c2⟩ | ⟨c1, c2⟩ | ⟨c1, c2⟩
  · rcases b3 with ⟨d1, d2⟩ | ⟨d1, d2⟩ | ⟨d1, d2⟩
    · rw [c2, d2]
    · omega
    · omega
  · rcases b3 with ⟨d1, d2⟩ | ⟨d1, d2⟩ | ⟨d1, d2⟩
    · omega
    · rw [c2, d2]
    · omega
  · rcases b3 with ⟨d1, d2⟩ | ⟨d1, d2⟩ | ⟨d1, d2⟩
    · omega
    · omega
    · exact wtc_eq (by omega) c2 d2
/-! the class: a sorted row -/
def sI (g : Nat → Int32) (j : Nat) : Int := (g j).toInt
def SetQ (v : Vf) (t i : Int32) (ga gb : Nat → Int32) : Prop := (∀ w, w < i.toNatClampNeg → (ga w).toInt = lvF v t w) ∧ PermS (lvF v t) (sI gb) i.toNatClampNeg ∧ SortS (sI gb) i.toNatClampNeg ∧ ∀ j, j < i.toNatClampNeg → -342 ≤ sI gb j ∧ sI gb j ≤ 342
theorem gS_e (g : Int → Int) (s : Nat → Int) : gS g s 0 = 0 := rfl
theorem setq_0 {v : Vf} {t z : Int32} {ga gb : Nat → Int32} (hz : z.toInt = 0) : SetQ v t z ga gb := by
  have e : z.toNatClampNeg = 0 := by
    show z.toInt.toNat = 0
    omega
  unfold SetQ
  rw [e]
  exact ⟨fun w h => absurd h (Nat.not_lt_zero _), fun g => (gS_e g _).trans (gS_e g _).symm, fun i j _ h => absurd h (Nat.not_lt_zero _), fun w h => absurd h (Nat.not_lt_zero _)⟩
/-- what insert does -/
def InsQ (s u : Nat → Int32) (n fl : Int32) : Prop := ∃ i, InsS (sI s) (sI u) n.toNatClampNeg i fl.toInt ∧ (i = 0 ∨ sI s (i - 1) ≤ fl.toInt) ∧ ∀ j, i ≤ j → j < n.toNatClampNeg → fl.toInt ≤ sI s j
def InsL (s g : Nat → Int32) (n i fl : Int32) : Prop := (∀ j, j < i.toNatClampNeg → g j = s j) ∧ (∀ j, i.toNatClampNeg ≤ j → j < n.toNatClampNeg → g (j + 1) = s j) ∧ ∀ j, i.toNatClampNeg ≤ j → j < n.toNatClampNeg → fl.toInt ≤ sI s j
theorem insl_0 {s : Nat → Int32} {n fl : Int32} : InsL s s n n fl := ⟨fun _ _ => rfl, fun j a b => absurd a (by omega), fun j a b => absurd a (by omega)⟩
theorem insl_next {s g g2 : Nat → Int32} {n i i2 fl y x : Int32} (h : InsL s g n i fl) (hi : 0 < i.toInt ∧ i.toInt ≤ n.toInt) (h2 : i2.toInt = i.toInt - 1) (hy : y = i2) (hx : x = g y.toNatClampNeg) (hf : fl.toInt < x.toInt) (eg : upd g i.toNatClampNeg x = g2) : InsL s g2 n i2 fl := by
  have ii := i_nat (x := i) (by omega)
  have i3 := i_nat (x := i2) (by omega)
  have nn := i_nat (x := n) (by omega)
  obtain ⟨a1, a2, a3⟩ := h
  have ex : x = s i2.toNatClampNeg := by rw [hx, hy, a1 _ (by omega)]
  rw [← eg]
  refine ⟨fun j hj => ?_, fun j h1 h2 => ?_, fun j h1 h2 => ?_⟩
  · rw [updN (by omega)]
    exact a1 j (by omega)
  · by_cases z : j = i2.toNatClampNeg
    · rw [show j + 1 = i.toNatClampNeg by omega, updA, z, ex]
    · rw [updN (by omega)]
      exact a2 j (by omega) h2
  · by_cases z : j = i2.toNatClampNeg
    · rw [z]
      unfold sI
      rw [← ex]
      omega
    · exact a3 j (by omega) h2
theorem ins_end {s g u : Nat → Int32} {n i fl : Int32} (h : InsL s g n i fl) (hi : 0 ≤ i.toInt ∧ i.toInt ≤ n.toInt) (hz : i.toInt = 0 ∨ ∃ y : Int32, y.toInt = i.toInt - 1 ∧ (g y.toNatClampNeg).toInt ≤ fl.toInt) (eg : upd g i.toNatClampNeg fl = u) : InsQ s u n fl := by
  have ii := i_nat hi.1
  have nn := i_nat (x := n) (by omega)
  obtain ⟨a1, a2, a3⟩ := h
  rw [← eg]
  refine ⟨i.toNatClampNeg, ⟨by omega, fun j hj => ?_, ?_, fun j h1 h2 => ?_⟩, ?_, a3⟩
  · unfold sI
    rw [updN (by omega), a1 j hj]
  · unfold sI
    rw [updA]
  · unfold sI
    rw [updN (by omega), a2 j h1 h2]
  · by_cases q : i.toInt = 0
    · exact Or.inl (by omega)
    · obtain ⟨y, y1, y2⟩ := hz.resolve_left q
      have yy := i_nat (x := y) (by omega)
      rw [a1 _ (by omega)] at y2
      refine Or.inr ?_
      rw [show i.toNatClampNeg - 1 = y.toNatClampNeg by omega]
      exact y2
theorem ins_bnd {s u : Nat → Int} {n i : Nat} {x : Int} (h : InsS s u n i x) (hs : ∀ j, j < n → -342 ≤ s j ∧ s j ≤ 342) (hx : -342 ≤ x ∧ x ≤ 342) : ∀ j, j < n + 1 → -342 ≤ u j ∧ u j ≤ 342 := by
  obtain ⟨h0, h1, h2, h3⟩ := h
  intro j hj
  rcases Nat.lt_trichotomy j i with q | q | q
  · rw [h1 j q]
    exact hs j (by omega)
  · rw [q, h2]
    exact hx
  · have z := h3 (j - 1) (by omega) (by omega)
    rw [show j - 1 + 1 = j by omega] at z
    rw [z]
    exact hs (j - 1) (by omega)
theorem setq_next {v : Vf} {t i i2 fl : Int32} {ga gb ga2 gb2 : Nat → Int32} (h : SetQ v t i ga gb) (hi : 0 ≤ i.toInt) (h2 : i2.toInt = i.toInt + 1) (hf : fl.toInt = lvF v t i.toNatClampNeg) (hb : -342 ≤ fl.toInt ∧ fl.toInt ≤ 342) (ea : upd ga i.toNatClampNeg fl = ga2) (hq : InsQ gb gb2 i fl) : SetQ v t i2 ga2 gb2 := by
  obtain ⟨a1, a2, a3, a4⟩ := h
  obtain ⟨k, k1, k2, k3⟩ := hq
  unfold SetQ
  rw [i_nat1 hi h2]
  rw [hf] at k1 k2 k3 hb
  refine ⟨fun w hw => ?_, ins_perm a2 k1, ins_sort a3 k1 k2 k3, ins_bnd k1 a4 hb⟩
  rw [← ea]
  by_cases z : w = i.toNatClampNeg
  · rw [z, updA, hf]
  · rw [updN z]
    exact a1 w (by omega)
theorem gS_le {s : Nat → Int} {M : Int} : ∀ n : Nat, (∀ j, j < n → s j ≤ M) → gS id s n ≤ M * (n : Int)
  | 0, _ => by
    rw [show ((0 : Nat) : Int) = 0 from rfl, Int.mul_zero]
    exact Int.le_refl _
  | n + 1, h => by
    have ih := gS_le (M := M) n (fun j hj => h j (by omega))
    have z := h n (by omega)
    rw [gS_s, show ((n + 1 : Nat) : Int) = (n : Int) + 1 from by omega, Int.mul_add, Int.mul_one]
    show gS id s n + s n ≤ _
    omega
theorem gS_z {g : Int → Int} {s : Nat → Int} : ∀ n : Nat, (∀ j, j < n → g (s j) = 0) → gS g s n = 0
  | 0, _ => rfl
  | n + 1, h => by
    rw [gS_s, gS_z n (fun j hj => h j (by omega)), h n (by omega)]
    rfl
theorem gS_nn {g : Int → Int} {s : Nat → Int} (hg : ∀ z, 0 ≤ g z) : ∀ n : Nat, 0 ≤ gS g s n ∧ ∀ j, j < n → g (s j) ≤ gS g s n
  | 0 => ⟨Int.le_refl _, fun j h => absurd h (Nat.not_lt_zero _)⟩
  | n + 1 => by
    have ih := gS_nn (s := s) hg n
    have z := hg (s n)
    rw [gS_s]
    refine ⟨by omega, fun j hj => ?_⟩
    by_cases q : j = n
    · rw [q]
      omega
    · have := ih.2 j (by omega)
      omega
/-- the least of a row stands first when it is sorted -/
theorem perm_min {f s : Nat → Int} {k : Nat} (hp : PermS f s k) (hs : SortS s k) (hk : 0 < k) : (∃ w, w < k ∧ f w = s 0) ∧ ∀ w, w < k → s 0 ≤ f w := by
  refine ⟨?_, fun w hw => ?_⟩
  · rcases Classical.em (∃ w, w < k ∧ f w = s 0) with q | q
    · exact q
    · exfalso
      have z := gS_z (g := fun y => if y = s 0 then 1 else 0) (s := f) k (fun j hj => if_neg (fun y => q ⟨j, hj, y⟩))
      rw [hp] at z
      have y := (gS_nn (g := fun y => if y = s 0 then 1 else 0) (s := s) (fun y => by
        show (0 : Int) ≤ if y = s 0 then 1 else 0
        split <;> omega) k).2 0 hk
      rw [z] at y
      have y2 : (if s 0 = s 0 then (1 : Int) else 0) ≤ 0 := y
      rw [if_pos rfl] at y2
      omega
  · rcases Int.lt_or_le (f w) (s 0) with q | q
    · exfalso
      have z := gS_z (g := fun y => if y < s 0 then 1 else 0) (s := s) k (fun j hj => if_neg (by have := hs 0 j (Nat.zero_le _) hj; omega))
      rw [← hp] at z
      have y := (gS_nn (g := fun y => if y < s 0 then 1 else 0) (s := f) (fun y => by
        show (0 : Int) ≤ if y < s 0 then 1 else 0
        split <;> omega) k).2 w hw
      rw [z] at y
      have y2 : (if f w < s 0 then (1 : Int) else 0) ≤ 0 := y
      rw [if_pos q] at y2
      omega
    · exact q
/-- the class's walk over the sorted row -/
def SumQ (x : Int32) (gb : Nat → Int32) (sm j : Int32) : Prop := sm.toInt = x.toInt + gS id (sI gb) j.toNatClampNeg ∧ (j.toNatClampNeg = 0 ∨ sI gb j.toNatClampNeg * (j.toNatClampNeg : Int) < x.toInt + gS id (sI gb) j.toNatClampNeg)
theorem sumq_0 {x z : Int32} {gb : Nat → Int32} (hz : z.toInt = 0) : SumQ x gb x z := by
  have e : z.toNatClampNeg = 0 := by
    show z.toInt.toNat = 0
    omega
  unfold SumQ
  rw [e]
  exact ⟨(Int.add_zero _).symm, Or.inl rfl⟩
theorem sumq_b {v : Vf} {t i x sm j : Int32} {ga gb : Nat → Int32} (hq : SetQ v t i ga gb) (h : SumQ x gb sm j) (hj : 0 ≤ j.toInt ∧ j.toInt ≤ i.toInt) (hi : i.toInt ≤ 5) (hx : 0 ≤ x.toInt ∧ x.toInt ≤ 9999) : -1710 ≤ sm.toInt ∧ sm.toInt ≤ 11709 := by
  have jj := i_nat hj.1
  have ii := i_nat (x := i) (by omega)
  have key : ∀ n : Nat, n ≤ i.toNatClampNeg → -342 * (n : Int) ≤ gS id (sI gb) n ∧ gS id (sI gb) n ≤ 342 * (n : Int) := by
    intro n
    induction n with
    | zero =>
      intro _
      rw [gS_e]
      exact ⟨by decide, by decide⟩
    | succ n ih =>
      intro hn
      have a := ih (by omega)
      have b := hq.2.2.2 n (by omega)
      rw [gS_s]
      show -342 * ((n + 1 : Nat) : Int) ≤ gS id (sI gb) n + sI gb n ∧ gS id (sI gb) n + sI gb n ≤ 342 * ((n + 1 : Nat) : Int)
      omega
  have z := key j.toNatClampNeg (by omega)
  have e := h.1
  omega
theorem sumq_add {x sm j j2 s2 y : Int32} {gb : Nat → Int32} (h : SumQ x gb sm j) (hj : 0 ≤ j.toInt) (h2 : j2.toInt = j.toInt + 1) (hy : y = gb j.toNatClampNeg) (es : s2.toInt = sm.toInt + y.toInt) : s2.toInt = x.toInt + gS id (sI gb) j2.toNatClampNeg := by
  rw [i_nat1 hj h2, gS_s, es, h.1, hy]
  show _ = x.toInt + (gS id (sI gb) j.toNatClampNeg + sI gb j.toNatClampNeg)
  unfold sI
  omega
theorem wat_lev {v : Vf} {t i x sm j s2 j2 y : Int32} {ga gb : Nat → Int32} (hq : SetQ v t i ga gb) (ei : i = v 16 0) (hx : 0 ≤ x.toInt) (hi : 0 ≤ i.toInt) (h : SumQ x gb sm j) (hj : 0 ≤ j.toInt ∧ j.toInt < i.toInt) (h2 : j2.toInt = j.toInt + 1) (hy : y = gb j.toNatClampNeg) (es : s2.toInt = sm.toInt + y.toInt) (he : j2.toInt = i.toInt ∨ s2.toInt ≤ sI gb j2.toNatClampNeg * (j2.toNatClampNeg : Int)) : WLev v x t s2.toInt j2.toInt := by
  have jj := i_nat hj.1
  have ii := i_nat hi
  have k2 := i_nat1 hj.1 h2
  have s2e := sumq_add h hj.1 h2 hy es
  obtain ⟨q1, q2, q3, q4⟩ := hq
  rw [k2] at s2e he
  by_cases z : x.toInt = 0
  · have j0 : j.toNatClampNeg = 0 := by
      rcases h.2 with q | q
      · exact q
      · exfalso
        have l := gS_le (s := sI gb) (M := sI gb j.toNatClampNeg) j.toNatClampNeg (fun a ha => q3 a j.toNatClampNeg (by omega) (by omega))
        omega
    have m := perm_min q2 q3 (by omega)
    rw [j0] at s2e
    have e1 : gS id (sI gb) (0 + 1) = 0 + sI gb 0 := rfl
    rw [ei] at m
    refine Or.inl ⟨z, by omega, ?_, ?_⟩
    · obtain ⟨w, w1, w2⟩ := m.1
      exact ⟨w, w1, by omega⟩
    · intro w hw
      have := m.2 w hw
      omega
  · have w := wat_cls (x := x.toInt) (i := j.toNatClampNeg) (by omega) q2 q3 (by omega) h.2 (by
      rcases he with q | q
      · exact Or.inl (by omega)
      · exact Or.inr (by rw [← s2e]; exact q))
    rw [ei] at w
    exact Or.inr ⟨by omega, _, w.1, by rw [w.2.2]; exact s2e, by rw [w.2.1]; omega⟩
theorem sumq_next {x sm j j2 s2 y : Int32} {gb : Nat → Int32} (h : SumQ x gb sm j) (hj : 0 ≤ j.toInt) (h2 : j2.toInt = j.toInt + 1) (hy : y = gb j.toNatClampNeg) (es : s2.toInt = sm.toInt + y.toInt) (hn : sI gb j2.toNatClampNeg * (j2.toNatClampNeg : Int) < s2.toInt) : SumQ x gb s2 j2 := by
  have e := sumq_add h hj h2 hy es
  exact ⟨e, Or.inr (by rw [← e]; exact hn)⟩
theorem fl_b {v : Vf} {t w : Int32} (hH : MdH v) (hw : 1 ≤ (v 0 0).toInt) (hk : 0 ≤ w.toInt ∧ w.toInt < (v 16 0).toInt) (ht : 0 ≤ t.toInt ∧ t.toInt ≤ 2000000) : (mFl v w t).toInt = (mH v (v 17 w.toNatClampNeg) t).toInt - (v 18 w.toNatClampNeg).toInt ∧ -342 ≤ (mFl v w t).toInt ∧ (mFl v w t).toInt ≤ 342 := by
  have wn := i_nat hk.1
  have c16 := hH.2.1.2.2.2.1
  have c := hH.2.2.2.2.1.2.2.1 w.toNatClampNeg (by omega)
  have f := hH.2.2.2.2.1.2.2.2.2 w.toNatClampNeg (by omega)
  have m := mH_b hH hw c ht
  have s := i_sub (z := mFl v w t) rfl (by omega)
  exact ⟨s, by omega, by omega⟩
/-! the reference -/
theorem lv_yes {v : Vf} {t set w lw r n s : Int32} {f : Int} (hf : lvF v t w.toNatClampNeg = f) (hp : (r.toInt = 1 ∧ lvP set w.toNatClampNeg = true) ∨ (r.toInt = 0 ∧ lvP set w.toNatClampNeg = false)) (hl : (lw.toInt = 1 ∧ f * n.toInt < s.toInt) ∨ (lw.toInt = 0 ∧ s.toInt ≤ f * n.toInt)) (e : lw.toInt = r.toInt) : lvP set w.toNatClampNeg = true ↔ lvF v t w.toNatClampNeg * n.toInt < s.toInt := by
  rw [hf]
  rcases hp with ⟨a1, a2⟩ | ⟨a1, a2⟩
  · rcases hl with ⟨b1, b2⟩ | ⟨b1, b2⟩
    · exact ⟨fun _ => b2, fun _ => a2⟩
    · omega
  · rcases hl with ⟨b1, b2⟩ | ⟨b1, b2⟩
    · omega
    · exact ⟨fun q => absurd q (by rw [a2]; decide), fun q => by omega⟩
theorem lev_iff {P : Nat → Prop} {i i2 : Int32} (h : ∀ w, w < i.toNatClampNeg → P w) (h0 : 0 ≤ i.toInt) (h2 : i2.toInt = i.toInt + 1) (hn : P i.toNatClampNeg) : ∀ w, w < i2.toNatClampNeg → P w := by
  rw [i_nat1 h0 h2]
  intro w hw
  by_cases q : w = i.toNatClampNeg
  · rw [q]
    exact hn
  · exact h w (by omega)
theorem lev_mk {v : Vf} {x t set n s w2 : Int32} (h1 : 1 ≤ n.toInt) (hw : w2 = v 16 0) (hS : s.toInt = x.toInt + wS (lvF v t) (lvP set) (v 16 0).toNatClampNeg) (hN : n.toInt = wN (lvP set) (v 16 0).toNatClampNeg) (h : ∀ w, w < w2.toNatClampNeg → (lvP set w = true ↔ lvF v t w * n.toInt < s.toInt)) : mLev v x t set := by
  rw [hw] at h
  refine ⟨by omega, fun w a => ?_⟩
  have z := h w a
  rw [hS, hN] at z
  exact z
/-- the first set that fits has no bits above the wells -/
theorem wet_min {v : Vf} {x t s : Int32} (hk : 1 ≤ (v 16 0).toInt ∧ (v 16 0).toInt ≤ 5) (hs : 1 ≤ s.toInt ∧ s.toInt ≤ 31) (hl : mLev v x t s) (hn : ∀ u : Int32, 1 ≤ u.toInt → u.toInt < s.toInt → ¬ mLev v x t u) : s.toInt < ((2 ^ (v 16 0).toNatClampNeg : Nat) : Int) := by
  have kk := i_nat (x := v 16 0) (by omega)
  have sn := i_nat (x := s) (by omega)
  have p := pow_5 (k := (v 16 0).toNatClampNeg) (by omega)
  have p0 : 0 < 2 ^ (v 16 0).toNatClampNeg := Nat.pow_pos (by decide)
  rcases Int.lt_or_le s.toInt ((2 ^ (v 16 0).toNatClampNeg : Nat) : Int) with q | q
  · exact q
  · exfalso
    have m := Nat.mod_lt s.toNatClampNeg p0
    have o := ofN_t (n := s.toNatClampNeg % 2 ^ (v 16 0).toNatClampNeg) (by omega)
    have un := i_nat (x := Int32.ofNat (s.toNatClampNeg % 2 ^ (v 16 0).toNatClampNeg)) (by omega)
    have eq_ : ∀ w, w < (v 16 0).toNatClampNeg → lvP (Int32.ofNat (s.toNatClampNeg % 2 ^ (v 16 0).toNatClampNeg)) w = lvP s w := fun w hw => by
      rw [lvp_bit ⟨by omega, by omega⟩ (by omega), lvp_bit ⟨by omega, by omega⟩ (by omega), show (Int32.ofNat (s.toNatClampNeg % 2 ^ (v 16 0).toNatClampNeg)).toNatClampNeg = s.toNatClampNeg % 2 ^ (v 16 0).toNatClampNeg by omega, Nat.testBit_mod_two_pow, decide_eq_true hw, Bool.true_and]
    have c := wc_S (f := lvF v t) (v 16 0).toNatClampNeg eq_
    have lu : mLev v x t (Int32.ofNat (s.toNatClampNeg % 2 ^ (v 16 0).toNatClampNeg)) := by
      unfold mLev wG
      rw [c.1, c.2]
      exact ⟨hl.1, fun w hw => by rw [eq_ w hw]; exact hl.2 w hw⟩
    by_cases z : s.toNatClampNeg % 2 ^ (v 16 0).toNatClampNeg = 0
    · have z1 := lu.1
      have zf : ∀ w, w < (v 16 0).toNatClampNeg → lvP (Int32.ofNat (s.toNatClampNeg % 2 ^ (v 16 0).toNatClampNeg)) w = (fun _ => false) w := fun w hw => by
        rw [lvp_bit ⟨by omega, by omega⟩ (by omega), show (Int32.ofNat (s.toNatClampNeg % 2 ^ (v 16 0).toNatClampNeg)).toNatClampNeg = 0 by omega]
        exact Nat.zero_testBit w
      have c2 := wc_S (f := lvF v t) (v 16 0).toNatClampNeg zf
      have z2 : ∀ n, wN (fun _ => false) n = 0 := by
        intro n
        induction n with
        | zero => rfl
        | succ n ih =>
          rw [wN_s, ih]
          rfl
      rw [c2.2, z2] at z1
      omega
    · exact hn _ (by omega) (by omega) lu
/-- what the reference has found when it divides -/
def FwQ (v : Vf) (x t : Int32) (w : Vf) : Prop := WLev v x t (w 64 0).toInt (w 65 0).toInt ∧ WtC (lvF v t) (w 65 0).toInt (w 64 0).toInt (v 16 0).toNatClampNeg (w 66 0)
theorem fwq_lev {v w : Vf} {x t s : Int32} (hk : 1 ≤ (v 16 0).toInt ∧ (v 16 0).toInt ≤ 5) (hx : 0 < x.toInt) (hs : 1 ≤ s.toInt ∧ s.toInt ≤ 31) (hl : mLev v x t s) (hn : ∀ u : Int32, 1 ≤ u.toInt → u.toInt < s.toInt → ¬ mLev v x t u) (h64 : (w 64 0).toInt = x.toInt + wS (lvF v t) (lvP s) (v 16 0).toNatClampNeg) (h65 : (w 65 0).toInt = wN (lvP s) (v 16 0).toNatClampNeg) (h66 : w 66 0 = s) : FwQ v x t w := by
  refine ⟨Or.inr ⟨hx, lvP s, hl, h64, h65⟩, ⟨by rw [h66]; omega, by rw [h66]; exact wet_min hk hs hl hn⟩, fun u hu => ?_⟩
  rw [h66, h64, h65]
  exact hl.2 u hu
theorem fwq_0 {v w : Vf} {x t i : Int32} (hk : 0 ≤ (v 16 0).toInt ∧ (v 16 0).toInt ≤ 5) (hx : x.toInt = 0) (ei : i = v 16 0) (h : (∃ u, u < i.toNatClampNeg ∧ lvF v t u = (w 64 0).toInt) ∧ ∀ u, u < i.toNatClampNeg → (w 64 0).toInt ≤ lvF v t u) (h65 : (w 65 0).toInt = 1) (h66 : (w 66 0).toInt = 0) : FwQ v x t w := by
  rw [ei] at h
  have kk := i_nat hk.1
  refine ⟨Or.inl ⟨hx, h65, h.1, h.2⟩, ⟨by omega, by rw [h66]; exact Int.ofNat_lt.mpr (Nat.pow_pos (by decide))⟩, fun u hu => ?_⟩
  have r0 : (w 66 0).toNatClampNeg = 0 := by
    show (w 66 0).toInt.toNat = 0
    omega
  rw [lvp_bit ⟨by omega, by omega⟩ (by omega), r0, Nat.zero_testBit, h65, Int.mul_one]
  have := h.2 u hu
  exact ⟨fun q => absurd q (by decide), fun q => by omega⟩
theorem min_next {v : Vf} {t w w2 a b : Int32} (h : (∃ u, u < w.toNatClampNeg ∧ lvF v t u = a.toInt) ∧ ∀ u, u < w.toNatClampNeg → a.toInt ≤ lvF v t u) (h0 : 0 ≤ w.toInt) (h2 : w2.toInt = w.toInt + 1) (hb : (b.toInt = a.toInt ∧ a.toInt ≤ lvF v t w.toNatClampNeg) ∨ (b.toInt = lvF v t w.toNatClampNeg ∧ lvF v t w.toNatClampNeg ≤ a.toInt)) : (∃ u, u < w2.toNatClampNeg ∧ lvF v t u = b.toInt) ∧ ∀ u, u < w2.toNatClampNeg → b.toInt ≤ lvF v t u := by
  rw [i_nat1 h0 h2]
  obtain ⟨⟨u, u1, u2⟩, u3⟩ := h
  rcases hb with ⟨b1, b2⟩ | ⟨b1, b2⟩
  · refine ⟨⟨u, by omega, by omega⟩, fun y hy => ?_⟩
    by_cases q : y = w.toNatClampNeg
    · rw [q]
      omega
    · have := u3 y (by omega)
      omega
  · refine ⟨⟨w.toNatClampNeg, by omega, b1.symm⟩, fun y hy => ?_⟩
    by_cases q : y = w.toNatClampNeg
    · rw [q]
      omega
    · have := u3 y (by omega)
      omega
theorem tn1 : (1 : Int32).toNatClampNeg = 1 := by decide
theorem wat_he {gb : Nat → Int32} {j2 a b y m : Int32} (hj : 0 ≤ j2.toInt ∧ j2.toInt ≤ 5) (ea : a.toInt = j2.toInt) (eb : b.toInt = j2.toInt) (ey : y = gb a.toNatClampNeg) (hy : -342 ≤ y.toInt ∧ y.toInt ≤ 342) (em : m = y * b) : m.toInt = sI gb j2.toNatClampNeg * (j2.toNatClampNeg : Int) := by
  obtain rfl := i_eqr ea
  obtain rfl := i_eqr eb
  rw [i_mul5 em hy hj, ey, i_nat hj.1]
  rfl
/-- a level in lowest terms stands above the same floors -/
theorem wtc_red {f f2 : Nat → Int} {T N g ab be r : Int32} {k : Nat} (hT : -100000 ≤ T.toInt ∧ T.toInt ≤ 100000) (hN : 1 ≤ N.toInt ∧ N.toInt ≤ 5) (hg : g.toInt = (Int.gcd T.toInt N.toInt : Int)) (ea : ab = T / g) (eb : be = N / g) : (0 ≤ be.toInt ∧ be.toInt ≤ 5) ∧ ((∀ w, w < k → f2 w = f w) → WtC f2 be.toInt ab.toInt k r → WtC f N.toInt T.toInt k r) := by
  have gg := gcd_le' (a := T.toInt) (b := N.toInt) hN.1
  have dT : (g.toInt) ∣ T.toInt := by
    rw [hg]
    exact Int.gcd_dvd_left ..
  have dN : (g.toInt) ∣ N.toInt := by
    rw [hg]
    exact Int.gcd_dvd_right ..
  have qT : ab.toInt = T.toInt.tdiv g.toInt := by
    rw [ea]
    exact Int32.toInt_div_of_ne_left T g (fun q => by rw [q] at hT; exact absurd hT.1 (by decide))
  have qN : be.toInt = N.toInt.tdiv g.toInt := by
    rw [eb]
    exact Int32.toInt_div_of_ne_left N g (fun q => by rw [q] at hN; exact absurd hN.1 (by decide))
  have mT : ab.toInt * g.toInt = T.toInt := by
    rw [qT]
    exact Int.tdiv_mul_cancel dT
  have mN : be.toInt * g.toInt = N.toInt := by
    rw [qN]
    exact Int.tdiv_mul_cancel dN
  have b0 : 0 ≤ be.toInt := by
    rw [qN]
    exact Int.tdiv_nonneg (by omega) (by omega)
  have b5 : be.toInt ≤ be.toInt * g.toInt := by
    have z := Int.mul_le_mul_of_nonneg_left (show (1 : Int) ≤ g.toInt by omega) b0
    omega
  refine ⟨⟨b0, by omega⟩, fun hf h => ⟨h.1, fun w hw => ?_⟩⟩
  rw [h.2 w hw, hf w hw, lt_mul (show (0 : Int) < g.toInt by omega), Int.mul_assoc, mN, mT]
theorem sumq_b2 {v : Vf} {t i x sm j s2 j2 y : Int32} {ga gb : Nat → Int32} (hq : SetQ v t i ga gb) (h : SumQ x gb sm j) (hj : 0 ≤ j.toInt ∧ j.toInt < i.toInt) (hi : i.toInt ≤ 5) (hx : 0 ≤ x.toInt ∧ x.toInt ≤ 9999) (h2 : j2.toInt = j.toInt + 1) (hy : y = gb j.toNatClampNeg) (es : s2.toInt = sm.toInt + y.toInt) : -2052 ≤ s2.toInt ∧ s2.toInt ≤ 12051 := by
  have b := sumq_b hq h ⟨hj.1, by omega⟩ hi hx
  have jj := i_nat hj.1
  have ii := i_nat (x := i) (by omega)
  have c := hq.2.2.2 j.toNatClampNeg (by omega)
  unfold sI at c
  rw [← hy] at c
  omega
end
