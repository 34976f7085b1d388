/-! ===== the class's plan and state against the reference's values ===== -/
def RqM (vm vp : Vf) (m b0 b1 b2 b3 b4 : Nat) : Prop := ((m : Int) < (vm 4 0).toInt → (vp b0 0 = vm 5 m ∧ vp b1 0 = vm 6 m ∧ vp b2 0 = vm 7 m) ∧ (∀ j : Nat, (j : Int) < (vm 5 m).toInt → vp b3 j = vm 8 (9 * m + j) ∧ vp b3 ((vm 5 m).toInt.toNat + j) = vm 8 (9 * m + j)) ∧ (∀ c : Nat, (c : Int) < (vm 0 0).toInt * (vm 1 0).toInt → (vp b4 c).toInt = (vm 6 m).toInt * ((c : Int) % (vm 0 0).toInt) + (vm 7 m).toInt * ((c : Int) / (vm 0 0).toInt))) ∧ ((vm 4 0).toInt ≤ (m : Int) → vp b0 0 = 1 ∧ vp b3 0 = 0 ∧ vp b3 1 = 0)
def RqG (vm vp : Vf) : Prop := vp 0 0 = vm 0 0 ∧ vp 1 0 = vm 1 0 ∧ ∀ c : Nat, (c : Int) < (vm 0 0).toInt * (vm 1 0).toInt → vp 3 c = vm 2 c ∧ vp 4 c = vm 3 c
def RqMs (vm vp : Vf) : Prop := vp 5 0 = vm 4 0 ∧ RqM vm vp 0 20 21 22 23 24 ∧ RqM vm vp 1 30 31 32 33 34 ∧ RqM vm vp 2 40 41 42 43 44
def RqH (vm vp : Vf) : Prop := vp 60 0 = vm 9 0 ∧ ∀ k : Nat, (k : Int) < (vm 9 0).toInt → vp 61 k = vm 10 k ∧ vp 62 k = vm 11 k
def RqK (vm vp : Vf) : Prop := vp 70 0 = vm 12 0 ∧ ∀ k : Nat, (k : Int) < (vm 12 0).toInt → vp 71 k = vm 13 k ∧ vp 72 k = vm 14 k ∧ vp 73 k = vm 15 k
def RqW (vm vp : Vf) : Prop := vp 80 0 = vm 16 0 ∧ ∀ k : Nat, (k : Int) < (vm 16 0).toInt → vp 81 k = vm 17 k ∧ vp 82 k = vm 18 k
def RqD (vm vp : Vf) : Prop := vp 90 0 = vm 19 0 ∧ ∀ k : Nat, (k : Int) < (vm 19 0).toInt → vp 92 k = vm 20 k ∧ vp 93 k = vm 21 k
def RqP (vm vp : Vf) : Prop := RqG vm vp ∧ RqMs vm vp ∧ RqH vm vp ∧ RqK vm vp ∧ RqW vm vp ∧ RqD vm vp
def RqL (vm vs : Vf) : Prop := vs 0 0 = vm 23 0 ∧ (∀ j, j < 3 → vs 1 j = vm 24 j) ∧ (∀ j, j < 24 → vs 2 j = vm 25 j) ∧ (∀ j, j < 6 → vs 3 j = vm 26 j) ∧ vs 4 0 = vm 27 0 ∧ vs 5 0 = vm 28 0 ∧ vs 6 0 = vm 29 0 ∧ vs 7 0 = vm 30 0
/-- a shift is below its row's length; the cart is on the ground -/
def shI (vm : Vf) : Prop := ∀ m : Nat, (m : Int) < (vm 4 0).toInt → 0 ≤ (vm 24 m).toInt ∧ (vm 24 m).toInt < (vm 5 m).toInt
def stI (vm : Vf) : Prop := shI vm ∧ ((vm 0 0).toInt = 0 ∨ (vm 27 0).toInt < (vm 0 0).toInt * (vm 1 0).toInt)
/-- what was told is sound -/
def okM (v : Vf) : Prop := (∀ k : Nat, (k : Int) < (v 9 0).toInt → (v 10 k).toInt < (v 0 0).toInt * (v 1 0).toInt ∧ 0 ≤ (v 11 k).toInt ∧ (v 11 k).toInt ≤ 99) ∧ (∀ k : Nat, (k : Int) < (v 12 0).toInt → (v 13 k).toInt < (v 0 0).toInt * (v 1 0).toInt ∧ 0 ≤ (v 14 k).toInt ∧ (v 14 k).toInt ≤ 1) ∧ (∀ k i : Nat, (k : Int) < (v 12 0).toInt → i < k → ¬ (v 13 i = v 13 k ∧ v 14 i = v 14 k)) ∧ (∀ k : Nat, (k : Int) < (v 16 0).toInt → (v 17 k).toInt < (v 0 0).toInt * (v 1 0).toInt) ∧ (v 22 0).toInt = perI (fun j => (v 5 j).toInt) (v 4 0).toInt.toNat ∧ (∀ m : Nat, m < 3 → (v 4 0).toInt ≤ (m : Int) → (v 4 0).toInt = 0 ∨ (v 5 m).toInt = 1)
def RW (vm vp vs : Vf) : Prop := RqP vm vp ∧ RqL vm vs ∧ stI vm ∧ MdH vm ∧ okM vm
def cW (vm : Vf) (c : Int32) : Prop := 0 ≤ c.toInt ∧ c.toInt < (vm 0 0).toInt * (vm 1 0).toInt
theorem mpart_eq {vm : Vf} {k c t : Int32} {m : Nat} (hm : k.toNatClampNeg = m) (hW : 1 ≤ (vm 0 0).toInt ∧ (vm 0 0).toInt ≤ 6) (hc : 0 ≤ c.toInt ∧ c.toInt ≤ 23) (ht : 0 ≤ t.toInt ∧ t.toInt ≤ 2000000) (hk : 0 ≤ k.toInt ∧ k.toInt ≤ 2) (hn : 1 ≤ (vm 5 m).toInt ∧ (vm 5 m).toInt ≤ 9) (hx : 0 ≤ (vm 6 m).toInt ∧ (vm 6 m).toInt ≤ 8) (hy : 0 ≤ (vm 7 m).toInt ∧ (vm 7 m).toInt ≤ 8) (hs : 0 ≤ (vm 24 m).toInt ∧ (vm 24 m).toInt ≤ 999) (ha : ¬ k = vm 62 0) :
    mPart vm k c t = vm 8 (9 * m + ((t.toInt + (vm 24 m).toInt + (vm 6 m).toInt * (c.toInt % (vm 0 0).toInt) + (vm 7 m).toInt * (c.toInt / (vm 0 0).toInt)) % (vm 5 m).toInt).toNat) := by
  unfold mPart
  rw [if_neg ha, hm]
  have td := i_div (z := c / vm 0 0) rfl hc.1 (by omega)
  have tr := i_rem (z := c - c / vm 0 0 * vm 0 0) rfl hc.1 (by omega)
  generalize c / vm 0 0 = q at *
  generalize hr : c - q * vm 0 0 = r at *
  have b1 := mul_b (A := 8) (B := 23) hx (b := r.toInt) (by omega)
  have b2 := mul_b (A := 8) (B := 23) hy (b := q.toInt) (by omega)
  have t1 := i_mul (z := vm 6 m * r) rfl (by omega)
  have t2 := i_mul (z := vm 7 m * q) rfl (by omega)
  have t3 := i_add (z := t + vm 24 m) rfl (by omega)
  have t4 := i_add (z := (t + vm 24 m) + vm 6 m * r) rfl (by omega)
  have t5 := i_add (z := ((t + vm 24 m) + vm 6 m * r) + vm 7 m * q) rfl (by omega)
  generalize ((t + vm 24 m) + vm 6 m * r) + vm 7 m * q = s at *
  have t6 := i_rem (z := s - s / vm 5 m * vm 5 m) rfl (by omega) (by omega)
  generalize s - s / vm 5 m * vm 5 m = w at *
  have n9 : (9 : Int32).toInt = 9 := by decide
  have t7 := i_mul (z := 9 * k) rfl (by rw [n9]; omega)
  rw [n9] at t7
  have t8 := i_add (z := 9 * k + w) rfl (by omega)
  have e : (9 * k + w).toNatClampNeg = 9 * m + w.toInt.toNat := by
    show (9 * k + w).toInt.toNat = _
    have hm2 : k.toInt.toNat = m := hm
    omega
  rw [e, t6.1, t5, t4, t3, t1, t2, tr.1, td.1]
theorem row_at {mr P : Nat → Int32} {n r0 s : Int} (h : ∀ j : Nat, (j : Int) < n → mr j = P j ∧ mr (n.toNat + j) = P j) (hr : 0 ≤ r0 ∧ r0 < n) (hs : 0 ≤ s ∧ s < n) : mr (r0 + s).toNat = P ((r0 + s) % n).toNat := by
  rcases Int.lt_or_le (r0 + s) n with q | q
  · rw [Int.emod_eq_of_lt (by omega) q]
    exact (h _ (by omega)).1
  · have e : (r0 + s) % n = r0 + s - n := by
      rw [show r0 + s = (r0 + s - n) + n * 1 by omega, Int.add_mul_emod_self_left, Int.emod_eq_of_lt (by omega) (by omega)]
      omega
    have z := (h (r0 + s - n).toNat (by omega)).2
    rw [show n.toNat + (r0 + s - n).toNat = (r0 + s).toNat by omega] at z
    rw [e]
    exact z
theorem part_cls {vm vp vs : Vf} {m b0 b1 b2 b3 b4 : Nat} {k cell step x : Int32} (h : RW vm vp vs) (hM : RqM vm vp m b0 b1 b2 b3 b4) (hm : (m : Int) < (vm 4 0).toInt) (hk : k.toInt = m) (hc : 0 ≤ cell.toInt ∧ cell.toInt ≤ 23) (hcc : cell.toInt < (vm 0 0).toInt * (vm 1 0).toInt) (ht : 0 ≤ step.toInt ∧ step.toInt ≤ 2000000) (ha : ¬ k = vm 62 0) (hx : x = vp b3 ((step.toInt + (vp b4 cell.toNatClampNeg).toInt) % (vp b0 0).toInt + (vs 1 m).toInt).toNat) : x = mPart vm k cell step := by
  obtain ⟨hP, hL, ⟨hs, -⟩, hH, -⟩ := h
  obtain ⟨hmG, hmC, hmZ, hmM, hmA, hmS, hmT⟩ := hH
  obtain ⟨⟨e0, e1, e2⟩, hr, hah⟩ := hM.1 hm
  have hm3 : m < 3 := by have := hmC.1; omega
  have hkm : k.toNatClampNeg = m := by show k.toInt.toNat = m; omega
  have hW : 1 ≤ (vm 0 0).toInt := wd_pos hmG.1.1 (show 1 ≤ (vm 0 0).toInt * (vm 1 0).toInt by omega)
  have hn := (hmM.2.1.resolve_left (by omega)) m hm3
  have hxy := hmM.2.2.1 m hm
  have hsh := hs m hm
  have hc2 : ((cell.toNatClampNeg : Nat) : Int) = cell.toInt := i_nat hc.1
  have ha2 := hah cell.toNatClampNeg (by rw [hc2]; exact hcc)
  rw [hc2] at ha2
  have hd0 : 0 ≤ cell.toInt % (vm 0 0).toInt := Int.emod_nonneg _ (by omega)
  have hq0 : 0 ≤ cell.toInt / (vm 0 0).toInt := Int.ediv_nonneg hc.1 (by omega)
  rw [mpart_eq hkm ⟨hW, hmG.1.2⟩ hc ht (by omega) hn hxy.1 hxy.2 (by omega) ha, hx, e0, ha2, hL.2.1 m hm3]
  have m1 := Int.emod_nonneg (step.toInt + ((vm 6 m).toInt * (cell.toInt % (vm 0 0).toInt) + (vm 7 m).toInt * (cell.toInt / (vm 0 0).toInt))) (show (vm 5 m).toInt ≠ 0 by omega)
  have m2 := Int.emod_lt_of_pos (step.toInt + ((vm 6 m).toInt * (cell.toInt % (vm 0 0).toInt) + (vm 7 m).toInt * (cell.toInt / (vm 0 0).toInt))) (show 0 < (vm 5 m).toInt by omega)
  rw [row_at (P := fun j => vm 8 (9 * m + j)) hr ⟨m1, m2⟩ hsh]
  show vm 8 (9 * m + _) = vm 8 (9 * m + _)
  congr 3
  rw [Int.add_emod, Int.emod_emod, ← Int.add_emod]
  congr 1
  omega
theorem pull_skip {v : Vf} {c t s k k2 g : Int32} (hs : s = mPullN v c t k.toNatClampNeg) (h0 : 0 ≤ k.toInt) (h1 : k2.toInt = k.toInt + 1) (hk : k = g) (hg : g = v 62 0) : s = mPullN v c t k2.toNatClampNeg := by
  rw [i_nat1 h0 h1, hs]
  show _ = mPullN v c t k.toNatClampNeg + mPart v (Int32.ofNat k.toNatClampNeg) c t
  rw [i_ofN h0]
  unfold mPart
  rw [if_pos (hk.trans hg), Int32.add_zero]
theorem stiff_eq {s : Int32} : (if (0 : Int32) < s then s else 0) = (if s < 0 then 0 else s) := by
  by_cases h1 : (0 : Int32) < s
  · have q := i_lt h1
    rw [if_pos h1, if_neg (fun h2 => by have q2 := i_lt h2; omega)]
  · rw [if_neg h1]
    by_cases h2 : s < 0
    · rw [if_pos h2]
    · rw [if_neg h2]
      have q := i_nlt h1
      have q2 := i_nlt h2
      exact i_eqr (by omega)
/-! what both sides hold after a text -/
theorem rqm_of {S : St0} {v vp w : Vf} {m b0 b1 b2 b3 b4 : Nat} (h : RpM1 S vp m b0 b1 b2 b3 b4) (hw : ∀ t, 37 ≤ t → t ≤ 60 → ∀ j, S t j = (w t j).toInt) (hm3 : m < 3) (W0 : (v 0 0).toInt = S 37 0) (D0 : (v 1 0).toInt = S 38 0) (M0 : (v 4 0).toInt = S 43 0) (hB : CpB v w 3) (hC : CpC v w 27) (h9 : (v 5 m).toInt ≤ 9) : RqM v vp m b0 b1 b2 b3 b4 := by
  refine ⟨fun hm => ?_, fun hm => h.2 (by rw [← M0]; exact hm)⟩
  obtain ⟨a0, a1, a2, a3, a4, a5⟩ := h.1 (by rw [← M0]; exact hm)
  have b := hB m (by omega)
  have e5 : v 5 m = w 44 m := by rw [b.1, if_pos (by rw [← hw 43 (by decide) (by decide) 0, ← M0]; exact hm)]
  have s44 := hw 44 (by decide) (by decide) m
  have s45 := hw 45 (by decide) (by decide) m
  have s46 := hw 46 (by decide) (by decide) m
  have n5 : (v 5 m).toInt = S 44 m := by rw [e5, s44]
  refine ⟨⟨i_eqr (by rw [a0, n5]), i_eqr (by rw [a1, b.2.1, s45]), i_eqr (by rw [a2, b.2.2, s46])⟩, fun j hj => ?_, fun c hc => ?_⟩
  · rw [n5] at hj h9
    have c1 : vp b3 j = v 8 (9 * m + j) := i_eqr (by rw [a3 j hj, hC (9 * m + j) (by omega)]; exact hw 47 (by decide) (by decide) _)
    exact ⟨c1, by rw [n5, a4 j hj]; exact c1⟩
  · have q := a5 c (by rw [← W0, ← D0]; exact hc)
    rw [q, b.2.1, b.2.2, ← s45, ← s46, W0]
theorem i_subr {x y z : Int32} {k n : Int} (hy : y.toInt = n) (hx : x.toInt = k) (hz : z.toInt = k - n) : z = x - y := by
  have r := i_rng z
  refine i_eqr ?_
  rw [i_sub (z := x - y) rfl (by omega)]
  omega
theorem rq_of {S : St0} {v vp : Vf} {cx ck : Int32} (hR : Rp S vp cx ck) (hM : RpMF S v) (hO : okS S) (hH : MdH v) : RqP v vp ∧ okM v := by
  obtain ⟨w, hw, ⟨n0, n1, n4, n9, n12, n16, n19⟩, hA, hB, hC, hD, hE, hF, hP⟩ := hM
  obtain ⟨⟨g1, g2, g3, g4⟩, -, ⟨⟨m0, m0'⟩, m1, m2, m3⟩, ⟨h0, h1⟩, ⟨k0, k1⟩, ⟨w0, w1⟩, ⟨d0, d1⟩⟩ := hR
  obtain ⟨o0, o1, o2, o3, o4, o5⟩ := hO
  obtain ⟨hmG, hmC, hmZ, hmM, hmA, hmS, hmT⟩ := hH
  obtain ⟨c4, c9, c12, c16, c19, c22⟩ := hmC
  have s : ∀ t, 37 ≤ t → t ≤ 60 → ∀ j, (w t j).toInt = S t j := fun t q1 q2 j => (hw t q1 q2 j).symm
  have W0 : (v 0 0).toInt = S 37 0 := by rw [n0]; exact s 37 (by decide) (by decide) 0
  have D0 : (v 1 0).toInt = S 38 0 := by rw [n1]; exact s 38 (by decide) (by decide) 0
  have M0 : (v 4 0).toInt = S 43 0 := by rw [n4]; exact s 43 (by decide) (by decide) 0
  have H0 : (v 9 0).toInt = S 48 0 := by rw [n9]; exact s 48 (by decide) (by decide) 0
  have K0 : (v 12 0).toInt = S 51 0 := by rw [n12]; exact s 51 (by decide) (by decide) 0
  have L0 : (v 16 0).toInt = S 55 0 := by rw [n16]; exact s 55 (by decide) (by decide) 0
  have E0 : (v 19 0).toInt = S 58 0 := by rw [n19]; exact s 58 (by decide) (by decide) 0
  have hWD := hmG.2.2
  have n30 : (30 : Int32).toInt = 30 := by decide
  have n100 : (100 : Int32).toInt = 100 := by decide
  refine ⟨⟨⟨i_eqr (by rw [g1, W0]), i_eqr (by rw [g2, D0]), fun c hc => ?_⟩, ⟨i_eqr (by rw [m0, M0]), rqm_of m1 hw (by decide) W0 D0 M0 hB hC (hmM.1 0 (by decide)).2, rqm_of m2 hw (by decide) W0 D0 M0 hB hC (hmM.1 1 (by decide)).2, rqm_of m3 hw (by decide) W0 D0 M0 hB hC (hmM.1 2 (by decide)).2⟩, ⟨i_eqr (by rw [h0, H0]), fun k hk => ?_⟩, ⟨i_eqr (by rw [k0, K0]), fun k hk => ?_⟩, ⟨i_eqr (by rw [w0, L0]), fun k hk => ?_⟩, ⟨i_eqr (by rw [d0, E0]), fun k hk => ?_⟩⟩, fun k hk => ?_, fun k hk => ?_, fun k i hk hi => ?_, fun k hk => ?_, ?_, fun m hm3 hm => ?_⟩
  · have q := g3 c (by rw [← W0, ← D0]; exact hc)
    have a := hA c (by omega)
    exact ⟨i_eqr (by rw [q.1, a.1]; exact hw 39 (by decide) (by decide) c), i_eqr (by rw [q.2, a.2]; exact hw 40 (by decide) (by decide) c)⟩
  · have q := h1 k (by omega)
    have a := hD k (by omega)
    exact ⟨i_eqr (by rw [q.1, a.1]; exact hw 49 (by decide) (by decide) k), i_eqr (by rw [q.2, a.2.1]; exact hw 50 (by decide) (by decide) k)⟩
  · have q := k1 k (by omega)
    have a := hD k (by omega)
    exact ⟨i_eqr (by rw [q.1, a.2.2.1]; exact hw 52 (by decide) (by decide) k), i_eqr (by rw [q.2.1, a.2.2.2.1]; exact hw 53 (by decide) (by decide) k), by rw [a.2.2.2.2]; exact i_subr n30 (s 54 (by decide) (by decide) k) q.2.2⟩
  · have q := w1 k (by omega)
    have a := hE k (by omega)
    exact ⟨i_eqr (by rw [q.1, a.1]; exact hw 56 (by decide) (by decide) k), i_eqr (by rw [q.2, a.2]; exact hw 57 (by decide) (by decide) k)⟩
  · have q := d1 k (by omega)
    have a := hF k (by omega)
    exact ⟨by rw [a.1]; exact i_subr n100 (s 59 (by decide) (by decide) k) q.1, by rw [a.2]; exact i_subr n100 (s 60 (by decide) (by decide) k) q.2⟩
  · have a := hD k (by omega)
    have q := o2 k (by omega)
    rw [a.1, a.2.1, s 49 (by decide) (by decide) k, s 50 (by decide) (by decide) k, W0, D0]
    exact ⟨q.1.2, q.2⟩
  · have a := hD k (by omega)
    have q := o3 k (by omega)
    rw [a.2.2.1, a.2.2.2.1, s 52 (by decide) (by decide) k, s 53 (by decide) (by decide) k, W0, D0]
    exact ⟨q.1.2, q.2⟩
  · have a := hD k (by omega)
    have b := hD i (by omega)
    intro q
    refine o4 k i (by omega) hi ⟨?_, ?_⟩
    · rw [← s 52 (by decide) (by decide) i, ← s 52 (by decide) (by decide) k, ← a.2.2.1, ← b.2.2.1, q.1]
    · rw [← s 53 (by decide) (by decide) i, ← s 53 (by decide) (by decide) k, ← a.2.2.2.1, ← b.2.2.2.1, q.2]
  · have a := hE k (by omega)
    rw [a.1, s 56 (by decide) (by decide) k, W0, D0]
    exact (o5 k (by omega)).2
  · rw [hP]
    refine perI_ones 3 (by omega) (fun j h1 h2 => ?_)
    rw [(hB j (by omega)).1, if_neg (by rw [s 43 (by decide) (by decide) 0]; omega)]
    decide
  · rw [(hB m (by omega)).1, if_neg (by rw [s 43 (by decide) (by decide) 0]; omega)]
    exact Or.inr (by decide)
/-! bounds -/
theorem mPart_b {vm : Vf} {k c t : Int32} (hH : MdH vm) (hW : 1 ≤ (vm 0 0).toInt) (hk : 0 ≤ k.toInt ∧ k.toInt < (vm 4 0).toInt) (hc : 0 ≤ c.toInt ∧ c.toInt ≤ 23) (ht : 0 ≤ t.toInt ∧ t.toInt ≤ 2000000) : -9 ≤ (mPart vm k c t).toInt ∧ (mPart vm k c t).toInt ≤ 9 := by
  by_cases ha : k = vm 62 0
  · unfold mPart
    rw [if_pos ha]
    decide
  · obtain ⟨hmG, hmC, hmZ, hmM, hmA, hmS, hmT⟩ := hH
    have hk2 : k.toInt ≤ 2 := by have := hmC.1; omega
    have hn := (hmM.2.1.resolve_left (by omega)) k.toNatClampNeg (i_natlt (by omega) (by decide))
    have hxy := hmM.2.2.1 k.toNatClampNeg (by rw [i_nat hk.1]; exact hk.2)
    have hs := hmS.2.1 k.toNatClampNeg (i_natlt (by omega) (by decide))
    rw [mpart_eq rfl ⟨hW, hmG.1.2⟩ hc ht ⟨hk.1, hk2⟩ hn hxy.1 hxy.2 hs ha]
    have e : k.toNatClampNeg = k.toInt.toNat := rfl
    generalize t.toInt + (vm 24 k.toNatClampNeg).toInt + (vm 6 k.toNatClampNeg).toInt * (c.toInt % (vm 0 0).toInt) + (vm 7 k.toNatClampNeg).toInt * (c.toInt / (vm 0 0).toInt) = X
    have q1 := Int.emod_nonneg X (show (vm 5 k.toNatClampNeg).toInt ≠ 0 by omega)
    have q2 := Int.emod_lt_of_pos X (show 0 < (vm 5 k.toNatClampNeg).toInt by omega)
    exact hmM.2.2.2 _ (by omega)
theorem mPullN_b {vm : Vf} {c t : Int32} (hH : MdH vm) (hW : 1 ≤ (vm 0 0).toInt) (hc : 0 ≤ c.toInt ∧ c.toInt ≤ 23) (ht : 0 ≤ t.toInt ∧ t.toInt ≤ 2000000) : ∀ n : Nat, (n : Int) ≤ (vm 4 0).toInt → -9 * (n : Int) ≤ (mPullN vm c t n).toInt ∧ (mPullN vm c t n).toInt ≤ 9 * (n : Int)
  | 0, _ => (by decide : -9 * ((0 : Nat) : Int) ≤ (0 : Int32).toInt ∧ (0 : Int32).toInt ≤ 9 * ((0 : Nat) : Int))
  | n + 1, h => by
    have h4 := hH.2.1.1
    have q := mPullN_b hH hW hc ht n (by omega)
    have e : (Int32.ofNat n).toInt = (n : Int) := Int32.toInt_ofNat_of_lt (by omega)
    have p := mPart_b (k := Int32.ofNat n) hH hW ⟨by omega, by omega⟩ hc ht
    have s := i_add (z := mPullN vm c t n + mPart vm (Int32.ofNat n) c t) rfl (by omega)
    show -9 * ((n + 1 : Nat) : Int) ≤ (mPullN vm c t n + mPart vm (Int32.ofNat n) c t).toInt ∧ (mPullN vm c t n + mPart vm (Int32.ofNat n) c t).toInt ≤ 9 * ((n + 1 : Nat) : Int)
    rw [s]
    omega
theorem mPull_b {vm : Vf} {c t : Int32} (hH : MdH vm) (hW : 1 ≤ (vm 0 0).toInt) (hc : 0 ≤ c.toInt ∧ c.toInt ≤ 23) (ht : 0 ≤ t.toInt ∧ t.toInt ≤ 2000000) : -27 ≤ (mPull vm c t).toInt ∧ (mPull vm c t).toInt ≤ 27 := by
  have h4 := hH.2.1.1
  have e := i_nat h4.1
  have q := mPullN_b hH hW hc ht (vm 4 0).toNatClampNeg (by omega)
  unfold mPull
  omega
theorem mStiff_b {vm : Vf} {c : Int32} (hH : MdH vm) (hW : 1 ≤ (vm 0 0).toInt) (hc : 0 ≤ c.toInt ∧ c.toInt ≤ 23) : 0 ≤ (mStiff vm c).toInt ∧ (mStiff vm c).toInt ≤ 9 := by
  obtain ⟨hmG, hmC, hmZ, hmM, hmA, hmS, hmT⟩ := hH
  have b3 := (hmA.2.2.2.1.resolve_left (by omega)).2 c.toNatClampNeg (i_natlt (by omega) (by decide))
  have b25 := hmS.2.2.1 c.toNatClampNeg (i_natlt (by omega) (by decide))
  have n10 : (10 : Int32).toInt = 10 := by decide
  have n0 : (0 : Int32).toInt = 0 := by decide
  have td := i_div (z := vm 25 c.toNatClampNeg / 10) rfl b25.1 (by decide)
  have ts := i_sub (z := vm 3 c.toNatClampNeg - vm 25 c.toNatClampNeg / 10) rfl (by omega)
  unfold mStiff
  split
  · decide
  · rename_i h
    have q := i_nlt h
    omega
theorem mH_b {vm : Vf} {c t : Int32} (hH : MdH vm) (hW : 1 ≤ (vm 0 0).toInt) (hc : 0 ≤ c.toInt ∧ c.toInt ≤ 23) (ht : 0 ≤ t.toInt ∧ t.toInt ≤ 2000000) : -243 ≤ (mH vm c t).toInt ∧ (mH vm c t).toInt ≤ 342 := by
  have p := mPull_b hH hW hc ht
  have s := mStiff_b hH hW hc
  have b2 := (hH.2.2.2.2.1.2.2.2.1.resolve_left (by omega)).1 c.toNatClampNeg (i_natlt (by omega) (by decide))
  have m := i_mulr (z := mStiff vm c * mPull vm c t) rfl s p
  have a := i_add (z := vm 2 c.toNatClampNeg + mStiff vm c * mPull vm c t) rfl (by omega)
  unfold mH
  omega
/-! cells beside a cell -/
theorem way_d {way : Int32} (h : 0 ≤ way.toInt ∧ way.toInt ≤ 4) : wyX way.toNatClampNeg = mDx way ∧ wyY way.toNatClampNeg = mDy way := by
  rcases (show way.toInt = 0 ∨ way.toInt = 1 ∨ way.toInt = 2 ∨ way.toInt = 3 ∨ way.toInt = 4 by omega) with q | q | q | q | q
  · rw [show way = 0 from i_eqr (by rw [q]; rfl)]; decide
  · rw [show way = 1 from i_eqr (by rw [q]; rfl)]; decide
  · rw [show way = 2 from i_eqr (by rw [q]; rfl)]; decide
  · rw [show way = 3 from i_eqr (by rw [q]; rfl)]; decide
  · rw [show way = 4 from i_eqr (by rw [q]; rfl)]; decide
theorem bes_eq {vm : Vf} {c way r X Y : Int32} (hG : mdG vm) (hX : X = (c - c / vm 0 0 * vm 0 0) + mDx way) (hY : Y = c / vm 0 0 + mDy way) (h : (r.toInt = -1 ∧ (X.toInt < 0 ∨ (vm 0 0).toInt ≤ X.toInt ∨ Y.toInt < 0 ∨ (vm 1 0).toInt ≤ Y.toInt)) ∨ (r.toInt = (vm 0 0).toInt * Y.toInt + X.toInt ∧ (0 ≤ X.toInt ∧ X.toInt < (vm 0 0).toInt) ∧ 0 ≤ Y.toInt ∧ Y.toInt < (vm 1 0).toInt)) : r = mBes vm c way := by
  obtain ⟨g1, g2, g3⟩ := hG
  unfold mBes
  rw [← hX, ← hY]
  rcases h with ⟨h1, h2⟩ | ⟨h1, h2, h3⟩
  · rw [if_neg (fun q => by obtain ⟨⟨q1, q2⟩, q3, q4⟩ := q; omega)]
    exact i_eqr (by rw [h1]; decide)
  · rw [if_pos ⟨h2, h3⟩]
    have hb := mul_b (a := (vm 0 0).toInt) (b := Y.toInt) (A := 6) (B := 6) (by omega) (by omega)
    have t1 := i_mul (z := vm 0 0 * Y) rfl (by omega)
    have t2 := i_add (z := vm 0 0 * Y + X) rfl (by omega)
    exact i_eqr (by omega)
