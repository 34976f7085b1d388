/-! ===== shifts that fit: the class's numbers ===== -/
set_option maxRecDepth 100000 in
theorem sg_all : ∀ a : Fin 9, ∀ b : Fin 9, ∀ c : Fin 9, (shMk (Int32.ofNat a) (Int32.ofNat b) (Int32.ofNat c) &&& 15) = Int32.ofNat a ∧ ((shMk (Int32.ofNat a) (Int32.ofNat b) (Int32.ofNat c) >>> ((4 : Int32) &&& 31)) &&& 15) = Int32.ofNat b ∧ ((shMk (Int32.ofNat a) (Int32.ofNat b) (Int32.ofNat c) >>> ((8 : Int32) &&& 31)) &&& 15) = Int32.ofNat c := by decide +kernel
theorem sg_mk {a b c : Int32} (ha : 0 ≤ a.toInt ∧ a.toInt ≤ 8) (hb : 0 ≤ b.toInt ∧ b.toInt ≤ 8) (hc : 0 ≤ c.toInt ∧ c.toInt ≤ 8) : (shMk a b c &&& 15) = a ∧ ((shMk a b c >>> ((4 : Int32) &&& 31)) &&& 15) = b ∧ ((shMk a b c >>> ((8 : Int32) &&& 31)) &&& 15) = c := by
  obtain ⟨i, rfl⟩ := i_fin (n := 9) ha.1 (by omega)
  obtain ⟨j, rfl⟩ := i_fin (n := 9) hb.1 (by omega)
  obtain ⟨k, rfl⟩ := i_fin (n := 9) hc.1 (by omega)
  exact sg_all i j k
def shX (v : Vf) (n : Nat) : Int32 := shMk (shA v n) (shB v n) (shC v n)
theorem sh_q {v : Vf} (hH : MdH v) {n : Nat} (hn : n < shAll v) : (0 ≤ (shA v n).toInt ∧ (shA v n).toInt < (shN v 0 : Int)) ∧ (0 ≤ (shB v n).toInt ∧ (shB v n).toInt < (shN v 1 : Int)) ∧ (0 ≤ (shC v n).toInt ∧ (shC v n).toInt < (shN v 2 : Int)) := by
  obtain ⟨l1, l2, l3⟩ := sh_lt hH hn
  obtain ⟨t1, t2, t3⟩ := sh_t hH hn
  rw [t1, t2, t3]
  exact ⟨⟨Int.natCast_nonneg _, Int.ofNat_lt.mpr l1⟩, ⟨Int.natCast_nonneg _, Int.ofNat_lt.mpr l2⟩, ⟨Int.natCast_nonneg _, Int.ofNat_lt.mpr l3⟩⟩
theorem shx_get {v : Vf} {n : Nat} (hH : MdH v) (hn : n < shAll v) : (shX v n &&& 15) = shA v n ∧ ((shX v n >>> ((4 : Int32) &&& 31)) &&& 15) = shB v n ∧ ((shX v n >>> ((8 : Int32) &&& 31)) &&& 15) = shC v n := by
  have l := sh_q hH hn
  have b0 := shN_b hH (m := 0) (by decide)
  have b1 := shN_b hH (m := 1) (by decide)
  have b2 := shN_b hH (m := 2) (by decide)
  exact sg_mk (by omega) (by omega) (by omega)
def SgR (sn : Int32) (s2 s3 s4 : Nat → Int32) (vm : Vf) : Prop := sn = vm 67 0 ∧ ∀ j : Nat, (j : Int) < (vm 67 0).toInt → (s2 j = vm 68 j ∧ s3 j = vm 69 j ∧ s4 j = vm 70 j) ∧ (vm 68 j).toInt < (vm 0 0).toInt * (vm 1 0).toInt
theorem mh_sh {v : Vf} {a b c : Int32} (h : MdH v) (ha : 0 ≤ a.toInt ∧ a.toInt ≤ 999) (hb : 0 ≤ b.toInt ∧ b.toInt ≤ 999) (hc : 0 ≤ c.toInt ∧ c.toInt ≤ 999) : MdH (shV v a b c) := ⟨h.1, h.2.1, h.2.2.1, h.2.2.2.1, h.2.2.2.2.1, ⟨h.2.2.2.2.2.1.1, fun j hj => by
  rcases (show j = 0 ∨ j = 1 ∨ j = 2 by omega) with rfl | rfl | rfl
  · exact ha
  · exact hb
  · exact hc, h.2.2.2.2.2.1.2.2⟩, h.2.2.2.2.2.2⟩
theorem rw_sh {vm vp vs : Vf} {n : Nat} (hR : RW vm vp vs) (hn : n < shAll vm) : RW (shS vm n) vp (up3 vs 1 (shS vm n 24)) := by
  obtain ⟨hP, hL, hS, hH, hO⟩ := hR
  have kp : keepP vm (shS vm n) := fun t ht => up3_ne (by omega)
  have l := sh_q hH hn
  have b0 := shN_b hH (m := 0) (by decide)
  have b1 := shN_b hH (m := 1) (by decide)
  have b2 := shN_b hH (m := 2) (by decide)
  refine ⟨rqp_fr kp hP, ⟨hL.1, fun j _ => rfl, hL.2.2.1, hL.2.2.2.1, hL.2.2.2.2.1, hL.2.2.2.2.2.1, hL.2.2.2.2.2.2.1, hL.2.2.2.2.2.2.2⟩, ⟨fun m hm => ?_, hS.2⟩, mh_sh hH (by omega) (by omega) (by omega), okm_fr kp hO⟩
  have hm2 : (m : Int) < (vm 4 0).toInt := hm
  have h4 := hH.2.1.1
  have e : ∀ j, shN vm j = (vm 5 j).toInt.toNat := fun j => by
    unfold shN
    rw [if_neg (by omega)]
  show 0 ≤ (shS vm n 24 m).toInt ∧ (shS vm n 24 m).toInt < (vm 5 m).toInt
  rcases (show m = 0 ∨ m = 1 ∨ m = 2 by omega) with rfl | rfl | rfl
  · have e0 := e 0
    show 0 ≤ (shA vm n).toInt ∧ (shA vm n).toInt < _
    omega
  · have e0 := e 1
    show 0 ≤ (shB vm n).toInt ∧ (shB vm n).toInt < _
    omega
  · have e0 := e 2
    show 0 ≤ (shC vm n).toInt ∧ (shC vm n).toInt < _
    omega
def PbQ (v : Vf) (m : Nat) (c t r : Int32) : Prop := ((m : Int) < (v 4 0).toInt → r = mPart v (Int32.ofNat m) c t) ∧ ((v 4 0).toInt ≤ (m : Int) → r = 0)
theorem pull3 {v : Vf} {c t r0 r1 r2 s0 s1 s2 : Int32} (h3 : 0 ≤ (v 4 0).toInt ∧ (v 4 0).toInt ≤ 3) (p0 : PbQ v 0 c t r0) (p1 : PbQ v 1 c t r1) (p2 : PbQ v 2 c t r2) (e0 : s0 = 0 + r0) (e1 : s1 = s0 + r1) (e2 : s2 = s1 + r2) : s2 = mPull v c t := by
  have en := i_nat h3.1
  unfold mPull
  rcases (show (v 4 0).toInt = 0 ∨ (v 4 0).toInt = 1 ∨ (v 4 0).toInt = 2 ∨ (v 4 0).toInt = 3 by omega) with q | q | q | q
  · have z : (v 4 0).toNatClampNeg = 0 := by omega
    rw [z, e2, e1, e0, p0.2 (by omega), p1.2 (by omega), p2.2 (by omega)]
    exact (by decide : (0 : Int32) + 0 + 0 + 0 = 0)
  · have z : (v 4 0).toNatClampNeg = 1 := by omega
    rw [z, e2, e1, e0, p0.1 (by omega), p1.2 (by omega), p2.2 (by omega), Int32.add_zero, Int32.add_zero]
    rfl
  · have z : (v 4 0).toNatClampNeg = 2 := by omega
    rw [z, e2, e1, e0, p0.1 (by omega), p1.1 (by omega), p2.2 (by omega), Int32.add_zero]
    rfl
  · have z : (v 4 0).toNatClampNeg = 3 := by omega
    rw [z, e2, e1, e0, p0.1 (by omega), p1.1 (by omega), p2.1 (by omega)]
    rfl
theorem shN_un {vm vp vs : Vf} {m : Nat} (hR : RW vm vp vs) (hm3 : m < 3) (hm : (vm 4 0).toInt ≤ (m : Int)) : shN vm m = 1 := by
  unfold shN
  rcases hR.2.2.2.2.2.2.2.2.2 m hm3 hm with q | q
  · rw [if_pos q]
  · by_cases z : (vm 4 0).toInt = 0
    · rw [if_pos z]
    · rw [if_neg z]
      omega
theorem size_sh {vm vp vs : Vf} {m b0 b1 b2 b3 b4 : Nat} (hR : RW vm vp vs) (hM : RqM vm vp m b0 b1 b2 b3 b4) (hm3 : m < 3) : (vp b0 0).toInt = (shN vm m : Int) := by
  have h4 := hR.2.2.2.1.2.1.1
  rcases Int.lt_or_le (m : Int) (vm 4 0).toInt with q | q
  · have z := (hR.2.2.2.1.2.2.2.1.2.1.resolve_left (by omega)) m hm3
    rw [(hM.1 q).1.1]
    unfold shN
    rw [if_neg (by omega)]
    omega
  · rw [shN_un hR hm3 q, (hM.2 q).1]
    decide
theorem pb_told {vm vp vs : Vf} {m b0 b1 b2 b3 b4 : Nat} {cell step shift r : Int32} {n : Nat} (hR : RW vm vp vs) (hn : n < shAll vm) (hg : (-1 : Int32) = vm 62 0) (hM : RqM vm vp m b0 b1 b2 b3 b4) (hm3 : m < 3) (hc : 0 ≤ cell.toInt ∧ cell.toInt ≤ 23) (hcc : cW vm cell) (ht : 0 ≤ step.toInt ∧ step.toInt ≤ 2000000) (hsh : shift = shS vm n 24 m) (hr : r = vp b3 ((step.toInt + (vp b4 cell.toNatClampNeg).toInt) % (vp b0 0).toInt + shift.toInt).toNat) : PbQ (shS vm n) m cell step r := by
  have em := ofN_t (n := m) (by omega)
  refine ⟨fun hm => ?_, fun hm => ?_⟩
  · have hR' := rw_sh hR hn
    have hM' : RqM (shS vm n) vp m b0 b1 b2 b3 b4 := hM
    refine part_cls hR' hM' hm em hc hcc.2 ht (fun q => ?_) ?_
    · have q2 : Int32.ofNat m = vm 62 0 := q
      rw [← hg] at q2
      have z := i_eq q2
      rw [em, show (-1 : Int32).toInt = -1 by decide] at z
      omega
    · rw [hr, hsh]
      rfl
  · have hm2 : (vm 4 0).toInt ≤ (m : Int) := hm
    obtain ⟨u0, u1, u2⟩ := hM.2 hm2
    have e1 := shN_un hR hm3 hm2
    have l := sh_q hR.2.2.2.1 hn
    have z : shift.toInt = 0 := by
      rw [hsh]
      rcases (show m = 0 ∨ m = 1 ∨ m = 2 by omega) with rfl | rfl | rfl
      · show (shA vm n).toInt = 0
        omega
      · show (shB vm n).toInt = 0
        omega
      · show (shC vm n).toInt = 0
        omega
    rw [hr, u0, z, show (1 : Int32).toInt = 1 by decide, Int.emod_one]
    exact u1
/-! numbers of three digits -/
theorem dg3 {a b c N1 N2 : Nat} (hb : b < N1) (hc : c < N2) : ((a * N1 + b) * N2 + c) / (N2 * N1) = a ∧ ((a * N1 + b) * N2 + c) / N2 % N1 = b ∧ ((a * N1 + b) * N2 + c) % N2 = c := by
  have h1 : ((a * N1 + b) * N2 + c) / N2 = a * N1 + b := by
    rw [Nat.mul_comm, Nat.mul_add_div (by omega), Nat.div_eq_of_lt hc]
    rfl
  have h2 : ((a * N1 + b) * N2 + c) % N2 = c := by
    rw [Nat.mul_comm, Nat.mul_add_mod, Nat.mod_eq_of_lt hc]
  refine ⟨?_, ?_, h2⟩
  · rw [← Nat.div_div_eq_div_mul, h1, Nat.mul_comm, Nat.mul_add_div (by omega), Nat.div_eq_of_lt hb]
    rfl
  · rw [h1, Nat.mul_comm, Nat.mul_add_mod, Nat.mod_eq_of_lt hb]
theorem dg_lt {a b c N0 N1 N2 : Nat} (ha : a < N0) (hb : b < N1) (hc : c < N2) : (a * N1 + b) * N2 + c < N0 * N1 * N2 := by
  have h1 : (a + 1) * N1 ≤ N0 * N1 := Nat.mul_le_mul_right _ ha
  have h2 : (a * N1 + b + 1) * N2 ≤ N0 * N1 * N2 := Nat.mul_le_mul_right _ (by rw [Nat.add_mul] at h1; omega)
  rw [Nat.add_mul (a * N1 + b) 1 N2] at h2
  omega
theorem shx_of {vm : Vf} {a b c : Int32} (ha : 0 ≤ a.toInt) (hb : 0 ≤ b.toInt ∧ b.toInt < (shN vm 1 : Int)) (hc : 0 ≤ c.toInt ∧ c.toInt < (shN vm 2 : Int)) : shMk a b c = shX vm ((a.toNatClampNeg * shN vm 1 + b.toNatClampNeg) * shN vm 2 + c.toNatClampNeg) := by
  have e1 := i_nat hb.1
  have e2 := i_nat hc.1
  have d := dg3 (a := a.toNatClampNeg) (b := b.toNatClampNeg) (c := c.toNatClampNeg) (N1 := shN vm 1) (N2 := shN vm 2) (by omega) (by omega)
  unfold shX shA shB shC
  rw [d.1, d.2.1, d.2.2, i_ofN ha, i_ofN hb.1, i_ofN hc.1]
theorem al_next {P : Nat → Prop} {i i2 : Int32} (h : ∀ j : Nat, (j : Int) < i.toInt → P j) (h0 : 0 ≤ i.toInt) (h1 : i2.toInt = i.toInt + 1) (hp : P i.toNatClampNeg) : ∀ j : Nat, (j : Int) < i2.toInt → P j := by
  intro j hj
  have e := i_nat h0
  by_cases q : j = i.toNatClampNeg
  · subst q
    exact hp
  · exact h j (by omega)
/-- the class's list, three digits on -/
def FF (vm : Vf) (a b c : Nat) (cnt : Int) (f : Nat → Int32) : Prop := FR (fitL vm ((a * shN vm 1 + b) * shN vm 2 + c)) (shX vm) cnt f
theorem ff_0 {vm : Vf} {cnt : Int} {f : Nat → Int32} (h : cnt = 0) : FF vm 0 0 0 cnt f := by
  unfold FF
  rw [show (0 * shN vm 1 + 0) * shN vm 2 + 0 = 0 by rw [Nat.zero_mul, Nat.zero_add, Nat.zero_mul]]
  exact FR.nil h
theorem ff_c {vm : Vf} {a b : Nat} {c c2 x fc fc' : Int32} {s s' : Nat → Int32} (hH : MdH vm) (h : FF vm a b c.toNatClampNeg fc.toInt s) (ha : a < shN vm 0) (hb : b < shN vm 1) (hc : 0 ≤ c.toInt ∧ c.toInt < (shN vm 2 : Int)) (h2 : c2.toInt = c.toInt + 1) (hx : x = shX vm ((a * shN vm 1 + b) * shN vm 2 + c.toNatClampNeg)) (hz : ∀ n : Nat, n < shAll vm → x = shX vm n → (SeenQ (shS vm n) ∧ (fc.toInt < 729 → fc'.toInt = fc.toInt + 1 ∧ s' = upd s fc.toNatClampNeg x)) ∨ (¬ SeenQ (shS vm n) ∧ fc' = fc ∧ s' = s)) : FF vm a b c2.toNatClampNeg fc'.toInt s' := by
  have en := i_nat hc.1
  have al := shAll_b hH
  have hn : (a * shN vm 1 + b) * shN vm 2 + c.toNatClampNeg < shAll vm := dg_lt ha hb (by omega)
  unfold FF at h ⊢
  rw [i_nat1 hc.1 h2, ← Nat.add_assoc]
  generalize hg : (a * shN vm 1 + b) * shN vm 2 + c.toNatClampNeg = n at *
  have ln := fitL_len (v := vm) n
  have h1 := h.1
  rcases hz n hn hx with ⟨q, w⟩ | ⟨q, w1, w2⟩
  · obtain ⟨w1, w2⟩ := w (by omega)
    rw [fitL_y q, w2]
    exact FR.new h w1 hx
  · rw [fitL_n q, w1, w2]
    exact h
theorem ff_b {vm : Vf} {a : Nat} {b b2 c : Int32} {cnt : Int} {s : Nat → Int32} (h : FF vm a b.toNatClampNeg c.toNatClampNeg cnt s) (hb : 0 ≤ b.toInt) (h2 : b2.toInt = b.toInt + 1) (hc : c.toInt = (shN vm 2 : Int)) : FF vm a b2.toNatClampNeg 0 cnt s := by
  have e : c.toNatClampNeg = shN vm 2 := by
    show c.toInt.toNat = _
    omega
  unfold FF at h ⊢
  rw [e] at h
  rw [i_nat1 hb h2, Nat.add_zero, ← Nat.add_assoc, Nat.add_mul (a * shN vm 1 + b.toNatClampNeg) 1 (shN vm 2), Nat.one_mul]
  exact h
theorem ff_a {vm : Vf} {a a2 b : Int32} {cnt : Int} {s : Nat → Int32} (h : FF vm a.toNatClampNeg b.toNatClampNeg 0 cnt s) (ha : 0 ≤ a.toInt) (h2 : a2.toInt = a.toInt + 1) (hb : b.toInt = (shN vm 1 : Int)) : FF vm a2.toNatClampNeg 0 0 cnt s := by
  have e : b.toNatClampNeg = shN vm 1 := by
    show b.toInt.toNat = _
    omega
  unfold FF at h ⊢
  rw [e] at h
  rw [i_nat1 ha h2, Nat.add_zero, Nat.add_zero, Nat.add_mul, Nat.one_mul]
  rw [Nat.add_zero] at h
  exact h
theorem ff_end {vm : Vf} {a : Int32} {cnt : Int} {s : Nat → Int32} (h : FF vm a.toNatClampNeg 0 0 cnt s) (ha : a.toInt = (shN vm 0 : Int)) : FR (fitL vm (shAll vm)) (shX vm) cnt s := by
  have e : a.toNatClampNeg = shN vm 0 := by
    show a.toInt.toNat = _
    omega
  unfold FF at h
  rw [e, Nat.add_zero, Nat.add_zero] at h
  exact h
theorem shx_k {v : Vf} {n : Nat} {k : Int32} (hH : MdH v) (hn : n < shAll v) (hk : 0 ≤ k.toInt ∧ k.toInt ≤ 2) : (shX v n >>> ((4 * k) &&& 31)) &&& 15 = shS v n 24 k.toNatClampNeg := by
  have g := shx_get hH hn
  rcases (show k.toInt = 0 ∨ k.toInt = 1 ∨ k.toInt = 2 by omega) with q | q | q
  · obtain rfl : k = 0 := i_eqr (by rw [q]; rfl)
    rw [sh_0]
    exact g.1
  · obtain rfl : k = 1 := i_eqr (by rw [q]; rfl)
    exact g.2.1
  · obtain rfl : k = 2 := i_eqr (by rw [q]; rfl)
    exact g.2.2
theorem fit_cls {vm : Vf} {i k r : Int32} {cnt : Int} {s : Nat → Int32} (hH : MdH vm) (h : FR (fitL vm (shAll vm)) (shX vm) cnt s) (h0 : 0 ≤ i.toInt) (h1 : i.toInt < cnt) (hk : 0 ≤ k.toInt ∧ k.toInt ≤ 2) (hr : r = (s i.toNatClampNeg >>> ((4 * k) &&& 31)) &&& 15) : FitR vm i k r := by
  have en := i_nat h0
  have e1 := h.1
  have hl : i.toNatClampNeg < (fitL vm (shAll vm)).length := by omega
  have lt := fitL_lt (v := vm) _ _ (List.getElem_mem hl)
  refine Or.inr ⟨by omega, Or.inr ⟨hl, h0, ?_⟩⟩
  rw [hr, h.2 _ hl]
  exact shx_k hH lt hk
