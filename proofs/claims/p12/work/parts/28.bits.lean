section
/-! ===== three shifts in one number, four bits each ===== -/
def shOK (x : Int32) : Prop := (0 ≤ (x &&& 15).toInt ∧ (x &&& 15).toInt ≤ 8) ∧ (0 ≤ ((x >>> ((4 : Int32) &&& 31)) &&& 15).toInt ∧ ((x >>> ((4 : Int32) &&& 31)) &&& 15).toInt ≤ 8) ∧ (0 ≤ ((x >>> ((8 : Int32) &&& 31)) &&& 15).toInt ∧ ((x >>> ((8 : Int32) &&& 31)) &&& 15).toInt ≤ 8)
def shMk (a b c : Int32) : Int32 := (a ||| (b <<< ((4 : Int32) &&& 31))) ||| (c <<< ((8 : Int32) &&& 31))
set_option maxRecDepth 100000 in
theorem sh_all : ∀ a : Fin 9, ∀ b : Fin 9, ∀ c : Fin 9, ((0 ≤ (shMk (Int32.ofNat a) (Int32.ofNat b) (Int32.ofNat c) &&& 15).toInt ∧ (shMk (Int32.ofNat a) (Int32.ofNat b) (Int32.ofNat c) &&& 15).toInt ≤ 8) ∧ (0 ≤ ((shMk (Int32.ofNat a) (Int32.ofNat b) (Int32.ofNat c) >>> ((4 : Int32) &&& 31)) &&& 15).toInt ∧ ((shMk (Int32.ofNat a) (Int32.ofNat b) (Int32.ofNat c) >>> ((4 : Int32) &&& 31)) &&& 15).toInt ≤ 8) ∧ (0 ≤ ((shMk (Int32.ofNat a) (Int32.ofNat b) (Int32.ofNat c) >>> ((8 : Int32) &&& 31)) &&& 15).toInt ∧ ((shMk (Int32.ofNat a) (Int32.ofNat b) (Int32.ofNat c) >>> ((8 : Int32) &&& 31)) &&& 15).toInt ≤ 8)) := by decide +kernel
theorem i_fin {x : Int32} {n : Nat} (h0 : 0 ≤ x.toInt) (h1 : x.toInt < (n : Int)) : ∃ a : Fin n, x = Int32.ofNat a := by
  have hr := i_rng x
  refine ⟨⟨x.toInt.toNat, by omega⟩, i_eqr ?_⟩
  rw [Int32.toInt_ofNat_of_lt (by simp only []; omega)]
  simp only []
  omega
theorem sh_mk {a b c : Int32} (ha : 0 ≤ a.toInt ∧ a.toInt ≤ 8) (hb : 0 ≤ b.toInt ∧ b.toInt ≤ 8) (hc : 0 ≤ c.toInt ∧ c.toInt ≤ 8) : shOK (shMk a b c) := by
  obtain ⟨i, rfl⟩ := i_fin (n := 9) ha.1 (by omega)
  obtain ⟨j, rfl⟩ := i_fin (n := 9) hb.1 (by omega)
  obtain ⟨k, rfl⟩ := i_fin (n := 9) hc.1 (by omega)
  exact sh_all i j k
theorem sh_0 (x : Int32) : x >>> (((4 : Int32) * 0) &&& 31) = x := by
  have h : ((4 : Int32) * 0) &&& 31 = 0 := by decide
  rw [h]
  simp
def fitI (fc : Int32) (f : Nat → Int32) : Prop := (0 ≤ fc.toInt ∧ fc.toInt ≤ 729) ∧ ∀ j : Nat, (j : Int) < fc.toInt → shOK (f j)
theorem fit_up {fc x z : Int32} {f : Nat → Int32} (h : fitI fc f) (hlt : fc.toInt < 729) (hx : shOK x) (hz : z.toInt = fc.toInt + 1) : fitI z (upd f fc.toNatClampNeg x) := by
  have e := i_nat h.1.1
  refine ⟨⟨by have := h.1.1; omega, by omega⟩, fun j hj => ?_⟩
  unfold upd
  split
  · exact hx
  · exact h.2 j (by omega)
def SgI (sn : Int32) (s2 s3 : Nat → Int32) (l1 : Int32) : Prop := (0 ≤ sn.toInt ∧ sn.toInt ≤ 12) ∧ (∀ j, j < 12 → 0 ≤ (s2 j).toInt ∧ (s2 j).toInt ≤ 23) ∧ (∀ j, j < 12 → 0 ≤ (s3 j).toInt ∧ (s3 j).toInt ≤ 999) ∧ (0 ≤ l1.toInt ∧ l1.toInt ≤ 23)
end
section
/-! ===== shifts that fit: the class's numbers ===== -/
set_option maxRecDepth 100000 in
theorem sg_all : ∀ a : Fin 9, ∀ b : Fin 9, ∀ c : Fin 9, (shMk (Int32.ofNat a) (Int32.ofNat b) (Int32.ofNat c) &&& 15) = Int32.ofNat a ∧ ((shMk (Int32.ofNat a) (Int32.ofNat b) (Int32.ofNat c) >>> ((4 : Int32) &&& 31)) &&& 15) = Int32.ofNat b ∧ ((shMk (Int32.ofNat a) (Int32.ofNat b) (Int32.ofNat c) >>> ((8 : Int32) &&& 31)) &&& 15) = Int32.ofNat c := by decide +kernel
theorem sg_mk {a b c : Int32} (ha : 0 ≤ a.toInt ∧ a.toInt ≤ 8) (hb : 0 ≤ b.toInt ∧ b.toInt ≤ 8) (hc : 0 ≤ c.toInt ∧ c.toInt ≤ 8) : (shMk a b c &&& 15) = a ∧ ((shMk a b c >>> ((4 : Int32) &&& 31)) &&& 15) = b ∧ ((shMk a b c >>> ((8 : Int32) &&& 31)) &&& 15) = c := by
  obtain ⟨i, rfl⟩ := i_fin (n := 9) ha.1 (by omega)
  obtain ⟨j, rfl⟩ := i_fin (n := 9) hb.1 (by omega)
  obtain ⟨k, rfl⟩ := i_fin (n := 9) hc.1 (by omega)
  exact sg_all i j k
def shX (v : Vf) (n : Nat) : Int32 := shMk (shA v n) (shB v n) (shC v n)
theorem sh_q {v : Vf} (hH : MdH v) {n : Nat} (hn : n < shAll v) : (0 ≤ (shA v n).toInt ∧ (shA v n).toInt < (shN v 0 : Int)) ∧ (0 ≤ (shB v n).toInt ∧ (shB v n).toInt < (shN v 1 : Int)) ∧ (0 ≤ (shC v n).toInt ∧ (shC v n).toInt < (shN v 2 : Int)) := by
  obtain ⟨l1, l2, l3⟩ := sh_lt hH hn
  obtain ⟨t1, t2, t3⟩ := sh_t hH hn
  rw [t1, t2, t3]
  exact ⟨⟨Int.natCast_nonneg _, Int.ofNat_lt.mpr l1⟩, ⟨Int.natCast_nonneg _, Int.ofNat_lt.mpr l2⟩, ⟨Int.natCast_nonneg _, Int.ofNat_lt.mpr l3⟩⟩
theorem shx_get {v : Vf} {n : Nat} (hH : MdH v) (hn : n < shAll v) : (shX v n &&& 15) = shA v n ∧ ((shX v n >>> ((4 : Int32) &&& 31)) &&& 15) = shB v n ∧ ((shX v n >>> ((8 : Int32) &&& 31)) &&& 15) = shC v n := by
  have l := sh_q hH hn
  have b0 := shN_b hH (m := 0) (by decide)
  have b1 := shN_b hH (m := 1) (by decide)
  have b2 := shN_b hH (m := 2) (by decide)
  exact sg_mk (by omega) (by omega) (by omega)
def SgR (sn : Int32) (s2 s3 s4 : Nat → Int32) (vm : Vf) : Prop := sn = vm 67 0 ∧ ∀ j : Nat, (j : Int) < (vm 67 0).toInt → (s2 j = vm 68 j ∧ s3 j = vm 69 j ∧ s4 j = vm 70 j) ∧ (vm 68 j).toInt < (vm 0 0).toInt * (vm 1 0).toInt
theorem mh_sh {v : Vf} {a b c : Int32} (h : MdH v) (ha : 0 ≤ a.toInt ∧ a.toInt ≤ 999) (hb : 0 ≤ b.toInt ∧ b.toInt ≤ 999) (hc : 0 ≤ c.toInt ∧ c.toInt ≤ 999) : MdH (shV v a b c) := ⟨h.1, h.2.1, h.2.2.1, h.2.2.2.1, h.2.2.2.2.1, ⟨h.2.2.2.2.2.1.1, fun j hj => by
  rcases (show j = 0 ∨ j = 1 ∨ j = 2 by omega) with rfl | rfl | rfl
  · exact ha
  · exact hb
  · exact hc, h.2.2.2.2.2.1.2.2⟩, h.2.2.2.2.2.2⟩
theorem rw_sh {vm vp vs : Vf} {n : Nat} (hR : RW vm vp vs) (hn : n < shAll vm) : RW (shS vm n) vp (up3 vs 1 (shS vm n 24)) := by
  obtain ⟨hP, hL, hS, hH, hO⟩ := hR
  have kp : keepP vm (shS vm n) := fun t ht => up3_ne (by omega)
  have l := sh_q hH hn
  have b0 := shN_b hH (m := 0) (by decide)
  have b1 := shN_b hH (m := 1) (by decide)
  have b2 := shN_b hH (m := 2) (by decide)
  refine ⟨rqp_fr kp hP, ⟨hL.1, fun j _ => rfl, hL.2.2.1, hL.2.2.2.1, hL.2.2.2.2.1, hL.2.2.2.2.2.1, hL.2.2.2.2.2.2.1, hL.2.2.2.2.2.2.2⟩, ⟨fun m hm => ?_, hS.2⟩, mh_sh hH (by omega) (by omega) (by omega), okm_fr kp hO⟩
  have hm2 : (m : Int) < (vm 4 0).toInt := hm
  have h4 := hH.2.1.1
  have e : ∀ j, shN vm j = (vm 5 j).toInt.toNat := fun j => by
    unfold shN
    rw [if_neg (by omega)]
  show 0 ≤ (shS vm n 24 m).toInt ∧ (shS vm n 24 m).toInt < (vm 5 m).toInt
  rcases (show m = 0 ∨ m = 1 ∨ m = 2 by omega) with rfl | rfl | rfl
  · have e0 := e 0
    show 0 ≤ (shA vm n).toInt ∧ (shA vm n).toInt < _
    omega
  · have e0 := e 1
    show 0 ≤ (shB vm n).toInt ∧ (shB vm n).toInt < _
    omega
  · have e0 := e 2
    show 0 ≤ (shC vm n).toInt ∧ (shC vm n).toInt < _
    omega
def PbQ (v : Vf) (m : Nat) (c t r : Int32) : Prop := ((m : Int) < (v 4 0).toInt → r = mPart v (Int32.ofNat m) c t) ∧ ((v 4 0).toInt ≤ (m : Int) → r = 0)
theorem pull3 {v : Vf} {c t r0 r1 r2 s0 s1 s2 : Int32} (h3 : 0 ≤ (v 4 0).toInt ∧ (v 4 0).toInt ≤ 3) (p0 : PbQ v 0 c t r0) (p1 : PbQ v 1 c t r1) (p2 : PbQ v 2 c t r2) (e0 : s0 = 0 + r0) (e1 : s1 = s0 + r1) (e2 : s2 = s1 + r2) : s2 = mPull v c t := by
  have en := i_nat h3.1
  unfold mPull
  rcases (show (v 4 0).toInt = 0 ∨ (v 4 0).toInt = 1 ∨ (v 4 0).toInt = 2 ∨ (v 4 0).toInt = 3 by omega) with q | q | q | q
  · have z : (v 4 0).toNatClampNeg = 0 := by omega
    rw [z, e2, e1, e0, p0.2 (by omega), p1.2 (by omega), p2.2 (by omega)]
    exact (by decide : (0 : Int32) + 0 + 0 + 0 = 0)
  · have z : (v 4 0).toNatClampNeg = 1 := by omega
    rw [z, e2, e1, e0, p0.1 (by omega), p1.2 (by omega), p2.2 (by omega), Int32.add_zero, Int32.add_zero]
    rfl
  · have z : (v 4 0).toNatClampNeg = 2 := by omega
    rw [z, e2, e1, e0, p0.1 (by omega), p1.1 (by omega), p2.2 (by omega), Int32.add_zero]
    rfl
  · have z : (v 4 0).toNatClampNeg = 3 := by omega
    rw [z, e2, e1, e0, p0.1 (by omega), p1.1 (by omega), p2.1 (by omega)]
    rfl
theorem shN_un {vm vp vs : Vf} {m : Nat} (hR : RW vm vp vs) (hm3 : m < 3) (hm : (vm 4 0).toInt ≤ (m : Int)) : shN vm m = 1 := by
  unfold shN
  rcases hR.2.2.2.2.2.2.2.2.2 m hm3 hm with q | q
  · rw [if_pos q]
  · by_cases z : (vm 4 0).toInt = 0
    · rw [if_pos z]
    · rw [if_neg z]
      omega
theorem size_sh {vm vp vs : Vf} {m b0 b1 b2 b3 b4 : Nat} (hR : RW vm vp vs) (hM : RqM vm vp m b0 b1 b2 b3 b4) (hm3 : m < 3) : (vp b0 0).toInt = (shN vm m : Int) := by
  have h4 := hR.2.2.2.1.2.1.1
  rcases Int.lt_or_le (m : Int) (vm 4 0).toInt with q | q
  · have z := (hR.2.2.2.1.2.2.2.1.2.1.resolve_left (by omega)) m hm3
    rw [(hM.1 q).1.1]
    unfold shN
    rw [if_neg (by omega)]
    omega
  · rw [shN_un hR hm3 q, (hM.2 q).1]
    decide
theorem pb_told {vm vp vs : Vf} {m b0 b1 b2 b3 b4 : Nat} {cell step shift r : Int32} {n : Nat} (hR : RW vm vp vs) (hn : n < shAll vm) (hg : (-1 : Int32) = vm 62 0) (hM : RqM vm vp m b0 b1 b2 b3 b4) (hm3 : m < 3) (hc : 0 ≤ cell.toInt ∧ cell.toInt ≤ 23) (hcc : cW vm cell) (ht : 0 ≤ step.toInt ∧ step.toInt ≤ 2000000) (hsh : shift = shS vm n 24 m) (hr : r = vp b3 ((step.toInt + (vp b4 cell.toNatClampNeg).toInt) % (vp b0 0).toInt + shift.toInt).toNat) : PbQ (shS vm n) m cell step r := by
  have em := ofN_t (n := m) (by omega)
  refine ⟨fun hm => ?_, fun hm => ?_⟩
  · have hR' := rw_sh hR hn
    have hM' : RqM (shS vm n) vp m b0 b1 b2 b3 b4 := hM
    refine part_cls hR' hM' hm em hc hcc.2 ht (fun q => ?_) ?_
    · have q2 : Int32.ofNat m = vm 62 0 := q
      rw [← hg] at q2
      have z := i_eq q2
      rw [em, show (-1 : Int32).toInt = -1 by decide] at z
      omega
    · rw [hr, hsh]
      rfl
  · have hm2 : (vm 4 0).toInt ≤ (m : Int) := hm
    obtain ⟨u0, u1, u2⟩ := hM.2 hm2
    have e1 := shN_un hR hm3 hm2
    have l := sh_q hR.2.2.2.1 hn
    have z : shift.toInt = 0 := by
      rw [hsh]
      rcases (show m = 0 ∨ m = 1 ∨ m = 2 by omega) with rfl | rfl | rfl
      · show (shA vm n).toInt = 0
        omega
      · show (shB vm n).toInt = 0
        omega
      · show (shC vm n).toInt = 0
        omega
    rw [hr, u0, z, show (1 : Int32).toInt = 1 by decide, Int.emod_one]
    exact u1
/-! numbers of three digits -/
theorem dg3 {a b c N1 N2 : Nat} (hb : b < N1) (hc : c < N2) : ((a * N1 + b) * N2 + c) / (N2 * N1) = a ∧ ((a * N1 + b) * N2 + c) / N2 % N1 = b ∧ ((a * N1 + b) * N2 + c) % N2 = c := by
  have h1 : ((a * N1 + b) * N2 + c) / N2 = a * N1 + b := by
    rw [Nat.mul_comm, Nat.mul_add_div (by omega), Nat.div_eq_of_lt hc]
    rfl
  have h2 : ((a * N1 + b) * N2 + c) % N2 = c := by
    rw [Nat.mul_comm, Nat.mul_add_mod, Nat.mod_eq_of_lt hc]
  refine ⟨?_, ?_, h2⟩
  · rw [← Nat.div_div_eq_div_mul, h1, Nat.mul_comm, Nat.mul_add_div (by omega), Nat.div_eq_of_lt hb]
    rfl
  · rw [h1, Nat.mul_comm, Nat.mul_add_mod, Nat.mod_eq_of_lt hb]
theorem dg_lt {a b c N0 N1 N2 : Nat} (ha : a < N0) (hb : b < N1) (hc : c < N2) : (a * N1 + b) * N2 + c < N0 * N1 * N2 := by
  have h1 : (a + 1) * N1 ≤ N0 * N1 := Nat.mul_le_mul_right _ ha
  have h2 : (a * N1 + b + 1) * N2 ≤ N0 * N1 * N2 := Nat.mul_le_mul_right _ (by rw [Nat.add_mul] at h1; omega)
  rw [Nat.add_mul (a * N1 + b) 1 N2] at h2
  omega
theorem shx_of {vm : Vf} {a b c : Int32} (ha : 0 ≤ a.toInt) (hb : 0 ≤ b.toInt ∧ b.toInt < (shN vm 1 : Int)) (hc : 0 ≤ c.toInt ∧ c.toInt < (shN vm 2 : Int)) : shMk a b c = shX vm ((a.toNatClampNeg * shN vm 1 + b.toNatClampNeg) * shN vm 2 + c.toNatClampNeg) := by
  have e1 := i_nat hb.1
  have e2 := i_nat hc.1
  have d := dg3 (a := a.toNatClampNeg) (b := b.toNatClampNeg) (c := c.toNatClampNeg) (N1 := shN vm 1) (N2 := shN vm 2) (by omega) (by omega)
  unfold shX shA shB shC
  rw [d.1, d.2.1, d.2.2, i_ofN ha, i_ofN hb.1, i_ofN hc.1]
theorem al_next {P : Nat → Prop} {i i2 : Int32} (h : ∀ j : Nat, (j : Int) < i.toInt → P j) (h0 : 0 ≤ i.toInt) (h1 : i2.toInt = i.toInt + 1) (hp : P i.toNatClampNeg) : ∀ j : Nat, (j : Int) < i2.toInt → P j := by
  intro j hj
  have e := i_nat h0
  by_cases q : j = i.toNatClampNeg
  · subst q
    exact hp
  · exact h j (by omega)
/-- the class's list, three digits on -/
def FF (vm : Vf) (a b c : Nat) (cnt : Int) (f : Nat → Int32) : Prop := FR (fitL vm ((a * shN vm 1 + b) * shN vm 2 + c)) (shX vm) cnt f
theorem ff_0 {vm : Vf} {cnt : Int} {f : Nat → Int32} (h : cnt = 0) : FF vm 0 0 0 cnt f := by
  unfold FF
  rw [show (0 * shN vm 1 + 0) * shN vm 2 + 0 = 0 by rw [Nat.zero_mul, Nat.zero_add, Nat.zero_mul]]
  exact FR.nil h
theorem ff_c {vm : Vf} {a b : Nat} {c c2 x fc fc' : Int32} {s s' : Nat → Int32} (hH : MdH vm) (h : FF vm a b c.toNatClampNeg fc.toInt s) (ha : a < shN vm 0) (hb : b < shN vm 1) (hc : 0 ≤ c.toInt ∧ c.toInt < (shN vm 2 : Int)) (h2 : c2.toInt = c.toInt + 1) (hx : x = shX vm ((a * shN vm 1 + b) * shN vm 2 + c.toNatClampNeg)) (hz : ∀ n : Nat, n < shAll vm → x = shX vm n → (SeenQ (shS vm n) ∧ (fc.toInt < 729 → fc'.toInt = fc.toInt + 1 ∧ s' = upd s fc.toNatClampNeg x)) ∨ (¬ SeenQ (shS vm n) ∧ fc' = fc ∧ s' = s)) : FF vm a b c2.toNatClampNeg fc'.toInt s' := by
  have en := i_nat hc.1
  have al := shAll_b hH
  have hn : (a * shN vm 1 + b) * shN vm 2 + c.toNatClampNeg < shAll vm := dg_lt ha hb (by omega)
  unfold FF at h ⊢
  rw [i_nat1 hc.1 h2, ← Nat.add_assoc]
  generalize hg : (a * shN vm 1 + b) * shN vm 2 + c.toNatClampNeg = n at *
  have ln := fitL_len (v := vm) n
  have h1 := h.1
  rcases hz n hn hx with ⟨q, w⟩ | ⟨q, w1, w2⟩
  · obtain ⟨w1, w2⟩ := w (by omega)
    rw [fitL_y q, w2]
    exact FR.new h w1 hx
  · rw [fitL_n q, w1, w2]
    exact h
theorem ff_b {vm : Vf} {a : Nat} {b b2 c : Int32} {cnt : Int} {s : Nat → Int32} (h : FF vm a b.toNatClampNeg c.toNatClampNeg cnt s) (hb : 0 ≤ b.toInt) (h2 : b2.toInt = b.toInt + 1) (hc : c.toInt = (shN vm 2 : Int)) : FF vm a b2.toNatClampNeg 0 cnt s := by
  have e : c.toNatClampNeg = shN vm 2 := by
    show c.toInt.toNat = _
    omega
  unfold FF at h ⊢
  rw [e] at h
  rw [i_nat1 hb h2, Nat.add_zero, ← Nat.add_assoc, Nat.add_mul (a * shN vm 1 + b.toNatClampNeg) 1 (shN vm 2), Nat.one_mul]
  exact h
theorem ff_a {vm : Vf} {a a2 b : Int32} {cnt : Int} {s : Nat → Int32} (h : FF vm a.toNatClampNeg b.toNatClampNeg 0 cnt s) (ha : 0 ≤ a.toInt) (h2 : a2.toInt = a.toInt + 1) (hb : b.toInt = (shN vm 1 : Int)) : FF vm a2.toNatClampNeg 0 0 cnt s := by
  have e : b.toNatClampNeg = shN vm 1 := by
    show b.toInt.toNat = _
    omega
  unfold FF at h ⊢
  rw [e] at h
  rw [i_nat1 ha h2, Nat.add_zero, Nat.add_zero, Nat.add_mul, Nat.one_mul]
  rw [Nat.add_zero] at h
  exact h
theorem ff_end {vm : Vf} {a : Int32} {cnt : Int} {s : Nat → Int32} (h : FF vm a.toNatClampNeg 0 0 cnt s) (ha : a.toInt = (shN vm 0 : Int)) : FR (fitL vm (shAll vm)) (shX vm) cnt s := by
  have e : a.toNatClampNeg = shN vm 0 := by
    show a.toInt.toNat = _
    omega
  unfold FF at h
  rw [e, Nat.add_zero, Nat.add_zero] at h
  exact h
theorem shx_k {v : Vf} {n : Nat} {k : Int32} (hH : MdH v) (hn : n < shAll v) (hk : 0 ≤ k.toInt ∧ k.toInt ≤ 2) : (shX v n >>> ((4 * k) &&& 31)) &&& 15 = shS v n 24 k.toNatClampNeg := by
  have g := shx_get hH hn
  rcases (show k.toInt = 0 ∨ k.toInt = 1 ∨ k.toInt = 2 by omega) with q | q | q
  · obtain rfl : k = 0 := i_eqr (by rw [q]; rfl)
    rw [sh_0]
    exact g.1
  · obtain rfl : k = 1 := i_eqr (by rw [q]; rfl)
    exact g.2.1
  · obtain rfl : k = 2 := i_eqr (by rw [q]; rfl)
    exact g.2.2
theorem fit_cls {vm : Vf} {i k r : Int32} {cnt : Int} {s : Nat → Int32} (hH : MdH vm) (h : FR (fitL vm (shAll vm)) (shX vm) cnt s) (h0 : 0 ≤ i.toInt) (h1 : i.toInt < cnt) (hk : 0 ≤ k.toInt ∧ k.toInt ≤ 2) (hr : r = (s i.toNatClampNeg >>> ((4 * k) &&& 31)) &&& 15) : FitR vm i k r := by
  have en := i_nat h0
  have e1 := h.1
  have hl : i.toNatClampNeg < (fitL vm (shAll vm)).length := by omega
  have lt := fitL_lt (v := vm) _ _ (List.getElem_mem hl)
  refine Or.inr ⟨by omega, Or.inr ⟨hl, h0, ?_⟩⟩
  rw [hr, h.2 _ hl]
  exact shx_k hH lt hk
end
section
def rm_X4_shiftOf : Room := { frames := 0, cells := 0, slots := 0, locals := 0 }
set_option maxHeartbeats 4000000 in
set_option maxRecDepth 100000 in
theorem c_X4_shiftOf (l : Launch) (E : Ev) (A : Nat → Prop) (x : Int32) (k : Int32) : Met l yX4_shiftOf wsX4_shiftOf rm_X4_shiftOf (RdP E A [.int x, .int k] ([])) (vp_Si (fun r => r = (x >>> ((4 * k) &&& 31)) &&& 15)) 0 0 (fun _ => False) := by
  refine Met.ofW (cc := cX4_shiftOf) (maxL := 2) (ret := (some .int)) (by decide) rfl ?_
  intro p e s m args below meth c s₁ B hml hv
  obtain ⟨rfl, hE, hP⟩ := hv
  have hx := B.exec
  have hb := B.bytes
  have hr := B.returns
  have hts := atoms_spec (ws := wsX4_shiftOf) B.pre
  have hown : s.vm.findClass RX4 = some m.cls := findClass_of_methodNamed B.named
  have hlocks := B.notSynchronized
  have hK := hE.1
  have n_4 : (4 : Int32).toInt = 4 := by decide
  have n_15 : (15 : Int32).toInt = 15 := by decide
  have hl := lv_entry ([.int x, .int k]) (n := 2) (Nat.le_of_ble_eq_true rfl)
  rw [lg_entry_eq]
  generalize (lg_sl ([.int x, .int k]) ++ List.replicate (2 - (lg_sl ([.int x, .int k])).length) Slot.unset).toArray = ls at hl ⊢
  have hl : lv_has ls 2 [(0, .int x), (1, .int k)] := hl
  refine W_abs (fun Q hQ => ?_)
  refine lv_iload_n hx hb dX4_shiftOf_0 rfl (lv_at hl 0 rfl) ?_
  refine lv_iconst (v := 4) hx hb dX4_shiftOf_1 (by decide) ?_
  refine lv_iload_n hx hb dX4_shiftOf_2 rfl (lv_at hl 1 rfl) ?_
  refine lv_imul hx hb dX4_shiftOf_3 ?_
  refine lv_topi (fun x3 e3 => ?_)
  refine lv_ishr hx hb dX4_shiftOf_4 ?_
  refine lv_topi (fun x4 e4 => ?_)
  refine lv_bipush (v := 15) hx hb dX4_shiftOf_5 (by decide) ?_
  refine lv_iand hx hb dX4_shiftOf_7 ?_
  refine lv_topi (fun x7 e7 => ?_)
  subst hQ
  exact W.iret (v := x7) hx hb hr (fun t ht hW => ⟨x7, rfl, (by rw [e7, e4, e3]), ht⟩) (fun q h => absurd h List.not_mem_nil) dX4_shiftOf_8
def rm_X4_pullBy : Room := { frames := 1, cells := 0, slots := 0, locals := 23 }
set_option maxHeartbeats 4000000 in
set_option maxRecDepth 100000 in
theorem c_X4_pullBy (l : Launch) (E : Ev) (A : Nat → Prop) (qg : Nat) (k2 : Nat) (k3 : Nat) (k4 : Nat) (k5 : Nat) (k7 : Nat) (sn : Int32) (fc : Int32) (l1 : Int32) (l2 : Int32) (l3 : Int32) (s2 : Nat → Int32) (s3 : Nat → Int32) (s4 : Nat → Int32) (s5 : Nat → Int32) (s7 : Nat → Int32) (qw : Nat) (ap : Nat → Nat) (vp : Vf) (as_ : Nat → Nat) (vs : Vf) (x : Int32) (cell : Int32) (step : Int32) (hI : PlanI vp) (hJ : StateI vs) (hG : SgI sn s2 s3 l1) (hsh : shOK x) (hcell : 0 ≤ cell.toInt ∧ cell.toInt ≤ 23) (hstep : 0 ≤ step.toInt ∧ step.toInt ≤ 2000000) : Met l yX4_pullBy wsX4_pullBy rm_X4_pullBy (RdP E A [.ref qg, .int x, .int cell, .int step] (sgL E qg k2 k3 k4 k5 k7 sn fc l1 l2 l3 s2 s3 s4 s5 s7 qw ap vp as_ vs)) (vp_Si (fun r => True)) 0 0 (fun _ => False) := by
  refine Met.ofW (cc := cX4_pullBy) (maxL := 6) (ret := (some .int)) (by decide) rfl ?_
  intro p e s m args below meth c s₁ B hml hv
  obtain ⟨rfl, hE, hP⟩ := hv
  have hx := B.exec
  have hb := B.bytes
  have hr := B.returns
  have hts := atoms_spec (ws := wsX4_pullBy) B.pre
  have hown : s.vm.findClass RX4 = some m.cls := findClass_of_methodNamed B.named
  have hlocks := B.notSynchronized
  have hK := hE.1
  have in_X4 : ∀ w ∈ u_ws RX4 TX4 11, w ∈ wsX4_pullBy := fun w h => List.mem_cons_of_mem _ (List.mem_append_left _ (List.mem_append_left _ (List.mem_append_left _ (List.mem_append_right _ h))))
  have in_X8 : ∀ w ∈ u_ws RX8 TX8 2, w ∈ wsX4_pullBy := fun w h => List.mem_cons_of_mem _ (List.mem_append_left _ (List.mem_append_left _ (List.mem_append_right _ h)))
  have in_X1 : ∀ w ∈ u_ws RX1 TX1 11, w ∈ wsX4_pullBy := fun w h => List.mem_cons_of_mem _ (List.mem_append_left _ (List.mem_append_right _ h))
  have lk0 := hts (.fieldLink RX4 27 "TidedGround$Sightings" "world" "LTidedGround$World;") (List.mem_of_getElem? (i := 1) rfl)
  have lk1 := hts (.fieldLink RX4 35 "TidedGround$World" "plan" "LTidedGround$Plan;") (List.mem_of_getElem? (i := 2) rfl)
  have lk2 := hts (.fieldLink RX4 41 "TidedGround$Plan" "moons" "[LTidedGround$Moon;") (List.mem_of_getElem? (i := 3) rfl)
  have n_0 : (0 : Int32).toInt = 0 := by decide
  have n_1 : (1 : Int32).toInt = 1 := by decide
  have n_2 : (2 : Int32).toInt = 2 := by decide
  have n_3 : (3 : Int32).toInt = 3 := by decide
  have hl := lv_entry ([.ref qg, .int x, .int cell, .int step]) (n := 6) (Nat.le_of_ble_eq_true rfl)
  rw [lg_entry_eq]
  generalize (lg_sl ([.ref qg, .int x, .int cell, .int step]) ++ List.replicate (6 - (lg_sl ([.ref qg, .int x, .int cell, .int step])).length) Slot.unset).toArray = ls at hl ⊢
  have hl : lv_has ls 6 [(0, .ref qg), (1, .int x), (2, .int cell), (3, .int step)] := hl
  refine W_abs (fun Q hQ => ?_)
  obtain ⟨hg, hmc, hm0, hm1, hm2, hs0, hs1, hs2, hs3⟩ := id hI
  obtain ⟨hg1, hg2, hg3, hg4⟩ := id hg
  have hz0 := hm0.1
  have hz1 := hm1.1
  have hz2 := hm2.1
  have hc0 := hs0.1
  have hc1 := hs1.1
  have hc2 := hs2.1
  have hc3 := hs3.1
  obtain ⟨hj0, hj1, hj2⟩ := id hJ
  obtain ⟨hG1, hG2, hG3, hG4⟩ := id hG
  refine lv_iconst (v := 0) hx hb dX4_pullBy_0 (by decide) ?_
  refine lv_istore (lv' := [(4, .int 0), (0, .ref qg), (1, .int x), (2, .int cell), (3, .int step)]) hx hb dX4_pullBy_1 hl (by decide) rfl (fun ls hl => ?_)
  refine lv_iconst (v := 0) hx hb dX4_pullBy_3 (by decide) ?_
  refine lv_istore (lv' := [(5, .int 0), (4, .int 0), (0, .ref qg), (1, .int x), (2, .int cell), (3, .int step)]) hx hb dX4_pullBy_4 hl (by decide) rfl (fun ls hl => ?_)
  refine lv_iload hx hb dX4_pullBy_6 (lv_at hl 0 rfl) ?_
  refine lv_iconst (v := 3) hx hb dX4_pullBy_8 (by decide) ?_
  refine lv_icmp_ge (tgt := 47) hx hb dX4_pullBy_9 (by decide) (fun q => absurd q (by decide)) (fun _ => ?_)
  refine lv_iload hx hb dX4_pullBy_12 (lv_at hl 1 rfl) ?_
  refine lv_aload_n hx hb dX4_pullBy_14 rfl (lv_at hl 2 rfl) ?_
  refine va_get (D := eD E) (ci := 4) (v := .ref qw) (C := RX4) (T := TX4) (N := 11) hx hb hts in_X4 hown hK hP 0 rfl rfl 0 (by decide) lk0 (fun _ h9 => h9) rfl dX4_pullBy_15 ?_
  refine va_get (D := eD E) (ci := 8) (v := .ref (ap 0)) (C := RX8) (T := TX8) (N := 2) hx hb hts in_X8 hown hK hP 6 rfl rfl 0 (by decide) lk1 (fun _ h9 => h9) rfl dX4_pullBy_18 ?_
  refine va_get (D := eD E) (ci := 1) (v := .ref (ap 6)) (C := RX1) (T := TX1) (N := 11) hx hb hts in_X1 hown hK hP 7 rfl rfl 6 (by decide) lk2 (fun _ h9 => h9) rfl dX4_pullBy_21 ?_
  refine lv_iload hx hb dX4_pullBy_24 (lv_at hl 0 rfl) ?_
  refine va_aldq hx hb hK hP 10 2 rfl rfl (i_in (by decide) (by decide)) dX4_pullBy_26 ?_
  refine W.eq (g2 := F0 m 27 ls [.ref (ap 20), .int 0]) rfl ?_
  refine lv_iload_n hx hb dX4_pullBy_27 rfl (lv_at hl 4 rfl) ?_
  refine lv_iload_n hx hb dX4_pullBy_28 rfl (lv_at hl 5 rfl) ?_
  refine lv_iload_n hx hb dX4_pullBy_29 rfl (lv_at hl 3 rfl) ?_
  refine lv_iload hx hb dX4_pullBy_30 (lv_at hl 0 rfl) ?_
  refine rd_S (As := [.int x, .int 0]) (rest := [.int step, .int cell, .ref (ap 20), .int 0]) ⟨hx, hb, hml, hown, hts⟩ (c_X4_shiftOf l E A x 0) (va_cwS 2 hts gX4_pullBy_X4_shiftOf rfl rfl rfl (by decide +kernel) ⟨Nat.le_of_ble_eq_true rfl, Nat.le_of_ble_eq_true rfl⟩) hE (hP.sub (ws' := []) [] rfl) rfl hl.1 rfl (Nat.le_of_ble_eq_true rfl) dX4_pullBy_32 ⟨Nat.zero_le _, Nat.zero_le _⟩ (fun r32 h32 => ?_)
  have b32 : 0 ≤ r32.toInt ∧ r32.toInt ≤ 8 := by rw [h32, sh_0]; exact hsh.1
  refine rd_V (As := [.int cell, .int step, .int r32]) (rest := [.int 0]) (C := RX0) (ci := 0) ⟨hx, hb, hml, hown, hts⟩ (c_X0_partAt l E A (ap 20) (ap 23) (ap 24) (vp 20 0) (vp 21 0) (vp 22 0) (vp 23) (vp 24) cell step r32 hm0 (by omega) (by omega) (by omega)) (cwV 3 hts gX4_pullBy_X0_partAt rfl rfl rfl (by decide +kernel) ⟨Nat.le_of_ble_eq_true rfl, Nat.le_of_ble_eq_true rfl⟩) hE (hP.sub (ws' := moonL E (ap 20) (ap 23) (ap 24) (vp 20 0) (vp 21 0) (vp 22 0) (vp 23) (vp 24)) [11, 12, 13] rfl) rfl rfl rfl rfl hl.1 rfl (Nat.le_of_ble_eq_true rfl) dX4_pullBy_35 ⟨Nat.zero_le _, Nat.zero_le _⟩ (fun r35 h35 => ?_)
  have hf35 := h35.2
  replace h35 := h35.1
  refine lv_iadd hx hb dX4_pullBy_38 ?_
  refine lv_topi (fun x38 e38 => ?_)
  have t38 := i_add e38 (by omega)
  refine lv_istore (lv' := [(4, .int x38), (5, .int 0), (0, .ref qg), (1, .int x), (2, .int cell), (3, .int step)]) hx hb dX4_pullBy_39 hl (by decide) rfl (fun ls hl => ?_)
  refine lv_iinc (v := 1) (lv' := [(5, .int 1), (4, .int x38), (0, .ref qg), (1, .int x), (2, .int cell), (3, .int step)]) hx hb dX4_pullBy_41 hl (k := 1) rfl (by decide) (by decide) rfl (fun ls hl => ?_)
  refine lv_goto (tgt := 6) hx hb dX4_pullBy_44 (by decide) ?_
  refine lv_iload hx hb dX4_pullBy_6 (lv_at hl 0 rfl) ?_
  refine lv_iconst (v := 3) hx hb dX4_pullBy_8 (by decide) ?_
  refine lv_icmp_ge (tgt := 47) hx hb dX4_pullBy_9 (by decide) (fun q => absurd q (by decide)) (fun _ => ?_)
  refine lv_iload hx hb dX4_pullBy_12 (lv_at hl 1 rfl) ?_
  refine lv_aload_n hx hb dX4_pullBy_14 rfl (lv_at hl 2 rfl) ?_
  refine va_get (D := eD E) (ci := 4) (v := .ref qw) (C := RX4) (T := TX4) (N := 11) hx hb hts in_X4 hown hK hP 0 rfl rfl 0 (by decide) lk0 (fun _ h9 => h9) rfl dX4_pullBy_15 ?_
  refine va_get (D := eD E) (ci := 8) (v := .ref (ap 0)) (C := RX8) (T := TX8) (N := 2) hx hb hts in_X8 hown hK hP 6 rfl rfl 0 (by decide) lk1 (fun _ h9 => h9) rfl dX4_pullBy_18 ?_
  refine va_get (D := eD E) (ci := 1) (v := .ref (ap 6)) (C := RX1) (T := TX1) (N := 11) hx hb hts in_X1 hown hK hP 7 rfl rfl 6 (by decide) lk2 (fun _ h9 => h9) rfl dX4_pullBy_21 ?_
  refine lv_iload hx hb dX4_pullBy_24 (lv_at hl 0 rfl) ?_
  refine va_aldq hx hb hK hP 10 2 rfl rfl (i_in (by decide) (by decide)) dX4_pullBy_26 ?_
  refine W.eq (g2 := F0 m 27 ls [.ref (ap 30), .int x38]) rfl ?_
  refine lv_iload_n hx hb dX4_pullBy_27 rfl (lv_at hl 4 rfl) ?_
  refine lv_iload_n hx hb dX4_pullBy_28 rfl (lv_at hl 5 rfl) ?_
  refine lv_iload_n hx hb dX4_pullBy_29 rfl (lv_at hl 3 rfl) ?_
  refine lv_iload hx hb dX4_pullBy_30 (lv_at hl 0 rfl) ?_
  refine rd_S (As := [.int x, .int 1]) (rest := [.int step, .int cell, .ref (ap 30), .int x38]) ⟨hx, hb, hml, hown, hts⟩ (c_X4_shiftOf l E A x 1) (va_cwS 2 hts gX4_pullBy_X4_shiftOf rfl rfl rfl (by decide +kernel) ⟨Nat.le_of_ble_eq_true rfl, Nat.le_of_ble_eq_true rfl⟩) hE (hP.sub (ws' := []) [] rfl) rfl hl.1 rfl (Nat.le_of_ble_eq_true rfl) dX4_pullBy_32 ⟨Nat.zero_le _, Nat.zero_le _⟩ (fun r32 h32 => ?_)
  have b32 : 0 ≤ r32.toInt ∧ r32.toInt ≤ 8 := by rw [h32]; exact hsh.2.1
  refine rd_V (As := [.int cell, .int step, .int r32]) (rest := [.int x38]) (C := RX0) (ci := 0) ⟨hx, hb, hml, hown, hts⟩ (c_X0_partAt l E A (ap 30) (ap 33) (ap 34) (vp 30 0) (vp 31 0) (vp 32 0) (vp 33) (vp 34) cell step r32 hm1 (by omega) (by omega) (by omega)) (cwV 3 hts gX4_pullBy_X0_partAt rfl rfl rfl (by decide +kernel) ⟨Nat.le_of_ble_eq_true rfl, Nat.le_of_ble_eq_true rfl⟩) hE (hP.sub (ws' := moonL E (ap 30) (ap 33) (ap 34) (vp 30 0) (vp 31 0) (vp 32 0) (vp 33) (vp 34)) [14, 15, 16] rfl) rfl rfl rfl rfl hl.1 rfl (Nat.le_of_ble_eq_true rfl) dX4_pullBy_35 ⟨Nat.zero_le _, Nat.zero_le _⟩ (fun r35 h35 => ?_)
  have hf35 := h35.2
  replace h35 := h35.1
  refine lv_iadd hx hb dX4_pullBy_38 ?_
  refine lv_topi (fun x38 e38 => ?_)
  have t38 := i_add e38 (by omega)
  refine lv_istore (lv' := [(4, .int x38), (5, .int 1), (0, .ref qg), (1, .int x), (2, .int cell), (3, .int step)]) hx hb dX4_pullBy_39 hl (by decide) rfl (fun ls hl => ?_)
  refine lv_iinc (v := 2) (lv' := [(5, .int 2), (4, .int x38), (0, .ref qg), (1, .int x), (2, .int cell), (3, .int step)]) hx hb dX4_pullBy_41 hl (k := 1) rfl (by decide) (by decide) rfl (fun ls hl => ?_)
  refine lv_goto (tgt := 6) hx hb dX4_pullBy_44 (by decide) ?_
  refine lv_iload hx hb dX4_pullBy_6 (lv_at hl 0 rfl) ?_
  refine lv_iconst (v := 3) hx hb dX4_pullBy_8 (by decide) ?_
  refine lv_icmp_ge (tgt := 47) hx hb dX4_pullBy_9 (by decide) (fun q => absurd q (by decide)) (fun _ => ?_)
  refine lv_iload hx hb dX4_pullBy_12 (lv_at hl 1 rfl) ?_
  refine lv_aload_n hx hb dX4_pullBy_14 rfl (lv_at hl 2 rfl) ?_
  refine va_get (D := eD E) (ci := 4) (v := .ref qw) (C := RX4) (T := TX4) (N := 11) hx hb hts in_X4 hown hK hP 0 rfl rfl 0 (by decide) lk0 (fun _ h9 => h9) rfl dX4_pullBy_15 ?_
  refine va_get (D := eD E) (ci := 8) (v := .ref (ap 0)) (C := RX8) (T := TX8) (N := 2) hx hb hts in_X8 hown hK hP 6 rfl rfl 0 (by decide) lk1 (fun _ h9 => h9) rfl dX4_pullBy_18 ?_
  refine va_get (D := eD E) (ci := 1) (v := .ref (ap 6)) (C := RX1) (T := TX1) (N := 11) hx hb hts in_X1 hown hK hP 7 rfl rfl 6 (by decide) lk2 (fun _ h9 => h9) rfl dX4_pullBy_21 ?_
  refine lv_iload hx hb dX4_pullBy_24 (lv_at hl 0 rfl) ?_
  refine va_aldq hx hb hK hP 10 2 rfl rfl (i_in (by decide) (by decide)) dX4_pullBy_26 ?_
  refine W.eq (g2 := F0 m 27 ls [.ref (ap 40), .int x38]) rfl ?_
  refine lv_iload_n hx hb dX4_pullBy_27 rfl (lv_at hl 4 rfl) ?_
  refine lv_iload_n hx hb dX4_pullBy_28 rfl (lv_at hl 5 rfl) ?_
  refine lv_iload_n hx hb dX4_pullBy_29 rfl (lv_at hl 3 rfl) ?_
  refine lv_iload hx hb dX4_pullBy_30 (lv_at hl 0 rfl) ?_
  refine rd_S (As := [.int x, .int 2]) (rest := [.int step, .int cell, .ref (ap 40), .int x38]) ⟨hx, hb, hml, hown, hts⟩ (c_X4_shiftOf l E A x 2) (va_cwS 2 hts gX4_pullBy_X4_shiftOf rfl rfl rfl (by decide +kernel) ⟨Nat.le_of_ble_eq_true rfl, Nat.le_of_ble_eq_true rfl⟩) hE (hP.sub (ws' := []) [] rfl) rfl hl.1 rfl (Nat.le_of_ble_eq_true rfl) dX4_pullBy_32 ⟨Nat.zero_le _, Nat.zero_le _⟩ (fun r32 h32 => ?_)
  have b32 : 0 ≤ r32.toInt ∧ r32.toInt ≤ 8 := by rw [h32]; exact hsh.2.2
  refine rd_V (As := [.int cell, .int step, .int r32]) (rest := [.int x38]) (C := RX0) (ci := 0) ⟨hx, hb, hml, hown, hts⟩ (c_X0_partAt l E A (ap 40) (ap 43) (ap 44) (vp 40 0) (vp 41 0) (vp 42 0) (vp 43) (vp 44) cell step r32 hm2 (by omega) (by omega) (by omega)) (cwV 3 hts gX4_pullBy_X0_partAt rfl rfl rfl (by decide +kernel) ⟨Nat.le_of_ble_eq_true rfl, Nat.le_of_ble_eq_true rfl⟩) hE (hP.sub (ws' := moonL E (ap 40) (ap 43) (ap 44) (vp 40 0) (vp 41 0) (vp 42 0) (vp 43) (vp 44)) [17, 18, 19] rfl) rfl rfl rfl rfl hl.1 rfl (Nat.le_of_ble_eq_true rfl) dX4_pullBy_35 ⟨Nat.zero_le _, Nat.zero_le _⟩ (fun r35 h35 => ?_)
  have hf35 := h35.2
  replace h35 := h35.1
  refine lv_iadd hx hb dX4_pullBy_38 ?_
  refine lv_topi (fun x38 e38 => ?_)
  have t38 := i_add e38 (by omega)
  refine lv_istore (lv' := [(4, .int x38), (5, .int 2), (0, .ref qg), (1, .int x), (2, .int cell), (3, .int step)]) hx hb dX4_pullBy_39 hl (by decide) rfl (fun ls hl => ?_)
  refine lv_iinc (v := 3) (lv' := [(5, .int 3), (4, .int x38), (0, .ref qg), (1, .int x), (2, .int cell), (3, .int step)]) hx hb dX4_pullBy_41 hl (k := 1) rfl (by decide) (by decide) rfl (fun ls hl => ?_)
  refine lv_goto (tgt := 6) hx hb dX4_pullBy_44 (by decide) ?_
  refine lv_iload hx hb dX4_pullBy_6 (lv_at hl 0 rfl) ?_
  refine lv_iconst (v := 3) hx hb dX4_pullBy_8 (by decide) ?_
  refine lv_icmp_ge (tgt := 47) hx hb dX4_pullBy_9 (by decide) (fun _ => ?_) (fun q => absurd q (by decide))
  refine lv_iload hx hb dX4_pullBy_47 (lv_at hl 1 rfl) ?_
  subst hQ
  exact W.iret (v := x38) hx hb hr (fun t ht hW => ⟨x38, rfl, trivial, ht⟩) (fun q h => absurd h List.not_mem_nil) dX4_pullBy_49
def rm_X4_add : Room := { frames := 0, cells := 0, slots := 0, locals := 0 }
set_option maxHeartbeats 4000000 in
set_option maxRecDepth 100000 in
theorem c_X4_add (l : Launch) (E : Ev) (sz : Nat) (qg : Nat) (k2 : Nat) (k3 : Nat) (k4 : Nat) (k5 : Nat) (k7 : Nat) (sn : Int32) (fc : Int32) (l1 : Int32) (l2 : Int32) (l3 : Int32) (s2 : Nat → Int32) (s3 : Nat → Int32) (s4 : Nat → Int32) (s5 : Nat → Int32) (s7 : Nat → Int32) (qw : Nat) (x : Int32) (y : Int32) (z : Int32) (hG : SgI sn s2 s3 l1) (hx : 0 ≤ x.toInt ∧ x.toInt ≤ 23) (hy : 0 ≤ y.toInt ∧ y.toInt ≤ 999) : Met l yX4_add wsX4_add rm_X4_add (MtP E sz [.ref qg, .int x, .int y, .int z] (saL E qg k2 k3 k4 k5 k7 sn fc l1 l2 l3 s2 s3 s4 s5 s7 qw)) (va_Qv (fun (u : Int32 × (Nat → Int32) × (Nat → Int32) × (Nat → Int32)) => (SgI u.1 u.2.1 u.2.2.1 l1) ∧ ((sn.toInt < 12 → u.1.toInt = sn.toInt + 1) ∧ (sn.toInt < 12 → u.2.1 = upd s2 sn.toNatClampNeg x ∧ u.2.2.1 = upd s3 sn.toNatClampNeg y ∧ u.2.2.2 = upd s4 sn.toNatClampNeg z))) (MtB E (va_A (saL E qg k2 k3 k4 k5 k7 sn fc l1 l2 l3 s2 s3 s4 s5 s7 qw) sz) (fun u => saL E qg k2 k3 k4 k5 k7 u.1 fc l1 l2 l3 u.2.1 u.2.2.1 u.2.2.2 s5 s7 qw)) (va_A (saL E qg k2 k3 k4 k5 k7 sn fc l1 l2 l3 s2 s3 s4 s5 s7 qw) sz)) 0 0 (va_A (saL E qg k2 k3 k4 k5 k7 sn fc l1 l2 l3 s2 s3 s4 s5 s7 qw) sz) := by
  refine Met.ofW (cc := cX4_add) (maxL := 4) (ret := none) (by decide) rfl ?_
  intro p e s m args below meth c s₁ B hml hv
  obtain ⟨rfl, hsz, hE, hP, hD0⟩ := hv
  subst hsz
  have hD := hD0.self (sz := s.heap.size)
  generalize hAe : va_A (saL E qg k2 k3 k4 k5 k7 sn fc l1 l2 l3 s2 s3 s4 s5 s7 qw) s.heap.size = A at hD hE ⊢
  have hA : ∀ q : Nat, s.heap.size ≤ q → A q := fun q h => by rw [← hAe]; exact Or.inr h
  have hS : va_S A s.heap s.heap [] := va_S.rf
  have hx := B.exec
  have hb := B.bytes
  have hr := B.returns
  have hts := atoms_spec (ws := wsX4_add) B.pre
  have hown : s.vm.findClass RX4 = some m.cls := findClass_of_methodNamed B.named
  have hlocks := B.notSynchronized
  have hK := hE.1
  have in_X4 : ∀ w ∈ u_ws RX4 TX4 11, w ∈ wsX4_add := fun w h => List.mem_cons_of_mem _ (List.mem_append_right _ h)
  have lk0 := hts (.fieldLink RX4 31 "TidedGround$Sightings" "count" "I") (List.mem_of_getElem? (i := 1) rfl)
  have lk1 := hts (.fieldLink RX4 9 "TidedGround$Sightings" "cells" "[I") (List.mem_of_getElem? (i := 2) rfl)
  have lk2 := hts (.fieldLink RX4 15 "TidedGround$Sightings" "steps" "[I") (List.mem_of_getElem? (i := 3) rfl)
  have lk3 := hts (.fieldLink RX4 18 "TidedGround$Sightings" "heights" "[I") (List.mem_of_getElem? (i := 4) rfl)
  have n_0 : (0 : Int32).toInt = 0 := by decide
  have n_1 : (1 : Int32).toInt = 1 := by decide
  have n_12 : (12 : Int32).toInt = 12 := by decide
  have hl := lv_entry ([.ref qg, .int x, .int y, .int z]) (n := 4) (Nat.le_of_ble_eq_true rfl)
  rw [lg_entry_eq]
  generalize (lg_sl ([.ref qg, .int x, .int y, .int z]) ++ List.replicate (4 - (lg_sl ([.ref qg, .int x, .int y, .int z])).length) Slot.unset).toArray = ls at hl ⊢
  have hl : lv_has ls 4 [(0, .ref qg), (1, .int x), (2, .int y), (3, .int z)] := hl
  refine W_abs (fun Q hQ => ?_)
  obtain ⟨hG1, hG2, hG3, hG4⟩ := id hG
  refine lv_aload_n hx hb dX4_add_0 rfl (lv_at hl 0 rfl) ?_
  refine va_get (D := eD E) (ci := 4) (v := .int sn) (C := RX4) (T := TX4) (N := 11) hx hb hts in_X4 hown hK hP 0 rfl rfl 1 (by decide) lk0 (fun _ h9 => h9) rfl dX4_add_1 ?_
  refine lv_bipush (v := 12) hx hb dX4_add_4 (by decide) ?_
  refine lv_icmp_ge (tgt := 49) hx hb dX4_add_6 (by decide) (fun c6 => ?_) (fun c6 => ?_)
  · have c6_ := i_le c6
    subst hQ
    exact W.vret hx hb hr (fun t ht hW => ⟨⟨(sn, s2, s3, s4), rfl, (show (SgI sn s2 s3 l1) ∧ ((sn.toInt < 12 → sn.toInt = sn.toInt + 1) ∧ (sn.toInt < 12 → s2 = upd s2 sn.toNatClampNeg x ∧ s3 = upd s3 sn.toNatClampNeg y ∧ s4 = upd s4 sn.toNatClampNeg z)) from ⟨hG, ⟨(fun q => absurd q (by omega)), (fun q => absurd q (by omega))⟩⟩), by rw [ht]; exact hP, hD⟩, hS.F ht⟩) hS.2.2 dX4_add_49
  · have c6_ := i_nle c6
    refine lv_aload_n hx hb dX4_add_9 rfl (lv_at hl 0 rfl) ?_
    refine va_get (D := eD E) (ci := 4) (v := .ref k2) (C := RX4) (T := TX4) (N := 11) hx hb hts in_X4 hown hK hP 0 rfl rfl 2 (by decide) lk1 (fun _ h9 => h9) rfl dX4_add_10 ?_
    refine lv_aload_n hx hb dX4_add_13 rfl (lv_at hl 0 rfl) ?_
    refine va_get (D := eD E) (ci := 4) (v := .int sn) (C := RX4) (T := TX4) (N := 11) hx hb hts in_X4 hown hK hP 0 rfl rfl 1 (by decide) lk0 (fun _ h9 => h9) rfl dX4_add_14 ?_
    refine lv_iload_n hx hb dX4_add_17 rfl (lv_at hl 1 rfl) ?_
    refine va_iast hx hb hK hP hD hS 1 0 rfl rfl (n := 12) (f := s2) (i_in (by omega) (by omega)) dX4_add_18 (fun H locs hP hD hS => ?_)
    replace hP : va_P (eD E) vwCl (saL E qg k2 k3 k4 k5 k7 sn fc l1 l2 l3 (upd s2 sn.toNatClampNeg x) s3 s4 s5 s7 qw) H := hP
    replace hD : va_D A (saL E qg k2 k3 k4 k5 k7 sn fc l1 l2 l3 (upd s2 sn.toNatClampNeg x) s3 s4 s5 s7 qw) := hD
    generalize hv18 : upd s2 sn.toNatClampNeg x = s2_18 at hP hD
    refine lv_aload_n hx hb dX4_add_19 rfl (lv_at hl 0 rfl) ?_
    refine va_get (D := eD E) (ci := 4) (v := .ref k3) (C := RX4) (T := TX4) (N := 11) hx hb hts in_X4 hown hK hP 0 rfl rfl 3 (by decide) lk2 (fun _ h9 => h9) rfl dX4_add_20 ?_
    refine lv_aload_n hx hb dX4_add_23 rfl (lv_at hl 0 rfl) ?_
    refine va_get (D := eD E) (ci := 4) (v := .int sn) (C := RX4) (T := TX4) (N := 11) hx hb hts in_X4 hown hK hP 0 rfl rfl 1 (by decide) lk0 (fun _ h9 => h9) rfl dX4_add_24 ?_
    refine lv_iload_n hx hb dX4_add_27 rfl (lv_at hl 2 rfl) ?_
    refine va_iast hx hb hK hP hD hS 2 0 rfl rfl (n := 12) (f := s3) (i_in (by omega) (by omega)) dX4_add_28 (fun H locs hP hD hS => ?_)
    replace hP : va_P (eD E) vwCl (saL E qg k2 k3 k4 k5 k7 sn fc l1 l2 l3 s2_18 (upd s3 sn.toNatClampNeg y) s4 s5 s7 qw) H := hP
    replace hD : va_D A (saL E qg k2 k3 k4 k5 k7 sn fc l1 l2 l3 s2_18 (upd s3 sn.toNatClampNeg y) s4 s5 s7 qw) := hD
    generalize hv28 : upd s3 sn.toNatClampNeg y = s3_28 at hP hD
    refine lv_aload_n hx hb dX4_add_29 rfl (lv_at hl 0 rfl) ?_
    refine va_get (D := eD E) (ci := 4) (v := .ref k4) (C := RX4) (T := TX4) (N := 11) hx hb hts in_X4 hown hK hP 0 rfl rfl 4 (by decide) lk3 (fun _ h9 => h9) rfl dX4_add_30 ?_
    refine lv_aload_n hx hb dX4_add_33 rfl (lv_at hl 0 rfl) ?_
    refine va_get (D := eD E) (ci := 4) (v := .int sn) (C := RX4) (T := TX4) (N := 11) hx hb hts in_X4 hown hK hP 0 rfl rfl 1 (by decide) lk0 (fun _ h9 => h9) rfl dX4_add_34 ?_
    refine lv_iload_n hx hb dX4_add_37 rfl (lv_at hl 3 rfl) ?_
    refine va_iast hx hb hK hP hD hS 3 0 rfl rfl (n := 12) (f := s4) (i_in (by omega) (by omega)) dX4_add_38 (fun H locs hP hD hS => ?_)
    replace hP : va_P (eD E) vwCl (saL E qg k2 k3 k4 k5 k7 sn fc l1 l2 l3 s2_18 s3_28 (upd s4 sn.toNatClampNeg z) s5 s7 qw) H := hP
    replace hD : va_D A (saL E qg k2 k3 k4 k5 k7 sn fc l1 l2 l3 s2_18 s3_28 (upd s4 sn.toNatClampNeg z) s5 s7 qw) := hD
    generalize hv38 : upd s4 sn.toNatClampNeg z = s4_38 at hP hD
    refine lv_aload_n hx hb dX4_add_39 rfl (lv_at hl 0 rfl) ?_
    refine lv_dup hx hb dX4_add_40 rfl ?_
    refine va_get (D := eD E) (ci := 4) (v := .int sn) (C := RX4) (T := TX4) (N := 11) hx hb hts in_X4 hown hK hP 0 rfl rfl 1 (by decide) lk0 (fun _ h9 => h9) rfl dX4_add_41 ?_
    refine lv_iconst (v := 1) hx hb dX4_add_44 (by decide) ?_
    refine lv_iadd hx hb dX4_add_45 ?_
    refine lv_topi (fun x45 e45 => ?_)
    have t45 := i_add e45 (by omega)
    refine va_put (D := eD E) (ci := 4) (v := .int x45) (ty := .int) (C := RX4) (T := TX4) (N := 11) hx hb hts in_X4 tyX4 tyX4_ok nmX4 hown hK hP hD hS 0 rfl rfl 1 (by decide) lk0 (fun _ h9 => h9) rfl (by decide +kernel) rfl rfl (Nat.le_of_ble_eq_true rfl) dX4_add_46 (fun H locs hP hD hS => ?_)
    replace hP : va_P (eD E) vwCl (saL E qg k2 k3 k4 k5 k7 x45 fc l1 l2 l3 s2_18 s3_28 s4_38 s5 s7 qw) H := hP
    replace hD : va_D A (saL E qg k2 k3 k4 k5 k7 x45 fc l1 l2 l3 s2_18 s3_28 s4_38 s5 s7 qw) := hD
    subst hQ
    exact W.vret hx hb hr (fun t ht hW => ⟨⟨(x45, s2_18, s3_28, s4_38), rfl, (show (SgI x45 s2_18 s3_28 l1) ∧ ((sn.toInt < 12 → x45.toInt = sn.toInt + 1) ∧ (sn.toInt < 12 → s2_18 = upd s2 sn.toNatClampNeg x ∧ s3_28 = upd s3 sn.toNatClampNeg y ∧ s4_38 = upd s4 sn.toNatClampNeg z)) from ⟨⟨by omega, by rw [← hv18]; exact upd_b hG2 (by omega) (by omega), by rw [← hv28]; exact upd_b hG3 (by omega) (by omega), hG4⟩, ⟨(fun _ => by omega), (fun _ => ⟨hv18.symm, hv28.symm, hv38.symm⟩)⟩⟩), by rw [ht]; exact hP, hD⟩, hS.F ht⟩) hS.2.2 dX4_add_49
def rm_X4_addIfFit : Room := { frames := 2, cells := 0, slots := 0, locals := 48 }
set_option maxHeartbeats 4000000 in
set_option maxRecDepth 100000 in
theorem c_X4_addIfFit (l : Launch) (E : Ev) (sz : Nat) (qg : Nat) (k2 : Nat) (k3 : Nat) (k4 : Nat) (k5 : Nat) (k7 : Nat) (sn : Int32) (fc : Int32) (l1 : Int32) (l2 : Int32) (l3 : Int32) (s2 : Nat → Int32) (s3 : Nat → Int32) (s4 : Nat → Int32) (s5 : Nat → Int32) (s7 : Nat → Int32) (qw : Nat) (ap : Nat → Nat) (vp : Vf) (as_ : Nat → Nat) (vs : Vf) (x : Int32) (hI : PlanI vp) (hJ : StateI vs) (hG : SgI sn s2 s3 l1) (hF : fitI fc s5) (hsh : shOK x) : Met l yX4_addIfFit wsX4_addIfFit rm_X4_addIfFit (MtP E sz [.ref qg, .int x] (sgL E qg k2 k3 k4 k5 k7 sn fc l1 l2 l3 s2 s3 s4 s5 s7 qw ap vp as_ vs)) (va_Qv (fun (u : Int32 × (Nat → Int32)) => fitI u.1 u.2) (MtB E (va_A (sgL E qg k2 k3 k4 k5 k7 sn fc l1 l2 l3 s2 s3 s4 s5 s7 qw ap vp as_ vs) sz) (fun u => sgL E qg k2 k3 k4 k5 k7 sn u.1 l1 l2 l3 s2 s3 s4 u.2 s7 qw ap vp as_ vs)) (va_A (sgL E qg k2 k3 k4 k5 k7 sn fc l1 l2 l3 s2 s3 s4 s5 s7 qw ap vp as_ vs) sz)) 0 0 (va_A (sgL E qg k2 k3 k4 k5 k7 sn fc l1 l2 l3 s2 s3 s4 s5 s7 qw ap vp as_ vs) sz) := by
  refine Met.ofW (cc := cX4_addIfFit) (maxL := 4) (ret := none) (by decide) rfl ?_
  intro p e s m args below meth c s₁ B hml hv
  obtain ⟨rfl, hsz, hE, hP, hD0⟩ := hv
  subst hsz
  have hD := hD0.self (sz := s.heap.size)
  generalize hAe : va_A (sgL E qg k2 k3 k4 k5 k7 sn fc l1 l2 l3 s2 s3 s4 s5 s7 qw ap vp as_ vs) s.heap.size = A at hD hE ⊢
  have hA : ∀ q : Nat, s.heap.size ≤ q → A q := fun q h => by rw [← hAe]; exact Or.inr h
  have hS : va_S A s.heap s.heap [] := va_S.rf
  have hx := B.exec
  have hb := B.bytes
  have hr := B.returns
  have hts := atoms_spec (ws := wsX4_addIfFit) B.pre
  have hown : s.vm.findClass RX4 = some m.cls := findClass_of_methodNamed B.named
  have hlocks := B.notSynchronized
  have hK := hE.1
  have in_X4 : ∀ w ∈ u_ws RX4 TX4 11, w ∈ wsX4_addIfFit := fun w h => List.mem_cons_of_mem _ (List.mem_append_left _ (List.mem_append_left _ (List.mem_append_left _ (List.mem_append_left _ (List.mem_append_right _ h)))))
  have in_X8 : ∀ w ∈ u_ws RX8 TX8 2, w ∈ wsX4_addIfFit := fun w h => List.mem_cons_of_mem _ (List.mem_append_left _ (List.mem_append_left _ (List.mem_append_left _ (List.mem_append_right _ h))))
  have in_X1 : ∀ w ∈ u_ws RX1 TX1 11, w ∈ wsX4_addIfFit := fun w h => List.mem_cons_of_mem _ (List.mem_append_left _ (List.mem_append_left _ (List.mem_append_right _ h)))
  have lk0 := hts (.fieldLink RX4 31 "TidedGround$Sightings" "count" "I") (List.mem_of_getElem? (i := 1) rfl)
  have lk1 := hts (.fieldLink RX4 47 "TidedGround$Sightings" "foundCount" "I") (List.mem_of_getElem? (i := 8) rfl)
  have lk2 := hts (.fieldLink RX4 21 "TidedGround$Sightings" "found" "[I") (List.mem_of_getElem? (i := 9) rfl)
  have lk3 := hts (.fieldLink RX4 9 "TidedGround$Sightings" "cells" "[I") (List.mem_of_getElem? (i := 2) rfl)
  have lk4 := hts (.fieldLink RX4 27 "TidedGround$Sightings" "world" "LTidedGround$World;") (List.mem_of_getElem? (i := 3) rfl)
  have lk5 := hts (.fieldLink RX4 35 "TidedGround$World" "plan" "LTidedGround$Plan;") (List.mem_of_getElem? (i := 4) rfl)
  have lk6 := hts (.fieldLink RX4 59 "TidedGround$Plan" "base" "[I") (List.mem_of_getElem? (i := 5) rfl)
  have lk7 := hts (.fieldLink RX4 15 "TidedGround$Sightings" "steps" "[I") (List.mem_of_getElem? (i := 6) rfl)
  have lk8 := hts (.fieldLink RX4 18 "TidedGround$Sightings" "heights" "[I") (List.mem_of_getElem? (i := 7) rfl)
  have n_0 : (0 : Int32).toInt = 0 := by decide
  have n_1 : (1 : Int32).toInt = 1 := by decide
  have n_729 : (729 : Int32).toInt = 729 := by decide
  have hl := lv_entry ([.ref qg, .int x]) (n := 4) (Nat.le_of_ble_eq_true rfl)
  rw [lg_entry_eq]
  generalize (lg_sl ([.ref qg, .int x]) ++ List.replicate (4 - (lg_sl ([.ref qg, .int x])).length) Slot.unset).toArray = ls at hl ⊢
  have hl : lv_has ls 4 [(0, .ref qg), (1, .int x)] := hl
  refine W_abs (fun Q hQ => ?_)
  obtain ⟨hg, hmc, hm0, hm1, hm2, hs0, hs1, hs2, hs3⟩ := id hI
  obtain ⟨hg1, hg2, hg3, hg4⟩ := id hg
  have hz0 := hm0.1
  have hz1 := hm1.1
  have hz2 := hm2.1
  have hc0 := hs0.1
  have hc1 := hs1.1
  have hc2 := hs2.1
  have hc3 := hs3.1
  obtain ⟨hj0, hj1, hj2⟩ := id hJ
  obtain ⟨hG1, hG2, hG3, hG4⟩ := id hG
  have hF1 := hF.1
  refine lv_iconst (v := 0) hx hb dX4_addIfFit_0 (by decide) ?_
  refine lv_istore_n (lv' := [(2, .int 0), (0, .ref qg), (1, .int x)]) hx hb dX4_addIfFit_1 rfl hl (by decide) rfl (fun ls hl => ?_)
  have K2 : ∀ (μ : Nat) (i : Int32) (H : Heap) (locs : List Loc) (ls : Array Slot), (12 - i.toInt).toNat < μ → va_P (eD E) vwCl (sgL E qg k2 k3 k4 k5 k7 sn fc l1 l2 l3 s2 s3 s4 s5 s7 qw ap vp as_ vs) H → va_D A (sgL E qg k2 k3 k4 k5 k7 sn fc l1 l2 l3 s2 s3 s4 s5 s7 qw ap vp as_ vs) → va_S A s.heap H locs → (0 ≤ i.toInt ∧ i.toInt ≤ 12) → lv_has ls 4 [(0, .ref qg), (1, .int x), (2, .int i)] → W p l e (headSpec wsX4_addIfFit rm_X4_addIfFit).room s m ([.ref qg, .int x] : List Value).toArray below meth c H locs 0 0 Q (F0 m 2 ls []) := by
    intro μ
    induction μ with
    | zero =>
      intro i H locs ls hμ2
      exact absurd hμ2 (Nat.not_lt_zero _)
    | succ μ ih2 =>
      intro i H locs ls hμ2 hP hD hS h2_0 hl
      refine lv_iload_n hx hb dX4_addIfFit_2 rfl (lv_at hl 2 rfl) ?_
      refine lv_aload_n hx hb dX4_addIfFit_3 rfl (lv_at hl 0 rfl) ?_
      refine va_get (D := eD E) (ci := 4) (v := .int sn) (C := RX4) (T := TX4) (N := 11) hx hb hts in_X4 hown hK hP 0 rfl rfl 1 (by decide) lk0 (fun _ h9 => h9) rfl dX4_addIfFit_4 ?_
      refine lv_icmp_ge (tgt := 67) hx hb dX4_addIfFit_7 (by decide) (fun c7 => ?_) (fun c7 => ?_)
      · have c7_ := i_le c7
        refine lv_aload_n hx hb dX4_addIfFit_67 rfl (lv_at hl 0 rfl) ?_
        refine va_get (D := eD E) (ci := 4) (v := .int fc) (C := RX4) (T := TX4) (N := 11) hx hb hts in_X4 hown hK hP 0 rfl rfl 6 (by decide) lk1 (fun _ h9 => h9) rfl dX4_addIfFit_68 ?_
        refine lv_sipush (v := 729) hx hb dX4_addIfFit_71 (by decide) ?_
        refine lv_icmp_ge (tgt := 97) hx hb dX4_addIfFit_74 (by decide) (fun c74 => ?_) (fun c74 => ?_)
        · have c74_ := i_le c74
          subst hQ
          exact W.vret hx hb hr (fun t ht hW => ⟨⟨(fc, s5), rfl, (show fitI fc s5 from hF), by rw [ht]; exact hP, hD⟩, hS.F ht⟩) hS.2.2 dX4_addIfFit_97
        · have c74_ := i_nle c74
          refine lv_aload_n hx hb dX4_addIfFit_77 rfl (lv_at hl 0 rfl) ?_
          refine va_get (D := eD E) (ci := 4) (v := .ref k5) (C := RX4) (T := TX4) (N := 11) hx hb hts in_X4 hown hK hP 0 rfl rfl 5 (by decide) lk2 (fun _ h9 => h9) rfl dX4_addIfFit_78 ?_
          refine lv_aload_n hx hb dX4_addIfFit_81 rfl (lv_at hl 0 rfl) ?_
          refine va_get (D := eD E) (ci := 4) (v := .int fc) (C := RX4) (T := TX4) (N := 11) hx hb hts in_X4 hown hK hP 0 rfl rfl 6 (by decide) lk1 (fun _ h9 => h9) rfl dX4_addIfFit_82 ?_
          refine lv_iload_n hx hb dX4_addIfFit_85 rfl (lv_at hl 1 rfl) ?_
          refine va_iast hx hb hK hP hD hS 4 0 rfl rfl (n := 729) (f := s5) (i_in (by omega) (by omega)) dX4_addIfFit_86 (fun H locs hP hD hS => ?_)
          replace hP : va_P (eD E) vwCl (sgL E qg k2 k3 k4 k5 k7 sn fc l1 l2 l3 s2 s3 s4 (upd s5 fc.toNatClampNeg x) s7 qw ap vp as_ vs) H := hP
          replace hD : va_D A (sgL E qg k2 k3 k4 k5 k7 sn fc l1 l2 l3 s2 s3 s4 (upd s5 fc.toNatClampNeg x) s7 qw ap vp as_ vs) := hD
          generalize hv86 : upd s5 fc.toNatClampNeg x = s5_86 at hP hD
          refine lv_aload_n hx hb dX4_addIfFit_87 rfl (lv_at hl 0 rfl) ?_
          refine lv_dup hx hb dX4_addIfFit_88 rfl ?_
          refine va_get (D := eD E) (ci := 4) (v := .int fc) (C := RX4) (T := TX4) (N := 11) hx hb hts in_X4 hown hK hP 0 rfl rfl 6 (by decide) lk1 (fun _ h9 => h9) rfl dX4_addIfFit_89 ?_
          refine lv_iconst (v := 1) hx hb dX4_addIfFit_92 (by decide) ?_
          refine lv_iadd hx hb dX4_addIfFit_93 ?_
          refine lv_topi (fun x93 e93 => ?_)
          have t93 := i_add e93 (by omega)
          refine va_put (D := eD E) (ci := 4) (v := .int x93) (ty := .int) (C := RX4) (T := TX4) (N := 11) hx hb hts in_X4 tyX4 tyX4_ok nmX4 hown hK hP hD hS 0 rfl rfl 6 (by decide) lk1 (fun _ h9 => h9) rfl (by decide +kernel) rfl rfl (Nat.le_of_ble_eq_true rfl) dX4_addIfFit_94 (fun H locs hP hD hS => ?_)
          replace hP : va_P (eD E) vwCl (sgL E qg k2 k3 k4 k5 k7 sn x93 l1 l2 l3 s2 s3 s4 s5_86 s7 qw ap vp as_ vs) H := hP
          replace hD : va_D A (sgL E qg k2 k3 k4 k5 k7 sn x93 l1 l2 l3 s2 s3 s4 s5_86 s7 qw ap vp as_ vs) := hD
          subst hQ
          exact W.vret hx hb hr (fun t ht hW => ⟨⟨(x93, s5_86), rfl, (show fitI x93 s5_86 from (by rw [← hv86]; exact fit_up hF (by omega) hsh (by omega))), by rw [ht]; exact hP, hD⟩, hS.F ht⟩) hS.2.2 dX4_addIfFit_97
      · have c7_ := i_nle c7
        refine lv_aload_n hx hb dX4_addIfFit_10 rfl (lv_at hl 0 rfl) ?_
        refine va_get (D := eD E) (ci := 4) (v := .ref k2) (C := RX4) (T := TX4) (N := 11) hx hb hts in_X4 hown hK hP 0 rfl rfl 2 (by decide) lk3 (fun _ h9 => h9) rfl dX4_addIfFit_11 ?_
        refine lv_iload_n hx hb dX4_addIfFit_14 rfl (lv_at hl 2 rfl) ?_
        refine va_iald hx hb hK hP 1 0 rfl rfl (n := 12) (f := s2) (i_in (by omega) (by omega)) dX4_addIfFit_15 ?_
        refine lv_topi (fun x15 e15 => ?_)
        have b15 := hG2 i.toNatClampNeg (i_natlt (by omega) (by decide))
        rw [← e15] at b15
        refine lv_istore_n (lv' := [(3, .int x15), (0, .ref qg), (1, .int x), (2, .int i)]) hx hb dX4_addIfFit_16 rfl hl (by decide) rfl (fun ls hl => ?_)
        refine lv_aload_n hx hb dX4_addIfFit_17 rfl (lv_at hl 1 rfl) ?_
        refine va_get (D := eD E) (ci := 4) (v := .ref qw) (C := RX4) (T := TX4) (N := 11) hx hb hts in_X4 hown hK hP 0 rfl rfl 0 (by decide) lk4 (fun _ h9 => h9) rfl dX4_addIfFit_18 ?_
        refine va_get (D := eD E) (ci := 8) (v := .ref (ap 0)) (C := RX8) (T := TX8) (N := 2) hx hb hts in_X8 hown hK hP 6 rfl rfl 0 (by decide) lk5 (fun _ h9 => h9) rfl dX4_addIfFit_21 ?_
        refine va_get (D := eD E) (ci := 1) (v := .ref (ap 3)) (C := RX1) (T := TX1) (N := 11) hx hb hts in_X1 hown hK hP 7 rfl rfl 3 (by decide) lk6 (fun _ h9 => h9) rfl dX4_addIfFit_24 ?_
        refine lv_iload_n hx hb dX4_addIfFit_27 rfl (lv_at hl 0 rfl) ?_
        refine va_iald hx hb hK hP 8 0 rfl rfl (n := 24) (f := (vp 3)) (i_in (by omega) (by omega)) dX4_addIfFit_28 ?_
        refine lv_topi (fun x28 e28 => ?_)
        refine lv_aload_n hx hb dX4_addIfFit_29 rfl (lv_at hl 1 rfl) ?_
        refine va_get (D := eD E) (ci := 4) (v := .ref qw) (C := RX4) (T := TX4) (N := 11) hx hb hts in_X4 hown hK hP 0 rfl rfl 0 (by decide) lk4 (fun _ h9 => h9) rfl dX4_addIfFit_30 ?_
        refine lv_iload_n hx hb dX4_addIfFit_33 rfl (lv_at hl 0 rfl) ?_
        refine rd_V (As := [.int x15]) (rest := [.int x28]) (C := RX8) (ci := 8) ⟨hx, hb, hml, hown, hts⟩ (c_X8_stiffOf l E A qw ap vp as_ vs x15 hI hJ (by omega)) (cwV 1 hts gX4_addIfFit_X8_stiffOf rfl rfl rfl (by decide +kernel) ⟨Nat.le_of_ble_eq_true rfl, Nat.le_of_ble_eq_true rfl⟩) (hE.kept hS.2.1) (hP.sub (ws' := wpsL E qw ap vp as_ vs) [6, 7, 8, 9, 10, 11, 12, 13, 14, 15, 16, 17, 18, 19, 20, 21, 22, 23, 24, 25, 26, 27, 28, 29, 30, 31, 32, 33, 34, 35, 36, 37, 38, 39] rfl) rfl rfl rfl rfl hl.1 rfl (Nat.le_of_ble_eq_true rfl) dX4_addIfFit_34 ⟨Nat.zero_le _, Nat.zero_le _⟩ (fun r34 h34 => ?_)
        have hf34 := h34.2
        replace h34 := h34.1
        refine lv_aload_n hx hb dX4_addIfFit_37 rfl (lv_at hl 1 rfl) ?_
        refine lv_iload_n hx hb dX4_addIfFit_38 rfl (lv_at hl 2 rfl) ?_
        refine lv_iload_n hx hb dX4_addIfFit_39 rfl (lv_at hl 0 rfl) ?_
        refine lv_aload_n hx hb dX4_addIfFit_40 rfl (lv_at hl 1 rfl) ?_
        refine va_get (D := eD E) (ci := 4) (v := .ref k3) (C := RX4) (T := TX4) (N := 11) hx hb hts in_X4 hown hK hP 0 rfl rfl 3 (by decide) lk7 (fun _ h9 => h9) rfl dX4_addIfFit_41 ?_
        refine lv_iload_n hx hb dX4_addIfFit_44 rfl (lv_at hl 3 rfl) ?_
        refine va_iald hx hb hK hP 2 0 rfl rfl (n := 12) (f := s3) (i_in (by omega) (by omega)) dX4_addIfFit_45 ?_
        refine lv_topi (fun x45 e45 => ?_)
        have b45 := hG3 i.toNatClampNeg (i_natlt (by omega) (by decide))
        rw [← e45] at b45
        refine rd_V (As := [.int x, .int x15, .int x45]) (rest := [.int r34, .int x28]) (C := RX4) (ci := 4) ⟨hx, hb, hml, hown, hts⟩ (c_X4_pullBy l E A qg k2 k3 k4 k5 k7 sn fc l1 l2 l3 s2 s3 s4 s5 s7 qw ap vp as_ vs x x15 x45 hI hJ hG hsh (by omega) (by omega)) (cwV 3 hts gX4_addIfFit_X4_pullBy rfl rfl rfl (by decide +kernel) ⟨Nat.le_of_ble_eq_true rfl, Nat.le_of_ble_eq_true rfl⟩) (hE.kept hS.2.1) (hP.sub (ws' := sgL E qg k2 k3 k4 k5 k7 sn fc l1 l2 l3 s2 s3 s4 s5 s7 qw ap vp as_ vs) [0, 1, 2, 3, 4, 5, 6, 7, 8, 9, 10, 11, 12, 13, 14, 15, 16, 17, 18, 19, 20, 21, 22, 23, 24, 25, 26, 27, 28, 29, 30, 31, 32, 33, 34, 35, 36, 37, 38, 39] rfl) rfl rfl rfl rfl hl.1 rfl (Nat.le_of_ble_eq_true rfl) dX4_addIfFit_46 ⟨Nat.zero_le _, Nat.zero_le _⟩ (fun r46 h46 => ?_)
        refine lv_imul hx hb dX4_addIfFit_49 ?_
        refine lv_topi (fun x49 e49 => ?_)
        refine lv_iadd hx hb dX4_addIfFit_50 ?_
        refine lv_topi (fun x50 e50 => ?_)
        refine lv_aload_n hx hb dX4_addIfFit_51 rfl (lv_at hl 1 rfl) ?_
        refine va_get (D := eD E) (ci := 4) (v := .ref k4) (C := RX4) (T := TX4) (N := 11) hx hb hts in_X4 hown hK hP 0 rfl rfl 4 (by decide) lk8 (fun _ h9 => h9) rfl dX4_addIfFit_52 ?_
        refine lv_iload_n hx hb dX4_addIfFit_55 rfl (lv_at hl 3 rfl) ?_
        refine va_iald hx hb hK hP 3 0 rfl rfl (n := 12) (f := s4) (i_in (by omega) (by omega)) dX4_addIfFit_56 ?_
        refine lv_topi (fun x56 e56 => ?_)
        refine lv_icmp_eq (tgt := 61) hx hb dX4_addIfFit_57 (by decide) (fun c57 => ?_) (fun c57 => ?_)
        · have c57_ := i_eq c57
          obtain ⟨x61, e61⟩ : ∃ y : Int32, y = i + 1 := ⟨_, rfl⟩
          refine lv_iinc (v := x61) (lv' := [(2, .int x61), (3, .int x15), (0, .ref qg), (1, .int x)]) hx hb dX4_addIfFit_61 hl (k := 3) rfl (by rw [e61]; rfl) (by decide) rfl (fun ls hl => ?_)
          have t61 := i_add e61 (by omega)
          refine lv_goto (tgt := 2) hx hb dX4_addIfFit_64 (by decide) ?_
          exact ih2 x61 _ _ ls (by omega) hP hD hS (by omega) (lv_sub hl [2, 3, 0] rfl)
        · have c57_ := i_ne c57
          subst hQ
          exact W.vret hx hb hr (fun t ht hW => ⟨⟨(fc, s5), rfl, (show fitI fc s5 from hF), by rw [ht]; exact hP, hD⟩, hS.F ht⟩) hS.2.2 dX4_addIfFit_60
  exact K2 _ 0 _ _ ls (Nat.lt_succ_self _) hP hD hS (by omega) (lv_sub hl [1, 2, 0] rfl)
def rm_X4_findFits : Room := { frames := 3, cells := 0, slots := 0, locals := 71 }
set_option maxHeartbeats 4000000 in
set_option maxRecDepth 100000 in
theorem c_X4_findFits (l : Launch) (E : Ev) (sz : Nat) (qg : Nat) (k2 : Nat) (k3 : Nat) (k4 : Nat) (k5 : Nat) (k7 : Nat) (sn : Int32) (fc : Int32) (l1 : Int32) (l2 : Int32) (l3 : Int32) (s2 : Nat → Int32) (s3 : Nat → Int32) (s4 : Nat → Int32) (s5 : Nat → Int32) (s7 : Nat → Int32) (qw : Nat) (ap : Nat → Nat) (vp : Vf) (as_ : Nat → Nat) (vs : Vf) (hI : PlanI vp) (hJ : StateI vs) (hG : SgI sn s2 s3 l1) : Met l yX4_findFits wsX4_findFits rm_X4_findFits (MtP E sz [.ref qg] (sgL E qg k2 k3 k4 k5 k7 sn fc l1 l2 l3 s2 s3 s4 s5 s7 qw ap vp as_ vs)) (va_Qi (fun (r : Int32) (u : Int32 × (Nat → Int32)) => fitI u.1 u.2 ∧ r = u.1) (MtB E (va_A (sgL E qg k2 k3 k4 k5 k7 sn fc l1 l2 l3 s2 s3 s4 s5 s7 qw ap vp as_ vs) sz) (fun u => sgL E qg k2 k3 k4 k5 k7 sn u.1 l1 l2 l3 s2 s3 s4 u.2 s7 qw ap vp as_ vs)) (va_A (sgL E qg k2 k3 k4 k5 k7 sn fc l1 l2 l3 s2 s3 s4 s5 s7 qw ap vp as_ vs) sz)) 0 0 (va_A (sgL E qg k2 k3 k4 k5 k7 sn fc l1 l2 l3 s2 s3 s4 s5 s7 qw ap vp as_ vs) sz) := by
  refine Met.ofW (cc := cX4_findFits) (maxL := 5) (ret := (some .int)) (by decide) rfl ?_
  intro p e s m args below meth c s₁ B hml hv
  obtain ⟨rfl, hsz, hE, hP, hD0⟩ := hv
  subst hsz
  have hD := hD0.self (sz := s.heap.size)
  generalize hAe : va_A (sgL E qg k2 k3 k4 k5 k7 sn fc l1 l2 l3 s2 s3 s4 s5 s7 qw ap vp as_ vs) s.heap.size = A at hD hE ⊢
  have hA : ∀ q : Nat, s.heap.size ≤ q → A q := fun q h => by rw [← hAe]; exact Or.inr h
  have hS : va_S A s.heap s.heap [] := va_S.rf
  have hx := B.exec
  have hb := B.bytes
  have hr := B.returns
  have hts := atoms_spec (ws := wsX4_findFits) B.pre
  have hown : s.vm.findClass RX4 = some m.cls := findClass_of_methodNamed B.named
  have hlocks := B.notSynchronized
  have hK := hE.1
  have in_X4 : ∀ w ∈ u_ws RX4 TX4 11, w ∈ wsX4_findFits := fun w h => List.mem_cons_of_mem _ (List.mem_append_left _ (List.mem_append_left _ (List.mem_append_left _ (List.mem_append_left _ (List.mem_append_right _ h)))))
  have in_X8 : ∀ w ∈ u_ws RX8 TX8 2, w ∈ wsX4_findFits := fun w h => List.mem_cons_of_mem _ (List.mem_append_left _ (List.mem_append_left _ (List.mem_append_left _ (List.mem_append_right _ h))))
  have in_X1 : ∀ w ∈ u_ws RX1 TX1 11, w ∈ wsX4_findFits := fun w h => List.mem_cons_of_mem _ (List.mem_append_left _ (List.mem_append_left _ (List.mem_append_right _ h)))
  have in_X0 : ∀ w ∈ u_ws RX0 TX0 5, w ∈ wsX4_findFits := fun w h => List.mem_cons_of_mem _ (List.mem_append_left _ (List.mem_append_right _ h))
  have lk0 := hts (.fieldLink RX4 27 "TidedGround$Sightings" "world" "LTidedGround$World;") (List.mem_of_getElem? (i := 1) rfl)
  have lk1 := hts (.fieldLink RX4 35 "TidedGround$World" "plan" "LTidedGround$Plan;") (List.mem_of_getElem? (i := 2) rfl)
  have lk2 := hts (.fieldLink RX4 41 "TidedGround$Plan" "moons" "[LTidedGround$Moon;") (List.mem_of_getElem? (i := 3) rfl)
  have lk3 := hts (.fieldLink RX4 47 "TidedGround$Sightings" "foundCount" "I") (List.mem_of_getElem? (i := 4) rfl)
  have lk4 := hts (.fieldLink RX4 50 "TidedGround$Moon" "size" "I") (List.mem_of_getElem? (i := 5) rfl)
  have n_0 : (0 : Int32).toInt = 0 := by decide
  have n_1 : (1 : Int32).toInt = 1 := by decide
  have n_2 : (2 : Int32).toInt = 2 := by decide
  have n_4 : (4 : Int32).toInt = 4 := by decide
  have n_8 : (8 : Int32).toInt = 8 := by decide
  have hl := lv_entry ([.ref qg]) (n := 5) (Nat.le_of_ble_eq_true rfl)
  rw [lg_entry_eq]
  generalize (lg_sl ([.ref qg]) ++ List.replicate (5 - (lg_sl ([.ref qg])).length) Slot.unset).toArray = ls at hl ⊢
  have hl : lv_has ls 5 [(0, .ref qg)] := hl
  refine W_abs (fun Q hQ => ?_)
  obtain ⟨hg, hmc, hm0, hm1, hm2, hs0, hs1, hs2, hs3⟩ := id hI
  obtain ⟨hg1, hg2, hg3, hg4⟩ := id hg
  have hz0 := hm0.1
  have hz1 := hm1.1
  have hz2 := hm2.1
  have hc0 := hs0.1
  have hc1 := hs1.1
  have hc2 := hs2.1
  have hc3 := hs3.1
  obtain ⟨hj0, hj1, hj2⟩ := id hJ
  obtain ⟨hG1, hG2, hG3, hG4⟩ := id hG
  refine lv_aload_n hx hb dX4_findFits_0 rfl (lv_at hl 0 rfl) ?_
  refine va_get (D := eD E) (ci := 4) (v := .ref qw) (C := RX4) (T := TX4) (N := 11) hx hb hts in_X4 hown hK hP 0 rfl rfl 0 (by decide) lk0 (fun _ h9 => h9) rfl dX4_findFits_1 ?_
  refine va_get (D := eD E) (ci := 8) (v := .ref (ap 0)) (C := RX8) (T := TX8) (N := 2) hx hb hts in_X8 hown hK hP 6 rfl rfl 0 (by decide) lk1 (fun _ h9 => h9) rfl dX4_findFits_4 ?_
  refine va_get (D := eD E) (ci := 1) (v := .ref (ap 6)) (C := RX1) (T := TX1) (N := 11) hx hb hts in_X1 hown hK hP 7 rfl rfl 6 (by decide) lk2 (fun _ h9 => h9) rfl dX4_findFits_7 ?_
  refine lv_astore_n (lv' := [(1, .ref (ap 6)), (0, .ref qg)]) hx hb dX4_findFits_10 rfl hl (by decide) rfl (fun ls hl => ?_)
  refine lv_aload_n hx hb dX4_findFits_11 rfl (lv_at hl 1 rfl) ?_
  refine lv_iconst (v := 0) hx hb dX4_findFits_12 (by decide) ?_
  refine va_put (D := eD E) (ci := 4) (v := .int 0) (ty := .int) (C := RX4) (T := TX4) (N := 11) hx hb hts in_X4 tyX4 tyX4_ok nmX4 hown hK hP hD hS 0 rfl rfl 6 (by decide) lk3 (fun _ h9 => h9) rfl (by decide +kernel) rfl rfl (Nat.le_of_ble_eq_true rfl) dX4_findFits_13 (fun H locs hP hD hS => ?_)
  replace hP : va_P (eD E) vwCl (sgL E qg k2 k3 k4 k5 k7 sn 0 l1 l2 l3 s2 s3 s4 s5 s7 qw ap vp as_ vs) H := hP
  replace hD : va_D A (sgL E qg k2 k3 k4 k5 k7 sn 0 l1 l2 l3 s2 s3 s4 s5 s7 qw ap vp as_ vs) := hD
  refine lv_iconst (v := 0) hx hb dX4_findFits_16 (by decide) ?_
  refine lv_istore_n (lv' := [(2, .int 0), (1, .ref (ap 6)), (0, .ref qg)]) hx hb dX4_findFits_17 rfl hl (by decide) rfl (fun ls hl => ?_)
  have K18 : ∀ (μ : Nat) (a : Int32) (f1 : Int32) (p1 : Nat → Int32) (H : Heap) (locs : List Loc) (ls : Array Slot), (9 - a.toInt).toNat < μ → va_P (eD E) vwCl (sgL E qg k2 k3 k4 k5 k7 sn f1 l1 l2 l3 s2 s3 s4 p1 s7 qw ap vp as_ vs) H → va_D A (sgL E qg k2 k3 k4 k5 k7 sn f1 l1 l2 l3 s2 s3 s4 p1 s7 qw ap vp as_ vs) → va_S A s.heap H locs → (0 ≤ a.toInt ∧ a.toInt ≤ 9) → (fitI f1 p1) → lv_has ls 5 [(0, .ref qg), (1, .ref (ap 6)), (2, .int a)] → W p l e (headSpec wsX4_findFits rm_X4_findFits).room s m ([.ref qg] : List Value).toArray below meth c H locs 0 0 Q (F0 m 18 ls []) := by
    intro μ
    induction μ with
    | zero =>
      intro a f1 p1 H locs ls hμ18
      exact absurd hμ18 (Nat.not_lt_zero _)
    | succ μ ih18 =>
      intro a f1 p1 H locs ls hμ18 hP hD hS h18_0 h18_1 hl
      refine lv_iload_n hx hb dX4_findFits_18 rfl (lv_at hl 2 rfl) ?_
      refine lv_aload_n hx hb dX4_findFits_19 rfl (lv_at hl 1 rfl) ?_
      refine lv_iconst (v := 0) hx hb dX4_findFits_20 (by decide) ?_
      refine va_aldq hx hb hK hP 10 2 rfl rfl (i_in (by decide) (by decide)) dX4_findFits_21 ?_
      refine W.eq (g2 := F0 m 22 ls [.ref (ap 20), .int a]) rfl ?_
      refine va_get (D := eD E) (ci := 0) (v := .int (vp 20 0)) (C := RX0) (T := TX0) (N := 5) hx hb hts in_X0 hown hK hP 11 rfl rfl 0 (by decide) lk4 (fun _ h9 => h9) rfl dX4_findFits_22 ?_
      refine lv_icmp_ge (tgt := 87) hx hb dX4_findFits_25 (by decide) (fun c25 => ?_) (fun c25 => ?_)
      · have c25_ := i_le c25
        refine lv_aload_n hx hb dX4_findFits_87 rfl (lv_at hl 0 rfl) ?_
        refine va_get (D := eD E) (ci := 4) (v := .int f1) (C := RX4) (T := TX4) (N := 11) hx hb hts in_X4 hown hK hP 0 rfl rfl 6 (by decide) lk3 (fun _ h9 => h9) rfl dX4_findFits_88 ?_
        subst hQ
        exact W.iret (v := f1) hx hb hr (fun t ht hW => ⟨⟨f1, (f1, p1), rfl, (show fitI f1 p1 ∧ f1 = f1 from ⟨h18_1, rfl⟩), by rw [ht]; exact hP, hD⟩, hS.F ht⟩) hS.2.2 dX4_findFits_91
      · have c25_ := i_nle c25
        refine lv_iconst (v := 0) hx hb dX4_findFits_28 (by decide) ?_
        refine lv_istore_n (lv' := [(3, .int 0), (0, .ref qg), (1, .ref (ap 6)), (2, .int a)]) hx hb dX4_findFits_29 rfl hl (by decide) rfl (fun ls hl => ?_)
        have K30 : ∀ (μ : Nat) (b : Int32) (f2 : Int32) (p2 : Nat → Int32) (H : Heap) (locs : List Loc) (ls : Array Slot), (9 - b.toInt).toNat < μ → va_P (eD E) vwCl (sgL E qg k2 k3 k4 k5 k7 sn f2 l1 l2 l3 s2 s3 s4 p2 s7 qw ap vp as_ vs) H → va_D A (sgL E qg k2 k3 k4 k5 k7 sn f2 l1 l2 l3 s2 s3 s4 p2 s7 qw ap vp as_ vs) → va_S A s.heap H locs → (0 ≤ b.toInt ∧ b.toInt ≤ 9) → (fitI f2 p2) → lv_has ls 5 [(0, .ref qg), (1, .ref (ap 6)), (2, .int a), (3, .int b)] → W p l e (headSpec wsX4_findFits rm_X4_findFits).room s m ([.ref qg] : List Value).toArray below meth c H locs 0 0 Q (F0 m 30 ls []) := by
          intro μ
          induction μ with
          | zero =>
            intro b f2 p2 H locs ls hμ30
            exact absurd hμ30 (Nat.not_lt_zero _)
          | succ μ ih30 =>
            intro b f2 p2 H locs ls hμ30 hP hD hS h30_0 h30_1 hl
            refine lv_iload_n hx hb dX4_findFits_30 rfl (lv_at hl 3 rfl) ?_
            refine lv_aload_n hx hb dX4_findFits_31 rfl (lv_at hl 1 rfl) ?_
            refine lv_iconst (v := 1) hx hb dX4_findFits_32 (by decide) ?_
            refine va_aldq hx hb hK hP 10 2 rfl rfl (i_in (by decide) (by decide)) dX4_findFits_33 ?_
            refine W.eq (g2 := F0 m 34 ls [.ref (ap 30), .int b]) rfl ?_
            refine va_get (D := eD E) (ci := 0) (v := .int (vp 30 0)) (C := RX0) (T := TX0) (N := 5) hx hb hts in_X0 hown hK hP 14 rfl rfl 0 (by decide) lk4 (fun _ h9 => h9) rfl dX4_findFits_34 ?_
            refine lv_icmp_ge (tgt := 81) hx hb dX4_findFits_37 (by decide) (fun c37 => ?_) (fun c37 => ?_)
            · have c37_ := i_le c37
              obtain ⟨x81, e81⟩ : ∃ y : Int32, y = a + 1 := ⟨_, rfl⟩
              refine lv_iinc (v := x81) (lv' := [(2, .int x81), (0, .ref qg), (1, .ref (ap 6)), (3, .int b)]) hx hb dX4_findFits_81 hl (k := 2) rfl (by rw [e81]; rfl) (by decide) rfl (fun ls hl => ?_)
              have t81 := i_add e81 (by omega)
              refine lv_goto (tgt := 18) hx hb dX4_findFits_84 (by decide) ?_
              exact ih18 x81 f2 p2 _ _ ls (by omega) hP hD hS (by omega) h30_1 (lv_sub hl [1, 2, 0] rfl)
            · have c37_ := i_nle c37
              refine lv_iconst (v := 0) hx hb dX4_findFits_40 (by decide) ?_
              refine lv_istore (lv' := [(4, .int 0), (0, .ref qg), (1, .ref (ap 6)), (2, .int a), (3, .int b)]) hx hb dX4_findFits_41 hl (by decide) rfl (fun ls hl => ?_)
              have K43 : ∀ (μ : Nat) (c3 : Int32) (f3 : Int32) (p3 : Nat → Int32) (H : Heap) (locs : List Loc) (ls : Array Slot), (9 - c3.toInt).toNat < μ → va_P (eD E) vwCl (sgL E qg k2 k3 k4 k5 k7 sn f3 l1 l2 l3 s2 s3 s4 p3 s7 qw ap vp as_ vs) H → va_D A (sgL E qg k2 k3 k4 k5 k7 sn f3 l1 l2 l3 s2 s3 s4 p3 s7 qw ap vp as_ vs) → va_S A s.heap H locs → (0 ≤ c3.toInt ∧ c3.toInt ≤ 9) → (fitI f3 p3) → lv_has ls 5 [(0, .ref qg), (1, .ref (ap 6)), (2, .int a), (3, .int b), (4, .int c3)] → W p l e (headSpec wsX4_findFits rm_X4_findFits).room s m ([.ref qg] : List Value).toArray below meth c H locs 0 0 Q (F0 m 43 ls []) := by
                intro μ
                induction μ with
                | zero =>
                  intro c3 f3 p3 H locs ls hμ43
                  exact absurd hμ43 (Nat.not_lt_zero _)
                | succ μ ih43 =>
                  intro c3 f3 p3 H locs ls hμ43 hP hD hS h43_0 h43_1 hl
                  refine lv_iload hx hb dX4_findFits_43 (lv_at hl 4 rfl) ?_
                  refine lv_aload_n hx hb dX4_findFits_45 rfl (lv_at hl 1 rfl) ?_
                  refine lv_iconst (v := 2) hx hb dX4_findFits_46 (by decide) ?_
                  refine va_aldq hx hb hK hP 10 2 rfl rfl (i_in (by decide) (by decide)) dX4_findFits_47 ?_
                  refine W.eq (g2 := F0 m 48 ls [.ref (ap 40), .int c3]) rfl ?_
                  refine va_get (D := eD E) (ci := 0) (v := .int (vp 40 0)) (C := RX0) (T := TX0) (N := 5) hx hb hts in_X0 hown hK hP 17 rfl rfl 0 (by decide) lk4 (fun _ h9 => h9) rfl dX4_findFits_48 ?_
                  refine lv_icmp_ge (tgt := 75) hx hb dX4_findFits_51 (by decide) (fun c51 => ?_) (fun c51 => ?_)
                  · have c51_ := i_le c51
                    obtain ⟨x75, e75⟩ : ∃ y : Int32, y = b + 1 := ⟨_, rfl⟩
                    refine lv_iinc (v := x75) (lv' := [(3, .int x75), (0, .ref qg), (1, .ref (ap 6)), (2, .int a), (4, .int c3)]) hx hb dX4_findFits_75 hl (k := 3) rfl (by rw [e75]; rfl) (by decide) rfl (fun ls hl => ?_)
                    have t75 := i_add e75 (by omega)
                    refine lv_goto (tgt := 30) hx hb dX4_findFits_78 (by decide) ?_
                    exact ih30 x75 f3 p3 _ _ ls (by omega) hP hD hS (by omega) h43_1 (lv_sub hl [1, 2, 3, 0] rfl)
                  · have c51_ := i_nle c51
                    refine lv_aload_n hx hb dX4_findFits_54 rfl (lv_at hl 0 rfl) ?_
                    refine lv_iload_n hx hb dX4_findFits_55 rfl (lv_at hl 2 rfl) ?_
                    refine lv_iload_n hx hb dX4_findFits_56 rfl (lv_at hl 3 rfl) ?_
                    refine lv_iconst (v := 4) hx hb dX4_findFits_57 (by decide) ?_
                    refine lv_ishl hx hb dX4_findFits_58 ?_
                    refine lv_topi (fun x58 e58 => ?_)
                    refine lv_ior hx hb dX4_findFits_59 ?_
                    refine lv_topi (fun x59 e59 => ?_)
                    refine lv_iload hx hb dX4_findFits_60 (lv_at hl 4 rfl) ?_
                    refine lv_bipush (v := 8) hx hb dX4_findFits_62 (by decide) ?_
                    refine lv_ishl hx hb dX4_findFits_64 ?_
                    refine lv_topi (fun x64 e64 => ?_)
                    refine lv_ior hx hb dX4_findFits_65 ?_
                    refine lv_topi (fun x65 e65 => ?_)
                    refine mt_Vv (w1 := fun (u : Int32 × (Nat → Int32)) => sgL E qg k2 k3 k4 k5 k7 sn u.1 l1 l2 l3 s2 s3 s4 u.2 s7 qw ap vp as_ vs) (wf := fun (u : Int32 × (Nat → Int32)) => sgL E qg k2 k3 k4 k5 k7 sn u.1 l1 l2 l3 s2 s3 s4 u.2 s7 qw ap vp as_ vs) (wr := []) (As := [.int x65]) (rest := []) (C := RX4) (ci := 4) ⟨hx, hb, hml, hown, hts⟩ (c_X4_addIfFit l E H.size qg k2 k3 k4 k5 k7 sn f3 l1 l2 l3 s2 s3 s4 p3 s7 qw ap vp as_ vs x65 hI hJ hG h43_1 (by rw [e65, e64, e59, e58]; exact sh_mk (by omega) (by omega) (by omega))) (cwV 1 hts gX4_findFits_X4_addIfFit rfl rfl rfl (by decide +kernel) ⟨Nat.le_of_ble_eq_true rfl, Nat.le_of_ble_eq_true rfl⟩) hE hS hA hP hD [0, 1, 2, 3, 4, 5, 6, 7, 8, 9, 10, 11, 12, 13, 14, 15, 16, 17, 18, 19, 20, 21, 22, 23, 24, 25, 26, 27, 28, 29, 30, 31, 32, 33, 34, 35, 36, 37, 38, 39] [] rfl rfl (by decide) (by decide) (by decide) [0, 1, 2, 3, 4, 5, 6, 7, 8, 9, 10, 11, 12, 13, 14, 15, 16, 17, 18, 19, 20, 21, 22, 23, 24, 25, 26, 27, 28, 29, 30, 31, 32, 33, 34, 35, 36, 37, 38, 39] (by decide) (fun u => rfl) rfl rfl rfl rfl hl.1 rfl (Nat.le_of_ble_eq_true rfl) dX4_findFits_66 ⟨Nat.zero_le _, Nat.zero_le _⟩ (fun u66 H locs h66 hP hD hS => ?_)
                    obtain ⟨o66_fc, o66_s5⟩ := u66
                    try dsimp only at h66
                    replace hP : va_P (eD E) vwCl (sgL E qg k2 k3 k4 k5 k7 sn o66_fc l1 l2 l3 s2 s3 s4 o66_s5 s7 qw ap vp as_ vs) H := hP
                    replace hD : va_D A (sgL E qg k2 k3 k4 k5 k7 sn o66_fc l1 l2 l3 s2 s3 s4 o66_s5 s7 qw ap vp as_ vs) := hD
                    obtain ⟨x69, e69⟩ : ∃ y : Int32, y = c3 + 1 := ⟨_, rfl⟩
                    refine lv_iinc (v := x69) (lv' := [(4, .int x69), (0, .ref qg), (1, .ref (ap 6)), (2, .int a), (3, .int b)]) hx hb dX4_findFits_69 hl (k := 4) rfl (by rw [e69]; rfl) (by decide) rfl (fun ls hl => ?_)
                    have t69 := i_add e69 (by omega)
                    refine lv_goto (tgt := 43) hx hb dX4_findFits_72 (by decide) ?_
                    exact ih43 x69 o66_fc o66_s5 _ _ ls (by omega) hP hD hS (by omega) h66 (lv_sub hl [1, 2, 3, 4, 0] rfl)
              exact K43 _ 0 f2 p2 _ _ ls (Nat.lt_succ_self _) hP hD hS (by omega) h30_1 (lv_sub hl [1, 2, 3, 4, 0] rfl)
        exact K30 _ 0 f1 p1 _ _ ls (Nat.lt_succ_self _) hP hD hS (by omega) h18_1 (lv_sub hl [1, 2, 3, 0] rfl)
  exact K18 _ 0 0 s5 _ _ ls (Nat.lt_succ_self _) hP hD hS (by omega) ⟨by decide, fun j h => absurd h (by rw [n_0]; omega)⟩ (lv_sub hl [2, 1, 0] rfl)
def rm_X4_shiftIn : Room := { frames := 1, cells := 0, slots := 0, locals := 21 }
set_option maxHeartbeats 4000000 in
set_option maxRecDepth 100000 in
theorem c_X4_shiftIn (l : Launch) (E : Ev) (A : Nat → Prop) (qg : Nat) (k2 : Nat) (k3 : Nat) (k4 : Nat) (k5 : Nat) (k7 : Nat) (sn : Int32) (fc : Int32) (l1 : Int32) (l2 : Int32) (l3 : Int32) (s2 : Nat → Int32) (s3 : Nat → Int32) (s4 : Nat → Int32) (s5 : Nat → Int32) (s7 : Nat → Int32) (qw : Nat) (ap : Nat → Nat) (vp : Vf) (as_ : Nat → Nat) (vs : Vf) (i : Int32) (k : Int32) (hI : PlanI vp) (hJ : StateI vs) (hG : SgI sn s2 s3 l1) (hF : fitI fc s5) : Met l yX4_shiftIn wsX4_shiftIn rm_X4_shiftIn (RdP E A [.ref qg, .int i, .int k] (sgL E qg k2 k3 k4 k5 k7 sn fc l1 l2 l3 s2 s3 s4 s5 s7 qw ap vp as_ vs)) (vp_Si (fun r => True)) 0 0 (fun _ => False) := by
  refine Met.ofW (cc := cX4_shiftIn) (maxL := 3) (ret := (some .int)) (by decide) rfl ?_
  intro p e s m args below meth c s₁ B hml hv
  obtain ⟨rfl, hE, hP⟩ := hv
  have hx := B.exec
  have hb := B.bytes
  have hr := B.returns
  have hts := atoms_spec (ws := wsX4_shiftIn) B.pre
  have hown : s.vm.findClass RX4 = some m.cls := findClass_of_methodNamed B.named
  have hlocks := B.notSynchronized
  have hK := hE.1
  have in_X4 : ∀ w ∈ u_ws RX4 TX4 11, w ∈ wsX4_shiftIn := fun w h => List.mem_cons_of_mem _ (List.mem_append_right _ h)
  have lk0 := hts (.fieldLink RX4 47 "TidedGround$Sightings" "foundCount" "I") (List.mem_of_getElem? (i := 1) rfl)
  have lk1 := hts (.fieldLink RX4 21 "TidedGround$Sightings" "found" "[I") (List.mem_of_getElem? (i := 2) rfl)
  have n_m1 : ((-1) : Int32).toInt = -1 := by decide
  have n_0 : (0 : Int32).toInt = 0 := by decide
  have hl := lv_entry ([.ref qg, .int i, .int k]) (n := 3) (Nat.le_of_ble_eq_true rfl)
  rw [lg_entry_eq]
  generalize (lg_sl ([.ref qg, .int i, .int k]) ++ List.replicate (3 - (lg_sl ([.ref qg, .int i, .int k])).length) Slot.unset).toArray = ls at hl ⊢
  have hl : lv_has ls 3 [(0, .ref qg), (1, .int i), (2, .int k)] := hl
  refine W_abs (fun Q hQ => ?_)
  obtain ⟨hg, hmc, hm0, hm1, hm2, hs0, hs1, hs2, hs3⟩ := id hI
  obtain ⟨hg1, hg2, hg3, hg4⟩ := id hg
  have hz0 := hm0.1
  have hz1 := hm1.1
  have hz2 := hm2.1
  have hc0 := hs0.1
  have hc1 := hs1.1
  have hc2 := hs2.1
  have hc3 := hs3.1
  obtain ⟨hj0, hj1, hj2⟩ := id hJ
  obtain ⟨hG1, hG2, hG3, hG4⟩ := id hG
  have hF1 := hF.1
  refine lv_iload_n hx hb dX4_shiftIn_0 rfl (lv_at hl 1 rfl) ?_
  refine lv_if_lt (tgt := 12) hx hb dX4_shiftIn_1 (by decide) (fun c1 => ?_) (fun c1 => ?_)
  · have c1_ := i_lt c1
    refine lv_iconst (v := (-1)) hx hb dX4_shiftIn_12 (by decide) ?_
    refine lv_goto (tgt := 26) hx hb dX4_shiftIn_13 (by decide) ?_
    subst hQ
    exact W.iret (v := (-1)) hx hb hr (fun t ht hW => ⟨(-1), rfl, trivial, ht⟩) (fun q h => absurd h List.not_mem_nil) dX4_shiftIn_26
  · have c1_ := i_nlt c1
    refine lv_iload_n hx hb dX4_shiftIn_4 rfl (lv_at hl 1 rfl) ?_
    refine lv_aload_n hx hb dX4_shiftIn_5 rfl (lv_at hl 0 rfl) ?_
    refine va_get (D := eD E) (ci := 4) (v := .int fc) (C := RX4) (T := TX4) (N := 11) hx hb hts in_X4 hown hK hP 0 rfl rfl 6 (by decide) lk0 (fun _ h9 => h9) rfl dX4_shiftIn_6 ?_
    refine lv_icmp_lt (tgt := 16) hx hb dX4_shiftIn_9 (by decide) (fun c9 => ?_) (fun c9 => ?_)
    · have c9_ := i_lt c9
      refine lv_aload_n hx hb dX4_shiftIn_16 rfl (lv_at hl 0 rfl) ?_
      refine va_get (D := eD E) (ci := 4) (v := .ref k5) (C := RX4) (T := TX4) (N := 11) hx hb hts in_X4 hown hK hP 0 rfl rfl 5 (by decide) lk1 (fun _ h9 => h9) rfl dX4_shiftIn_17 ?_
      refine lv_iload_n hx hb dX4_shiftIn_20 rfl (lv_at hl 1 rfl) ?_
      refine va_iald hx hb hK hP 4 0 rfl rfl (n := 729) (f := s5) (i_in (by omega) (by omega)) dX4_shiftIn_21 ?_
      refine lv_topi (fun x21 e21 => ?_)
      refine lv_iload_n hx hb dX4_shiftIn_22 rfl (lv_at hl 2 rfl) ?_
      refine rd_S (As := [.int x21, .int k]) (rest := []) ⟨hx, hb, hml, hown, hts⟩ (c_X4_shiftOf l E A x21 k) (va_cwS 2 hts gX4_shiftIn_X4_shiftOf rfl rfl rfl (by decide +kernel) ⟨Nat.le_of_ble_eq_true rfl, Nat.le_of_ble_eq_true rfl⟩) hE (hP.sub (ws' := []) [] rfl) rfl hl.1 rfl (Nat.le_of_ble_eq_true rfl) dX4_shiftIn_23 ⟨Nat.zero_le _, Nat.zero_le _⟩ (fun r23 h23 => ?_)
      subst hQ
      exact W.iret (v := r23) hx hb hr (fun t ht hW => ⟨r23, rfl, trivial, ht⟩) (fun q h => absurd h List.not_mem_nil) dX4_shiftIn_26
    · have c9_ := i_nlt c9
      refine lv_iconst (v := (-1)) hx hb dX4_shiftIn_12 (by decide) ?_
      refine lv_goto (tgt := 26) hx hb dX4_shiftIn_13 (by decide) ?_
      subst hQ
      exact W.iret (v := (-1)) hx hb hr (fun t ht hW => ⟨(-1), rfl, trivial, ht⟩) (fun q h => absurd h List.not_mem_nil) dX4_shiftIn_26
def rm_X4_mostAlike : Room := { frames := 2, cells := 0, slots := 0, locals := 42 }
set_option maxHeartbeats 4000000 in
set_option maxRecDepth 100000 in
theorem c_X4_mostAlike (l : Launch) (E : Ev) (sz : Nat) (qg : Nat) (k2 : Nat) (k3 : Nat) (k4 : Nat) (k5 : Nat) (k7 : Nat) (sn : Int32) (fc : Int32) (l1 : Int32) (l2 : Int32) (l3 : Int32) (s2 : Nat → Int32) (s3 : Nat → Int32) (s4 : Nat → Int32) (s5 : Nat → Int32) (s7 : Nat → Int32) (qw : Nat) (ap : Nat → Nat) (vp : Vf) (as_ : Nat → Nat) (vs : Vf) (cell : Int32) (step : Int32) (en : Int32) (hI : PlanI vp) (hJ : StateI vs) (hG : SgI sn s2 s3 l1) (hF : fitI fc s5) (hcell : 0 ≤ cell.toInt ∧ cell.toInt ≤ 23) (hstep : 0 ≤ step.toInt ∧ step.toInt ≤ 12) : Met l yX4_mostAlike wsX4_mostAlike rm_X4_mostAlike (MtP E sz [.ref qg, .int cell, .int step, .int en] (sgL E qg k2 k3 k4 k5 k7 sn fc l1 l2 l3 s2 s3 s4 s5 s7 qw ap vp as_ vs)) (va_Qi (fun (r : Int32) (u : (Nat → Int32)) => True) (MtB E (va_A (sgL E qg k2 k3 k4 k5 k7 sn fc l1 l2 l3 s2 s3 s4 s5 s7 qw ap vp as_ vs) sz) (fun u => sgL E qg k2 k3 k4 k5 k7 sn fc l1 l2 l3 s2 s3 s4 s5 u qw ap vp as_ vs)) (va_A (sgL E qg k2 k3 k4 k5 k7 sn fc l1 l2 l3 s2 s3 s4 s5 s7 qw ap vp as_ vs) sz)) 0 0 (va_A (sgL E qg k2 k3 k4 k5 k7 sn fc l1 l2 l3 s2 s3 s4 s5 s7 qw ap vp as_ vs) sz) := by
  refine Met.ofW (cc := cX4_mostAlike) (maxL := 12) (ret := (some .int)) (by decide) rfl ?_
  intro p e s m args below meth c s₁ B hml hv
  obtain ⟨rfl, hsz, hE, hP, hD0⟩ := hv
  subst hsz
  have hD := hD0.self (sz := s.heap.size)
  generalize hAe : va_A (sgL E qg k2 k3 k4 k5 k7 sn fc l1 l2 l3 s2 s3 s4 s5 s7 qw ap vp as_ vs) s.heap.size = A at hD hE ⊢
  have hA : ∀ q : Nat, s.heap.size ≤ q → A q := fun q h => by rw [← hAe]; exact Or.inr h
  have hS : va_S A s.heap s.heap [] := va_S.rf
  have hx := B.exec
  have hb := B.bytes
  have hr := B.returns
  have hts := atoms_spec (ws := wsX4_mostAlike) B.pre
  have hown : s.vm.findClass RX4 = some m.cls := findClass_of_methodNamed B.named
  have hlocks := B.notSynchronized
  have hK := hE.1
  have in_X4 : ∀ w ∈ u_ws RX4 TX4 11, w ∈ wsX4_mostAlike := fun w h => List.mem_cons_of_mem _ (List.mem_append_left _ (List.mem_append_left _ (List.mem_append_left _ (List.mem_append_left _ (List.mem_append_right _ h)))))
  have in_X8 : ∀ w ∈ u_ws RX8 TX8 2, w ∈ wsX4_mostAlike := fun w h => List.mem_cons_of_mem _ (List.mem_append_left _ (List.mem_append_left _ (List.mem_append_left _ (List.mem_append_right _ h))))
  have in_X1 : ∀ w ∈ u_ws RX1 TX1 11, w ∈ wsX4_mostAlike := fun w h => List.mem_cons_of_mem _ (List.mem_append_left _ (List.mem_append_left _ (List.mem_append_right _ h)))
  have in_X0 : ∀ w ∈ u_ws RX0 TX0 5, w ∈ wsX4_mostAlike := fun w h => List.mem_cons_of_mem _ (List.mem_append_left _ (List.mem_append_right _ h))
  have lk0 := hts (.fieldLink RX4 27 "TidedGround$Sightings" "world" "LTidedGround$World;") (List.mem_of_getElem? (i := 1) rfl)
  have lk1 := hts (.fieldLink RX4 24 "TidedGround$Sightings" "byPull" "[I") (List.mem_of_getElem? (i := 3) rfl)
  have lk2 := hts (.fieldLink RX4 35 "TidedGround$World" "plan" "LTidedGround$Plan;") (List.mem_of_getElem? (i := 4) rfl)
  have lk3 := hts (.fieldLink RX4 41 "TidedGround$Plan" "moons" "[LTidedGround$Moon;") (List.mem_of_getElem? (i := 5) rfl)
  have lk4 := hts (.fieldLink RX4 47 "TidedGround$Sightings" "foundCount" "I") (List.mem_of_getElem? (i := 2) rfl)
  have lk5 := hts (.fieldLink RX4 21 "TidedGround$Sightings" "found" "[I") (List.mem_of_getElem? (i := 6) rfl)
  have lk6 := hts (.fieldLink RX4 98 "TidedGround$Moon" "row" "[I") (List.mem_of_getElem? (i := 7) rfl)
  have lk7 := hts (.methodLink RX4 101 Lib.Math.max.name) (List.mem_of_getElem? (i := 8) rfl)
  have lk8 := hts (.static Lib.Math.max.name) (List.mem_of_getElem? (i := 9) rfl)
  have lk9 := hts (.initialized "java/lang/Math") (List.mem_of_getElem? (i := 10) rfl)
  have lk10 := hts (.code Lib.Math.max.name Lib.Math.max.code 2 (some .int)) (List.mem_of_getElem? (i := 11) rfl)
  have n_0 : (0 : Int32).toInt = 0 := by decide
  have n_1 : (1 : Int32).toInt = 1 := by decide
  have n_2 : (2 : Int32).toInt = 2 := by decide
  have n_4 : (4 : Int32).toInt = 4 := by decide
  have n_8 : (8 : Int32).toInt = 8 := by decide
  have n_15 : (15 : Int32).toInt = 15 := by decide
  have n_27 : (27 : Int32).toInt = 27 := by decide
  have n_55 : (55 : Int32).toInt = 55 := by decide
  have hl := lv_entry ([.ref qg, .int cell, .int step, .int en]) (n := 12) (Nat.le_of_ble_eq_true rfl)
  rw [lg_entry_eq]
  generalize (lg_sl ([.ref qg, .int cell, .int step, .int en]) ++ List.replicate (12 - (lg_sl ([.ref qg, .int cell, .int step, .int en])).length) Slot.unset).toArray = ls at hl ⊢
  have hl : lv_has ls 12 [(0, .ref qg), (1, .int cell), (2, .int step), (3, .int en)] := hl
  refine W_abs (fun Q hQ => ?_)
  obtain ⟨hg, hmc, hm0, hm1, hm2, hs0, hs1, hs2, hs3⟩ := id hI
  obtain ⟨hg1, hg2, hg3, hg4⟩ := id hg
  have hz0 := hm0.1
  have hz1 := hm1.1
  have hz2 := hm2.1
  have hc0 := hs0.1
  have hc1 := hs1.1
  have hc2 := hs2.1
  have hc3 := hs3.1
  obtain ⟨hj0, hj1, hj2⟩ := id hJ
  obtain ⟨hG1, hG2, hG3, hG4⟩ := id hG
  have hF1 := hF.1
  refine lv_aload_n hx hb dX4_mostAlike_0 rfl (lv_at hl 0 rfl) ?_
  refine va_get (D := eD E) (ci := 4) (v := .ref qw) (C := RX4) (T := TX4) (N := 11) hx hb hts in_X4 hown hK hP 0 rfl rfl 0 (by decide) lk0 (fun _ h9 => h9) rfl dX4_mostAlike_1 ?_
  refine lv_iload_n hx hb dX4_mostAlike_4 rfl (lv_at hl 1 rfl) ?_
  refine rd_V (As := [.int cell]) (rest := []) (C := RX8) (ci := 8) ⟨hx, hb, hml, hown, hts⟩ (c_X8_stiffOf l E A qw ap vp as_ vs cell hI hJ (by omega)) (cwV 1 hts gX4_mostAlike_X8_stiffOf rfl rfl rfl (by decide +kernel) ⟨Nat.le_of_ble_eq_true rfl, Nat.le_of_ble_eq_true rfl⟩) (hE.kept hS.2.1) (hP.sub (ws' := wpsL E qw ap vp as_ vs) [6, 7, 8, 9, 10, 11, 12, 13, 14, 15, 16, 17, 18, 19, 20, 21, 22, 23, 24, 25, 26, 27, 28, 29, 30, 31, 32, 33, 34, 35, 36, 37, 38, 39] rfl) rfl rfl rfl rfl hl.1 rfl (Nat.le_of_ble_eq_true rfl) dX4_mostAlike_5 ⟨Nat.zero_le _, Nat.zero_le _⟩ (fun r5 h5 => ?_)
  have hf5 := h5.2
  replace h5 := h5.1
  refine lv_if_ne (tgt := 16) hx hb dX4_mostAlike_8 (by decide) (fun c8 => ?_) (fun c8 => ?_)
  · have c8_ := i_ne c8
    refine lv_iconst (v := 0) hx hb dX4_mostAlike_16 (by decide) ?_
    refine lv_istore (lv' := [(4, .int 0), (0, .ref qg), (1, .int cell), (2, .int step), (3, .int en)]) hx hb dX4_mostAlike_17 hl (by decide) rfl (fun ls hl => ?_)
    have K19 : ∀ (μ : Nat) (i : Int32) (t7 : Nat → Int32) (H : Heap) (locs : List Loc) (ls : Array Slot), (55 - i.toInt).toNat < μ → va_P (eD E) vwCl (sgL E qg k2 k3 k4 k5 k7 sn fc l1 l2 l3 s2 s3 s4 s5 t7 qw ap vp as_ vs) H → va_D A (sgL E qg k2 k3 k4 k5 k7 sn fc l1 l2 l3 s2 s3 s4 s5 t7 qw ap vp as_ vs) → va_S A s.heap H locs → (0 ≤ i.toInt ∧ i.toInt ≤ 55) → lv_has ls 12 [(0, .ref qg), (1, .int cell), (2, .int step), (3, .int en), (4, .int i)] → W p l e (headSpec wsX4_mostAlike rm_X4_mostAlike).room s m ([.ref qg, .int cell, .int step, .int en] : List Value).toArray below meth c H locs 0 0 Q (F0 m 19 ls []) := by
      intro μ
      induction μ with
      | zero =>
        intro i t7 H locs ls hμ19
        exact absurd hμ19 (Nat.not_lt_zero _)
      | succ μ ih19 =>
        intro i t7 H locs ls hμ19 hP hD hS h19_0 hl
        refine lv_iload hx hb dX4_mostAlike_19 (lv_at hl 4 rfl) ?_
        refine lv_aload_n hx hb dX4_mostAlike_21 rfl (lv_at hl 0 rfl) ?_
        refine va_get (D := eD E) (ci := 4) (v := .ref k7) (C := RX4) (T := TX4) (N := 11) hx hb hts in_X4 hown hK hP 0 rfl rfl 7 (by decide) lk1 (fun _ h9 => h9) rfl dX4_mostAlike_22 ?_
        refine va_alen (v := 55) hx hb hK hP 5 0 rfl rfl rfl dX4_mostAlike_25 ?_
        refine lv_icmp_ge (tgt := 43) hx hb dX4_mostAlike_26 (by decide) (fun c26 => ?_) (fun c26 => ?_)
        · have c26_ := i_le c26
          refine lv_aload_n hx hb dX4_mostAlike_43 rfl (lv_at hl 0 rfl) ?_
          refine va_get (D := eD E) (ci := 4) (v := .ref qw) (C := RX4) (T := TX4) (N := 11) hx hb hts in_X4 hown hK hP 0 rfl rfl 0 (by decide) lk0 (fun _ h9 => h9) rfl dX4_mostAlike_44 ?_
          refine va_get (D := eD E) (ci := 8) (v := .ref (ap 0)) (C := RX8) (T := TX8) (N := 2) hx hb hts in_X8 hown hK hP 6 rfl rfl 0 (by decide) lk2 (fun _ h9 => h9) rfl dX4_mostAlike_47 ?_
          refine va_get (D := eD E) (ci := 1) (v := .ref (ap 6)) (C := RX1) (T := TX1) (N := 11) hx hb hts in_X1 hown hK hP 7 rfl rfl 6 (by decide) lk3 (fun _ h9 => h9) rfl dX4_mostAlike_50 ?_
          refine lv_astore (lv' := [(4, .ref (ap 6)), (0, .ref qg), (1, .int cell), (2, .int step), (3, .int en)]) hx hb dX4_mostAlike_53 hl (by decide) rfl (fun ls hl => ?_)
          refine lv_aload hx hb dX4_mostAlike_55 (lv_at hl 0 rfl) ?_
          refine lv_iconst (v := 0) hx hb dX4_mostAlike_57 (by decide) ?_
          refine va_aldq hx hb hK hP 10 2 rfl rfl (i_in (by decide) (by decide)) dX4_mostAlike_58 ?_
          refine W.eq (g2 := F0 m 59 ls [.ref (ap 20)]) rfl ?_
          refine lv_iload_n hx hb dX4_mostAlike_59 rfl (lv_at hl 2 rfl) ?_
          refine lv_iload_n hx hb dX4_mostAlike_60 rfl (lv_at hl 3 rfl) ?_
          refine rd_V (As := [.int cell, .int step]) (rest := []) (C := RX0) (ci := 0) ⟨hx, hb, hml, hown, hts⟩ (c_X0_placeAt l E A (ap 20) (ap 23) (ap 24) (vp 20 0) (vp 21 0) (vp 22 0) (vp 23) (vp 24) cell step hm0 (by omega) (by omega)) (cwV 2 hts gX4_mostAlike_X0_placeAt rfl rfl rfl (by decide +kernel) ⟨Nat.le_of_ble_eq_true rfl, Nat.le_of_ble_eq_true rfl⟩) (hE.kept hS.2.1) (hP.sub (ws' := moonL E (ap 20) (ap 23) (ap 24) (vp 20 0) (vp 21 0) (vp 22 0) (vp 23) (vp 24)) [11, 12, 13] rfl) rfl rfl rfl rfl hl.1 rfl (Nat.le_of_ble_eq_true rfl) dX4_mostAlike_61 ⟨Nat.zero_le _, Nat.zero_le _⟩ (fun r61 h61 => ?_)
          have hf61 := h61.2
          replace h61 := h61.1
          refine lv_istore (lv' := [(5, .int r61), (4, .ref (ap 6)), (0, .ref qg), (1, .int cell), (2, .int step), (3, .int en)]) hx hb dX4_mostAlike_64 hl (by decide) rfl (fun ls hl => ?_)
          refine lv_aload hx hb dX4_mostAlike_66 (lv_at hl 1 rfl) ?_
          refine lv_iconst (v := 1) hx hb dX4_mostAlike_68 (by decide) ?_
          refine va_aldq hx hb hK hP 10 2 rfl rfl (i_in (by decide) (by decide)) dX4_mostAlike_69 ?_
          refine W.eq (g2 := F0 m 70 ls [.ref (ap 30)]) rfl ?_
          refine lv_iload_n hx hb dX4_mostAlike_70 rfl (lv_at hl 3 rfl) ?_
          refine lv_iload_n hx hb dX4_mostAlike_71 rfl (lv_at hl 4 rfl) ?_
          refine rd_V (As := [.int cell, .int step]) (rest := []) (C := RX0) (ci := 0) ⟨hx, hb, hml, hown, hts⟩ (c_X0_placeAt l E A (ap 30) (ap 33) (ap 34) (vp 30 0) (vp 31 0) (vp 32 0) (vp 33) (vp 34) cell step hm1 (by omega) (by omega)) (cwV 2 hts gX4_mostAlike_X0_placeAt rfl rfl rfl (by decide +kernel) ⟨Nat.le_of_ble_eq_true rfl, Nat.le_of_ble_eq_true rfl⟩) (hE.kept hS.2.1) (hP.sub (ws' := moonL E (ap 30) (ap 33) (ap 34) (vp 30 0) (vp 31 0) (vp 32 0) (vp 33) (vp 34)) [14, 15, 16] rfl) rfl rfl rfl rfl hl.1 rfl (Nat.le_of_ble_eq_true rfl) dX4_mostAlike_72 ⟨Nat.zero_le _, Nat.zero_le _⟩ (fun r72 h72 => ?_)
          have hf72 := h72.2
          replace h72 := h72.1
          refine lv_istore (lv' := [(6, .int r72), (5, .int r61), (4, .ref (ap 6)), (0, .ref qg), (1, .int cell), (2, .int step), (3, .int en)]) hx hb dX4_mostAlike_75 hl (by decide) rfl (fun ls hl => ?_)
          refine lv_aload hx hb dX4_mostAlike_77 (lv_at hl 2 rfl) ?_
          refine lv_iconst (v := 2) hx hb dX4_mostAlike_79 (by decide) ?_
          refine va_aldq hx hb hK hP 10 2 rfl rfl (i_in (by decide) (by decide)) dX4_mostAlike_80 ?_
          refine W.eq (g2 := F0 m 81 ls [.ref (ap 40)]) rfl ?_
          refine lv_iload_n hx hb dX4_mostAlike_81 rfl (lv_at hl 4 rfl) ?_
          refine lv_iload_n hx hb dX4_mostAlike_82 rfl (lv_at hl 5 rfl) ?_
          refine rd_V (As := [.int cell, .int step]) (rest := []) (C := RX0) (ci := 0) ⟨hx, hb, hml, hown, hts⟩ (c_X0_placeAt l E A (ap 40) (ap 43) (ap 44) (vp 40 0) (vp 41 0) (vp 42 0) (vp 43) (vp 44) cell step hm2 (by omega) (by omega)) (cwV 2 hts gX4_mostAlike_X0_placeAt rfl rfl rfl (by decide +kernel) ⟨Nat.le_of_ble_eq_true rfl, Nat.le_of_ble_eq_true rfl⟩) (hE.kept hS.2.1) (hP.sub (ws' := moonL E (ap 40) (ap 43) (ap 44) (vp 40 0) (vp 41 0) (vp 42 0) (vp 43) (vp 44)) [17, 18, 19] rfl) rfl rfl rfl rfl hl.1 rfl (Nat.le_of_ble_eq_true rfl) dX4_mostAlike_83 ⟨Nat.zero_le _, Nat.zero_le _⟩ (fun r83 h83 => ?_)
          have hf83 := h83.2
          replace h83 := h83.1
          refine lv_istore (lv' := [(7, .int r83), (6, .int r72), (5, .int r61), (4, .ref (ap 6)), (0, .ref qg), (1, .int cell), (2, .int step), (3, .int en)]) hx hb dX4_mostAlike_86 hl (by decide) rfl (fun ls hl => ?_)
          refine lv_iconst (v := 0) hx hb dX4_mostAlike_88 (by decide) ?_
          refine lv_istore (lv' := [(8, .int 0), (7, .int r83), (6, .int r72), (5, .int r61), (4, .ref (ap 6)), (0, .ref qg), (1, .int cell), (2, .int step), (3, .int en)]) hx hb dX4_mostAlike_89 hl (by decide) rfl (fun ls hl => ?_)
          refine lv_iconst (v := 0) hx hb dX4_mostAlike_91 (by decide) ?_
          refine lv_istore (lv' := [(9, .int 0), (8, .int 0), (7, .int r83), (6, .int r72), (5, .int r61), (4, .ref (ap 6)), (0, .ref qg), (1, .int cell), (2, .int step), (3, .int en)]) hx hb dX4_mostAlike_92 hl (by decide) rfl (fun ls hl => ?_)
          have K94 : ∀ (μ : Nat) (gr : Int32) (j : Int32) (u7 : Nat → Int32) (H : Heap) (locs : List Loc) (ls : Array Slot), (729 - j.toInt).toNat < μ → va_P (eD E) vwCl (sgL E qg k2 k3 k4 k5 k7 sn fc l1 l2 l3 s2 s3 s4 s5 u7 qw ap vp as_ vs) H → va_D A (sgL E qg k2 k3 k4 k5 k7 sn fc l1 l2 l3 s2 s3 s4 s5 u7 qw ap vp as_ vs) → va_S A s.heap H locs → (0 ≤ j.toInt ∧ j.toInt ≤ 729) → lv_has ls 12 [(0, .ref qg), (1, .int cell), (2, .int step), (3, .int en), (4, .ref (ap 6)), (5, .int r61), (6, .int r72), (7, .int r83), (8, .int gr), (9, .int j)] → W p l e (headSpec wsX4_mostAlike rm_X4_mostAlike).room s m ([.ref qg, .int cell, .int step, .int en] : List Value).toArray below meth c H locs 0 0 Q (F0 m 94 ls []) := by
            intro μ
            induction μ with
            | zero =>
              intro gr j u7 H locs ls hμ94
              exact absurd hμ94 (Nat.not_lt_zero _)
            | succ μ ih94 =>
              intro gr j u7 H locs ls hμ94 hP hD hS h94_0 hl
              refine lv_iload hx hb dX4_mostAlike_94 (lv_at hl 9 rfl) ?_
              refine lv_aload_n hx hb dX4_mostAlike_96 rfl (lv_at hl 0 rfl) ?_
              refine va_get (D := eD E) (ci := 4) (v := .int fc) (C := RX4) (T := TX4) (N := 11) hx hb hts in_X4 hown hK hP 0 rfl rfl 6 (by decide) lk4 (fun _ h9 => h9) rfl dX4_mostAlike_97 ?_
              refine lv_icmp_ge (tgt := 209) hx hb dX4_mostAlike_100 (by decide) (fun c100 => ?_) (fun c100 => ?_)
              · have c100_ := i_le c100
                refine lv_iload hx hb dX4_mostAlike_209 (lv_at hl 8 rfl) ?_
                subst hQ
                exact W.iret (v := gr) hx hb hr (fun t ht hW => ⟨⟨gr, (u7), rfl, trivial, by rw [ht]; exact hP, hD⟩, hS.F ht⟩) hS.2.2 dX4_mostAlike_211
              · have c100_ := i_nle c100
                refine lv_iload hx hb dX4_mostAlike_103 (lv_at hl 8 rfl) ?_
                refine lv_iload_n hx hb dX4_mostAlike_105 rfl (lv_at hl 3 rfl) ?_
                refine lv_icmp_ge (tgt := 209) hx hb dX4_mostAlike_106 (by decide) (fun c106 => ?_) (fun c106 => ?_)
                · have c106_ := i_le c106
                  refine lv_iload hx hb dX4_mostAlike_209 (lv_at hl 8 rfl) ?_
                  subst hQ
                  exact W.iret (v := gr) hx hb hr (fun t ht hW => ⟨⟨gr, (u7), rfl, trivial, by rw [ht]; exact hP, hD⟩, hS.F ht⟩) hS.2.2 dX4_mostAlike_211
                · have c106_ := i_nle c106
                  refine lv_aload_n hx hb dX4_mostAlike_109 rfl (lv_at hl 0 rfl) ?_
                  refine va_get (D := eD E) (ci := 4) (v := .ref k5) (C := RX4) (T := TX4) (N := 11) hx hb hts in_X4 hown hK hP 0 rfl rfl 5 (by decide) lk5 (fun _ h9 => h9) rfl dX4_mostAlike_110 ?_
                  refine lv_iload hx hb dX4_mostAlike_113 (lv_at hl 9 rfl) ?_
                  refine va_iald hx hb hK hP 4 0 rfl rfl (n := 729) (f := s5) (i_in (by omega) (by omega)) dX4_mostAlike_115 ?_
                  refine lv_topi (fun x115 e115 => ?_)
                  have hso : shOK x115 := by rw [e115]; exact hF.2 _ (by rw [i_nat (by omega)]; omega)
                  refine lv_istore (lv' := [(10, .int x115), (0, .ref qg), (1, .int cell), (2, .int step), (3, .int en), (4, .ref (ap 6)), (5, .int r61), (6, .int r72), (7, .int r83), (8, .int gr), (9, .int j)]) hx hb dX4_mostAlike_116 hl (by decide) rfl (fun ls hl => ?_)
                  refine lv_aload hx hb dX4_mostAlike_118 (lv_at hl 5 rfl) ?_
                  refine lv_iconst (v := 0) hx hb dX4_mostAlike_120 (by decide) ?_
                  refine va_aldq hx hb hK hP 10 2 rfl rfl (i_in (by decide) (by decide)) dX4_mostAlike_121 ?_
                  refine W.eq (g2 := F0 m 122 ls [.ref (ap 20)]) rfl ?_
                  refine va_get (D := eD E) (ci := 0) (v := .ref (ap 23)) (C := RX0) (T := TX0) (N := 5) hx hb hts in_X0 hown hK hP 11 rfl rfl 3 (by decide) lk6 (fun _ h9 => h9) rfl dX4_mostAlike_122 ?_
                  refine lv_iload hx hb dX4_mostAlike_125 (lv_at hl 6 rfl) ?_
                  refine lv_iload hx hb dX4_mostAlike_127 (lv_at hl 0 rfl) ?_
                  refine lv_bipush (v := 15) hx hb dX4_mostAlike_129 (by decide) ?_
                  refine lv_iand hx hb dX4_mostAlike_131 ?_
                  refine lv_topi (fun x131 e131 => ?_)
                  have b131 : 0 ≤ x131.toInt ∧ x131.toInt ≤ 8 := by rw [e131]; exact hso.1
                  have sv132_x131 : 0 ≤ x131.toInt ∧ x131.toInt ≤ 8 := by omega
                  refine lv_iadd hx hb dX4_mostAlike_132 ?_
                  refine lv_topi (fun x132 e132 => ?_)
                  have t132 := i_add e132 (by omega)
                  refine va_iald hx hb hK hP 12 0 rfl rfl (n := 18) (f := (vp 23)) (i_in (by omega) (by omega)) dX4_mostAlike_133 ?_
                  refine lv_topi (fun x133 e133 => ?_)
                  have b133 := hm0.2.1 x132.toNatClampNeg (i_natlt (by omega) (by decide))
                  rw [← e133] at b133
                  refine lv_aload hx hb dX4_mostAlike_134 (lv_at hl 5 rfl) ?_
                  refine lv_iconst (v := 1) hx hb dX4_mostAlike_136 (by decide) ?_
                  refine va_aldq hx hb hK hP 10 2 rfl rfl (i_in (by decide) (by decide)) dX4_mostAlike_137 ?_
                  refine W.eq (g2 := F0 m 138 ls [.ref (ap 30), .int x133]) rfl ?_
                  refine va_get (D := eD E) (ci := 0) (v := .ref (ap 33)) (C := RX0) (T := TX0) (N := 5) hx hb hts in_X0 hown hK hP 14 rfl rfl 3 (by decide) lk6 (fun _ h9 => h9) rfl dX4_mostAlike_138 ?_
                  refine lv_iload hx hb dX4_mostAlike_141 (lv_at hl 7 rfl) ?_
                  refine lv_iload hx hb dX4_mostAlike_143 (lv_at hl 0 rfl) ?_
                  refine lv_iconst (v := 4) hx hb dX4_mostAlike_145 (by decide) ?_
                  refine lv_ishr hx hb dX4_mostAlike_146 ?_
                  refine lv_topi (fun x146 e146 => ?_)
                  refine lv_bipush (v := 15) hx hb dX4_mostAlike_147 (by decide) ?_
                  refine lv_iand hx hb dX4_mostAlike_149 ?_
                  refine lv_topi (fun x149 e149 => ?_)
                  have b149 : 0 ≤ x149.toInt ∧ x149.toInt ≤ 8 := by rw [e149, e146]; exact hso.2.1
                  have sv150_x149 : 0 ≤ x149.toInt ∧ x149.toInt ≤ 8 := by omega
                  refine lv_iadd hx hb dX4_mostAlike_150 ?_
                  refine lv_topi (fun x150 e150 => ?_)
                  have t150 := i_add e150 (by omega)
                  refine va_iald hx hb hK hP 15 0 rfl rfl (n := 18) (f := (vp 33)) (i_in (by omega) (by omega)) dX4_mostAlike_151 ?_
                  refine lv_topi (fun x151 e151 => ?_)
                  have b151 := hm1.2.1 x150.toNatClampNeg (i_natlt (by omega) (by decide))
                  rw [← e151] at b151
                  refine lv_iadd hx hb dX4_mostAlike_152 ?_
                  refine lv_topi (fun x152 e152 => ?_)
                  have t152 := i_add e152 (by omega)
                  refine lv_aload hx hb dX4_mostAlike_153 (lv_at hl 5 rfl) ?_
                  refine lv_iconst (v := 2) hx hb dX4_mostAlike_155 (by decide) ?_
                  refine va_aldq hx hb hK hP 10 2 rfl rfl (i_in (by decide) (by decide)) dX4_mostAlike_156 ?_
                  refine W.eq (g2 := F0 m 157 ls [.ref (ap 40), .int x152]) rfl ?_
                  refine va_get (D := eD E) (ci := 0) (v := .ref (ap 43)) (C := RX0) (T := TX0) (N := 5) hx hb hts in_X0 hown hK hP 17 rfl rfl 3 (by decide) lk6 (fun _ h9 => h9) rfl dX4_mostAlike_157 ?_
                  refine lv_iload hx hb dX4_mostAlike_160 (lv_at hl 8 rfl) ?_
                  refine lv_iload hx hb dX4_mostAlike_162 (lv_at hl 0 rfl) ?_
                  refine lv_bipush (v := 8) hx hb dX4_mostAlike_164 (by decide) ?_
                  refine lv_ishr hx hb dX4_mostAlike_166 ?_
                  refine lv_topi (fun x166 e166 => ?_)
                  refine lv_bipush (v := 15) hx hb dX4_mostAlike_167 (by decide) ?_
                  refine lv_iand hx hb dX4_mostAlike_169 ?_
                  refine lv_topi (fun x169 e169 => ?_)
                  have b169 : 0 ≤ x169.toInt ∧ x169.toInt ≤ 8 := by rw [e169, e166]; exact hso.2.2
                  have sv170_x169 : 0 ≤ x169.toInt ∧ x169.toInt ≤ 8 := by omega
                  refine lv_iadd hx hb dX4_mostAlike_170 ?_
                  refine lv_topi (fun x170 e170 => ?_)
                  have t170 := i_add e170 (by omega)
                  refine va_iald hx hb hK hP 18 0 rfl rfl (n := 18) (f := (vp 43)) (i_in (by omega) (by omega)) dX4_mostAlike_171 ?_
                  refine lv_topi (fun x171 e171 => ?_)
                  have b171 := hm2.2.1 x170.toNatClampNeg (i_natlt (by omega) (by decide))
                  rw [← e171] at b171
                  refine lv_iadd hx hb dX4_mostAlike_172 ?_
                  refine lv_topi (fun x172 e172 => ?_)
                  have t172 := i_add e172 (by omega)
                  refine lv_bipush (v := 27) hx hb dX4_mostAlike_173 (by decide) ?_
                  refine lv_iadd hx hb dX4_mostAlike_175 ?_
                  refine lv_topi (fun x175 e175 => ?_)
                  have t175 := i_add e175 (by omega)
                  refine lv_istore (lv' := [(11, .int x175), (10, .int x115), (0, .ref qg), (1, .int cell), (2, .int step), (3, .int en), (4, .ref (ap 6)), (5, .int r61), (6, .int r72), (7, .int r83), (8, .int gr), (9, .int j)]) hx hb dX4_mostAlike_176 hl (by decide) rfl (fun ls hl => ?_)
                  refine lv_aload_n hx hb dX4_mostAlike_178 rfl (lv_at hl 2 rfl) ?_
                  refine va_get (D := eD E) (ci := 4) (v := .ref k7) (C := RX4) (T := TX4) (N := 11) hx hb hts in_X4 hown hK hP 0 rfl rfl 7 (by decide) lk1 (fun _ h9 => h9) rfl dX4_mostAlike_179 ?_
                  refine lv_iload hx hb dX4_mostAlike_182 (lv_at hl 0 rfl) ?_
                  refine lv_dup2_11 hx hb dX4_mostAlike_184 rfl rfl ?_
                  refine va_iald hx hb hK hP 5 0 rfl rfl (n := 55) (f := u7) (i_in (by omega) (by omega)) dX4_mostAlike_185 ?_
                  refine lv_topi (fun x185 e185 => ?_)
                  refine lv_iconst (v := 1) hx hb dX4_mostAlike_186 (by decide) ?_
                  refine lv_iadd hx hb dX4_mostAlike_187 ?_
                  refine lv_topi (fun x187 e187 => ?_)
                  refine va_iast hx hb hK hP hD hS 5 0 rfl rfl (n := 55) (f := u7) (i_in (by omega) (by omega)) dX4_mostAlike_188 (fun H locs hP hD hS => ?_)
                  replace hP : va_P (eD E) vwCl (sgL E qg k2 k3 k4 k5 k7 sn fc l1 l2 l3 s2 s3 s4 s5 (upd u7 x175.toNatClampNeg x187) qw ap vp as_ vs) H := hP
                  replace hD : va_D A (sgL E qg k2 k3 k4 k5 k7 sn fc l1 l2 l3 s2 s3 s4 s5 (upd u7 x175.toNatClampNeg x187) qw ap vp as_ vs) := hD
                  generalize hv188 : upd u7 x175.toNatClampNeg x187 = s7_188 at hP hD
                  refine lv_iload hx hb dX4_mostAlike_189 (lv_at hl 10 rfl) ?_
                  refine lv_aload_n hx hb dX4_mostAlike_191 rfl (lv_at hl 2 rfl) ?_
                  refine va_get (D := eD E) (ci := 4) (v := .ref k7) (C := RX4) (T := TX4) (N := 11) hx hb hts in_X4 hown hK hP 0 rfl rfl 7 (by decide) lk1 (fun _ h9 => h9) rfl dX4_mostAlike_192 ?_
                  refine lv_iload hx hb dX4_mostAlike_195 (lv_at hl 0 rfl) ?_
                  refine va_iald hx hb hK hP 5 0 rfl rfl (n := 55) (f := s7_188) (i_in (by omega) (by omega)) dX4_mostAlike_197 ?_
                  refine lv_topi (fun x197 e197 => ?_)
                  refine va_mmax hx hb (hml.trans hl.1.symm) hown lk7 lk8 lk9 lk10 (Nat.le_of_ble_eq_true rfl) (Nat.le_of_ble_eq_true rfl) (Nat.zero_le _) (Nat.zero_le _) dX4_mostAlike_198 ?_
                  refine lv_topi (fun x198 e198 => ?_)
                  have t198 := i_max e198
                  refine lv_istore (lv' := [(8, .int x198), (11, .int x175), (10, .int x115), (0, .ref qg), (1, .int cell), (2, .int step), (3, .int en), (4, .ref (ap 6)), (5, .int r61), (6, .int r72), (7, .int r83), (9, .int j)]) hx hb dX4_mostAlike_201 hl (by decide) rfl (fun ls hl => ?_)
                  obtain ⟨x203, e203⟩ : ∃ y : Int32, y = j + 1 := ⟨_, rfl⟩
                  refine lv_iinc (v := x203) (lv' := [(9, .int x203), (8, .int x198), (11, .int x175), (10, .int x115), (0, .ref qg), (1, .int cell), (2, .int step), (3, .int en), (4, .ref (ap 6)), (5, .int r61), (6, .int r72), (7, .int r83)]) hx hb dX4_mostAlike_203 hl (k := 11) rfl (by rw [e203]; rfl) (by decide) rfl (fun ls hl => ?_)
                  have t203 := i_add e203 (by omega)
                  refine lv_goto (tgt := 94) hx hb dX4_mostAlike_206 (by decide) ?_
                  exact ih94 x198 x203 s7_188 _ _ ls (by omega) hP hD hS (by omega) (lv_sub hl [4, 5, 6, 7, 8, 9, 10, 11, 1, 0] rfl)
          exact K94 _ 0 0 t7 _ _ ls (Nat.lt_succ_self _) hP hD hS (by omega) (lv_sub hl [6, 7, 8, 9, 5, 4, 3, 2, 1, 0] rfl)
        · have c26_ := i_nle c26
          refine lv_aload_n hx hb dX4_mostAlike_29 rfl (lv_at hl 0 rfl) ?_
          refine va_get (D := eD E) (ci := 4) (v := .ref k7) (C := RX4) (T := TX4) (N := 11) hx hb hts in_X4 hown hK hP 0 rfl rfl 7 (by decide) lk1 (fun _ h9 => h9) rfl dX4_mostAlike_30 ?_
          refine lv_iload hx hb dX4_mostAlike_33 (lv_at hl 4 rfl) ?_
          refine lv_iconst (v := 0) hx hb dX4_mostAlike_35 (by decide) ?_
          refine va_iast hx hb hK hP hD hS 5 0 rfl rfl (n := 55) (f := t7) (i_in (by omega) (by omega)) dX4_mostAlike_36 (fun H locs hP hD hS => ?_)
          replace hP : va_P (eD E) vwCl (sgL E qg k2 k3 k4 k5 k7 sn fc l1 l2 l3 s2 s3 s4 s5 (upd t7 i.toNatClampNeg 0) qw ap vp as_ vs) H := hP
          replace hD : va_D A (sgL E qg k2 k3 k4 k5 k7 sn fc l1 l2 l3 s2 s3 s4 s5 (upd t7 i.toNatClampNeg 0) qw ap vp as_ vs) := hD
          generalize hv36 : upd t7 i.toNatClampNeg 0 = s7_36 at hP hD
          obtain ⟨x37, e37⟩ : ∃ y : Int32, y = i + 1 := ⟨_, rfl⟩
          refine lv_iinc (v := x37) (lv' := [(4, .int x37), (0, .ref qg), (1, .int cell), (2, .int step), (3, .int en)]) hx hb dX4_mostAlike_37 hl (k := 4) rfl (by rw [e37]; rfl) (by decide) rfl (fun ls hl => ?_)
          have t37 := i_add e37 (by omega)
          refine lv_goto (tgt := 19) hx hb dX4_mostAlike_40 (by decide) ?_
          exact ih19 x37 s7_36 _ _ ls (by omega) hP hD hS (by omega) (lv_sub hl [1, 2, 3, 4, 0] rfl)
    exact K19 _ 0 s7 _ _ ls (Nat.lt_succ_self _) hP hD hS (by omega) (lv_sub hl [1, 2, 3, 4, 0] rfl)
  · have c8_ := i_eq c8
    refine lv_aload_n hx hb dX4_mostAlike_11 rfl (lv_at hl 0 rfl) ?_
    refine va_get (D := eD E) (ci := 4) (v := .int fc) (C := RX4) (T := TX4) (N := 11) hx hb hts in_X4 hown hK hP 0 rfl rfl 6 (by decide) lk4 (fun _ h9 => h9) rfl dX4_mostAlike_12 ?_
    subst hQ
    exact W.iret (v := fc) hx hb hr (fun t ht hW => ⟨⟨fc, (s7), rfl, trivial, by rw [ht]; exact hP, hD⟩, hS.F ht⟩) hS.2.2 dX4_mostAlike_15
def rm_X4_findBestLook : Room := { frames := 4, cells := 0, slots := 0, locals := 95 }
set_option maxHeartbeats 4000000 in
set_option maxRecDepth 100000 in
theorem c_X4_findBestLook (l : Launch) (E : Ev) (sz : Nat) (qg : Nat) (k2 : Nat) (k3 : Nat) (k4 : Nat) (k5 : Nat) (k7 : Nat) (sn : Int32) (fc : Int32) (l1 : Int32) (l2 : Int32) (l3 : Int32) (s2 : Nat → Int32) (s3 : Nat → Int32) (s4 : Nat → Int32) (s5 : Nat → Int32) (s7 : Nat → Int32) (qw : Nat) (ap : Nat → Nat) (vp : Vf) (as_ : Nat → Nat) (vs : Vf) (hI : PlanI vp) (hJ : StateI vs) (hG : SgI sn s2 s3 l1) : Met l yX4_findBestLook wsX4_findBestLook rm_X4_findBestLook (MtP E sz [.ref qg] (sgL E qg k2 k3 k4 k5 k7 sn fc l1 l2 l3 s2 s3 s4 s5 s7 qw ap vp as_ vs)) (va_Qi (fun (r : Int32) (u : Int32 × (Nat → Int32) × (Nat → Int32) × Int32 × Int32 × Int32) => (r.toInt = 0 ∨ r.toInt = 1) ∧ fitI u.1 u.2.1 ∧ SgI sn s2 s3 u.2.2.2.1) (MtB E (va_A (sgL E qg k2 k3 k4 k5 k7 sn fc l1 l2 l3 s2 s3 s4 s5 s7 qw ap vp as_ vs) sz) (fun u => sgL E qg k2 k3 k4 k5 k7 sn u.1 u.2.2.2.1 u.2.2.2.2.1 u.2.2.2.2.2 s2 s3 s4 u.2.1 u.2.2.1 qw ap vp as_ vs)) (va_A (sgL E qg k2 k3 k4 k5 k7 sn fc l1 l2 l3 s2 s3 s4 s5 s7 qw ap vp as_ vs) sz)) 0 0 (va_A (sgL E qg k2 k3 k4 k5 k7 sn fc l1 l2 l3 s2 s3 s4 s5 s7 qw ap vp as_ vs) sz) := by
  refine Met.ofW (cc := cX4_findBestLook) (maxL := 5) (ret := (some .boolean)) (by decide) rfl ?_
  intro p e s m args below meth c s₁ B hml hv
  obtain ⟨rfl, hsz, hE, hP, hD0⟩ := hv
  subst hsz
  have hD := hD0.self (sz := s.heap.size)
  generalize hAe : va_A (sgL E qg k2 k3 k4 k5 k7 sn fc l1 l2 l3 s2 s3 s4 s5 s7 qw ap vp as_ vs) s.heap.size = A at hD hE ⊢
  have hA : ∀ q : Nat, s.heap.size ≤ q → A q := fun q h => by rw [← hAe]; exact Or.inr h
  have hS : va_S A s.heap s.heap [] := va_S.rf
  have hx := B.exec
  have hb := B.bytes
  have hr := B.returns
  have hts := atoms_spec (ws := wsX4_findBestLook) B.pre
  have hown : s.vm.findClass RX4 = some m.cls := findClass_of_methodNamed B.named
  have hlocks := B.notSynchronized
  have hK := hE.1
  have in_X4 : ∀ w ∈ u_ws RX4 TX4 11, w ∈ wsX4_findBestLook := fun w h => List.mem_cons_of_mem _ (List.mem_append_left _ (List.mem_append_left _ (List.mem_append_left _ (List.mem_append_left _ (List.mem_append_right _ h)))))
  have in_X8 : ∀ w ∈ u_ws RX8 TX8 2, w ∈ wsX4_findBestLook := fun w h => List.mem_cons_of_mem _ (List.mem_append_left _ (List.mem_append_left _ (List.mem_append_left _ (List.mem_append_right _ h))))
  have in_X1 : ∀ w ∈ u_ws RX1 TX1 11, w ∈ wsX4_findBestLook := fun w h => List.mem_cons_of_mem _ (List.mem_append_left _ (List.mem_append_left _ (List.mem_append_right _ h)))
  have lk0 := hts (.fieldLink RX4 47 "TidedGround$Sightings" "foundCount" "I") (List.mem_of_getElem? (i := 1) rfl)
  have lk1 := hts (.fieldLink RX4 27 "TidedGround$Sightings" "world" "LTidedGround$World;") (List.mem_of_getElem? (i := 2) rfl)
  have lk2 := hts (.fieldLink RX4 35 "TidedGround$World" "plan" "LTidedGround$Plan;") (List.mem_of_getElem? (i := 3) rfl)
  have lk3 := hts (.fieldLink RX4 81 "TidedGround$Plan" "cells" "I") (List.mem_of_getElem? (i := 4) rfl)
  have lk4 := hts (.fieldLink RX4 86 "TidedGround$Sightings" "lookCell" "I") (List.mem_of_getElem? (i := 5) rfl)
  have lk5 := hts (.fieldLink RX4 89 "TidedGround$Sightings" "lookStep" "I") (List.mem_of_getElem? (i := 6) rfl)
  have lk6 := hts (.fieldLink RX4 92 "TidedGround$Sightings" "lookLeft" "I") (List.mem_of_getElem? (i := 7) rfl)
  have n_0 : (0 : Int32).toInt = 0 := by decide
  have n_1 : (1 : Int32).toInt = 1 := by decide
  have n_12 : (12 : Int32).toInt = 12 := by decide
  have hl := lv_entry ([.ref qg]) (n := 5) (Nat.le_of_ble_eq_true rfl)
  rw [lg_entry_eq]
  generalize (lg_sl ([.ref qg]) ++ List.replicate (5 - (lg_sl ([.ref qg])).length) Slot.unset).toArray = ls at hl ⊢
  have hl : lv_has ls 5 [(0, .ref qg)] := hl
  refine W_abs (fun Q hQ => ?_)
  obtain ⟨hg, hmc, hm0, hm1, hm2, hs0, hs1, hs2, hs3⟩ := id hI
  obtain ⟨hg1, hg2, hg3, hg4⟩ := id hg
  have hz0 := hm0.1
  have hz1 := hm1.1
  have hz2 := hm2.1
  have hc0 := hs0.1
  have hc1 := hs1.1
  have hc2 := hs2.1
  have hc3 := hs3.1
  obtain ⟨hj0, hj1, hj2⟩ := id hJ
  obtain ⟨hG1, hG2, hG3, hG4⟩ := id hG
  refine lv_aload_n hx hb dX4_findBestLook_0 rfl (lv_at hl 0 rfl) ?_
  refine mt_Vi (w1 := fun (u : Int32 × (Nat → Int32)) => sgL E qg k2 k3 k4 k5 k7 sn u.1 l1 l2 l3 s2 s3 s4 u.2 s7 qw ap vp as_ vs) (wf := fun (u : Int32 × (Nat → Int32)) => sgL E qg k2 k3 k4 k5 k7 sn u.1 l1 l2 l3 s2 s3 s4 u.2 s7 qw ap vp as_ vs) (wr := []) (As := []) (rest := []) (C := RX4) (ci := 4) ⟨hx, hb, hml, hown, hts⟩ (c_X4_findFits l E s.heap.size qg k2 k3 k4 k5 k7 sn fc l1 l2 l3 s2 s3 s4 s5 s7 qw ap vp as_ vs hI hJ hG) (cwV 0 hts gX4_findBestLook_X4_findFits rfl rfl rfl (by decide +kernel) ⟨Nat.le_of_ble_eq_true rfl, Nat.le_of_ble_eq_true rfl⟩) hE hS hA hP hD [0, 1, 2, 3, 4, 5, 6, 7, 8, 9, 10, 11, 12, 13, 14, 15, 16, 17, 18, 19, 20, 21, 22, 23, 24, 25, 26, 27, 28, 29, 30, 31, 32, 33, 34, 35, 36, 37, 38, 39] [] rfl rfl (by decide) (by decide) (by decide) [0, 1, 2, 3, 4, 5, 6, 7, 8, 9, 10, 11, 12, 13, 14, 15, 16, 17, 18, 19, 20, 21, 22, 23, 24, 25, 26, 27, 28, 29, 30, 31, 32, 33, 34, 35, 36, 37, 38, 39] (by decide) (fun u => rfl) rfl rfl rfl rfl hl.1 rfl (Nat.le_of_ble_eq_true rfl) dX4_findBestLook_1 ⟨Nat.zero_le _, Nat.zero_le _⟩ (fun r1 u1 H locs h1 hP hD hS => ?_)
  obtain ⟨o1_fc, o1_s5⟩ := u1
  try dsimp only at h1
  replace hP : va_P (eD E) vwCl (sgL E qg k2 k3 k4 k5 k7 sn o1_fc l1 l2 l3 s2 s3 s4 o1_s5 s7 qw ap vp as_ vs) H := hP
  replace hD : va_D A (sgL E qg k2 k3 k4 k5 k7 sn o1_fc l1 l2 l3 s2 s3 s4 o1_s5 s7 qw ap vp as_ vs) := hD
  have hF := h1.1
  refine lv_pop hx hb dX4_findBestLook_4 rfl ?_
  refine lv_aload_n hx hb dX4_findBestLook_5 rfl (lv_at hl 0 rfl) ?_
  refine va_get (D := eD E) (ci := 4) (v := .int o1_fc) (C := RX4) (T := TX4) (N := 11) hx hb hts in_X4 hown hK hP 0 rfl rfl 6 (by decide) lk0 (fun _ h9 => h9) rfl dX4_findBestLook_6 ?_
  refine lv_istore_n (lv' := [(1, .int o1_fc), (0, .ref qg)]) hx hb dX4_findBestLook_9 rfl hl (by decide) rfl (fun ls hl => ?_)
  refine lv_iconst (v := 0) hx hb dX4_findBestLook_10 (by decide) ?_
  refine lv_istore_n (lv' := [(2, .int 0), (1, .int o1_fc), (0, .ref qg)]) hx hb dX4_findBestLook_11 rfl hl (by decide) rfl (fun ls hl => ?_)
  have K12 : ∀ (μ : Nat) (bs : Int32) (st : Int32) (t7 : Nat → Int32) (y1 : Int32) (y2 : Int32) (y3 : Int32) (H : Heap) (locs : List Loc) (ls : Array Slot), (12 - st.toInt).toNat < μ → va_P (eD E) vwCl (sgL E qg k2 k3 k4 k5 k7 sn o1_fc y1 y2 y3 s2 s3 s4 o1_s5 t7 qw ap vp as_ vs) H → va_D A (sgL E qg k2 k3 k4 k5 k7 sn o1_fc y1 y2 y3 s2 s3 s4 o1_s5 t7 qw ap vp as_ vs) → va_S A s.heap H locs → (0 ≤ st.toInt ∧ st.toInt ≤ 12) → (SgI sn s2 s3 y1) → lv_has ls 5 [(0, .ref qg), (1, .int bs), (2, .int st)] → W p l e (headSpec wsX4_findBestLook rm_X4_findBestLook).room s m ([.ref qg] : List Value).toArray below meth c H locs 0 0 Q (F0 m 12 ls []) := by
    intro μ
    induction μ with
    | zero =>
      intro bs st t7 y1 y2 y3 H locs ls hμ12
      exact absurd hμ12 (Nat.not_lt_zero _)
    | succ μ ih12 =>
      intro bs st t7 y1 y2 y3 H locs ls hμ12 hP hD hS h12_0 h12_1 hl
      have hG := h12_1
      refine lv_iload_n hx hb dX4_findBestLook_12 rfl (lv_at hl 2 rfl) ?_
      refine lv_bipush (v := 12) hx hb dX4_findBestLook_13 (by decide) ?_
      refine lv_icmp_ge (tgt := 80) hx hb dX4_findBestLook_15 (by decide) (fun c15 => ?_) (fun c15 => ?_)
      · have c15_ := i_le c15
        refine lv_iload_n hx hb dX4_findBestLook_80 rfl (lv_at hl 1 rfl) ?_
        refine lv_aload_n hx hb dX4_findBestLook_81 rfl (lv_at hl 0 rfl) ?_
        refine va_get (D := eD E) (ci := 4) (v := .int o1_fc) (C := RX4) (T := TX4) (N := 11) hx hb hts in_X4 hown hK hP 0 rfl rfl 6 (by decide) lk0 (fun _ h9 => h9) rfl dX4_findBestLook_82 ?_
        refine lv_icmp_ge (tgt := 92) hx hb dX4_findBestLook_85 (by decide) (fun c85 => ?_) (fun c85 => ?_)
        · have c85_ := i_le c85
          refine lv_iconst (v := 0) hx hb dX4_findBestLook_92 (by decide) ?_
          subst hQ
          exact W.zret (v := 0) hx hb hr rfl (fun t ht hW => ⟨⟨0, (o1_fc, o1_s5, t7, y1, y2, y3), rfl, (show ((0 : Int32).toInt = 0 ∨ (0 : Int32).toInt = 1) ∧ fitI o1_fc o1_s5 ∧ SgI sn s2 s3 y1 from ⟨by omega, hF, h12_1⟩), by rw [ht]; exact hP, hD⟩, hS.F ht⟩) hS.2.2 dX4_findBestLook_93
        · have c85_ := i_nle c85
          refine lv_iconst (v := 1) hx hb dX4_findBestLook_88 (by decide) ?_
          refine lv_goto (tgt := 93) hx hb dX4_findBestLook_89 (by decide) ?_
          subst hQ
          exact W.zret (v := 1) hx hb hr rfl (fun t ht hW => ⟨⟨1, (o1_fc, o1_s5, t7, y1, y2, y3), rfl, (show ((1 : Int32).toInt = 0 ∨ (1 : Int32).toInt = 1) ∧ fitI o1_fc o1_s5 ∧ SgI sn s2 s3 y1 from ⟨by omega, hF, h12_1⟩), by rw [ht]; exact hP, hD⟩, hS.F ht⟩) hS.2.2 dX4_findBestLook_93
      · have c15_ := i_nle c15
        refine lv_iconst (v := 0) hx hb dX4_findBestLook_18 (by decide) ?_
        refine lv_istore_n (lv' := [(3, .int 0), (0, .ref qg), (1, .int bs), (2, .int st)]) hx hb dX4_findBestLook_19 rfl hl (by decide) rfl (fun ls hl => ?_)
        have K20 : ∀ (μ : Nat) (b2 : Int32) (k : Int32) (t7k : Nat → Int32) (y1k : Int32) (y2k : Int32) (y3k : Int32) (H : Heap) (locs : List Loc) (ls : Array Slot), (24 - k.toInt).toNat < μ → va_P (eD E) vwCl (sgL E qg k2 k3 k4 k5 k7 sn o1_fc y1k y2k y3k s2 s3 s4 o1_s5 t7k qw ap vp as_ vs) H → va_D A (sgL E qg k2 k3 k4 k5 k7 sn o1_fc y1k y2k y3k s2 s3 s4 o1_s5 t7k qw ap vp as_ vs) → va_S A s.heap H locs → (0 ≤ k.toInt ∧ k.toInt ≤ 24) → (SgI sn s2 s3 y1k) → lv_has ls 5 [(0, .ref qg), (1, .int b2), (2, .int st), (3, .int k)] → W p l e (headSpec wsX4_findBestLook rm_X4_findBestLook).room s m ([.ref qg] : List Value).toArray below meth c H locs 0 0 Q (F0 m 20 ls []) := by
          intro μ
          induction μ with
          | zero =>
            intro b2 k t7k y1k y2k y3k H locs ls hμ20
            exact absurd hμ20 (Nat.not_lt_zero _)
          | succ μ ih20 =>
            intro b2 k t7k y1k y2k y3k H locs ls hμ20 hP hD hS h20_0 h20_1 hl
            have hG := h20_1
            refine lv_iload_n hx hb dX4_findBestLook_20 rfl (lv_at hl 3 rfl) ?_
            refine lv_aload_n hx hb dX4_findBestLook_21 rfl (lv_at hl 0 rfl) ?_
            refine va_get (D := eD E) (ci := 4) (v := .ref qw) (C := RX4) (T := TX4) (N := 11) hx hb hts in_X4 hown hK hP 0 rfl rfl 0 (by decide) lk1 (fun _ h9 => h9) rfl dX4_findBestLook_22 ?_
            refine va_get (D := eD E) (ci := 8) (v := .ref (ap 0)) (C := RX8) (T := TX8) (N := 2) hx hb hts in_X8 hown hK hP 6 rfl rfl 0 (by decide) lk2 (fun _ h9 => h9) rfl dX4_findBestLook_25 ?_
            refine va_get (D := eD E) (ci := 1) (v := .int (vp 2 0)) (C := RX1) (T := TX1) (N := 11) hx hb hts in_X1 hown hK hP 7 rfl rfl 2 (by decide) lk3 (fun _ h9 => h9) rfl dX4_findBestLook_28 ?_
            refine lv_icmp_ge (tgt := 74) hx hb dX4_findBestLook_31 (by decide) (fun c31 => ?_) (fun c31 => ?_)
            · have c31_ := i_le c31
              obtain ⟨x74, e74⟩ : ∃ y : Int32, y = st + 1 := ⟨_, rfl⟩
              refine lv_iinc (v := x74) (lv' := [(2, .int x74), (0, .ref qg), (1, .int b2), (3, .int k)]) hx hb dX4_findBestLook_74 hl (k := 2) rfl (by rw [e74]; rfl) (by decide) rfl (fun ls hl => ?_)
              have t74 := i_add e74 (by omega)
              refine lv_goto (tgt := 12) hx hb dX4_findBestLook_77 (by decide) ?_
              exact ih12 b2 x74 t7k y1k y2k y3k _ _ ls (by omega) hP hD hS (by omega) h20_1 (lv_sub hl [1, 2, 0] rfl)
            · have c31_ := i_nle c31
              refine lv_aload_n hx hb dX4_findBestLook_34 rfl (lv_at hl 0 rfl) ?_
              refine lv_iload_n hx hb dX4_findBestLook_35 rfl (lv_at hl 3 rfl) ?_
              refine lv_iload_n hx hb dX4_findBestLook_36 rfl (lv_at hl 2 rfl) ?_
              refine lv_iload_n hx hb dX4_findBestLook_37 rfl (lv_at hl 1 rfl) ?_
              refine mt_Vi (w1 := fun (u : (Nat → Int32)) => sgL E qg k2 k3 k4 k5 k7 sn o1_fc y1k y2k y3k s2 s3 s4 o1_s5 u qw ap vp as_ vs) (wf := fun (u : (Nat → Int32)) => sgL E qg k2 k3 k4 k5 k7 sn o1_fc y1k y2k y3k s2 s3 s4 o1_s5 u qw ap vp as_ vs) (wr := []) (As := [.int k, .int st, .int b2]) (rest := []) (C := RX4) (ci := 4) ⟨hx, hb, hml, hown, hts⟩ (c_X4_mostAlike l E H.size qg k2 k3 k4 k5 k7 sn o1_fc y1k y2k y3k s2 s3 s4 o1_s5 t7k qw ap vp as_ vs k st b2 hI hJ hG hF (by omega) (by omega)) (cwV 3 hts gX4_findBestLook_X4_mostAlike rfl rfl rfl (by decide +kernel) ⟨Nat.le_of_ble_eq_true rfl, Nat.le_of_ble_eq_true rfl⟩) hE hS hA hP hD [0, 1, 2, 3, 4, 5, 6, 7, 8, 9, 10, 11, 12, 13, 14, 15, 16, 17, 18, 19, 20, 21, 22, 23, 24, 25, 26, 27, 28, 29, 30, 31, 32, 33, 34, 35, 36, 37, 38, 39] [] rfl rfl (by decide) (by decide) (by decide) [0, 1, 2, 3, 4, 5, 6, 7, 8, 9, 10, 11, 12, 13, 14, 15, 16, 17, 18, 19, 20, 21, 22, 23, 24, 25, 26, 27, 28, 29, 30, 31, 32, 33, 34, 35, 36, 37, 38, 39] (by decide) (fun u => rfl) rfl rfl rfl rfl hl.1 rfl (Nat.le_of_ble_eq_true rfl) dX4_findBestLook_38 ⟨Nat.zero_le _, Nat.zero_le _⟩ (fun r38 u38 H locs h38 hP hD hS => ?_)
              generalize u38 = o38_s7 at hP hD h38
              try dsimp only at h38
              replace hP : va_P (eD E) vwCl (sgL E qg k2 k3 k4 k5 k7 sn o1_fc y1k y2k y3k s2 s3 s4 o1_s5 o38_s7 qw ap vp as_ vs) H := hP
              replace hD : va_D A (sgL E qg k2 k3 k4 k5 k7 sn o1_fc y1k y2k y3k s2 s3 s4 o1_s5 o38_s7 qw ap vp as_ vs) := hD
              refine lv_istore (lv' := [(4, .int r38), (0, .ref qg), (1, .int b2), (2, .int st), (3, .int k)]) hx hb dX4_findBestLook_41 hl (by decide) rfl (fun ls hl => ?_)
              refine lv_iload hx hb dX4_findBestLook_43 (lv_at hl 0 rfl) ?_
              refine lv_iload_n hx hb dX4_findBestLook_45 rfl (lv_at hl 2 rfl) ?_
              refine lv_icmp_ge (tgt := 68) hx hb dX4_findBestLook_46 (by decide) (fun c46 => ?_) (fun c46 => ?_)
              · have c46_ := i_le c46
                obtain ⟨x68, e68⟩ : ∃ y : Int32, y = k + 1 := ⟨_, rfl⟩
                refine lv_iinc (v := x68) (lv' := [(3, .int x68), (4, .int r38), (0, .ref qg), (1, .int b2), (2, .int st)]) hx hb dX4_findBestLook_68 hl (k := 4) rfl (by rw [e68]; rfl) (by decide) rfl (fun ls hl => ?_)
                have t68 := i_add e68 (by omega)
                refine lv_goto (tgt := 20) hx hb dX4_findBestLook_71 (by decide) ?_
                exact ih20 b2 x68 o38_s7 y1k y2k y3k _ _ ls (by omega) hP hD hS (by omega) (by first | exact h20_1 | exact ⟨h20_1.1, h20_1.2.1, h20_1.2.2.1, by omega⟩) (lv_sub hl [2, 3, 4, 0] rfl)
              · have c46_ := i_nle c46
                refine lv_iload hx hb dX4_findBestLook_49 (lv_at hl 0 rfl) ?_
                refine lv_istore_n (lv' := [(1, .int r38), (4, .int r38), (0, .ref qg), (2, .int st), (3, .int k)]) hx hb dX4_findBestLook_51 rfl hl (by decide) rfl (fun ls hl => ?_)
                refine lv_aload_n hx hb dX4_findBestLook_52 rfl (lv_at hl 2 rfl) ?_
                refine lv_iload_n hx hb dX4_findBestLook_53 rfl (lv_at hl 4 rfl) ?_
                refine va_put (D := eD E) (ci := 4) (v := .int k) (ty := .int) (C := RX4) (T := TX4) (N := 11) hx hb hts in_X4 tyX4 tyX4_ok nmX4 hown hK hP hD hS 0 rfl rfl 8 (by decide) lk4 (fun _ h9 => h9) rfl (by decide +kernel) rfl rfl (Nat.le_of_ble_eq_true rfl) dX4_findBestLook_54 (fun H locs hP hD hS => ?_)
                replace hP : va_P (eD E) vwCl (sgL E qg k2 k3 k4 k5 k7 sn o1_fc k y2k y3k s2 s3 s4 o1_s5 o38_s7 qw ap vp as_ vs) H := hP
                replace hD : va_D A (sgL E qg k2 k3 k4 k5 k7 sn o1_fc k y2k y3k s2 s3 s4 o1_s5 o38_s7 qw ap vp as_ vs) := hD
                refine lv_aload_n hx hb dX4_findBestLook_57 rfl (lv_at hl 2 rfl) ?_
                refine lv_iload_n hx hb dX4_findBestLook_58 rfl (lv_at hl 3 rfl) ?_
                refine va_put (D := eD E) (ci := 4) (v := .int st) (ty := .int) (C := RX4) (T := TX4) (N := 11) hx hb hts in_X4 tyX4 tyX4_ok nmX4 hown hK hP hD hS 0 rfl rfl 9 (by decide) lk5 (fun _ h9 => h9) rfl (by decide +kernel) rfl rfl (Nat.le_of_ble_eq_true rfl) dX4_findBestLook_59 (fun H locs hP hD hS => ?_)
                replace hP : va_P (eD E) vwCl (sgL E qg k2 k3 k4 k5 k7 sn o1_fc k st y3k s2 s3 s4 o1_s5 o38_s7 qw ap vp as_ vs) H := hP
                replace hD : va_D A (sgL E qg k2 k3 k4 k5 k7 sn o1_fc k st y3k s2 s3 s4 o1_s5 o38_s7 qw ap vp as_ vs) := hD
                refine lv_aload_n hx hb dX4_findBestLook_62 rfl (lv_at hl 2 rfl) ?_
                refine lv_iload hx hb dX4_findBestLook_63 (lv_at hl 1 rfl) ?_
                refine va_put (D := eD E) (ci := 4) (v := .int r38) (ty := .int) (C := RX4) (T := TX4) (N := 11) hx hb hts in_X4 tyX4 tyX4_ok nmX4 hown hK hP hD hS 0 rfl rfl 10 (by decide) lk6 (fun _ h9 => h9) rfl (by decide +kernel) rfl rfl (Nat.le_of_ble_eq_true rfl) dX4_findBestLook_65 (fun H locs hP hD hS => ?_)
                replace hP : va_P (eD E) vwCl (sgL E qg k2 k3 k4 k5 k7 sn o1_fc k st r38 s2 s3 s4 o1_s5 o38_s7 qw ap vp as_ vs) H := hP
                replace hD : va_D A (sgL E qg k2 k3 k4 k5 k7 sn o1_fc k st r38 s2 s3 s4 o1_s5 o38_s7 qw ap vp as_ vs) := hD
                obtain ⟨x68, e68⟩ : ∃ y : Int32, y = k + 1 := ⟨_, rfl⟩
                refine lv_iinc (v := x68) (lv' := [(3, .int x68), (1, .int r38), (4, .int r38), (0, .ref qg), (2, .int st)]) hx hb dX4_findBestLook_68 hl (k := 4) rfl (by rw [e68]; rfl) (by decide) rfl (fun ls hl => ?_)
                have t68 := i_add e68 (by omega)
                refine lv_goto (tgt := 20) hx hb dX4_findBestLook_71 (by decide) ?_
                exact ih20 r38 x68 o38_s7 k st r38 _ _ ls (by omega) hP hD hS (by omega) (by first | exact h20_1 | exact ⟨h20_1.1, h20_1.2.1, h20_1.2.2.1, by omega⟩) (lv_sub hl [3, 1, 4, 0] rfl)
        exact K20 _ bs 0 t7 y1 y2 y3 _ _ ls (Nat.lt_succ_self _) hP hD hS (by omega) h12_1 (lv_sub hl [1, 2, 3, 0] rfl)
  exact K12 _ o1_fc 0 s7 l1 l2 l3 _ _ ls (Nat.lt_succ_self _) hP hD hS (by omega) hG (lv_sub hl [2, 1, 0] rfl)
end
