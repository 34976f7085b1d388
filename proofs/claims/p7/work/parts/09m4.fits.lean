/-! ===== shifts that fit what was seen ===== -/
def shV (v : Vf) (a b c : Int32) : Vf := up3 v 24 (fun j => if j = 0 then a else if j = 1 then b else c)
theorem up3_ne {v : Vf} {k t : Nat} {f : Nat → Int32} (h : t ≠ k) : up3 v k f t = v t := by
  have e : Nat.beq t k = false := by
    cases q : Nat.beq t k
    · rfl
    · exact absurd (Nat.eq_of_beq_eq_true q) h
  unfold up3
  rw [e]
  rfl
def SeenQ (v : Vf) : Prop := ∀ k : Nat, (k : Int) < (v 67 0).toInt → mH v (v 68 k) (v 69 k) = v 70 k
def shN (v : Vf) (m : Nat) : Nat := if (v 4 0).toInt = 0 then 1 else (v 5 m).toInt.toNat
def shA (v : Vf) (n : Nat) : Int32 := Int32.ofNat (n / (shN v 2 * shN v 1))
def shB (v : Vf) (n : Nat) : Int32 := Int32.ofNat (n / shN v 2 % shN v 1)
def shC (v : Vf) (n : Nat) : Int32 := Int32.ofNat (n % shN v 2)
def shS (v : Vf) (n : Nat) : Vf := shV v (shA v n) (shB v n) (shC v n)
def shAll (v : Vf) : Nat := shN v 0 * shN v 1 * shN v 2
noncomputable def fitL (v : Vf) : Nat → List Nat
  | 0 => []
  | n + 1 => @ite _ (SeenQ (shS v n)) (Classical.propDecidable _) (fitL v n ++ [n]) (fitL v n)
theorem fitL_y {v : Vf} {n : Nat} (h : SeenQ (shS v n)) : fitL v (n + 1) = fitL v n ++ [n] := if_pos h
theorem fitL_n {v : Vf} {n : Nat} (h : ¬ SeenQ (shS v n)) : fitL v (n + 1) = fitL v n := if_neg h
theorem fitL_lt {v : Vf} : ∀ n : Nat, ∀ x ∈ fitL v n, x < n
  | 0, x, h => absurd h List.not_mem_nil
  | n + 1, x, h => by
    by_cases q : SeenQ (shS v n)
    · rw [fitL_y q] at h
      rcases List.mem_append.mp h with z | z
      · have := fitL_lt n x z
        omega
      · have := List.mem_singleton.mp z
        omega
    · rw [fitL_n q] at h
      have := fitL_lt n x h
      omega
theorem fitL_len {v : Vf} : ∀ n : Nat, (fitL v n).length ≤ n
  | 0 => Nat.le_refl _
  | n + 1 => by
    have ih := fitL_len (v := v) n
    by_cases q : SeenQ (shS v n)
    · rw [fitL_y q, List.length_append, List.length_singleton]
      omega
    · rw [fitL_n q]
      omega
/-- a row that holds what a list tells -/
def FR (L : List Nat) (e : Nat → Int32) (cnt : Int) (f : Nat → Int32) : Prop := cnt = (L.length : Int) ∧ ∀ (j : Nat) (h : j < L.length), f j = e L[j]
theorem FR.nil {e f : Nat → Int32} {c : Int} (h : c = 0) : FR [] e c f := ⟨h, fun j hj => absurd hj (Nat.not_lt_zero _)⟩
theorem FR.new {L : List Nat} {e f : Nat → Int32} {cnt z x : Int32} {n : Nat} (h : FR L e cnt.toInt f) (hz : z.toInt = cnt.toInt + 1) (hx : x = e n) : FR (L ++ [n]) e z.toInt (upd f cnt.toNatClampNeg x) := by
  obtain ⟨h1, h2⟩ := h
  have en : cnt.toNatClampNeg = L.length := by
    show cnt.toInt.toNat = _
    omega
  have el : (L ++ [n]).length = L.length + 1 := by rw [List.length_append, List.length_singleton]
  rw [en]
  refine ⟨by rw [el]; omega, fun j hj => ?_⟩
  by_cases q : j < L.length
  · rw [updN (by omega), List.getElem_append_left q]
    exact h2 j q
  · have ej : j = L.length := by omega
    subst ej
    rw [updA, List.getElem_append_right (Nat.le_refl _)]
    simp [hx]
/-! heights depend on the shifts of the moons that there are -/
def sm24 (v w : Vf) : Prop := (∀ t, t ≤ 25 → t ≠ 24 → w t = v t) ∧ w 62 = v 62 ∧ ∀ j : Nat, (j : Int) < (v 4 0).toInt → w 24 j = v 24 j
theorem mPart_24 {v w : Vf} {k c t : Int32} (h : sm24 v w) (hk : 0 ≤ k.toInt ∧ k.toInt < (v 4 0).toInt) : mPart w k c t = mPart v k c t := by
  have en := i_nat hk.1
  unfold mPart
  rw [h.2.1, h.1 8 (by decide) (by decide), h.1 6 (by decide) (by decide), h.1 0 (by decide) (by decide), h.1 7 (by decide) (by decide), h.1 5 (by decide) (by decide), h.2.2 k.toNatClampNeg (by omega)]
theorem mPullN_24 {v w : Vf} {c t : Int32} (h : sm24 v w) (h3 : (v 4 0).toInt ≤ 3) : ∀ n : Nat, (n : Int) ≤ (v 4 0).toInt → mPullN w c t n = mPullN v c t n
  | 0, _ => rfl
  | n + 1, hn => by
    have e : (Int32.ofNat n).toInt = (n : Int) := Int32.toInt_ofNat_of_lt (by omega)
    show mPullN w c t n + mPart w (Int32.ofNat n) c t = mPullN v c t n + mPart v (Int32.ofNat n) c t
    rw [mPullN_24 h h3 n (by omega), mPart_24 h (by omega)]
theorem mPull_24 {v w : Vf} {c t : Int32} (h : sm24 v w) (h3 : 0 ≤ (v 4 0).toInt ∧ (v 4 0).toInt ≤ 3) : mPull w c t = mPull v c t := by
  have en := i_nat h3.1
  unfold mPull
  rw [h.1 4 (by decide) (by decide), mPullN_24 h h3.2 _ (by omega)]
theorem mStiff_24 {v w : Vf} {c : Int32} (h : sm24 v w) : mStiff w c = mStiff v c := by
  unfold mStiff
  rw [h.1 3 (by decide) (by decide), h.1 25 (by decide) (by decide)]
theorem mH_24 {v w : Vf} {c t : Int32} (h : sm24 v w) (h3 : 0 ≤ (v 4 0).toInt ∧ (v 4 0).toInt ≤ 3) : mH w c t = mH v c t := by
  unfold mH
  rw [mStiff_24 h, mPull_24 h h3, h.1 2 (by decide) (by decide)]
theorem seen_24 {v w : Vf} (h : sm24 v w) (h3 : 0 ≤ (v 4 0).toInt ∧ (v 4 0).toInt ≤ 3) (h7 : w 67 = v 67 ∧ w 68 = v 68 ∧ w 69 = v 69 ∧ w 70 = v 70) : SeenQ w ↔ SeenQ v := by
  unfold SeenQ
  rw [h7.1, h7.2.1, h7.2.2.1, h7.2.2.2]
  refine ⟨fun q k hk => ?_, fun q k hk => ?_⟩
  · rw [← mH_24 h h3]
    exact q k hk
  · rw [mH_24 h h3]
    exact q k hk
/-! the three shifts of a number -/
theorem shN_b {v : Vf} (hH : MdH v) {m : Nat} (hm : m < 3) : 1 ≤ shN v m ∧ shN v m ≤ 9 := by
  unfold shN
  by_cases q : (v 4 0).toInt = 0
  · rw [if_pos q]
    decide
  · rw [if_neg q]
    have b := (hH.2.2.2.1.2.1.resolve_left q) m hm
    omega
theorem shAll_b {v : Vf} (hH : MdH v) : 1 ≤ shAll v ∧ shAll v ≤ 729 := by
  have a := shN_b hH (m := 0) (by decide)
  have b := shN_b hH (m := 1) (by decide)
  have c := shN_b hH (m := 2) (by decide)
  unfold shAll
  have p1 : shN v 0 * shN v 1 ≤ 9 * 9 := Nat.mul_le_mul a.2 b.2
  have p2 : shN v 0 * shN v 1 * shN v 2 ≤ 81 * 9 := Nat.mul_le_mul p1 c.2
  have q1 : 1 * 1 ≤ shN v 0 * shN v 1 := Nat.mul_le_mul a.1 b.1
  have q2 : 1 * 1 ≤ shN v 0 * shN v 1 * shN v 2 := Nat.mul_le_mul q1 c.1
  omega
theorem sh_lt {v : Vf} (hH : MdH v) {n : Nat} (hn : n < shAll v) : (n / (shN v 2 * shN v 1) < shN v 0 ∧ n / shN v 2 % shN v 1 < shN v 1 ∧ n % shN v 2 < shN v 2) := by
  have b := shN_b hH (m := 1) (by decide)
  have c := shN_b hH (m := 2) (by decide)
  refine ⟨Nat.div_lt_of_lt_mul ?_, Nat.mod_lt _ (by omega), Nat.mod_lt _ (by omega)⟩
  unfold shAll at hn
  rw [Nat.mul_comm (shN v 2) (shN v 1), Nat.mul_comm (shN v 1 * shN v 2) (shN v 0), ← Nat.mul_assoc]
  exact hn
theorem ofN_t {n : Nat} (h : n ≤ 1000000) : (Int32.ofNat n).toInt = (n : Int) := Int32.toInt_ofNat_of_lt (by omega)
theorem sh_t {v : Vf} (hH : MdH v) {n : Nat} (hn : n < shAll v) : (shA v n).toInt = ((n / (shN v 2 * shN v 1) : Nat) : Int) ∧ (shB v n).toInt = ((n / shN v 2 % shN v 1 : Nat) : Int) ∧ (shC v n).toInt = ((n % shN v 2 : Nat) : Int) := by
  have h := sh_lt hH hn
  have a := shN_b hH (m := 0) (by decide)
  have b := shN_b hH (m := 1) (by decide)
  have c := shN_b hH (m := 2) (by decide)
  exact ⟨ofN_t (by omega), ofN_t (by omega), ofN_t (by omega)⟩
/-- the reference's three writes -/
theorem set_sh {v : Vf} {code a b c q : Int32} (hH : MdH v) (hm : (v 4 0).toInt ≠ 0) (h : 0 ≤ code.toInt ∧ code.toInt < (shAll v : Int)) (hc : c = code - code / v 5 2 * v 5 2) (hq : q = code / v 5 2) (hb : b = q - q / v 5 1 * v 5 1) {p : Int32} (hp : p = v 5 2 * v 5 1) (ha : a = code / p) : a = shA v code.toNatClampNeg ∧ b = shB v code.toNatClampNeg ∧ c = shC v code.toNatClampNeg := by
  have en := i_nat h.1
  have al := shAll_b hH
  have t := sh_t hH (n := code.toNatClampNeg) (by omega)
  have m1 := (hH.2.2.2.1.2.1.resolve_left hm) 1 (by decide)
  have m2 := (hH.2.2.2.1.2.1.resolve_left hm) 2 (by decide)
  have e1 : (v 5 1).toInt = (shN v 1 : Int) := by unfold shN; rw [if_neg hm]; omega
  have e2 : (v 5 2).toInt = (shN v 2 : Int) := by unfold shN; rw [if_neg hm]; omega
  have tp := i_mulc 9 hp (by omega) (by omega) (by omega) (by omega) (by omega)
  have tp2 := i_mul hp (by have := mul_b (a := (v 5 2).toInt) (b := (v 5 1).toInt) (A := 9) (B := 9) (by omega) (by omega); omega)
  have pos : 1 ≤ p.toInt := by
    have := mul_pos1 (a := (v 5 2).toInt) (b := (v 5 1).toInt) (by omega) (by omega)
    omega
  have tc := i_rem hc h.1 (by omega)
  have tq := i_div hq h.1 (by omega)
  have tb := i_rem hb tq.2.1 (by omega)
  have ta := i_div ha h.1 (by omega)
  refine ⟨i_eqr ?_, i_eqr ?_, i_eqr ?_⟩
  · rw [ta.1, t.1, tp2, e1, e2, Int.natCast_ediv, Int.natCast_mul, en]
  · rw [tb.1, t.2.1, tq.1, e1, e2, Int.natCast_emod, Int.natCast_ediv, en]
  · rw [tc.1, t.2.2, e2, Int.natCast_emod, en]
theorem sm_set {v w : Vf} {n : Nat} (h4 : (v 4 0).toInt ≤ 3) (hf : ∀ t, t ≤ 25 → t ≠ 24 → w t = v t) (h62 : w 62 = v 62) (ha : w 24 0 = shA v n) (hb : w 24 1 = shB v n) (hc : w 24 2 = shC v n) : sm24 (shS v n) w := by
  refine ⟨fun t h1 h2 => ?_, ?_, fun j hj => ?_⟩
  · rw [hf t h1 h2]
    exact (up3_ne h2).symm
  · rw [h62]
    rfl
  · have hj2 : (j : Int) < (v 4 0).toInt := hj
    rcases (show j = 0 ∨ j = 1 ∨ j = 2 by omega) with rfl | rfl | rfl
    · exact ha
    · exact hb
    · exact hc
theorem sm_none {v w : Vf} {n : Nat} (h4 : (v 4 0).toInt = 0) (hf : ∀ t, t ≤ 25 → t ≠ 24 → w t = v t) (h62 : w 62 = v 62) : sm24 (shS v n) w := by
  refine ⟨fun t h1 h2 => ?_, ?_, fun j hj => ?_⟩
  · rw [hf t h1 h2]
    exact (up3_ne h2).symm
  · rw [h62]
    rfl
  · have hj2 : (j : Int) < (v 4 0).toInt := hj
    omega
theorem seen_next {v : Vf} {i i2 s z : Int32} (h : s.toInt ≠ 0 ↔ ∀ k : Nat, (k : Int) < i.toInt → mH v (v 68 k) (v 69 k) = v 70 k) (hs : s.toInt ≠ 0) (h0 : 0 ≤ i.toInt) (h2 : i2.toInt = i.toInt + 1) (e : z.toInt ≠ 0 ↔ mH v (v 68 i.toNatClampNeg) (v 69 i.toNatClampNeg) = v 70 i.toNatClampNeg) : z.toInt ≠ 0 ↔ ∀ k : Nat, (k : Int) < i2.toInt → mH v (v 68 k) (v 69 k) = v 70 k := by
  have en := i_nat h0
  rw [e]
  refine ⟨fun q k hk => ?_, fun q => q _ (by omega)⟩
  by_cases g : k = i.toNatClampNeg
  · subst g
    exact q
  · exact h.mp hs k (by omega)
theorem all_0 {v : Vf} (h : (v 4 0).toInt = 0) : (1 : Int32).toInt = (shAll v : Int) := by
  unfold shAll shN
  rw [if_pos h, if_pos h, if_pos h]
  decide
theorem codes_all {v : Vf} {r : Int32} (hH : MdH v) (hm : (v 4 0).toInt ≠ 0) (h : r.toInt = ((v 5 0).toInt * (v 5 1).toInt) * (v 5 2).toInt) : r.toInt = (shAll v : Int) := by
  have m0 := (hH.2.2.2.1.2.1.resolve_left hm) 0 (by decide)
  have m1 := (hH.2.2.2.1.2.1.resolve_left hm) 1 (by decide)
  have m2 := (hH.2.2.2.1.2.1.resolve_left hm) 2 (by decide)
  have e0 : (v 5 0).toInt = (shN v 0 : Int) := by unfold shN; rw [if_neg hm]; omega
  have e1 : (v 5 1).toInt = (shN v 1 : Int) := by unfold shN; rw [if_neg hm]; omega
  have e2 : (v 5 2).toInt = (shN v 2 : Int) := by unfold shN; rw [if_neg hm]; omega
  unfold shAll
  rw [h, e0, e1, e2, Int.natCast_mul, Int.natCast_mul]
theorem sh_at {v w : Vf} {n : Nat} {k : Int32} (hk : 0 ≤ k.toInt ∧ k.toInt ≤ 2) (h : w 24 0 = shA v n ∧ w 24 1 = shB v n ∧ w 24 2 = shC v n) : w 24 k.toNatClampNeg = shS v n 24 k.toNatClampNeg := by
  have en := i_nat hk.1
  rcases (show k.toNatClampNeg = 0 ∨ k.toNatClampNeg = 1 ∨ k.toNatClampNeg = 2 by omega) with q | q | q
  · rw [q]
    exact h.1
  · rw [q]
    exact h.2.1
  · rw [q]
    exact h.2.2
def FitR (v : Vf) (i k r : Int32) : Prop := (i.toInt = -1 ∧ r.toInt = ((fitL v (shAll v)).length : Int)) ∨ (i.toInt ≠ -1 ∧ (((i.toInt < 0 ∨ ((fitL v (shAll v)).length : Int) ≤ i.toInt) ∧ r.toInt = -1) ∨ ∃ (h : i.toNatClampNeg < (fitL v (shAll v)).length), 0 ≤ i.toInt ∧ r = shS v ((fitL v (shAll v))[i.toNatClampNeg]) 24 k.toNatClampNeg))
theorem fit_eq {v : Vf} {i k r q : Int32} (h1 : FitR v i k r) (h2 : FitR v i k q) : r.toInt = q.toInt := by
  rcases h1 with ⟨a1, a2⟩ | ⟨a1, ⟨a2, a3⟩ | ⟨a2, a3, a4⟩⟩
  · rcases h2 with ⟨b1, b2⟩ | ⟨b1, -⟩
    · omega
    · omega
  · rcases h2 with ⟨b1, b2⟩ | ⟨b1, ⟨b2, b3⟩ | ⟨b2, b3, b4⟩⟩
    · omega
    · omega
    · have := i_nat b3
      omega
  · rcases h2 with ⟨b1, b2⟩ | ⟨b1, ⟨b2, b3⟩ | ⟨b2, b3, b4⟩⟩
    · omega
    · have := i_nat a3
      omega
    · rw [a4, b4]
