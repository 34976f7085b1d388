/-! ===== rows copied, one place more; a plan's rows without its numbers ===== -/
theorem upc_next {v : Vf} {g : Nat → Int32} {t : Nat} {i i2 x : Int32} (h : ∀ j : Nat, (j : Int) < i.toInt → v t j = g j) (h0 : 0 ≤ i.toInt) (h1 : i2.toInt = i.toInt + 1) (hx : x = g i.toNatClampNeg) : ∀ j : Nat, (j : Int) < i2.toInt → up2 v t i.toNatClampNeg x t j = g j := by
  intro j hj
  have e : up2 v t i.toNatClampNeg x t = upd (v t) i.toNatClampNeg x := by
    unfold up2
    rw [Nat.beq_refl]
    rfl
  rw [e]
  unfold upd
  split
  · rename_i he
    rw [he, hx]
  · rename_i hne
    refine h j ?_
    have := i_nat h0
    omega
theorem st_copy {v w : Vf} (hJ : StateI w) (h0 : v 0 0 = w 0 0) (h1 : ∀ j, j < 3 → v 1 j = w 1 j) : StateI (up2 (up2 (up2 (up2 v 4 0 (w 4 0)) 5 0 (w 5 0)) 6 0 (w 6 0)) 7 0 (w 7 0)) := by
  refine ⟨?_, ?_, hJ.2.2⟩
  · show 0 ≤ (v 0 0).toInt ∧ (v 0 0).toInt ≤ 900100
    rw [h0]
    exact hJ.1
  · intro j hj
    show 0 ≤ (v 1 j).toInt ∧ (v 1 j).toInt ≤ 8
    rw [h1 j hj]
    exact hJ.2.1 j hj
def rowB (f : Nat → Int32) : Prop := ∀ j, j < 18 → -9 ≤ (f j).toInt ∧ (f j).toInt ≤ 9
def aheB (f : Nat → Int32) : Prop := ∀ j, j < 24 → 0 ≤ (f j).toInt ∧ (f j).toInt ≤ 1000
def celB (f : Nat → Int32) : Prop := ∀ j, j < 6 → 0 ≤ (f j).toInt ∧ (f j).toInt ≤ 23
def PlanR (v : Vf) : Prop := (rowB (v 23) ∧ aheB (v 24)) ∧ (rowB (v 33) ∧ aheB (v 34)) ∧ (rowB (v 43) ∧ aheB (v 44)) ∧ celB (v 61) ∧ celB (v 71) ∧ celB (v 81) ∧ celB (v 91)
theorem PlanI.R {v : Vf} (h : PlanI v) : PlanR v := ⟨h.2.2.1.2, h.2.2.2.1.2, h.2.2.2.2.1.2, h.2.2.2.2.2.1.2, h.2.2.2.2.2.2.1.2, h.2.2.2.2.2.2.2.1.2, h.2.2.2.2.2.2.2.2.2⟩
theorem pl_clear {v : Vf} (hR : PlanR v) (hm0 : moonI (v 20 0) (v 23) (v 24)) (hm1 : moonI (v 30 0) (v 33) (v 34)) (hm2 : moonI (v 40 0) (v 43) (v 44)) (hz : v 0 0 = 0 ∧ v 1 0 = 0 ∧ v 2 0 = 0 ∧ v 5 0 = 0) (hc : v 60 0 = 0 ∧ v 70 0 = 0 ∧ v 80 0 = 0 ∧ v 90 0 = 0) : PlanI v ∧ v 0 0 = 0 ∧ v 2 0 = 0 := by
  obtain ⟨z0, z1, z2, z5⟩ := hz
  obtain ⟨c0, c1, c2, c3⟩ := hc
  refine ⟨⟨?_, ?_, hm0, hm1, hm2, ⟨?_, hR.2.2.2.1⟩, ⟨?_, hR.2.2.2.2.1⟩, ⟨?_, hR.2.2.2.2.2.1⟩, ⟨?_, hR.2.2.2.2.2.2⟩⟩, z0, z2⟩
  · rw [z0, z1, z2]
    unfold groundI
    decide
  · rw [z5]; decide
  · rw [c0]; decide
  · rw [c1]; decide
  · rw [c2]; decide
  · rw [c3]; decide
abbrev rdL (E : Ev) (qr : Nat) (qx : Nat) (fx : Nat → Int32) (ln : Int32) (ps : Int32) (fn : Int32) (fa : Int32) (na : Int32) (cx : Int32) (ck : Int32) (ap : Nat → Nat) (vp : Vf) : va_W := [(qr, .inr (2, [.ref qx, .int ln, .int ps, .ref (ap 0), .int fn, .int fa, .int na, .int cx, .int ck])), (qx, .inl (eI E, 250, .inl fx)), ((ap 0), .inr (1, [.int (vp 0 0), .int (vp 1 0), .int (vp 2 0), .ref (ap 3), .ref (ap 4), .int (vp 5 0), .ref (ap 6), .ref (ap 7), .ref (ap 8), .ref (ap 9), .ref (ap 10)])), ((ap 3), .inl (eI E, 24, .inl (vp 3))), ((ap 4), .inl (eI E, 24, .inl (vp 4))), ((ap 6), .inl (eM E, 3, .inr (.inr (.inr (.inr (fun i => some (ap (20 + 10 * i)))))))), ((ap 20), .inr (0, [.int (vp 20 0), .int (vp 21 0), .int (vp 22 0), .ref (ap 23), .ref (ap 24)])), ((ap 23), .inl (eI E, 18, .inl (vp 23))), ((ap 24), .inl (eI E, 24, .inl (vp 24))), ((ap 30), .inr (0, [.int (vp 30 0), .int (vp 31 0), .int (vp 32 0), .ref (ap 33), .ref (ap 34)])), ((ap 33), .inl (eI E, 18, .inl (vp 33))), ((ap 34), .inl (eI E, 24, .inl (vp 34))), ((ap 40), .inr (0, [.int (vp 40 0), .int (vp 41 0), .int (vp 42 0), .ref (ap 43), .ref (ap 44)])), ((ap 43), .inl (eI E, 18, .inl (vp 43))), ((ap 44), .inl (eI E, 24, .inl (vp 44))), ((ap 7), .inr (5, [.int (vp 60 0), .ref (ap 61), .ref (ap 62), .ref (ap 63)])), ((ap 61), .inl (eI E, 6, .inl (vp 61))), ((ap 62), .inl (eI E, 6, .inl (vp 62))), ((ap 63), .inl (eI E, 6, .inl (vp 63))), ((ap 8), .inr (5, [.int (vp 70 0), .ref (ap 71), .ref (ap 72), .ref (ap 73)])), ((ap 71), .inl (eI E, 6, .inl (vp 71))), ((ap 72), .inl (eI E, 6, .inl (vp 72))), ((ap 73), .inl (eI E, 6, .inl (vp 73))), ((ap 9), .inr (5, [.int (vp 80 0), .ref (ap 81), .ref (ap 82), .ref (ap 83)])), ((ap 81), .inl (eI E, 6, .inl (vp 81))), ((ap 82), .inl (eI E, 6, .inl (vp 82))), ((ap 83), .inl (eI E, 6, .inl (vp 83))), ((ap 10), .inr (5, [.int (vp 90 0), .ref (ap 91), .ref (ap 92), .ref (ap 93)])), ((ap 91), .inl (eI E, 6, .inl (vp 91))), ((ap 92), .inl (eI E, 6, .inl (vp 92))), ((ap 93), .inl (eI E, 6, .inl (vp 93)))]
abbrev adL (E : Ev) (qr : Nat) (qx : Nat) (ln : Int32) (ps : Int32) (fn : Int32) (fa : Int32) (na : Int32) (cx : Int32) (ck : Int32) (ap : Nat → Nat) (q : Nat) (q1 : Nat) (q2 : Nat) (q3 : Nat) (n : Int32) (f1 : Nat → Int32) (f2 : Nat → Int32) (f3 : Nat → Int32) : va_W := [(qr, .inr (2, [.ref qx, .int ln, .int ps, .ref (ap 0), .int fn, .int fa, .int na, .int cx, .int ck])), (q, .inr (5, [.int n, .ref q1, .ref q2, .ref q3])), (q1, .inl (eI E, 6, .inl f1)), (q2, .inl (eI E, 6, .inl f2)), (q3, .inl (eI E, 6, .inl f3))]
abbrev rrL (E : Ev) (qr : Nat) (qx : Nat) (fx : Nat → Int32) (ln : Int32) (ps : Int32) (fn : Int32) (fa : Int32) (na : Int32) (cx : Int32) (ck : Int32) (ap : Nat → Nat) (qm : Nat) (mr : Nat → Int32) : va_W := [(qr, .inr (2, [.ref qx, .int ln, .int ps, .ref (ap 0), .int fn, .int fa, .int na, .int cx, .int ck])), (qx, .inl (eI E, 250, .inl fx)), (qm, .inl (eI E, 18, .inl mr))]
abbrev rbL (E : Ev) (qr : Nat) (qx : Nat) (fx : Nat → Int32) (ln : Int32) (ps : Int32) (fn : Int32) (fa : Int32) (na : Int32) (cx : Int32) (ck : Int32) (ap : Nat → Nat) : va_W := [(qr, .inr (2, [.ref qx, .int ln, .int ps, .ref (ap 0), .int fn, .int fa, .int na, .int cx, .int ck])), (qx, .inl (eI E, 250, .inl fx))]
abbrev st2L (E : Ev) (as_ : Nat → Nat) (vs : Vf) (bs : Nat → Nat) (ws_ : Vf) : va_W := [((as_ 0), .inr (6, [.int (vs 0 0), .ref (as_ 1), .ref (as_ 2), .ref (as_ 3), .int (vs 4 0), .int (vs 5 0), .int (vs 6 0), .int (vs 7 0), .int (vs 8 0)])), ((as_ 1), .inl (eI E, 3, .inl (vs 1))), ((as_ 2), .inl (eI E, 24, .inl (vs 2))), ((as_ 3), .inl (eI E, 6, .inl (vs 3))), ((bs 0), .inr (6, [.int (ws_ 0 0), .ref (bs 1), .ref (bs 2), .ref (bs 3), .int (ws_ 4 0), .int (ws_ 5 0), .int (ws_ 6 0), .int (ws_ 7 0), .int (ws_ 8 0)])), ((bs 1), .inl (eI E, 3, .inl (ws_ 1))), ((bs 2), .inl (eI E, 24, .inl (ws_ 2))), ((bs 3), .inl (eI E, 6, .inl (ws_ 3)))]
