/-! ground, and clauses that are too many -/
theorem g_fill {v : Vf} {i x b s s' : Int32} (h : ∀ j : Nat, (j : Int) < i.toInt → v 39 j = b ∧ v 40 j = s) (h0 : 0 ≤ i.toInt) (hx : x.toInt = i.toInt + 1) (hs : s' = s) : ∀ j : Nat, (j : Int) < x.toInt → up2 (up2 v 39 i.toNatClampNeg b) 40 i.toNatClampNeg s' 39 j = b ∧ up2 (up2 v 39 i.toNatClampNeg b) 40 i.toNatClampNeg s' 40 j = s := by
  subst hs
  intro j hj
  show upd (v 39) i.toNatClampNeg b j = b ∧ upd (v 40) i.toNatClampNeg s' j = s'
  have e := i_nat h0
  by_cases q : j = i.toNatClampNeg
  · subst q
    exact ⟨updA, updA⟩
  · rw [updN q, updN q]
    exact h j (by omega)
theorem g_keep {v w : Vf} {i x b s : Int32} (h : ∀ j : Nat, i.toInt ≤ (j : Int) → v 39 j = w 39 j ∧ v 40 j = w 40 j) (h0 : 0 ≤ i.toInt) (hx : x.toInt = i.toInt + 1) : ∀ j : Nat, x.toInt ≤ (j : Int) → up2 (up2 v 39 i.toNatClampNeg b) 40 i.toNatClampNeg s 39 j = w 39 j ∧ up2 (up2 v 39 i.toNatClampNeg b) 40 i.toNatClampNeg s 40 j = w 40 j := by
  intro j hj
  show upd (v 39) i.toNatClampNeg b j = w 39 j ∧ upd (v 40) i.toNatClampNeg s j = w 40 j
  have e := i_nat h0
  have q : j ≠ i.toNatClampNeg := by omega
  rw [updN q, updN q]
  exact h j (by omega)
theorem sm_ground {S : St0} {vm vn : Vf} {w d b s : Int32} (h : SM S vm) (e : scL lGr vm vn) (h37 : vn 37 = upd (vm 37) 0 w) (h38 : vn 38 = upd (vm 38) 0 d) (h39 : ∀ j : Nat, (j : Int) < 24 → vn 39 j = b ∧ vn 40 j = s) (h40 : ∀ j : Nat, (24 : Int) ≤ j → vn 39 j = vm 39 j ∧ vn 40 j = vm 40 j) : SM (groundS S w.toInt d.toInt b.toInt s.toInt) vn := fun t h1 j => by
  have e0 : groundS S w.toInt d.toInt b.toInt s.toInt t j = cond (Nat.beq t 39) (cond (Nat.blt j 24) b.toInt (S 39 j)) (cond (Nat.beq t 40) (cond (Nat.blt j 24) s.toInt (S 40 j)) (cond (Nat.beq t 38 && Nat.beq j 0) d.toInt (cond (Nat.beq t 37 && Nat.beq j 0) w.toInt (S t j)))) := rfl
  rw [e0]
  by_cases q9 : t = 39
  · subst q9
    show cond (Nat.blt j 24) b.toInt (S 39 j) = _
    by_cases hj : j < 24
    · rw [show Nat.blt j 24 = true from Nat.blt_eq.mpr hj, (h39 j (by omega)).1]
      rfl
    · rw [show Nat.blt j 24 = false from by cases hb : Nat.blt j 24; rfl; exact absurd (Nat.blt_eq.mp hb) hj, (h40 j (by omega)).1]
      exact h 39 (by decide) j
  · rw [beqN q9]
    by_cases q0 : t = 40
    · subst q0
      show cond (Nat.blt j 24) s.toInt (S 40 j) = _
      by_cases hj : j < 24
      · rw [show Nat.blt j 24 = true from Nat.blt_eq.mpr hj, (h39 j (by omega)).2]
        rfl
      · rw [show Nat.blt j 24 = false from by cases hb : Nat.blt j 24; rfl; exact absurd (Nat.blt_eq.mp hb) hj, (h40 j (by omega)).2]
        exact h 40 (by decide) j
    · rw [beqN q0]
      by_cases q8 : t = 38
      · subst q8
        rw [h38]
        show cond (Nat.beq j 0) d.toInt (S 38 j) = _
        by_cases hj : j = 0
        · subst hj
          rfl
        · rw [beqN hj, updN hj]
          exact h 38 (by decide) j
      · rw [beqN q8]
        by_cases q7 : t = 37
        · subst q7
          rw [h37]
          show cond (Nat.beq j 0) w.toInt (S 37 j) = _
          by_cases hj : j = 0
          · subst hj
            rfl
          · rw [beqN hj, updN hj]
            exact h 37 (by decide) j
        · rw [beqN q7, e t (by unfold lGr; intro hh; simp only [List.mem_cons, List.not_mem_nil, or_false] at hh; omega)]
          exact h t h1 j
theorem cl3_g {T : Nat → Int32} {n : Int} {S : St0} {q : Int} (h : tc T q = 103) (hc : 1 ≤ S 37 0) : clauseF T n S q = .inl (3, q) := by
  rw [cl_g h, show groundF T n S q (q + 1) = .inl (3, q) from th_no (th_no (th_no (th_no (th_no (th_no (chk_on hc))))))]
  rfl
theorem cl3_c {T : Nat → Int32} {n : Int} {S : St0} {q : Int} (h : tc T q = 99) (hS : S 37 0 ≠ 0) (hc : 12 ≤ S 41 0) : clauseF T n S q = .inl (3, q) := by
  rw [cl_c h hS, show cellF T n S q (q + 1) = .inl (3, q) from th_no (th_no (th_no (th_no (th_no (chk_on hc)))))]
  rfl
theorem cl3_m {T : Nat → Int32} {n : Int} {S : St0} {q : Int} (h : tc T q = 109) (hS : S 37 0 ≠ 0) (hc : 3 ≤ S 43 0) : clauseF T n S q = .inl (3, q) := by
  rw [cl_m h hS, show moonF T n S q (q + 1) = .inl (3, q) from th_no (th_no (th_no (th_no (chk_on hc))))]
  rfl
theorem cl3_h {T : Nat → Int32} {n : Int} {S : St0} {q : Int} (h : tc T q = 104) (hS : S 37 0 ≠ 0) (hc : 6 ≤ S 48 0) : clauseF T n S q = .inl (3, q) := by
  rw [cl_h h hS, show houseF T n S q (q + 1) = .inl (3, q) from th_no (th_no (th_no (th_no (chk_on hc))))]
  rfl
theorem cl3_k {T : Nat → Int32} {n : Int} {S : St0} {q : Int} (h : tc T q = 107) (hS : S 37 0 ≠ 0) (hc : 6 ≤ S 51 0) : clauseF T n S q = .inl (3, q) := by
  rw [cl_k h hS, show crackF T n S q (q + 1) = .inl (3, q) from th_no (th_no (th_no (th_no (th_no (th_no (chk_on hc))))))]
  rfl
theorem cl3_w {T : Nat → Int32} {n : Int} {S : St0} {q : Int} (h : tc T q = 119) (hS : S 37 0 ≠ 0) (hc : 5 ≤ S 55 0) : clauseF T n S q = .inl (3, q) := by
  rw [cl_w h hS, show wellF T n S q (q + 1) = .inl (3, q) from th_no (th_no (th_no (th_no (chk_on hc))))]
  rfl
theorem cl3_d {T : Nat → Int32} {n : Int} {S : St0} {q : Int} (h : tc T q = 100) (hS : S 37 0 ≠ 0) (hc : 4 ≤ S 58 0) : clauseF T n S q = .inl (3, q) := by
  rw [cl_d h hS, show deedF T n S q (q + 1) = .inl (3, q) from th_no (th_no (th_no (th_no (chk_on hc))))]
  rfl
