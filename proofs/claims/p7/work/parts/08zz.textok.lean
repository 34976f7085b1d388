/-! ===== what a text tells is sound: places within the ground, a crack told once ===== -/
def okS (S : St0) : Prop := (0 ≤ S 37 0 ∧ 0 ≤ S 48 0 ∧ 0 ≤ S 51 0 ∧ 0 ≤ S 55 0) ∧ (S 37 0 = 0 → S 48 0 = 0 ∧ S 51 0 = 0 ∧ S 55 0 = 0) ∧ (∀ k : Nat, (k : Int) < S 48 0 → (0 ≤ S 49 k ∧ S 49 k < S 37 0 * S 38 0) ∧ 0 ≤ S 50 k ∧ S 50 k ≤ 99) ∧ (∀ k : Nat, (k : Int) < S 51 0 → (0 ≤ S 52 k ∧ S 52 k < S 37 0 * S 38 0) ∧ 0 ≤ S 53 k ∧ S 53 k ≤ 1) ∧ (∀ k i : Nat, (k : Int) < S 51 0 → i < k → ¬ (S 52 i = S 52 k ∧ S 53 i = S 53 k)) ∧ (∀ k : Nat, (k : Int) < S 55 0 → 0 ≤ S 56 k ∧ S 56 k < S 37 0 * S 38 0)
theorem any2_all {f g : Nat → Int} {c d : Int} : ∀ n : Nat, anyE2 f g c d n = false → ∀ i, i < n → ¬ (f i = c ∧ g i = d)
  | 0, _, i, hi => absurd hi (by omega)
  | n + 1, h, i, hi => by
    have h : (anyE2 f g c d n || decide (f n = c ∧ g n = d)) = false := h
    rw [Bool.or_eq_false_iff] at h
    by_cases q : i = n
    · subst q
      exact of_decide_eq_false h.2
    · exact any2_all n h.1 i (by omega)
theorem chk_f {b : Bool} {k q : Int} {x : Unit} (h : chk b k q = .inr x) : b = false := by
  cases b
  · rfl
  · cases h
theorem rb_get {α β : Type} {a : Rd α} {f : α → β} {y : β} (h : rb a (fun z => (.inr (f z) : Rd β)) = .inr y) : ∃ z, a = .inr z ∧ y = f z := by
  cases a with
  | inl e => cases h
  | inr z => exact ⟨z, rfl, by cases h; rfl⟩
theorem ok_ground {S : St0} {w d b s : Int} (h : okS S) (h0 : S 37 0 = 0) (hw : 1 ≤ w) : okS (groundS S w d b s) := by
  obtain ⟨a0, a1, a2, a3, a4, a5⟩ := h
  obtain ⟨z1, z2, z3⟩ := a1 h0
  refine ⟨⟨(show 0 ≤ w by omega), a0.2⟩, fun q => ⟨z1, z2, z3⟩, fun k hk => ?_, fun k hk => ?_, fun k i hk => ?_, fun k hk => ?_⟩
  · have hk : (k : Int) < S 48 0 := hk
    omega
  · have hk : (k : Int) < S 51 0 := hk
    omega
  · have hk : (k : Int) < S 51 0 := hk
    omega
  · have hk : (k : Int) < S 55 0 := hk
    omega
theorem ok_house {S : St0} {c x : Int} (h : okS S) (hW : S 37 0 ≠ 0) (hc : 0 ≤ c ∧ c < S 37 0 * S 38 0) (hx : 0 ≤ x ∧ x ≤ 99) : okS (houseS S c x) := by
  obtain ⟨a0, a1, a2, a3, a4, a5⟩ := h
  refine ⟨⟨a0.1, (show 0 ≤ S 48 0 + 1 by omega), a0.2.2⟩, fun q => absurd q hW, fun k hk => ?_, a3, a4, a5⟩
  have hk : (k : Int) < S 48 0 + 1 := hk
  show (0 ≤ cond (Nat.beq k (S 48 0).toNat) c (S 49 k) ∧ cond (Nat.beq k (S 48 0).toNat) c (S 49 k) < S 37 0 * S 38 0) ∧ 0 ≤ cond (Nat.beq k (S 48 0).toNat) x (S 50 k) ∧ cond (Nat.beq k (S 48 0).toNat) x (S 50 k) ≤ 99
  by_cases q : k = (S 48 0).toNat
  · rw [q, Nat.beq_refl]
    exact ⟨hc, hx⟩
  · rw [beqN q]
    exact a2 k (by omega)
theorem ok_well {S : St0} {c x : Int} (h : okS S) (hW : S 37 0 ≠ 0) (hc : 0 ≤ c ∧ c < S 37 0 * S 38 0) : okS (wellS S c x) := by
  obtain ⟨a0, a1, a2, a3, a4, a5⟩ := h
  refine ⟨⟨a0.1, a0.2.1, a0.2.2.1, (show 0 ≤ S 55 0 + 1 by omega)⟩, fun q => absurd q hW, a2, a3, a4, fun k hk => ?_⟩
  have hk : (k : Int) < S 55 0 + 1 := hk
  show 0 ≤ cond (Nat.beq k (S 55 0).toNat) c (S 56 k) ∧ cond (Nat.beq k (S 55 0).toNat) c (S 56 k) < S 37 0 * S 38 0
  by_cases q : k = (S 55 0).toNat
  · rw [q, Nat.beq_refl]
    exact hc
  · rw [beqN q]
    exact a5 k (by omega)
theorem ok_crack {S : St0} {c d x : Int} (h : okS S) (hW : S 37 0 ≠ 0) (hc : 0 ≤ c ∧ c < S 37 0 * S 38 0) (hd : 0 ≤ d ∧ d ≤ 1) (hn : anyE2 (S 52) (S 53) c d (S 51 0).toNat = false) : okS (crackS S c d x) := by
  obtain ⟨a0, a1, a2, a3, a4, a5⟩ := h
  refine ⟨⟨a0.1, a0.2.1, (show 0 ≤ S 51 0 + 1 by omega), a0.2.2.2⟩, fun q => absurd q hW, a2, fun k hk => ?_, fun k i hk hi => ?_, a5⟩
  · have hk : (k : Int) < S 51 0 + 1 := hk
    show (0 ≤ cond (Nat.beq k (S 51 0).toNat) c (S 52 k) ∧ cond (Nat.beq k (S 51 0).toNat) c (S 52 k) < S 37 0 * S 38 0) ∧ 0 ≤ cond (Nat.beq k (S 51 0).toNat) d (S 53 k) ∧ cond (Nat.beq k (S 51 0).toNat) d (S 53 k) ≤ 1
    by_cases q : k = (S 51 0).toNat
    · rw [q, Nat.beq_refl]
      exact ⟨hc, hd⟩
    · rw [beqN q]
      exact a3 k (by omega)
  · have hk : (k : Int) < S 51 0 + 1 := hk
    show ¬ (cond (Nat.beq i (S 51 0).toNat) c (S 52 i) = cond (Nat.beq k (S 51 0).toNat) c (S 52 k) ∧ cond (Nat.beq i (S 51 0).toNat) d (S 53 i) = cond (Nat.beq k (S 51 0).toNat) d (S 53 k))
    rw [beqN (show i ≠ (S 51 0).toNat by omega)]
    by_cases q : k = (S 51 0).toNat
    · rw [q, Nat.beq_refl]
      exact any2_all _ hn i (by omega)
    · rw [beqN q]
      exact a4 k i (by omega) hi
theorem clause_ok {T : Nat → Int32} {n : Int} {S : St0} {q : Int} {y : Int × St0} (hS : okS S) (h : clauseF T n S q = .inr y) : okS y.2 := by
  by_cases c1 : tc T q = 103
  · rw [cl_g c1] at h
    obtain ⟨z, hz, rfl⟩ := rb_get h
    have g := th_get (th_get (th_get (th_get (th_get hz).1).1).1).1
    have g6 := th_get g.1
    have q1 := chk_no g6.1
    have q2 := num_rng g6.2
    have q3 := hS.1.1
    exact ok_ground hS (by omega) q2.1
  · by_cases c0 : S 37 0 = 0
    · rw [cl_no (Or.inl ⟨c0, c1⟩)] at h
      cases h
    · by_cases c2 : tc T q = 99
      · rw [cl_c c2 c0] at h
        obtain ⟨z, hz, rfl⟩ := rb_get h
        exact hS
      · by_cases c3 : tc T q = 109
        · rw [cl_m c3 c0] at h
          obtain ⟨z, hz, rfl⟩ := rb_get h
          exact hS
        · by_cases c4 : tc T q = 104
          · rw [cl_h c4 c0] at h
            obtain ⟨z, hz, rfl⟩ := rb_get h
            have g := th_get (th_get (th_get (th_get hz).1).1).1
            have q1 := place_lt g.2
            exact ok_house hS c0 ⟨q1.2.2.1, q1.2.2.2⟩ (num_rng (th_get (th_get hz).1).2)
          · by_cases c5 : tc T q = 107
            · rw [cl_k c5 c0] at h
              obtain ⟨z, hz, rfl⟩ := rb_get h
              have g2 := th_get (th_get hz).1
              have g3 := th_get g2.1
              have g4 := th_get g3.1
              have g5 := th_get g4.1
              have g6 := th_get g5.1
              have q1 := place_lt g6.2
              exact ok_crack hS c0 ⟨q1.2.2.1, q1.2.2.2⟩ (num_rng g5.2) (chk_f g3.2)
            · by_cases c6 : tc T q = 119
              · rw [cl_w c6 c0] at h
                obtain ⟨z, hz, rfl⟩ := rb_get h
                have g := th_get (th_get (th_get (th_get hz).1).1).1
                have q1 := place_lt g.2
                exact ok_well hS c0 ⟨q1.2.2.1, q1.2.2.2⟩
              · by_cases c7 : tc T q = 100
                · rw [cl_d c7 c0] at h
                  obtain ⟨z, hz, rfl⟩ := rb_get h
                  exact hS
                · rw [cl_no (Or.inr ⟨c1, c2, c3, c4, c5, c6, c7⟩)] at h
                  cases h
theorem text_ok {T : Nat → Int32} {n : Int} : ∀ (f : Nat) (p : Int) (S S' : St0), textF T n f p S = .inr S' → okS S → okS S'
  | 0, p, S, S', h, hS => by
    cases h
    exact hS
  | f + 1, p, S, S', h, hS => by
    by_cases hn : skp T n p < n
    · cases hc : clauseF T n S (skp T n p) with
      | inl e =>
        obtain ⟨k1, q1⟩ := e
        rw [tx_no rfl hn hc] at h
        cases h
      | inr y =>
        rw [tx_on rfl hn hc] at h
        exact text_ok f _ _ _ h (clause_ok hS hc)
    · rw [tx_end (by omega)] at h
      cases h
      exact hS
theorem ok_0 {S : St0} (h : Z0 S) : okS S := by
  obtain ⟨z1, z2, z3, z4, z5, z6, z7, z8⟩ := h
  refine ⟨⟨by omega, by omega, by omega, by omega⟩, fun _ => ⟨z5, z6, z7⟩, fun k hk => ?_, fun k hk => ?_, fun k i hk => ?_, fun k hk => ?_⟩ <;> omega
