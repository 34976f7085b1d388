theorem row_set {f : Nat → Int32} {g : Nat → Int} {k i : Nat} {x : Int32} (h : (f i).toInt = g i) : (upd f k x i).toInt = cond (Nat.beq i k) x.toInt (g i) := by
  by_cases hq : i = k
  · subst hq
    rw [updA, Nat.beq_refl]
    rfl
  · rw [updN hq, beqN hq]
    exact h
def cellS (S : St0) (c b s : Int) : St0 := upS (upS (upS (upS S 41 0 (S 41 0 + 1)) 42 (S 41 0).toNat c) 39 c.toNat b) 40 c.toNat s
theorem rp_cell {S : St0} {vp : Vf} {cx ck ck' c b s : Int32} (hR : Rp S vp cx ck) (hc : 0 ≤ c.toInt ∧ c.toInt ≤ 23) (h0 : 0 ≤ ck.toInt) (hk : ck'.toInt = ck.toInt + 1) : Rp (cellS S c.toInt b.toInt s.toInt) (up2 (up2 vp 3 c.toNatClampNeg b) 4 c.toNatClampNeg s) (cx ||| ((1 : Int32) <<< (c &&& 31))) ck' := by
  obtain ⟨⟨a1, a2, a3, a4⟩, ⟨b1, b0, b2⟩, h3, h4, h5, h6, h7⟩ := hR
  refine ⟨⟨a1, a2, fun i hi => ⟨?_, ?_⟩, a4⟩, ⟨?_, (show 0 ≤ S 41 0 + 1 by omega), fun j hj => ?_⟩, h3, h4, h5, h6, h7⟩
  · show (upd (vp 3) c.toInt.toNat b i).toInt = cond (Nat.beq i c.toInt.toNat) b.toInt (S 39 i)
    exact row_set (a3 i hi).1
  · show (upd (vp 4) c.toInt.toNat s i).toInt = cond (Nat.beq i c.toInt.toNat) s.toInt (S 40 i)
    exact row_set (a3 i hi).2
  · show ck'.toInt = S 41 0 + 1
    omega
  · show bitB _ j = anyE (fun i => cond (Nat.beq i (S 41 0).toNat) c.toInt (S 42 i)) j (S 41 0 + 1).toNat
    rw [show (S 41 0 + 1).toNat = (S 41 0).toNat + 1 by omega, bit_set hc j hj, b2 j hj]
    show _ = (anyE (fun i => cond (Nat.beq i (S 41 0).toNat) c.toInt (S 42 i)) j (S 41 0).toNat || decide (cond (Nat.beq (S 41 0).toNat (S 41 0).toNat) c.toInt (S 42 (S 41 0).toNat) = (j : Int)))
    rw [any_congr (f := fun i => cond (Nat.beq i (S 41 0).toNat) c.toInt (S 42 i)) (g := S 42) _ (fun i hi => by show cond (Nat.beq i (S 41 0).toNat) _ _ = _; rw [beqN (by omega)]; rfl), Nat.beq_refl]
    rfl
def groundS (S : St0) (w d b s : Int) : St0 := fun t j => cond (Nat.beq t 39) (cond (Nat.blt j 24) b (S 39 j)) (cond (Nat.beq t 40) (cond (Nat.blt j 24) s (S 40 j)) (upS (upS S 37 0 w) 38 0 d t j))
theorem rp_ground {S : St0} {vp vq : Vf} {cx ck w d b s : Int32} (hR : Rp S vp cx ck) (e : ∀ t, t ≠ 0 → t ≠ 1 → t ≠ 2 → t ≠ 3 → t ≠ 4 → vq t = vp t) (h0 : vq 0 0 = w) (h1 : vq 1 0 = d) (hg0 : S 37 0 = 0) (hw1 : 1 ≤ w.toInt ∧ 1 ≤ d.toInt) (hwd : w.toInt * d.toInt ≤ 24) (hb : ∀ j : Nat, (j : Int) < w.toInt * d.toInt → vq 3 j = b ∧ vq 4 j = s) : Rp (groundS S w.toInt d.toInt b.toInt s.toInt) vq cx ck := by
  obtain ⟨-, h2, h3, h4, h5, h6, h7⟩ := hR
  refine ⟨⟨?_, ?_, fun i hi => ?_, Or.inr hw1⟩, h2, ?_, ?_, ?_, ?_, ?_⟩
  · show (vq 0 0).toInt = w.toInt
    rw [h0]
  · show (vq 1 0).toInt = d.toInt
    rw [h1]
  · have hi : (i : Int) < w.toInt * d.toInt := hi
    have hl : Nat.blt i 24 = true := Nat.blt_eq.mpr (by omega)
    refine ⟨?_, ?_⟩
    · show (vq 3 i).toInt = cond (Nat.blt i 24) b.toInt (S 39 i)
      rw [hl, (hb i hi).1]
      rfl
    · show (vq 4 i).toInt = cond (Nat.blt i 24) s.toInt (S 40 i)
      rw [hl, (hb i hi).2]
      rfl
  · have h0 : S 43 0 = 0 := h3.1.2 hg0
    have z1 := h3.2.1.2 (by omega)
    have z2 := h3.2.2.1.2 (by omega)
    have z3 := h3.2.2.2.2 (by omega)
    refine ⟨⟨?_, fun _ => h0⟩, ⟨fun q => ?_, fun _ => ?_⟩, ⟨fun q => ?_, fun _ => ?_⟩, ⟨fun q => ?_, fun _ => ?_⟩⟩
    · show (vq 5 0).toInt = S 43 0
      rw [e 5 (by decide) (by decide) (by decide) (by decide) (by decide)]
      exact h3.1.1
    · have q : ((0 : Nat) : Int) < S 43 0 := q
      omega
    · rw [e 20 (by decide) (by decide) (by decide) (by decide) (by decide), e 23 (by decide) (by decide) (by decide) (by decide) (by decide)]
      exact z1
    · have q : ((1 : Nat) : Int) < S 43 0 := q
      omega
    · rw [e 30 (by decide) (by decide) (by decide) (by decide) (by decide), e 33 (by decide) (by decide) (by decide) (by decide) (by decide)]
      exact z2
    · have q : ((2 : Nat) : Int) < S 43 0 := q
      omega
    · rw [e 40 (by decide) (by decide) (by decide) (by decide) (by decide), e 43 (by decide) (by decide) (by decide) (by decide) (by decide)]
      exact z3
  · unfold RpH at *
    rw [e 60 (by decide) (by decide) (by decide) (by decide) (by decide), e 61 (by decide) (by decide) (by decide) (by decide) (by decide), e 62 (by decide) (by decide) (by decide) (by decide) (by decide)]
    exact h4
  · unfold RpK at *
    rw [e 70 (by decide) (by decide) (by decide) (by decide) (by decide), e 71 (by decide) (by decide) (by decide) (by decide) (by decide), e 72 (by decide) (by decide) (by decide) (by decide) (by decide), e 73 (by decide) (by decide) (by decide) (by decide) (by decide)]
    exact h5
  · unfold RpW at *
    rw [e 80 (by decide) (by decide) (by decide) (by decide) (by decide), e 81 (by decide) (by decide) (by decide) (by decide) (by decide), e 82 (by decide) (by decide) (by decide) (by decide) (by decide)]
    exact h6
  · unfold RpD at *
    rw [e 90 (by decide) (by decide) (by decide) (by decide) (by decide), e 92 (by decide) (by decide) (by decide) (by decide) (by decide), e 93 (by decide) (by decide) (by decide) (by decide) (by decide)]
    exact h7
theorem ckF {r c : Int} {b b' : Bool} (h : (r = -1 ∧ b = false) ∨ (0 ≤ r ∧ b = true)) (hc : (c = 0 ∧ r = -1) ∨ (c = 1 ∧ r ≠ -1)) (e : b = b') : (c = 0 ∧ b' = false) ∨ (c ≠ 0 ∧ b' = true) := by
  subst e
  rcases h with ⟨h1, h2⟩ | ⟨h1, h2⟩
  · exact Or.inl ⟨by omega, h2⟩
  · exact Or.inr ⟨by omega, h2⟩
theorem ckT {c : Int} {x : Int32} {b b' : Bool} (hc : (c = 0 ∧ x.toInt = 0) ∨ (c = 1 ∧ x.toInt ≠ 0)) (hx : x = if b then 1 else 0) (e : b = b') : (c = 0 ∧ b' = false) ∨ (c ≠ 0 ∧ b' = true) := by
  subst e
  cases b
  · have h1 : x.toInt = 0 := by rw [hx]; decide
    exact Or.inl ⟨by omega, rfl⟩
  · have h1 : x.toInt = 1 := by rw [hx]; decide
    exact Or.inr ⟨by omega, rfl⟩
