/-! ===== all but some places stay as they were ===== -/
def fr (l : List Nat) (v w : Vf) : Prop := ∀ t, t ∉ l → w t = v t
theorem fr.rf {l : List Nat} {v : Vf} : fr l v v := fun _ _ => rfl
theorem fr.up {l : List Nat} {v w : Vf} {k j : Nat} {x : Int32} (h : fr l v w) (hk : k ∈ l) : fr l v (up2 w k j x) := fun t a => by
  have q : Nat.beq t k = false := by
    cases hb : Nat.beq t k
    · rfl
    · exact absurd (by rw [Nat.eq_of_beq_eq_true hb]; exact hk) a
  show cond (Nat.beq t k) _ _ = _
  rw [q]
  exact h t a
theorem fr.up3 {l : List Nat} {v w : Vf} {k : Nat} {f : Nat → Int32} (h : fr l v w) (hk : k ∈ l) : fr l v (up3 w k f) := fun t a => by
  have q : Nat.beq t k = false := by
    cases hb : Nat.beq t k
    · rfl
    · exact absurd (by rw [Nat.eq_of_beq_eq_true hb]; exact hk) a
  show cond (Nat.beq t k) _ _ = _
  rw [q]
  exact h t a
theorem fr.tr {l l' : List Nat} {u v w : Vf} (h : fr l u v) (e : fr l' v w) (hl : ∀ t ∈ l', t ∈ l) : fr l u w := fun t a => (e t (fun q => a (hl t q))).trans (h t a)
def lRd : List Nat := [33, 34, 35, 36, 37, 38, 39, 40, 41, 42, 43, 44, 45, 46, 47, 48, 49, 50, 51, 52, 53, 54, 55, 56, 57, 58, 59, 60, 61]
