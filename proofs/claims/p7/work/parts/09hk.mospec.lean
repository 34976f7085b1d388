/-! a row of a moon, as the reference reads it -/
def lM2 : List Nat := [33, 34, 35, 36, 61, 44, 47]
theorem MF.get0 {α : Type} {a : Rd α} {w r w' : Int} {ok : α → Prop} (h : MF a w r w' ok) (hk : okF a) (hr : r = 0) : w' = w ∧ ∃ x, a = .inr x ∧ ok x := by
  rcases h with ⟨k, q, q2, q3, q4⟩ | ⟨x, q2, q3, q4, q5⟩
  · have := hk k q q2
    omega
  · exact ⟨q4, x, q2, q5⟩
section MO
variable {T : Nat → Int32} {n P0 pos e z p' w r w' : Int} {b i i' : Nat} {s0 s s' : Nat → Int}
theorem mo_f (hi : i ≤ 8) : 9 - i = (9 - (i + 1)) + 1 := by omega
theorem mo_no {ok : Int × Int × Int → Prop} (hr : rowF T n b 9 0 P0 s0 = rowF T n b (9 - i) i pos s) (hi : i ≤ 8) (hn : MF (numF T n 0 18 pos) w r w' ok) (h0 : r ≠ 0) : rowF T n b 9 0 P0 s0 = .inl (r, w') := by
  rcases hn with ⟨k, q, q2, q3, q4⟩ | ⟨x, q2, q3, q4, q5⟩
  · rw [hr, mo_f hi, row_no q2, q3, q4]
  · exact absurd q3 h0
theorem mo_on (hr : rowF T n b 9 0 P0 s0 = rowF T n b (9 - i) i pos s) (hi : i ≤ 8) (hn : ∃ V q0 : Int, numF T n 0 18 pos = .inr (V, e, q0) ∧ s' = upI s (b + i) (V - 9)) (hz : z = skp T n e) (hc : z < n ∧ tc T z = 44) (h9 : i + 1 ≠ 9) (hi' : i' = i + 1) (hp' : p' = z + 1) : rowF T n b 9 0 P0 s0 = rowF T n b (9 - i') i' p' s' := by
  obtain ⟨V, q0, h1, h2⟩ := hn
  subst h2 hi' hp'
  rw [hr, mo_f hi, row_on h1 hz ⟨hc.1, hc.2, h9⟩]
theorem mo_end (hr : rowF T n b 9 0 P0 s0 = rowF T n b (9 - i) i pos s) (hi : i ≤ 8) (hn : ∃ V q0 : Int, numF T n 0 18 pos = .inr (V, e, q0) ∧ s' = upI s (b + i) (V - 9)) (hz : z = skp T n e) (hc : n ≤ z ∨ tc T z ≠ 44 ∨ i + 1 = 9) (h2 : 2 ≤ i + 1) (hi' : i' = i + 1) (hp' : p' = z) : rowF T n b 9 0 P0 s0 = .inr (i', p', s') := by
  obtain ⟨V, q0, h1, h3⟩ := hn
  subst h3 hi' hp'
  rw [hr, mo_f hi, row_end h1 hz (fun q => by rcases hc with h | h | h; omega; exact h q.2.1; exact q.2.2 h), if_neg (by omega)]
theorem mo_one (hr : rowF T n b 9 0 P0 s0 = rowF T n b (9 - i) i pos s) (hi : i ≤ 8) (hn : ∃ V q0 : Int, numF T n 0 18 pos = .inr (V, e, q0) ∧ s' = upI s (b + i) (V - 9)) (hz : z = skp T n e) (hc : n ≤ z ∨ tc T z ≠ 44) (h2 : i + 1 < 2) : rowF T n b 9 0 P0 s0 = .inl (1, z) := by
  obtain ⟨V, q0, h1, h3⟩ := hn
  rw [hr, mo_f hi, row_end h1 hz (fun q => by rcases hc with h | h; omega; exact h q.2.1), if_pos h2]
end MO
theorem mo_num {T : Nat → Int32} {n pos w r w' e : Int} {b i : Nat} {s s' : Nat → Int} {num q0 : Int} (hn : MF (numF T n 0 18 pos) w r w' (fun x => num = x.1 ∧ e = x.2.1 ∧ q0 = x.2.2)) (h0 : r = 0) (hs : s' = upI s (b + i) (num - 9)) : ∃ V q0 : Int, numF T n 0 18 pos = .inr (V, e, q0) ∧ s' = upI s (b + i) (V - 9) := by
  obtain ⟨-, x, h1, h2, h3, h4⟩ := hn.get0 okF.num h0
  obtain ⟨x1, x2, x3⟩ := x
  have h2 : num = x1 := h2
  have h3 : e = x2 := h3
  subst h2 h3
  exact ⟨_, _, h1, hs⟩
theorem fI_upd {f : Nat → Int32} {k n : Nat} {x : Int32} {y : Int} (hk : k = n) (hx : x.toInt = y) : fI (upd f k x) = upI (fI f) n y := by
  subst hk hx
  funext j
  show (upd f k x j).toInt = if j = k then x.toInt else (f j).toInt
  unfold upd
  split <;> rfl
theorem sm_moon {S : St0} {vk vn : Vf} {px py p : Int} {m k : Nat} (h : SM (upS (upS (upS S 43 0 (S 43 0 + 1)) 45 m px) 46 m py) vk) (hm : m = (S 43 0).toNat) (e : scL lM2 vk vn) (e4 : ∀ j, j ≠ m → vn 44 j = vk 44 j) (hk : (vn 44 m).toInt = k) : SM (moonS S px py (k, p, fI (vn 47))) vn := fun t h1 j => by
  subst hm
  have e0 : moonS S px py (k, p, fI (vn 47)) t j = cond (Nat.beq t 47) ((vn 47 j).toInt) (cond (Nat.beq t 46 && Nat.beq j (S 43 0).toNat) py (cond (Nat.beq t 45 && Nat.beq j (S 43 0).toNat) px (cond (Nat.beq t 44 && Nat.beq j (S 43 0).toNat) (k : Int) (cond (Nat.beq t 43 && Nat.beq j 0) (S 43 0 + 1) (S t j))))) := rfl
  have e1 : ∀ t j, upS (upS (upS S 43 0 (S 43 0 + 1)) 45 (S 43 0).toNat px) 46 (S 43 0).toNat py t j = cond (Nat.beq t 46 && Nat.beq j (S 43 0).toNat) py (cond (Nat.beq t 45 && Nat.beq j (S 43 0).toNat) px (cond (Nat.beq t 43 && Nat.beq j 0) (S 43 0 + 1) (S t j))) := fun _ _ => rfl
  rw [e0]
  by_cases q7 : t = 47
  · subst q7
    rfl
  · rw [beqN q7]
    by_cases q4 : t = 44
    · subst q4
      have hb := h 44 (by decide) j
      rw [e1] at hb
      have hb : S 44 j = (vk 44 j).toInt := hb
      show cond (Nat.beq j (S 43 0).toNat) (k : Int) (S 44 j) = (vn 44 j).toInt
      by_cases q : j = (S 43 0).toNat
      · subst q
        rw [Nat.beq_refl, hk]
        rfl
      · rw [beqN q, e4 j q]
        exact hb
    · have hb := h t h1 j
      rw [e1] at hb
      rw [beqN q4, e t (by unfold lM2; intro hh; simp only [List.mem_cons, List.not_mem_nil, or_false] at hh; omega)]
      exact hb
