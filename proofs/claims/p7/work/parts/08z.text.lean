/-! a clause, the text -/
def clauseF (T : Nat → Int32) (n : Int) (S : St0) (q : Int) : Rd (Int × St0) :=
  if S 37 0 = 0 ∧ tc T q ≠ 103 then .inl (1, q)
  else if tc T q = 103 then rb (groundF T n S q (q + 1)) (fun z => .inr (z.2, groundS S z.1.1.1.1.1.2.1 z.1.1.1.1.2.1 z.1.1.2.1 z.1.2.1))
  else if tc T q = 99 then rb (cellF T n S q (q + 1)) (fun z => .inr (z.2, cellS S (plc (S 37 0) z.1.1.1.1.2) z.1.1.2.1 z.1.2.1))
  else if tc T q = 109 then rb (moonF T n S q (q + 1)) (fun z => .inr (z.2, moonS S z.1.1.1.2.1 z.1.1.2.1 z.1.2))
  else if tc T q = 104 then rb (houseF T n S q (q + 1)) (fun z => .inr (z.2, houseS S (plc (S 37 0) z.1.1.1.2) z.1.2.1))
  else if tc T q = 107 then rb (crackF T n S q (q + 1)) (fun z => .inr (z.2, crackS S (plc (S 37 0) z.1.1.1.1.1.2) z.1.1.1.1.2.1 z.1.2.1))
  else if tc T q = 119 then rb (wellF T n S q (q + 1)) (fun z => .inr (z.2, wellS S (plc (S 37 0) z.1.1.1.2) z.1.2.1))
  else if tc T q = 100 then rb (deedF T n S q (q + 1)) (fun z => .inr (z.2, deedS S z.1.1.1.2.1 z.1.1.2.1))
  else .inl (1, q)
def textF (T : Nat → Int32) (n : Int) : Nat → Int → St0 → Rd St0
  | 0, _, S => .inr S
  | f + 1, p, S => if skp T n p < n then rb (clauseF T n S (skp T n p)) (fun y => textF T n f y.1 y.2) else .inr S
/-- nothing told so far -/
def Z0 (S : St0) : Prop := S 37 0 = 0 ∧ S 38 0 = 0 ∧ S 41 0 = 0 ∧ S 43 0 = 0 ∧ S 48 0 = 0 ∧ S 51 0 = 0 ∧ S 55 0 = 0 ∧ S 58 0 = 0
theorem CF.map {α β : Type} {a : Rd α} {f : α → β} {g w g' w' : Int} {ok : α → Prop} {ok' : β → Prop} (h : CF a g w g' w' ok) (hm : ∀ x, ok x → ok' (f x)) : CF (rb a (fun z => .inr (f z))) g w g' w' ok' := by
  rcases h with h | ⟨q1, ⟨k, q, q2, q3, q4⟩ | ⟨x, q2, q3, q4, q5⟩⟩
  · exact Or.inl h
  · exact CF.no q1 (by rw [q2]; rfl) q3 q4
  · exact CF.ok q1 (x := f x) (by rw [q2]; rfl) q3 q4 (hm x q5)
theorem MF.map {α β : Type} {a : Rd α} {f : α → β} {w r w' : Int} {ok : α → Prop} {ok' : β → Prop} (h : MF a w r w' ok) (hm : ∀ x, ok x → ok' (f x)) : MF (rb a (fun z => .inr (f z))) w r w' ok' := by
  rcases h with ⟨k, q, q2, q3, q4⟩ | ⟨x, q2, q3, q4, q5⟩
  · exact MF.no (by rw [q2]; rfl) q3 q4
  · exact MF.ok (x := f x) (by rw [q2]; rfl) q3 q4 (hm x q5)
theorem cl_no {T : Nat → Int32} {n : Int} {S : St0} {q : Int} (h : (S 37 0 = 0 ∧ tc T q ≠ 103) ∨ (tc T q ≠ 103 ∧ tc T q ≠ 99 ∧ tc T q ≠ 109 ∧ tc T q ≠ 104 ∧ tc T q ≠ 107 ∧ tc T q ≠ 119 ∧ tc T q ≠ 100)) : clauseF T n S q = .inl (1, q) := by
  unfold clauseF
  rcases h with h | ⟨h1, h2, h3, h4, h5, h6, h7⟩
  · rw [if_pos h]
  · rw [if_neg h1, if_neg h2, if_neg h3, if_neg h4, if_neg h5, if_neg h6, if_neg h7, ite_self]
theorem cl_g {T : Nat → Int32} {n : Int} {S : St0} {q : Int} (h : tc T q = 103) : clauseF T n S q = rb (groundF T n S q (q + 1)) (fun z => .inr (z.2, groundS S z.1.1.1.1.1.2.1 z.1.1.1.1.2.1 z.1.1.2.1 z.1.2.1)) := by
  unfold clauseF
  rw [if_neg (fun z => z.2 h), if_pos h]
theorem cl_c {T : Nat → Int32} {n : Int} {S : St0} {q : Int} (h : tc T q = 99) (hS : S 37 0 ≠ 0) : clauseF T n S q = rb (cellF T n S q (q + 1)) (fun z => .inr (z.2, cellS S (plc (S 37 0) z.1.1.1.1.2) z.1.1.2.1 z.1.2.1)) := by
  unfold clauseF
  rw [if_neg (fun z => hS z.1), if_neg (by omega), if_pos h]
theorem cl_m {T : Nat → Int32} {n : Int} {S : St0} {q : Int} (h : tc T q = 109) (hS : S 37 0 ≠ 0) : clauseF T n S q = rb (moonF T n S q (q + 1)) (fun z => .inr (z.2, moonS S z.1.1.1.2.1 z.1.1.2.1 z.1.2)) := by
  unfold clauseF
  rw [if_neg (fun z => hS z.1), if_neg (by omega), if_neg (by omega), if_pos h]
theorem cl_h {T : Nat → Int32} {n : Int} {S : St0} {q : Int} (h : tc T q = 104) (hS : S 37 0 ≠ 0) : clauseF T n S q = rb (houseF T n S q (q + 1)) (fun z => .inr (z.2, houseS S (plc (S 37 0) z.1.1.1.2) z.1.2.1)) := by
  unfold clauseF
  rw [if_neg (fun z => hS z.1), if_neg (by omega), if_neg (by omega), if_neg (by omega), if_pos h]
theorem cl_k {T : Nat → Int32} {n : Int} {S : St0} {q : Int} (h : tc T q = 107) (hS : S 37 0 ≠ 0) : clauseF T n S q = rb (crackF T n S q (q + 1)) (fun z => .inr (z.2, crackS S (plc (S 37 0) z.1.1.1.1.1.2) z.1.1.1.1.2.1 z.1.2.1)) := by
  unfold clauseF
  rw [if_neg (fun z => hS z.1), if_neg (by omega), if_neg (by omega), if_neg (by omega), if_neg (by omega), if_pos h]
theorem cl_w {T : Nat → Int32} {n : Int} {S : St0} {q : Int} (h : tc T q = 119) (hS : S 37 0 ≠ 0) : clauseF T n S q = rb (wellF T n S q (q + 1)) (fun z => .inr (z.2, wellS S (plc (S 37 0) z.1.1.1.2) z.1.2.1)) := by
  unfold clauseF
  rw [if_neg (fun z => hS z.1), if_neg (by omega), if_neg (by omega), if_neg (by omega), if_neg (by omega), if_neg (by omega), if_pos h]
theorem cl_d {T : Nat → Int32} {n : Int} {S : St0} {q : Int} (h : tc T q = 100) (hS : S 37 0 ≠ 0) : clauseF T n S q = rb (deedF T n S q (q + 1)) (fun z => .inr (z.2, deedS S z.1.1.1.2.1 z.1.1.2.1)) := by
  unfold clauseF
  rw [if_neg (fun z => hS z.1), if_neg (by omega), if_neg (by omega), if_neg (by omega), if_neg (by omega), if_neg (by omega), if_neg (by omega), if_pos h]
theorem tx_end {T : Nat → Int32} {n : Int} {f : Nat} {p : Int} {S : St0} (h : n ≤ skp T n p) : textF T n f p S = .inr S := by
  cases f with
  | zero => rfl
  | succ f => exact if_neg (by omega)
theorem tx_no {T : Nat → Int32} {n : Int} {f : Nat} {p z : Int} {S : St0} {k q : Int} (hz : z = skp T n p) (h : z < n) (hc : clauseF T n S z = .inl (k, q)) : textF T n (f + 1) p S = .inl (k, q) := by
  subst hz
  show (if skp T n p < n then _ else _) = _
  rw [if_pos h, hc]
  rfl
theorem tx_on {T : Nat → Int32} {n : Int} {f : Nat} {p z : Int} {S : St0} {y : Int × St0} (hz : z = skp T n p) (h : z < n) (hc : clauseF T n S z = .inr y) : textF T n (f + 1) p S = textF T n f y.1 y.2 := by
  subst hz
  show (if skp T n p < n then _ else _) = _
  rw [if_pos h, hc]
  rfl
theorem rp_0 {S : St0} {vp : Vf} {cx ck : Int32} (hZ : Z0 S) (h0 : (vp 0 0).toInt = 0) (h1 : (vp 1 0).toInt = 0) (hc : ck.toInt = 0) (hx : cx = 0) (h5 : (vp 5 0).toInt = 0) (h6 : (vp 60 0).toInt = 0) (h7 : (vp 70 0).toInt = 0) (h8 : (vp 80 0).toInt = 0) (h9 : (vp 90 0).toInt = 0) (hu0 : vp 20 0 = 1 ∧ vp 23 0 = 0 ∧ vp 23 1 = 0) (hu1 : vp 30 0 = 1 ∧ vp 33 0 = 0 ∧ vp 33 1 = 0) (hu2 : vp 40 0 = 1 ∧ vp 43 0 = 0 ∧ vp 43 1 = 0) : Rp S vp cx ck := by
  obtain ⟨z1, z2, z3, z4, z5, z6, z7, z8⟩ := hZ
  refine ⟨⟨by omega, by omega, fun c hc => ?_, Or.inl ⟨z1, z2⟩⟩, ⟨by omega, by omega, fun c hc => ?_⟩, ⟨⟨by omega, fun _ => z4⟩, ⟨fun q => ?_, fun _ => hu0⟩, ⟨fun q => ?_, fun _ => hu1⟩, ⟨fun q => ?_, fun _ => hu2⟩⟩, ⟨by omega, fun k hk => ?_⟩, ⟨by omega, fun k hk => ?_⟩, ⟨by omega, fun k hk => ?_⟩, ⟨by omega, fun k hk => ?_⟩⟩
  · rw [z1, Int.zero_mul] at hc; omega
  · rw [z3, hx]
    show (0 : Int32).toBitVec.getLsbD c = false
    exact BitVec.getLsbD_zero
  · rw [z4] at q; omega
  · rw [z4] at q; omega
  · rw [z4] at q; omega
  · rw [z5] at hk; omega
  · rw [z6] at hk; omega
  · rw [z7] at hk; omega
  · rw [z8] at hk; omega
/-- the loop over the clauses, as the class does it -/
def nextS (a : Rd (Int × St0)) (S : St0) : St0 := match a with
  | .inl _ => S
  | .inr y => y.2
def TxI (T : Nat → Int32) (n : Int) (S0 : St0) (i : Nat) (p g w : Int) (S : St0) (vp : Vf) (cx ck : Int32) : Prop :=
  (g ≠ 0 ∧ textF T n 251 0 S0 = .inl (g, w)) ∨ (g = 0 ∧ w = -1 ∧ textF T n 251 0 S0 = textF T n (251 - i) p S ∧ Rp S vp cx ck)
theorem okF.clause {T : Nat → Int32} {n : Int} {S : St0} {q : Int} : okF (clauseF T n S q) := by
  have hb : ∀ {α : Type} {a : Rd α} {f : α → Int × St0}, okF a → okF (rb a (fun z => (.inr (f z) : Rd (Int × St0)))) := by
    intro α a f h k q hq
    cases a with
    | inl e => cases hq; exact h _ _ rfl
    | inr x => cases hq
  have h1 : okF (.inl (1, q) : Rd (Int × St0)) := fun k q h => by cases h; decide
  have ck : ∀ {b : Bool} {k q : Int}, 1 ≤ k ∧ k ≤ 4 → okF (Jvm.Pilot.@@N@@.chk b k q) := fun h => okF.chk h
  have pl : ∀ {W D p : Int}, okF (placeF T n W D p) := okF.num.th (fun _ => okF.num)
  unfold clauseF
  split
  · exact h1
  split
  · exact hb (((((((ck (by decide)).th (fun _ => okF.num)).th (fun _ => okF.num)).th (fun _ => ck (by decide))).th (fun _ => okF.num)).th (fun _ => okF.num)).th (fun _ => okF.sgn))
  split
  · exact hb ((((((ck (by decide)).th (fun _ => pl)).th (fun _ => ck (by decide))).th (fun _ => okF.num)).th (fun _ => okF.num)).th (fun _ => okF.sgn))
  split
  · exact hb (((((ck (by decide)).th (fun _ => okF.num)).th (fun _ => okF.num)).th (fun _ => okF.row _ _ _ _)).th (fun _ => okF.sgn))
  split
  · exact hb (((((ck (by decide)).th (fun _ => pl)).th (fun _ => ck (by decide))).th (fun _ => okF.num)).th (fun _ => okF.sgn))
  split
  · exact hb (((((((ck (by decide)).th (fun _ => pl)).th (fun _ => okF.num)).th (fun _ => ck (by decide))).th (fun _ => ck (by decide))).th (fun _ => okF.num)).th (fun _ => okF.sgn))
  split
  · exact hb (((((ck (by decide)).th (fun _ => pl)).th (fun _ => ck (by decide))).th (fun _ => okF.num)).th (fun _ => okF.sgn))
  split
  · exact hb (((((ck (by decide)).th (fun _ => okF.num)).th (fun _ => okF.num)).th (fun _ => ck (by decide))).th (fun _ => okF.sgn))
  · exact h1
theorem TxI.start {T : Nat → Int32} {n : Int} {S0 : St0} {vp : Vf} {cx ck : Int32} (h : Rp S0 vp cx ck) : TxI T n S0 0 0 0 (-1) S0 vp cx ck := Or.inr ⟨rfl, rfl, rfl, h⟩
theorem TxI.next {T : Nat → Int32} {n : Int} {S0 S : St0} {i : Nat} {p z g w g1 w1 p1 : Int} {vp vp1 : Vf} {cx ck cx1 ck1 : Int32} (h : TxI T n S0 i p g w S vp cx ck) (hg : g = 0) (hi : i < 251) (hz : z = skp T n p) (hn : z < n) (hc : CF (clauseF T n S z) g w g1 w1 (fun y => p1 = y.1 ∧ Rp y.2 vp1 cx1 ck1)) : TxI T n S0 (i + 1) p1 g1 w1 (nextS (clauseF T n S z) S) vp1 cx1 ck1 := by
  rcases h with h | ⟨h1, h2, h3, h4⟩
  · exact absurd hg h.1
  · rw [show 251 - i = (251 - (i + 1)) + 1 by omega] at h3
    rcases hc with q | ⟨-, ⟨k, q, q1, q2, q3⟩ | ⟨y, q1, q2, q3, q4⟩⟩
    · exact absurd hg q.1
    · have := okF.clause _ _ q1
      exact Or.inl ⟨by omega, by rw [h3, tx_no hz hn q1, q2, q3]⟩
    · refine Or.inr ⟨q2, by omega, ?_, ?_⟩
      · rw [h3, tx_on hz hn q1, q1]
        obtain ⟨y1, y2⟩ := y
        have e : p1 = y1 := q4.1
        subst e
        rfl
      · rw [q1]
        exact q4.2
theorem TxI.fin {T : Nat → Int32} {n : Int} {S0 S : St0} {i : Nat} {p g w : Int} {vp : Vf} {cx ck : Int32} (h : TxI T n S0 i p g w S vp cx ck) (he : g ≠ 0 ∨ n ≤ skp T n p) : CF (textF T n 251 0 S0) 0 (-1) g w (fun S => Rp S vp cx ck) := by
  rcases h with ⟨h1, h2⟩ | ⟨h1, h2, h3, h4⟩
  · exact CF.no rfl h2 rfl rfl
  · refine CF.ok rfl (x := S) ?_ h1 h2 h4
    rw [h3]
    exact tx_end (he.resolve_left (fun q => q h1))
