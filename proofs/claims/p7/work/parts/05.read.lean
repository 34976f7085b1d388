/-! ===== what a text says: a spec of the reading, in whole numbers ===== -/
def tc (T : Nat → Int32) (p : Int) : Int := (T p.toNat).toInt
def skF (T : Nat → Int32) (n : Int) : Nat → Int → Int
  | 0, p => p
  | f + 1, p => if p < n ∧ tc T p = 32 then skF T n f (p + 1) else p
def skp (T : Nat → Int32) (n p : Int) : Int := skF T n (n - p).toNat p
theorem skp_step {T : Nat → Int32} {n p : Int} (h1 : p < n) (h2 : tc T p = 32) : skp T n (p + 1) = skp T n p := by
  unfold skp
  rw [show (n - p).toNat = (n - (p + 1)).toNat + 1 by omega]
  show _ = if p < n ∧ tc T p = 32 then skF T n (n - (p + 1)).toNat (p + 1) else p
  rw [if_pos ⟨h1, h2⟩]
theorem skp_stop {T : Nat → Int32} {n p : Int} (h : n ≤ p ∨ tc T p ≠ 32) : skp T n p = p := by
  unfold skp
  cases (n - p).toNat with
  | zero => rfl
  | succ f =>
    show (if p < n ∧ tc T p = 32 then skF T n f (p + 1) else p) = p
    rw [if_neg (fun q => h.elim (fun a => by omega) (fun a => a q.2))]
theorem sk_out {T : Nat → Int32} {n p q : Int} (h : skp T n q = skp T n p) (hs : n ≤ q ∨ tc T q ≠ 32) : q = skp T n p := (skp_stop hs).symm.trans h
theorem skp_ge {T : Nat → Int32} {n : Int} : ∀ (f : Nat) (p : Int), p ≤ skF T n f p
  | 0, p => Int.le_refl p
  | f + 1, p => by
    show p ≤ if p < n ∧ tc T p = 32 then skF T n f (p + 1) else p
    split
    · exact Int.le_trans (by omega) (skp_ge f (p + 1))
    · exact Int.le_refl p
/-- the end of the figures from p on -/
def deF (T : Nat → Int32) (n : Int) : Nat → Int → Int
  | 0, p => p
  | f + 1, p => if p < n ∧ 48 ≤ tc T p ∧ tc T p ≤ 57 then deF T n f (p + 1) else p
def dep (T : Nat → Int32) (n p : Int) : Int := deF T n (n - p).toNat p
theorem dep_step {T : Nat → Int32} {n p : Int} (h1 : p < n) (h2 : 48 ≤ tc T p ∧ tc T p ≤ 57) : dep T n (p + 1) = dep T n p := by
  unfold dep
  rw [show (n - p).toNat = (n - (p + 1)).toNat + 1 by omega]
  show _ = if p < n ∧ 48 ≤ tc T p ∧ tc T p ≤ 57 then deF T n (n - (p + 1)).toNat (p + 1) else p
  rw [if_pos ⟨h1, h2⟩]
theorem dep_stop {T : Nat → Int32} {n p : Int} (h : n ≤ p ∨ tc T p < 48 ∨ 57 < tc T p) : dep T n p = p := by
  unfold dep
  cases (n - p).toNat with
  | zero => rfl
  | succ f =>
    show (if p < n ∧ 48 ≤ tc T p ∧ tc T p ≤ 57 then deF T n f (p + 1) else p) = p
    rw [if_neg (fun q => by omega)]
theorem de_out {T : Nat → Int32} {n p q : Int} (h : dep T n q = dep T n p) (hs : n ≤ q ∨ tc T q < 48 ∨ 57 < tc T q) : q = dep T n p := (dep_stop hs).symm.trans h
/-- the value of the first three figures -/
def vv3 (T : Nat → Int32) (q : Int) : Nat → Int
  | 0 => 0
  | k + 1 => if k < 3 then 10 * vv3 T q k + (tc T (q + k) - 48) else vv3 T q k
theorem vv_in {T : Nat → Int32} {q p x : Int} (hq : q ≤ p) (h3 : p - q < 3) (hx : x = 10 * vv3 T q (p - q).toNat + (tc T p - 48)) : x = vv3 T q (p + 1 - q).toNat := by
  rw [show (p + 1 - q).toNat = (p - q).toNat + 1 by omega]
  show x = if (p - q).toNat < 3 then 10 * vv3 T q (p - q).toNat + (tc T (q + ((p - q).toNat : Nat)) - 48) else _
  rw [if_pos (by omega), show q + (((p - q).toNat : Nat) : Int) = p by omega]
  exact hx
theorem vv_out {T : Nat → Int32} {q p : Int} (hq : q ≤ p) (h3 : 3 ≤ p - q) : vv3 T q (p - q).toNat = vv3 T q (p + 1 - q).toNat := by
  rw [show (p + 1 - q).toNat = (p - q).toNat + 1 by omega]
  show _ = if (p - q).toNat < 3 then _ else vv3 T q (p - q).toNat
  rw [if_neg (by omega)]
/-- a fault (its number, its place), or what was read -/
abbrev Rd (α : Type) : Type := (Int × Int) ⊕ α
def rb {α β : Type} (a : Rd α) (f : α → Rd β) : Rd β := match a with
  | .inl e => .inl e
  | .inr x => f x
/-- a number: value, where it ends, where it begins -/
def numF (T : Nat → Int32) (n lo hi p : Int) : Rd (Int × Int × Int) :=
  if skp T n p < n ∧ 48 ≤ tc T (skp T n p) ∧ tc T (skp T n p) ≤ 57 then
    (if 3 < dep T n (skp T n p) - skp T n p ∨ vv3 T (skp T n p) (dep T n (skp T n p) - skp T n p).toNat < lo ∨ hi < vv3 T (skp T n p) (dep T n (skp T n p) - skp T n p).toNat then .inl (2, skp T n p)
     else .inr (vv3 T (skp T n p) (dep T n (skp T n p) - skp T n p).toNat, dep T n (skp T n p), skp T n p))
  else .inl (1, skp T n p)
theorem num_no1 {T : Nat → Int32} {n lo hi p q : Int} (hq : q = skp T n p) (h : n ≤ q ∨ tc T q < 48 ∨ 57 < tc T q) : numF T n lo hi p = .inl (1, q) := by
  subst hq
  unfold numF
  rw [if_neg (fun z => by omega)]
theorem num_no2 {T : Nat → Int32} {n lo hi p q e v : Int} (hq : q = skp T n p) (h : q < n ∧ 48 ≤ tc T q ∧ tc T q ≤ 57) (he : e = dep T n q) (hv : v = vv3 T q (e - q).toNat) (hb : 3 < e - q ∨ v < lo ∨ hi < v) : numF T n lo hi p = .inl (2, q) := by
  subst hq he hv
  unfold numF
  rw [if_pos h, if_pos hb]
theorem num_ok {T : Nat → Int32} {n lo hi p q e v : Int} (hq : q = skp T n p) (h : q < n ∧ 48 ≤ tc T q ∧ tc T q ≤ 57) (he : e = dep T n q) (hv : v = vv3 T q (e - q).toNat) (hb : e - q ≤ 3 ∧ lo ≤ v ∧ v ≤ hi) : numF T n lo hi p = .inr (v, e, q) := by
  subst hq he hv
  unfold numF
  rw [if_pos h, if_neg (fun z => by omega)]
/-- a sign -/
def sgnF (T : Nat → Int32) (n s p : Int) : Rd Int := if skp T n p < n ∧ tc T (skp T n p) = s then .inr (skp T n p + 1) else .inl (1, skp T n p)
theorem sgn_ok {T : Nat → Int32} {n s p q : Int} (hq : q = skp T n p) (h : q < n ∧ tc T q = s) : sgnF T n s p = .inr (q + 1) := by
  subst hq
  exact if_pos h
theorem sgn_no {T : Nat → Int32} {n s p q : Int} (hq : q = skp T n p) (h : n ≤ q ∨ tc T q ≠ s) : sgnF T n s p = .inl (1, q) := by
  subst hq
  exact if_neg (fun z => h.elim (fun a => by omega) (fun a => a z.2))
/-- what a method of the class's reader makes of it: g is the fault before, g', w' the fault behind -/
def CF {α : Type} (a : Rd α) (g w g' w' : Int) (ok : α → Prop) : Prop := (g ≠ 0 ∧ g' = g ∧ w' = w) ∨ (g = 0 ∧ ((∃ k q, a = .inl (k, q) ∧ g' = k ∧ w' = q) ∨ (∃ x, a = .inr x ∧ g' = 0 ∧ w' = w ∧ ok x)))
/-- and what a method of the reference -/
def MF {α : Type} (a : Rd α) (w r w' : Int) (ok : α → Prop) : Prop := (∃ k q, a = .inl (k, q) ∧ r = k ∧ w' = q) ∨ (∃ x, a = .inr x ∧ r = 0 ∧ w' = w ∧ ok x)
theorem num_pos {T : Nat → Int32} {n lo hi p k q : Int} (h : numF T n lo hi p = .inl (k, q)) : k = 1 ∨ k = 2 := by
  unfold numF at h
  split at h
  · split at h
    · cases h; exact Or.inr rfl
    · cases h
  · cases h; exact Or.inl rfl
theorem CF.old {α : Type} {a : Rd α} {g w g' w' : Int} {ok : α → Prop} (h : g ≠ 0) (h1 : g' = g) (h2 : w' = w) : CF a g w g' w' ok := Or.inl ⟨h, h1, h2⟩
theorem CF.no {α : Type} {a : Rd α} {g w g' w' k q : Int} {ok : α → Prop} (h : g = 0) (ha : a = .inl (k, q)) (h1 : g' = k) (h2 : w' = q) : CF a g w g' w' ok := Or.inr ⟨h, Or.inl ⟨k, q, ha, h1, h2⟩⟩
theorem CF.ok {α : Type} {a : Rd α} {g w g' w' : Int} {ok : α → Prop} {x : α} (h : g = 0) (ha : a = .inr x) (h1 : g' = 0) (h2 : w' = w) (h3 : ok x) : CF a g w g' w' ok := Or.inr ⟨h, Or.inr ⟨x, ha, h1, h2, h3⟩⟩
/-! steps behind each other -/
def th {α β : Type} (a : Rd α) (s : α → Rd β) : Rd (α × β) := rb a (fun x => rb (s x) (fun y => .inr (x, y)))
def chk (b : Bool) (k q : Int) : Rd Unit := if b = true then .inl (k, q) else .inr ()
def okF {α : Type} (a : Rd α) : Prop := ∀ k q, a = .inl (k, q) → 1 ≤ k ∧ k ≤ 4
theorem okF.num {T : Nat → Int32} {n lo hi p : Int} : okF (numF T n lo hi p) := fun k q h => by
  rcases num_pos h with h | h <;> omega
theorem okF.sgn {T : Nat → Int32} {n s p : Int} : okF (sgnF T n s p) := fun k q h => by
  unfold sgnF at h
  split at h
  · cases h
  · cases h; decide
theorem okF.chk {b : Bool} {k q : Int} (hk : 1 ≤ k ∧ k ≤ 4) : okF (chk b k q) := fun k' q' h => by
  unfold Jvm.Pilot.@@N@@.chk at h
  split at h
  · cases h; exact hk
  · cases h
theorem okF.th {α β : Type} {a : Rd α} {s : α → Rd β} (h1 : okF a) (h2 : ∀ x, okF (s x)) : okF (th a s) := fun k q h => by
  cases a with
  | inl e => cases h; exact h1 _ _ rfl
  | inr x =>
    have h : rb (s x) (fun y => (.inr (x, y) : Rd (α × β))) = .inl (k, q) := h
    cases hs : s x with
    | inl e => rw [hs] at h; cases h; exact h2 x _ _ hs
    | inr y => rw [hs] at h; cases h
theorem th_no {α β : Type} {a : Rd α} {s : α → Rd β} {e : Int × Int} (h : a = .inl e) : th a s = .inl e := by rw [h]; rfl
theorem th_in {α β : Type} {a : Rd α} {s : α → Rd β} {x : α} {e : Int × Int} (h : a = .inr x) (h2 : s x = .inl e) : th a s = .inl e := by
  rw [h]
  show rb (s x) _ = _
  rw [h2]
  rfl
theorem th_ok {α β : Type} {a : Rd α} {s : α → Rd β} {x : α} {y : β} (h : a = .inr x) (h2 : s x = .inr y) : th a s = .inr (x, y) := by
  rw [h]
  show rb (s x) _ = _
  rw [h2]
  rfl
theorem CF.then {α β : Type} {a : Rd α} {s : α → Rd β} {a2 : Rd β} {g w g1 w1 g2 w2 : Int} {ok1 : α → Prop} {ok2 : β → Prop} (h1 : CF a g w g1 w1 ok1) (h2 : CF a2 g1 w1 g2 w2 ok2) (hk : okF a) (he : ∀ x, ok1 x → s x = a2) : CF (th a s) g w g2 w2 (fun z => ok1 z.1 ∧ ok2 z.2) := by
  rcases h1 with ⟨q1, q2, q3⟩ | ⟨q1, ⟨k, q, q2, q3, q4⟩ | ⟨x, q2, q3, q4, q5⟩⟩
  · rcases h2 with ⟨p1, p2, p3⟩ | ⟨p1, p2⟩
    · exact Or.inl ⟨q1, by omega, by omega⟩
    · omega
  · have := hk k q q2
    rcases h2 with ⟨p1, p2, p3⟩ | ⟨p1, p2⟩
    · exact CF.no q1 (th_no q2) (by omega) (by omega)
    · omega
  · rcases h2 with ⟨p1, p2, p3⟩ | ⟨p1, ⟨k, q, p2, p3, p4⟩ | ⟨y, p2, p3, p4, p5⟩⟩
    · omega
    · exact CF.no q1 (th_in q2 ((he x q5).trans p2)) p3 p4
    · exact CF.ok q1 (th_ok q2 ((he x q5).trans p2)) p3 (by omega) ⟨q5, p5⟩
/-- a refusal of the class's -/
theorem CF.chk {b : Bool} {c k q g w g' w' : Int} (hb : g = 0 → (c = 0 ∧ b = false) ∨ (c ≠ 0 ∧ b = true)) (h : (c ≠ 0 ∧ g = 0 ∧ g' = k ∧ w' = q) ∨ ((c = 0 ∨ g ≠ 0) ∧ g' = g ∧ w' = w)) : CF (chk b k q) g w g' w' (fun _ => True) := by
  rcases Decidable.em (g = 0) with z | z
  · rcases hb z with ⟨c1, rfl⟩ | ⟨c1, rfl⟩
    · rcases h with h | h
      · omega
      · exact CF.ok (x := ()) z rfl (by omega) (by omega) trivial
    · rcases h with h | h
      · exact CF.no h.2.1 rfl h.2.2.1 h.2.2.2
      · omega
  · rcases h with h | h
    · omega
    · exact CF.old z h.2.1 h.2.2
theorem CF.get {α : Type} {a : Rd α} {g w g' w' : Int} {ok : α → Prop} (h : CF a g w g' w' ok) (hk : okF a) (h0 : g' = 0) : g = 0 ∧ w' = w ∧ ∃ x, a = .inr x ∧ ok x := by
  rcases h with ⟨q1, q2, q3⟩ | ⟨q1, ⟨k, q, q2, q3, q4⟩ | ⟨x, q2, q3, q4, q5⟩⟩
  · omega
  · have := hk k q q2
    omega
  · exact ⟨q1, q4, x, q2, q5⟩
theorem num_rng {T : Nat → Int32} {n lo hi p : Int} {x : Int × Int × Int} (h : numF T n lo hi p = .inr x) : lo ≤ x.1 ∧ x.1 ≤ hi := by
  unfold numF at h
  split at h
  · split at h
    · cases h
    · rename_i q
      cases h
      exact ⟨by omega, by omega⟩
  · cases h
theorem th_get {α β : Type} {a : Rd α} {s : α → Rd β} {z : α × β} (h : th a s = .inr z) : a = .inr z.1 ∧ s z.1 = .inr z.2 := by
  cases a with
  | inl e => cases h
  | inr x =>
    have h : rb (s x) (fun y => (.inr (x, y) : Rd (α × β))) = .inr z := h
    cases hs : s x with
    | inl e => rw [hs] at h; cases h
    | inr y => rw [hs] at h; cases h; exact ⟨rfl, hs⟩
theorem CF.mono {α : Type} {a : Rd α} {g w g' w' : Int} {ok ok' : α → Prop} (h : CF a g w g' w' ok) (hm : g = 0 → g' = 0 → ∀ x, ok x → ok' x) : CF a g w g' w' ok' := by
  rcases h with h | ⟨q1, h | ⟨x, q2, q3, q4, q5⟩⟩
  · exact Or.inl h
  · exact Or.inr ⟨q1, Or.inl h⟩
  · exact CF.ok q1 q2 q3 q4 (hm q1 q3 x q5)
/-- the reference's steps -/
theorem MF.no {α : Type} {a : Rd α} {w r w' k q : Int} {ok : α → Prop} (ha : a = .inl (k, q)) (h1 : r = k) (h2 : w' = q) : MF a w r w' ok := Or.inl ⟨k, q, ha, h1, h2⟩
theorem MF.ok {α : Type} {a : Rd α} {w r w' : Int} {ok : α → Prop} {x : α} (ha : a = .inr x) (h1 : r = 0) (h2 : w' = w) (h3 : ok x) : MF a w r w' ok := Or.inr ⟨x, ha, h1, h2, h3⟩
theorem MF.stop {α β : Type} {a : Rd α} {s : α → Rd β} {w r w' : Int} {ok : α → Prop} {ok2 : α × β → Prop} (h : MF a w r w' ok) (hr : r ≠ 0) : MF (th a s) w r w' ok2 := by
  rcases h with ⟨k, q, h1, h2, h3⟩ | ⟨x, h1, h2, h3⟩
  · exact MF.no (th_no h1) h2 h3
  · exact absurd h2 hr
theorem MF.then {α β : Type} {a : Rd α} {s : α → Rd β} {a2 : Rd β} {w r1 w1 r2 w2 : Int} {ok1 : α → Prop} {ok2 : β → Prop} (h1 : MF a w r1 w1 ok1) (hr : r1 = 0) (h2 : MF a2 w1 r2 w2 ok2) (hk : okF a) (he : ∀ x, ok1 x → s x = a2) : MF (th a s) w r2 w2 (fun z => ok1 z.1 ∧ ok2 z.2) := by
  rcases h1 with ⟨k, q, q2, q3, q4⟩ | ⟨x, q2, q3, q4, q5⟩
  · have := hk k q q2
    omega
  · rcases h2 with ⟨k, q, p2, p3, p4⟩ | ⟨y, p2, p3, p4, p5⟩
    · exact MF.no (th_in q2 ((he x q5).trans p2)) p3 p4
    · exact MF.ok (th_ok q2 ((he x q5).trans p2)) p3 (by omega) ⟨q5, p5⟩
theorem MF.mono {α : Type} {a : Rd α} {w r w' : Int} {ok ok' : α → Prop} (h : MF a w r w' ok) (hm : r = 0 → ∀ x, ok x → ok' x) : MF a w r w' ok' := by
  rcases h with h | ⟨x, q2, q3, q4, q5⟩
  · exact Or.inl h
  · exact MF.ok q2 q3 q4 (hm q3 x q5)
/-! the clauses: S is what is told so far, by the reference's places -/
abbrev St0 : Type := Nat → Nat → Int
def anyE (f : Nat → Int) (c : Int) : Nat → Bool
  | 0 => false
  | k + 1 => anyE f c k || decide (f k = c)
def anyE2 (f h : Nat → Int) (c d : Int) : Nat → Bool
  | 0 => false
  | k + 1 => anyE2 f h c d k || decide (f k = c ∧ h k = d)
def placeF (T : Nat → Int32) (n W D p : Int) : Rd ((Int × Int × Int) × (Int × Int × Int)) := th (numF T n 0 (W - 1) p) (fun a => numF T n 0 (D - 1) a.2.1)
def plc (W : Int) (z : (Int × Int × Int) × (Int × Int × Int)) : Int := W * z.2.1 + z.1.1
theorem place_lt {T : Nat → Int32} {n W D p : Int} {z : (Int × Int × Int) × (Int × Int × Int)} (h : placeF T n W D p = .inr z) : 1 ≤ W ∧ 1 ≤ D ∧ 0 ≤ plc W z ∧ plc W z < W * D := by
  obtain ⟨h1, h2⟩ := th_get h
  have r1 := num_rng h1
  have r2 := num_rng h2
  have q1 : 0 ≤ W * z.2.1 := Int.mul_nonneg (by omega) (by omega)
  have q2 : W * z.2.1 ≤ W * (D - 1) := Int.mul_le_mul_of_nonneg_left (by omega) (by omega)
  have q3 : W * (D - 1) = W * D - W := by rw [Int.mul_sub, Int.mul_one]
  unfold plc
  omega
def houseF (T : Nat → Int32) (n : Int) (S : St0) (wa p : Int) := th (th (th (th (chk (decide (6 ≤ S 48 0)) 3 wa) (fun _ => placeF T n (S 37 0) (S 38 0) p)) (fun z => chk (anyE (S 49) (plc (S 37 0) z.2) (S 48 0).toNat) 4 z.2.2.2.2)) (fun z => numF T n 0 99 z.1.2.2.2.1)) (fun z => sgnF T n 59 z.2.2.1)
def wellF (T : Nat → Int32) (n : Int) (S : St0) (wa p : Int) := th (th (th (th (chk (decide (5 ≤ S 55 0)) 3 wa) (fun _ => placeF T n (S 37 0) (S 38 0) p)) (fun z => chk (anyE (S 56) (plc (S 37 0) z.2) (S 55 0).toNat) 4 z.2.2.2.2)) (fun z => numF T n 0 99 z.1.2.2.2.1)) (fun z => sgnF T n 59 z.2.2.1)
def cellF (T : Nat → Int32) (n : Int) (S : St0) (wa p : Int) := th (th (th (th (th (chk (decide (12 ≤ S 41 0)) 3 wa) (fun _ => placeF T n (S 37 0) (S 38 0) p)) (fun z => chk (anyE (S 42) (plc (S 37 0) z.2) (S 41 0).toNat) 4 z.2.2.2.2)) (fun z => numF T n 0 99 z.1.2.2.2.1)) (fun z => numF T n 0 9 z.2.2.1)) (fun z => sgnF T n 59 z.2.2.1)
def deedF (T : Nat → Int32) (n : Int) (S : St0) (wa p : Int) := th (th (th (th (chk (decide (4 ≤ S 58 0)) 3 wa) (fun _ => numF T n 0 300 p)) (fun z => numF T n 0 300 z.2.2.1)) (fun z => chk (decide (z.2.1 < z.1.2.1)) 4 z.2.2.2)) (fun z => sgnF T n 59 z.1.2.2.1)
def crackF (T : Nat → Int32) (n : Int) (S : St0) (wa p : Int) := th (th (th (th (th (th (chk (decide (6 ≤ S 51 0)) 3 wa) (fun _ => placeF T n (S 37 0) (S 38 0) p)) (fun z => numF T n 0 1 z.2.2.2.1)) (fun z => chk (decide ((z.2.1 = 0 ∧ plc (S 37 0) z.1.2 % S 37 0 = S 37 0 - 1) ∨ (z.2.1 ≠ 0 ∧ plc (S 37 0) z.1.2 / S 37 0 = S 38 0 - 1))) 2 z.2.2.2)) (fun z => chk (anyE2 (S 52) (S 53) (plc (S 37 0) z.1.1.2) z.1.2.1 (S 51 0).toNat) 4 z.1.2.2.2)) (fun z => numF T n 0 60 z.1.1.2.2.1)) (fun z => sgnF T n 59 z.2.2.1)
def groundF (T : Nat → Int32) (n : Int) (S : St0) (wa p : Int) := th (th (th (th (th (th (chk (decide (1 ≤ S 37 0)) 3 wa) (fun _ => numF T n 1 6 p)) (fun z => numF T n 1 6 z.2.2.1)) (fun z => chk (decide (24 < z.1.2.1 * z.2.1)) 2 z.2.2.2)) (fun z => numF T n 0 99 z.1.2.2.1)) (fun z => numF T n 0 9 z.2.2.1)) (fun z => sgnF T n 59 z.2.2.1)
/-- a row of a moon: from the i-th part on; s is the rows of all moons, b where this one's begins -/
def upI (f : Nat → Int) (k : Nat) (x : Int) : Nat → Int := fun j => if j = k then x else f j
def rowF (T : Nat → Int32) (n : Int) (b : Nat) : Nat → Nat → Int → (Nat → Int) → Rd (Nat × Int × (Nat → Int))
  | 0, _, p, _ => .inl (1, p)
  | f + 1, i, p, s => rb (numF T n 0 18 p) (fun a =>
      if skp T n a.2.1 < n ∧ tc T (skp T n a.2.1) = 44 ∧ i + 1 ≠ 9 then rowF T n b f (i + 1) (skp T n a.2.1 + 1) (upI s (b + i) (a.1 - 9))
      else if i + 1 < 2 then .inl (1, skp T n a.2.1) else .inr (i + 1, skp T n a.2.1, upI s (b + i) (a.1 - 9)))
theorem row_no {T : Nat → Int32} {n : Int} {b f i : Nat} {p : Int} {s : Nat → Int} {k q : Int} (h : numF T n 0 18 p = .inl (k, q)) : rowF T n b (f + 1) i p s = .inl (k, q) := by
  show rb (numF T n 0 18 p) _ = _
  rw [h]
  rfl
theorem row_on {T : Nat → Int32} {n : Int} {b f i : Nat} {p : Int} {s : Nat → Int} {v e q z : Int} (h : numF T n 0 18 p = .inr (v, e, q)) (hz : z = skp T n e) (hc : z < n ∧ tc T z = 44 ∧ i + 1 ≠ 9) : rowF T n b (f + 1) i p s = rowF T n b f (i + 1) (z + 1) (upI s (b + i) (v - 9)) := by
  subst hz
  show rb (numF T n 0 18 p) _ = _
  rw [h]
  show (if _ then _ else _) = _
  rw [if_pos hc]
theorem row_end {T : Nat → Int32} {n : Int} {b f i : Nat} {p : Int} {s : Nat → Int} {v e q z : Int} (h : numF T n 0 18 p = .inr (v, e, q)) (hz : z = skp T n e) (hc : ¬ (z < n ∧ tc T z = 44 ∧ i + 1 ≠ 9)) : rowF T n b (f + 1) i p s = if i + 1 < 2 then .inl (1, z) else .inr (i + 1, z, upI s (b + i) (v - 9)) := by
  subst hz
  show rb (numF T n 0 18 p) _ = _
  rw [h]
  show (if _ then _ else _) = _
  rw [if_neg hc]
theorem okF.row {T : Nat → Int32} {n : Int} {b : Nat} : ∀ (f i : Nat) (p : Int) (s : Nat → Int), okF (rowF T n b f i p s)
  | 0, i, p, s => fun k q h => by cases h; decide
  | f + 1, i, p, s => fun k q h => by
    cases hn : numF T n 0 18 p with
    | inl e => obtain ⟨k1, q1⟩ := e; rw [row_no hn] at h; cases h; exact okF.num _ _ hn
    | inr e =>
      obtain ⟨v, e, q0⟩ := e
      by_cases hc : skp T n e < n ∧ tc T (skp T n e) = 44 ∧ i + 1 ≠ 9
      · rw [row_on hn rfl hc] at h; exact okF.row f _ _ _ _ _ h
      · rw [row_end hn rfl hc] at h
        split at h
        · cases h; decide
        · cases h
def moonF (T : Nat → Int32) (n : Int) (S : St0) (wa p : Int) := th (th (th (th (chk (decide (3 ≤ S 43 0)) 3 wa) (fun _ => numF T n 0 8 p)) (fun z => numF T n 0 8 z.2.2.1)) (fun z => rowF T n (9 * (S 43 0).toNat) 9 0 z.2.2.1 (S 47))) (fun z => sgnF T n 59 z.2.2.1)
theorem any_no {f : Nat → Int} {c i j : Int} (h : anyE f c i.toNat = false) (hi : 0 ≤ i) (hj : j = i + 1) (hx : f i.toNat ≠ c) : anyE f c j.toNat = false := by
  subst hj
  rw [show (i + 1).toNat = i.toNat + 1 by omega]
  show (anyE f c i.toNat || decide (f i.toNat = c)) = false
  rw [h, decide_eq_false hx]
  rfl
theorem any_up {f : Nat → Int} {c : Int} : ∀ (k m : Nat), anyE f c k = true → anyE f c (k + m) = true
  | k, 0, h => h
  | k, m + 1, h => by
    show (anyE f c (k + m) || _) = true
    rw [any_up k m h]
    rfl
theorem any_yes {f : Nat → Int} {c i n : Int} (hi : 0 ≤ i) (hn : i < n) (hx : f i.toNat = c) : anyE f c n.toNat = true := by
  have h1 : anyE f c (i.toNat + 1) = true := by
    show (anyE f c i.toNat || decide (f i.toNat = c)) = true
    rw [decide_eq_true hx, Bool.or_true]
  have h2 := any_up (f := f) (c := c) (i.toNat + 1) (n.toNat - (i.toNat + 1)) h1
  rw [show i.toNat + 1 + (n.toNat - (i.toNat + 1)) = n.toNat by omega] at h2
  exact h2
theorem any2_no {f h : Nat → Int} {c d i j : Int} (ha : anyE2 f h c d i.toNat = false) (hi : 0 ≤ i) (hj : j = i + 1) (hx : ¬ (f i.toNat = c ∧ h i.toNat = d)) : anyE2 f h c d j.toNat = false := by
  subst hj
  rw [show (i + 1).toNat = i.toNat + 1 by omega]
  show (anyE2 f h c d i.toNat || decide (f i.toNat = c ∧ h i.toNat = d)) = false
  rw [ha, decide_eq_false hx]
  rfl
theorem any2_up {f h : Nat → Int} {c d : Int} : ∀ (k m : Nat), anyE2 f h c d k = true → anyE2 f h c d (k + m) = true
  | k, 0, q => q
  | k, m + 1, q => by
    show (anyE2 f h c d (k + m) || _) = true
    rw [any2_up k m q]
    rfl
theorem any2_yes {f h : Nat → Int} {c d i n : Int} (hi : 0 ≤ i) (hn : i < n) (hx : f i.toNat = c ∧ h i.toNat = d) : anyE2 f h c d n.toNat = true := by
  have h1 : anyE2 f h c d (i.toNat + 1) = true := by
    show (anyE2 f h c d i.toNat || decide (f i.toNat = c ∧ h i.toNat = d)) = true
    rw [decide_eq_true hx, Bool.or_true]
  have h2 := any2_up (f := f) (h := h) (c := c) (d := d) (i.toNat + 1) (n.toNat - (i.toNat + 1)) h1
  rw [show i.toNat + 1 + (n.toNat - (i.toNat + 1)) = n.toNat by omega] at h2
  exact h2
abbrev fI (f : Nat → Int32) : Nat → Int := fun k => (f k).toInt
theorem bes_of {x way a b cx cy r : Int32} {W D rx ry : Int} (hc : (r.toInt = -1 ∧ (cx.toInt < 0 ∨ W ≤ cx.toInt ∨ cy.toInt < 0 ∨ D ≤ cy.toInt)) ∨ (r.toInt = W * cy.toInt + cx.toInt ∧ (0 ≤ cx.toInt ∧ cx.toInt < W) ∧ 0 ≤ cy.toInt ∧ cy.toInt < D)) (hW : 1 ≤ W) (hx : 0 ≤ x.toInt ∧ x.toInt ≤ 23) (hxl : x.toInt < W * D) (tx : rx = x.toInt % W) (ty : ry = x.toInt / W) (ea : a = wyX way.toNatClampNeg) (eb : b = wyY way.toNatClampNeg) (tcx : cx.toInt = rx + a.toInt) (tcy : cy.toInt = ry + b.toInt) :
    (way.toInt = 2 → ((r.toInt = -1 ∧ x.toInt % W = W - 1) ∨ (0 ≤ r.toInt ∧ x.toInt % W ≠ W - 1))) ∧ (way.toInt = 3 → ((r.toInt = -1 ∧ x.toInt / W = D - 1) ∨ (0 ≤ r.toInt ∧ x.toInt / W ≠ D - 1))) := by
  have m1 := Int.emod_nonneg x.toInt (show W ≠ 0 by omega)
  have m2 := Int.emod_lt_of_pos x.toInt (show 0 < W by omega)
  have d1 : 0 ≤ x.toInt / W := Int.ediv_nonneg hx.1 (by omega)
  have d2 : x.toInt / W < D := Int.ediv_lt_of_lt_mul (by omega) (by rw [Int.mul_comm]; exact hxl)
  have mm : 0 ≤ W * cy.toInt ∨ cy.toInt < 0 := by
    rcases Int.lt_or_le cy.toInt 0 with q | q
    · exact Or.inr q
    · exact Or.inl (Int.mul_nonneg (by omega) q)
  refine ⟨fun h => ?_, fun h => ?_⟩
  · have k : way.toNatClampNeg = 2 := by show way.toInt.toNat = 2; omega
    rw [k] at ea eb
    have a1 : a.toInt = 1 := by rw [ea]; decide
    have b1 : b.toInt = 0 := by rw [eb]; decide
    omega
  · have k : way.toNatClampNeg = 3 := by show way.toInt.toNat = 3; omega
    rw [k] at ea eb
    have a1 : a.toInt = 0 := by rw [ea]; decide
    have b1 : b.toInt = 1 := by rw [eb]; decide
    omega
