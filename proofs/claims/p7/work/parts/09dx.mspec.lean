/-! ===== the reference's reading against the spec: what is told so far, by its places 31, 32 and 37 .. 60 ===== -/
def SM (S : St0) (vm : Vf) : Prop := ∀ t, (t = 31 ∨ t = 32) ∨ (37 ≤ t ∧ t ≤ 60) → ∀ j, S t j = (vm t j).toInt
theorem SM.at {S : St0} {vm : Vf} (h : SM S vm) (t : Nat) (h1 : (t = 31 ∨ t = 32) ∨ (37 ≤ t ∧ t ≤ 60)) : S t = fI (vm t) := funext (h t h1)
theorem SM.sc {S : St0} {v w : Vf} (h : SM S v) (e : sc v w) : SM S w := fun t h1 j => by
  rw [e t (by omega) (by omega) (by omega) (by omega) (by omega)]
  exact h t h1 j
theorem SM.sn {S : St0} {v w : Vf} (h : SM S v) (e : sn v w) : SM S w := h.sc e.sc
theorem SM.step {S : St0} {v w : Vf} {K k n : Nat} {x : Int32} (h : SM S v) (e : scK K v w) (f : w K = upd (v K) k x) (hk : k = n) : SM (upS S K n x.toInt) w := fun t h1 j => by
  subst hk
  by_cases q : t = K
  · subst q
    show cond (Nat.beq t t && Nat.beq j k) x.toInt (S t j) = (w t j).toInt
    rw [f, Nat.beq_refl, Bool.true_and]
    by_cases q2 : j = k
    · subst q2
      rw [updA, Nat.beq_refl]
      rfl
    · rw [updN q2, beqN q2]
      exact h t h1 j
  · show cond (Nat.beq t K && Nat.beq j k) x.toInt (S t j) = (w t j).toInt
    rw [beqN q, e t (by omega) (by omega) (by omega) (by omega) (by omega) q]
    exact h t h1 j
theorem SM.up {S : St0} {v : Vf} {K k : Nat} {x : Int32} (h : SM S v) : SM (upS S K k x.toInt) (up2 v K k x) :=
  h.step (K := K) (k := k) (fun t _ _ _ _ _ q => up2_ne q) (by show cond (Nat.beq K K) (upd (v K) k x) (v K) = _; rw [Nat.beq_refl]; rfl) rfl
/-- a count went up by one -/
theorem SM.cnt {S : St0} {v w : Vf} {K : Nat} {x : Int32} (h : SM S v) (e : up2 v K 0 x = w) (hx : x.toInt = S K 0 + 1) : SM (upS S K 0 (S K 0 + 1)) w := by
  subst e
  rw [← hx]
  exact h.up
theorem cellx {w d n x a b : Int32} {z : (Int × Int × Int) × (Int × Int × Int)} (hw : 0 ≤ w.toInt ∧ w.toInt ≤ 6) (hc : w.toInt * d.toInt ≤ 24) (ea : a = w * n) (eb : b = a + x) (hx : 0 ≤ x.toInt ∧ x.toInt < w.toInt) (hn : 0 ≤ n.toInt ∧ n.toInt < d.toInt) (h1 : x.toInt = z.1.1) (h2 : n.toInt = z.2.1) : b.toInt = plc w.toInt z := by
  have q := mcell_lt hw hc hx.1 hx.2 hn.1 hn.2
  have p0 : 0 ≤ w.toInt * n.toInt := Int.mul_nonneg hw.1 hn.1
  have ta := i_mul ea (by omega)
  have tb := i_add eb (by omega)
  unfold plc
  rw [← h1, ← h2, tb, ta]
theorem am_1 {f : Nat → Int} {c i s : Int} (h : (s = 1 ∧ anyE f c i.toNat = true) ∨ (s = 0 ∧ anyE f c i.toNat = false)) (hi : 0 ≤ i) (hs : s ≠ 0 ∨ f i.toNat = c) : anyE f c (i + 1).toNat = true := by
  rw [show (i + 1).toNat = i.toNat + 1 by omega]
  show (anyE f c i.toNat || decide (f i.toNat = c)) = true
  rcases hs with q | q
  · rw [(h.resolve_right (fun z => q z.1)).2]
    rfl
  · rw [decide_eq_true q, Bool.or_true]
theorem am_0 {f : Nat → Int} {c i s : Int} (h : (s = 1 ∧ anyE f c i.toNat = true) ∨ (s = 0 ∧ anyE f c i.toNat = false)) (hi : 0 ≤ i) (hs : s = 0) (hx : f i.toNat ≠ c) : anyE f c (i + 1).toNat = false := by
  rw [show (i + 1).toNat = i.toNat + 1 by omega]
  show (anyE f c i.toNat || decide (f i.toNat = c)) = false
  rw [(h.resolve_left (fun z => by omega)).2, decide_eq_false hx]
  rfl
theorem am2_1 {f g : Nat → Int} {c d i s : Int} (h : (s = 1 ∧ anyE2 f g c d i.toNat = true) ∨ (s = 0 ∧ anyE2 f g c d i.toNat = false)) (hi : 0 ≤ i) (hs : s ≠ 0 ∨ (f i.toNat = c ∧ g i.toNat = d)) : anyE2 f g c d (i + 1).toNat = true := by
  rw [show (i + 1).toNat = i.toNat + 1 by omega]
  show (anyE2 f g c d i.toNat || decide (f i.toNat = c ∧ g i.toNat = d)) = true
  rcases hs with q | q
  · rw [(h.resolve_right (fun z => q z.1)).2]
    rfl
  · rw [decide_eq_true q, Bool.or_true]
theorem am2_0 {f g : Nat → Int} {c d i s : Int} (h : (s = 1 ∧ anyE2 f g c d i.toNat = true) ∨ (s = 0 ∧ anyE2 f g c d i.toNat = false)) (hi : 0 ≤ i) (hs : s = 0) (hx : ¬ (f i.toNat = c ∧ g i.toNat = d)) : anyE2 f g c d (i + 1).toNat = false := by
  rw [show (i + 1).toNat = i.toNat + 1 by omega]
  show (anyE2 f g c d i.toNat || decide (f i.toNat = c ∧ g i.toNat = d)) = false
  rw [(h.resolve_left (fun z => by omega)).2, decide_eq_false hx]
  rfl
/-! steps of the reference -/
theorem chk_off {P : Prop} [Decidable P] {k q : Int} (h : ¬ P) : chk (decide P) k q = .inr () := by
  rw [decide_eq_false h]
  rfl
theorem chk_on {P : Prop} [Decidable P] {k q : Int} (h : P) : chk (decide P) k q = .inl (k, q) := by
  rw [decide_eq_true h]
  rfl
theorem MF.pre1 {α : Type} {c : Rd Unit} {a : Rd α} {w r w' : Int} {ok : α → Prop} (hc : c = .inr ()) (h : MF a w r w' ok) : MF (th c (fun _ => a)) w r w' (fun z => ok z.2) := by
  subst hc
  rcases h with ⟨k, q, h1, h2, h3⟩ | ⟨x, h1, h2, h3, h4⟩
  · exact MF.no (th_in rfl h1) h2 h3
  · exact MF.ok (th_ok rfl h1) h2 h3 h4
theorem MF.pre {α β : Type} {c : Rd Unit} {a : Rd α} {s : α → Rd β} {w r w' : Int} {ok : α × β → Prop} (hc : c = .inr ()) (h : MF (th a s) w r w' ok) : MF (th (th c (fun _ => a)) (fun z => s z.2)) w r w' (fun z => ok (z.1.2, z.2)) := by
  subst hc
  rcases h with ⟨k, q, h1, h2, h3⟩ | ⟨x, h1, h2, h3, h4⟩
  · refine MF.no ?_ h2 h3
    cases a with
    | inl e => cases h1; rfl
    | inr y =>
      have h1 : rb (s y) (fun z => (.inr (y, z) : Rd (α × β))) = .inl (k, q) := h1
      show rb (s y) _ = _
      cases hs : s y with
      | inl e => rw [hs] at h1; cases h1; rfl
      | inr z => rw [hs] at h1; cases h1
  · obtain ⟨g1, g2⟩ := th_get h1
    exact MF.ok (x := (((), x.1), x.2)) (th_ok (th_ok rfl g1) g2) h2 h3 h4
theorem MF.andOk {α β : Type} {a : Rd α} {s : α → Rd β} {y : β} {w r1 w1 r2 w2 : Int} {ok1 : α → Prop} {ok2 : α × β → Prop} (h1 : MF a w r1 w1 ok1) (hr : r1 = 0) (hk : okF a) (hs : ∀ x, ok1 x → s x = .inr y) (h2 : r2 = 0) (h3 : w2 = w1) (h4 : ∀ x, a = .inr x → ok1 x → ok2 (x, y)) : MF (th a s) w r2 w2 ok2 := by
  rcases h1 with ⟨k, q, q2, q3, q4⟩ | ⟨x, q2, q3, q4, q5⟩
  · have := hk k q q2
    omega
  · exact MF.ok (th_ok q2 (hs x q5)) h2 (by omega) (h4 x q2 q5)
theorem MF.andNo {α β : Type} {a : Rd α} {s : α → Rd β} {k q : Int} {w r1 w1 r2 w2 : Int} {ok1 : α → Prop} {ok2 : α × β → Prop} (h1 : MF a w r1 w1 ok1) (hr : r1 = 0) (hk : okF a) (hs : ∀ x, ok1 x → s x = .inl (k, q)) (h2 : r2 = k) (h3 : w2 = q) : MF (th a s) w r2 w2 ok2 := by
  rcases h1 with ⟨k', q', q2, q3, q4⟩ | ⟨x, q2, q3, q4, q5⟩
  · have := hk k' q' q2
    omega
  · exact MF.no (th_in q2 (hs x q5)) h2 h3
theorem MF.mono2 {α : Type} {a : Rd α} {w r w' : Int} {ok ok' : α → Prop} (h : MF a w r w' ok) (hm : r = 0 → ∀ x, a = .inr x → ok x → ok' x) : MF a w r w' ok' := by
  rcases h with h | ⟨x, q2, q3, q4, q5⟩
  · exact Or.inl h
  · exact MF.ok q2 q3 q4 (hm q3 x q2 q5)
theorem MF.stop3 {α β γ : Type} {a : Rd α} {s : α → Rd β} {s2 : α × β → Rd γ} {w r w' : Int} {ok : α → Prop} {ok2 : (α × β) × γ → Prop} (h : MF a w r w' ok) (hr : r ≠ 0) : MF (th (th a s) s2) w r w' ok2 := MF.stop (MF.stop (ok2 := fun _ => True) h hr) hr
/-- a clause without its ';', of which b is the whole -/
def TK {α β : Type} (a : Rd α) (b : Rd β) (w r w' : Int) (ok : α → Prop) : Prop := (∃ k q, b = .inl (k, q) ∧ r = k ∧ w' = q) ∨ (∃ x, a = .inr x ∧ r = 0 ∧ w' = w ∧ ok x)
theorem MF.tk {α β : Type} {a : Rd α} {s : α → Rd β} {w r w' : Int} {ok : α → Prop} (h : MF a w r w' ok) : TK a (th a s) w r w' ok := by
  rcases h with ⟨k, q, h1, h2, h3⟩ | h
  · exact Or.inl ⟨k, q, th_no h1, h2, h3⟩
  · exact Or.inr h
def houseP (T : Nat → Int32) (n : Int) (S : St0) (wa p : Int) := th (th (th (chk (decide (6 ≤ S 48 0)) 3 wa) (fun _ => placeF T n (S 37 0) (S 38 0) p)) (fun z => chk (anyE (S 49) (plc (S 37 0) z.2) (S 48 0).toNat) 4 z.2.2.2.2)) (fun z => numF T n 0 99 z.1.2.2.2.1)
def wellP (T : Nat → Int32) (n : Int) (S : St0) (wa p : Int) := th (th (th (chk (decide (5 ≤ S 55 0)) 3 wa) (fun _ => placeF T n (S 37 0) (S 38 0) p)) (fun z => chk (anyE (S 56) (plc (S 37 0) z.2) (S 55 0).toNat) 4 z.2.2.2.2)) (fun z => numF T n 0 99 z.1.2.2.2.1)
def cellQ (T : Nat → Int32) (n : Int) (S : St0) (wa p : Int) := th (th (th (chk (decide (12 ≤ S 41 0)) 3 wa) (fun _ => placeF T n (S 37 0) (S 38 0) p)) (fun z => chk (anyE (S 42) (plc (S 37 0) z.2) (S 41 0).toNat) 4 z.2.2.2.2)) (fun z => numF T n 0 99 z.1.2.2.2.1)
def cellP (T : Nat → Int32) (n : Int) (S : St0) (wa p : Int) := th (cellQ T n S wa p) (fun z => numF T n 0 9 z.2.2.1)
def deedQ (T : Nat → Int32) (n : Int) (S : St0) (wa p : Int) := th (th (chk (decide (4 ≤ S 58 0)) 3 wa) (fun _ => numF T n 0 300 p)) (fun z => numF T n 0 300 z.2.2.1)
def deedP (T : Nat → Int32) (n : Int) (S : St0) (wa p : Int) := th (deedQ T n S wa p) (fun z => chk (decide (z.2.1 < z.1.2.1)) 4 z.2.2.2)
def crackQ (T : Nat → Int32) (n : Int) (S : St0) (wa p : Int) := th (th (chk (decide (6 ≤ S 51 0)) 3 wa) (fun _ => placeF T n (S 37 0) (S 38 0) p)) (fun z => numF T n 0 1 z.2.2.2.1)
def crackR (T : Nat → Int32) (n : Int) (S : St0) (wa p : Int) := th (crackQ T n S wa p) (fun z => chk (decide ((z.2.1 = 0 ∧ plc (S 37 0) z.1.2 % S 37 0 = S 37 0 - 1) ∨ (z.2.1 ≠ 0 ∧ plc (S 37 0) z.1.2 / S 37 0 = S 38 0 - 1))) 2 z.2.2.2)
def crackT (T : Nat → Int32) (n : Int) (S : St0) (wa p : Int) := th (crackR T n S wa p) (fun z => chk (anyE2 (S 52) (S 53) (plc (S 37 0) z.1.1.2) z.1.2.1 (S 51 0).toNat) 4 z.1.2.2.2)
def crackP (T : Nat → Int32) (n : Int) (S : St0) (wa p : Int) := th (crackT T n S wa p) (fun z => numF T n 0 60 z.1.1.2.2.1)
def groundQ (T : Nat → Int32) (n : Int) (S : St0) (wa p : Int) := th (th (chk (decide (1 ≤ S 37 0)) 3 wa) (fun _ => numF T n 1 6 p)) (fun z => numF T n 1 6 z.2.2.1)
def groundR (T : Nat → Int32) (n : Int) (S : St0) (wa p : Int) := th (groundQ T n S wa p) (fun z => chk (decide (24 < z.1.2.1 * z.2.1)) 2 z.2.2.2)
def groundT (T : Nat → Int32) (n : Int) (S : St0) (wa p : Int) := th (groundR T n S wa p) (fun z => numF T n 0 99 z.1.2.2.1)
def groundP (T : Nat → Int32) (n : Int) (S : St0) (wa p : Int) := th (groundT T n S wa p) (fun z => numF T n 0 9 z.2.2.1)
def moonQ (T : Nat → Int32) (n : Int) (S : St0) (wa p : Int) := th (th (chk (decide (3 ≤ S 43 0)) 3 wa) (fun _ => numF T n 0 8 p)) (fun z => numF T n 0 8 z.2.2.1)
def moonP (T : Nat → Int32) (n : Int) (S : St0) (wa p : Int) := th (moonQ T n S wa p) (fun z => rowF T n (9 * (S 43 0).toNat) 9 0 z.2.2.1 (S 47))
/-- a clause, but for its ';' -/
def CK (cl : Rd (Int × St0)) (S : St0) (T : Nat → Int32) (n w r w' p : Int) (vm : Vf) : Prop := (∃ k q, cl = .inl (k, q) ∧ r = k ∧ w' = q) ∨ (r = 0 ∧ w' = w ∧ ∃ S', SM S' vm ∧ (S' 31 = S 31 ∧ S' 32 = S 32) ∧ ∀ q, q = skp T n p → (q < n ∧ tc T q = 59 → cl = .inr (q + 1, S')) ∧ (n ≤ q ∨ tc T q ≠ 59 → cl = .inl (1, q)))
theorem TK.ck {α : Type} {a : Rd α} {pos : α → Int} {S : St0} {g : α → St0} {T : Nat → Int32} {n w r w' p : Int} {vm : Vf} (h : TK a (th a (fun z => sgnF T n 59 (pos z))) w r w' (fun x => p = pos x ∧ SM (g x) vm)) (hg : ∀ x, g x 31 = S 31 ∧ g x 32 = S 32) : CK (rb (th a (fun z => sgnF T n 59 (pos z))) (fun z => .inr (z.2, g z.1))) S T n w r w' p vm := by
  rcases h with ⟨k, q, h1, h2, h3⟩ | ⟨x, h1, h2, h3, h4, h5⟩
  · refine Or.inl ⟨k, q, ?_, h2, h3⟩
    rw [h1]
    rfl
  · refine Or.inr ⟨h2, h3, g x, h5, hg x, fun q hq => ⟨fun hs => ?_, fun hs => ?_⟩⟩
    · rw [th_ok (s := fun z => sgnF T n 59 (pos z)) h1 (sgn_ok (by rw [← h4]; exact hq) hs)]
      rfl
    · rw [th_in (s := fun z => sgnF T n 59 (pos z)) h1 (sgn_no (by rw [← h4]; exact hq) hs)]
      rfl
theorem CK.bad {cl : Rd (Int × St0)} {S : St0} {T : Nat → Int32} {n w r w' p : Int} {vm : Vf} {ok : Int × St0 → Prop} (h : CK cl S T n w r w' p vm) (hr : r ≠ 0) : MF cl w r w' ok := by
  rcases h with ⟨k, q, h1, h2, h3⟩ | h
  · exact MF.no h1 h2 h3
  · exact absurd h.1 hr
theorem CK.no {cl : Rd (Int × St0)} {S : St0} {T : Nat → Int32} {n w r w' p q r2 w2 : Int} {vm : Vf} {ok : Int × St0 → Prop} (h : CK cl S T n w r w' p vm) (hk : okF cl) (hr : r = 0) (hq : q = skp T n p) (hs : n ≤ q ∨ tc T q ≠ 59) (h2 : r2 = 1) (h3 : w2 = q) : MF cl w r2 w2 ok := by
  rcases h with ⟨k, q, h1, h2, h3⟩ | ⟨-, h4, S', h5, h7, h6⟩
  · have := hk k q h1
    omega
  · exact MF.no ((h6 q hq).2 hs) h2 h3
theorem CK.ok {cl : Rd (Int × St0)} {S : St0} {T : Nat → Int32} {n w r w' p q p2 r2 w2 : Int} {vm vm2 : Vf} (h : CK cl S T n w r w' p vm) (hk : okF cl) (hr : r = 0) (hq : q = skp T n p) (hs : q < n ∧ tc T q = 59) (h2 : r2 = 0) (h3 : w2 = w') (hp : p2 = q + 1) (e : sc vm vm2) : MF cl w r2 w2 (fun y => p2 = y.1 ∧ SM y.2 vm2) := by
  rcases h with ⟨k, q, h1, h2, h3⟩ | ⟨-, h4, S', h5, h7, h6⟩
  · have := hk k q h1
    omega
  · exact MF.ok ((h6 q hq).1 hs) h2 (by omega) ⟨hp, h5.sc e⟩
theorem fI_inj {f g : Nat → Int32} (h : ∀ j, (f j).toInt = (g j).toInt) : f = g := funext (fun j => Int32.toInt_inj.mp (h j))
theorem CK.txt {cl : Rd (Int × St0)} {S : St0} {T : Nat → Int32} {n w r w' p : Int} {vm v : Vf} (h : CK cl S T n w r w' p vm) (hk : okF cl) (hr : r = 0) (h0 : SM S v) : vm 31 = v 31 ∧ vm 32 = v 32 := by
  rcases h with ⟨k, q, h1, h2, h3⟩ | ⟨-, h4, S', h5, h7, h6⟩
  · have := hk k q h1
    omega
  · exact ⟨fI_inj (fun j => by rw [← h5 31 (by decide) j, h7.1]; exact h0 31 (by decide) j), fI_inj (fun j => by rw [← h5 32 (by decide) j, h7.2]; exact h0 32 (by decide) j)⟩
theorem skp_id {T : Nat → Int32} {n p : Int} (h : n ≤ p ∨ tc T p ≠ 32) : skp T n p = p := skp_stop h
theorem skp_le {T : Nat → Int32} {n p : Int} : p ≤ skp T n p := skp_ge _ _
theorem skp_end {T : Nat → Int32} {n : Int} : ∀ (f : Nat) (p : Int), (n - p).toNat ≤ f → n ≤ skF T n f p ∨ tc T (skF T n f p) ≠ 32
  | 0, p, h => Or.inl (by show n ≤ p; omega)
  | f + 1, p, h => by
    show n ≤ (if p < n ∧ tc T p = 32 then skF T n f (p + 1) else p) ∨ tc T (if p < n ∧ tc T p = 32 then skF T n f (p + 1) else p) ≠ 32
    by_cases q : p < n ∧ tc T p = 32
    · rw [if_pos q]
      exact skp_end f (p + 1) (by omega)
    · rw [if_neg q]
      omega
theorem skp_skp {T : Nat → Int32} {n p : Int} : skp T n (skp T n p) = skp T n p := skp_stop (skp_end _ _ (Nat.le_refl _))
/-! a row of a moon, as the reference reads it -/
theorem moon_no {T : Nat → Int32} {n : Int} {S : St0} {wa p : Int} {x : (Unit × (Int × Int × Int)) × (Int × Int × Int)} {k q : Int} (h : moonQ T n S wa p = .inr x) (hr : rowF T n (9 * (S 43 0).toNat) 9 0 x.2.2.1 (S 47) = .inl (k, q)) : moonF T n S wa p = .inl (k, q) := by
  unfold moonQ at h
  unfold moonF
  rw [h]
  generalize 9 * (S 43 0).toNat = b at hr ⊢
  generalize S 47 = s at hr ⊢
  show rb (rb (rowF T n b 9 0 x.2.2.1 s) _) _ = _
  rw [hr]
  rfl
theorem moon_ok {T : Nat → Int32} {n : Int} {S : St0} {wa p : Int} {x : (Unit × (Int × Int × Int)) × (Int × Int × Int)} {y : Nat × Int × (Nat → Int)} (h : moonQ T n S wa p = .inr x) (hr : rowF T n (9 * (S 43 0).toNat) 9 0 x.2.2.1 (S 47) = .inr y) : moonP T n S wa p = .inr (x, y) := by
  unfold moonP
  rw [h]
  generalize 9 * (S 43 0).toNat = b at hr ⊢
  generalize S 47 = s at hr ⊢
  show rb (rowF T n b 9 0 x.2.2.1 s) _ = _
  rw [hr]
  rfl
theorem moon_10 {T : Nat → Int32} {n : Int} {S : St0} {wa p : Int} {x : (Unit × (Int × Int × Int)) × (Int × Int × Int)} {i : Nat} {q : Int} {s : Nat → Int} (h : moonQ T n S wa p = .inr x) (hr : rowF T n (9 * (S 43 0).toNat) 9 0 x.2.2.1 (S 47) = .inr (i, q, s)) (hq : q = skp T n q) (hs : n ≤ q ∨ tc T q ≠ 59) : moonF T n S wa p = .inl (1, q) := by
  have e1 := moon_ok h hr
  have e2 : sgnF T n 59 q = .inl (1, q) := sgn_no hq hs
  have e3 : moonF T n S wa p = th (moonP T n S wa p) (fun z => sgnF T n 59 z.2.2.1) := by unfold moonF moonP moonQ; rfl
  rw [e3, e1]
  show rb (sgnF T n 59 q) _ = _
  rw [e2]
  rfl
/-- the text so far, as the reference's loop has it -/
def TxM (T : Nat → Int32) (n : Int) (S0 : St0) (i : Nat) (p f w : Int) (S : St0) (vm : Vf) : Prop :=
  (f ≠ 0 ∧ textF T n 251 0 S0 = .inl (f, w)) ∨ (f = 0 ∧ w = -1 ∧ textF T n 251 0 S0 = textF T n (251 - i) p S ∧ SM S vm)
theorem TxM.next {T : Nat → Int32} {n : Int} {S0 S : St0} {i : Nat} {p z f w r w1 p1 : Int} {vm vm1 : Vf} (h : TxM T n S0 i p f w S vm) (hf : f = 0) (hi : i < 251) (hz : z = skp T n p) (hn : z < n) (hc : MF (clauseF T n S z) w r w1 (fun y => p1 = y.1 ∧ SM y.2 vm1)) : TxM T n S0 (i + 1) p1 r w1 (nextS (clauseF T n S z) S) vm1 := by
  rcases h with h | ⟨h1, h2, h3, h4⟩
  · exact absurd hf h.1
  · rw [show 251 - i = (251 - (i + 1)) + 1 by omega] at h3
    rcases hc with ⟨k, q, q1, q2, q3⟩ | ⟨y, q1, q2, q3, q4⟩
    · have := okF.clause _ _ q1
      exact Or.inl ⟨by omega, by rw [h3, tx_no hz hn q1, q2, q3]⟩
    · refine Or.inr ⟨q2, by omega, ?_, ?_⟩
      · rw [h3, tx_on hz hn q1, q1]
        obtain ⟨y1, y2⟩ := y
        have e : p1 = y1 := q4.1
        subst e
        rfl
      · rw [q1]
        exact q4.2
/-- what ground says of a text -/
def GrM (a : Rd St0) (r w : Int) (ok : St0 → Prop) : Prop := (∃ k q, a = .inl (k, q) ∧ r = -10 - k ∧ w = q) ∨ (∃ S, a = .inr S ∧ r = S 37 0 * S 38 0 ∧ w = -1 ∧ ok S)
theorem TxM.bad {T : Nat → Int32} {n : Int} {S0 S : St0} {i : Nat} {p f w r : Int} {vm : Vf} {ok : St0 → Prop} (h : TxM T n S0 i p f w S vm) (hf : f ≠ 0) (hr : r = -10 - f) : GrM (textF T n 251 0 S0) r w ok := by
  rcases h with ⟨h1, h2⟩ | h
  · exact Or.inl ⟨f, w, h2, hr, rfl⟩
  · exact absurd h.1 hf
theorem TxM.fin {T : Nat → Int32} {n : Int} {S0 S : St0} {i : Nat} {p f w : Int} {vm : Vf} (h : TxM T n S0 i p f w S vm) (hf : f = 0) (he : n ≤ skp T n p) : w = -1 ∧ textF T n 251 0 S0 = .inr S ∧ SM S vm := by
  rcases h with h | ⟨h1, h2, h3, h4⟩
  · exact absurd hf h.1
  · exact ⟨h2, h3.trans (tx_end he), h4⟩
def gr0 (v : Vf) : Vf := up2 (up2 (up2 (up2 (up2 (up2 (up2 (up2 (up2 (up2 v 33 0 (-1)) 34 0 0) 37 0 0) 38 0 0) 41 0 0) 43 0 0) 48 0 0) 51 0 0) 55 0 0) 58 0 0
def SI (v : Vf) : St0 := fun t j => (v t j).toInt
theorem SM_SI {v : Vf} : SM (SI v) v := fun _ _ _ => rfl
theorem z0_gr0 {v : Vf} : Z0 (SI (gr0 v)) := by
  have z : (0 : Int32).toInt = 0 := by decide
  exact ⟨z, z, z, z, z, z, z, z⟩
/-- a letter comes behind the text -/
def FeedR (x : Int32) (f : Nat → Int32) (c : Int32) (f' : Nat → Int32) (c' : Int32) : Prop := (c' = c ∧ f' = f ∧ (x.toInt < 0 ∨ 255 < x.toInt ∨ 250 ≤ c.toInt)) ∨ ((0 ≤ x.toInt ∧ x.toInt ≤ 255) ∧ c.toInt < 250 ∧ f' = upd f c.toNatClampNeg x ∧ c'.toInt = c.toInt + 1)
theorem okF.text {T : Nat → Int32} {n : Int} : ∀ (f : Nat) (p : Int) (S : St0), okF (textF T n f p S)
  | 0, p, S => fun k q h => by cases h
  | f + 1, p, S => fun k q h => by
    by_cases hn : skp T n p < n
    · cases hc : clauseF T n S (skp T n p) with
      | inl e => obtain ⟨k1, q1⟩ := e; rw [tx_no rfl hn hc] at h; cases h; exact okF.clause _ _ hc
      | inr y => rw [tx_on rfl hn hc] at h; exact okF.text f _ _ _ _ h
    · rw [tx_end (by omega)] at h; cases h
theorem CF.gr {α : Type} {a : Rd α} {g w : Int} {ok : α → Prop} (h : CF a 0 (-1) g w ok) (hk : okF a) : (g ≠ 0 → (1 ≤ g ∧ g ≤ 4) ∧ a = .inl (g, w)) ∧ (g = 0 → w = -1 ∧ ∃ S, a = .inr S ∧ ok S) := by
  rcases h with h | ⟨-, ⟨k, q, q2, q3, q4⟩ | ⟨x, q2, q3, q4, q5⟩⟩
  · exact absurd rfl h.1
  · have := hk k q q2
    subst q3 q4
    exact ⟨fun _ => ⟨this, q2⟩, fun z => by omega⟩
  · exact ⟨fun z => absurd q3 z, fun _ => ⟨q4, x, q2, q5⟩⟩
theorem GrM.mono {a : Rd St0} {r w : Int} {ok ok' : St0 → Prop} (h : GrM a r w ok) (hm : ∀ S, ok S → ok' S) : GrM a r w ok' := by
  rcases h with h | ⟨S, h1, h2, h3, h4⟩
  · exact Or.inl h
  · exact Or.inr ⟨S, h1, h2, h3, hm S h4⟩
theorem GrM.fn {a : Rd St0} {r w r' w' : Int} {ok ok' : St0 → Prop} (h : GrM a r w ok) (h' : GrM a r' w' ok') : r = r' ∧ w = w' := by
  rcases h with ⟨k, q, h1, h2, h3⟩ | ⟨S, h1, h2, h3, h4⟩
  · rcases h' with ⟨k', q', g1, g2, g3⟩ | ⟨S', g1, g2, g3, g4⟩
    · rw [h1] at g1
      cases g1
      omega
    · rw [h1] at g1
      cases g1
  · rcases h' with ⟨k', q', g1, g2, g3⟩ | ⟨S', g1, g2, g3, g4⟩
    · rw [h1] at g1
      cases g1
    · rw [h1] at g1
      cases g1
      exact ⟨h2.trans g2.symm, h3.trans g3.symm⟩
