/-! ===== least pushed: a table by the steps that are left, and the first of the best ways ===== -/
noncomputable def rbV (v : Vf) (c w tm : Int32) (f : Int32 → Int32) : Int32 := if (mGo v c w tm).toInt < 0 then 1000000000 else if (f (mGo v c w tm)).toInt < 1000000000 then f (mGo v c w tm) + mCost v c (mGo v c w tm) tm else 1000000000
noncomputable def mnV (v : Vf) (c tm : Int32) (f : Int32 → Int32) : Nat → Int32
  | 0 => 1000000000
  | n + 1 => if (rbV v c (Int32.ofNat n) tm f).toInt < (mnV v c tm f n).toInt then rbV v c (Int32.ofNat n) tm f else mnV v c tm f n
noncomputable def chV (v : Vf) (c tm : Int32) (f : Int32 → Int32) : Nat → Int32
  | 0 => 0
  | n + 1 => if (rbV v c (Int32.ofNat n) tm f).toInt < (mnV v c tm f n).toInt then Int32.ofNat n else chV v c tm f n
noncomputable def rsV (v : Vf) (b t : Int32) (n : Nat) : Nat → Int32 → Int32
  | 0 => fun c => if c = b then 0 else 1000000000
  | j + 1 => fun c => if c = b then 0 else mnV v c (t + Int32.ofNat (n - (j + 1)) + 1) (rsV v b t n j) 5
noncomputable def ckV (v : Vf) (b t : Int32) (n k : Nat) (c : Int32) : Int32 := if c = b then 0 else chV v c (t + Int32.ofNat k + 1) (rsV v b t n (n - (k + 1))) 5
noncomputable def pcV (v : Vf) (a b t : Int32) (n : Nat) : Nat → Int32
  | 0 => a
  | k + 1 => mGo v (pcV v a b t n k) (ckV v b t n k (pcV v a b t n k)) (t + Int32.ofNat k + 1)
/-- the step i of the way: none, once it is there -/
def WayR (v : Vf) (a b t : Int32) (n : Nat) (i r : Int32) : Prop := (i.toInt < 0 ∧ r.toInt = -1) ∨ (0 ≤ i.toInt ∧ ((∃ k, k ≤ i.toNatClampNeg ∧ pcV v a b t n k = b ∧ ∀ m, m < k → pcV v a b t n m ≠ b) ∧ r.toInt = -1) ∨ (0 ≤ i.toInt ∧ (∀ k, k ≤ i.toNatClampNeg → pcV v a b t n k ≠ b) ∧ r = ckV v b t n i.toNatClampNeg (pcV v a b t n i.toNatClampNeg)))
def LeaR (v : Vf) (a b t : Int32) (n : Nat) (i r : Int32) : Prop := (1000000000 ≤ (rsV v b t n n a).toInt ∧ r.toInt = -1) ∨ ((rsV v b t n n a).toInt < 1000000000 ∧ ((i.toInt = -1 ∧ r = rsV v b t n n a) ∨ (i.toInt ≠ -1 ∧ WayR v a b t n i r)))
theorem way_eq {v : Vf} {a b t : Int32} {n : Nat} {i r q : Int32} (h1 : WayR v a b t n i r) (h2 : WayR v a b t n i q) : r.toInt = q.toInt := by
  rcases h1 with ⟨a1, a2⟩ | ⟨a1, ⟨k, a2, a3, a4⟩, a5⟩ | ⟨a1, a2, a3⟩
  · rcases h2 with ⟨b1, b2⟩ | ⟨b1, -⟩ | ⟨b1, -⟩ <;> omega
  · rcases h2 with ⟨b1, b2⟩ | ⟨b1, -, b5⟩ | ⟨b1, b2, b3⟩
    · omega
    · omega
    · exact absurd a3 (b2 k a2)
  · rcases h2 with ⟨b1, b2⟩ | ⟨b1, ⟨k, b2, b3, b4⟩, b5⟩ | ⟨b1, b2, b3⟩
    · omega
    · exact absurd b3 (a2 k b2)
    · rw [a3, b3]
theorem lea_eq {v : Vf} {a b t : Int32} {n : Nat} {i r q : Int32} (h1 : LeaR v a b t n i r) (h2 : LeaR v a b t n i q) : r.toInt = q.toInt := by
  rcases h1 with ⟨a1, a2⟩ | ⟨a1, ⟨a2, a3⟩ | ⟨a2, a3⟩⟩
  · rcases h2 with ⟨b1, b2⟩ | ⟨b1, -⟩ <;> omega
  · rcases h2 with ⟨b1, b2⟩ | ⟨b1, ⟨b2, b3⟩ | ⟨b2, b3⟩⟩
    · omega
    · rw [a3, b3]
    · omega
  · rcases h2 with ⟨b1, b2⟩ | ⟨b1, ⟨b2, b3⟩ | ⟨b2, b3⟩⟩
    · omega
    · omega
    · exact way_eq a3 b3
/-! bounds -/
theorem go_cW2 {vm : Vf} {c way t : Int32} (hG : mdG vm) (hc : cW vm c) (h : 0 ≤ (mGo vm c way t).toInt) : cW vm (mGo vm c way t) := by
  unfold mGo at h ⊢
  by_cases q : way = 0
  · rw [if_pos q] at h ⊢
    exact hc
  · rw [if_neg q] at h ⊢
    by_cases q2 : (mBes vm c way).toInt < 0
    · rw [if_pos q2] at h
      omega
    · rw [if_neg q2] at h ⊢
      by_cases q3 : mBar vm c (mBes vm c way) t ≠ 0 ∨ vm 29 0 < mH vm (mBes vm c way) t - mH vm c t
      · rw [if_pos q3] at h
        exact absurd h (by decide)
      · rw [if_neg q3] at h ⊢
        exact bes_cW hG h
theorem mCost_b {v : Vf} {a c t : Int32} (hH : MdH v) (hW : 1 ≤ (v 0 0).toInt) (ha : 0 ≤ a.toInt ∧ a.toInt ≤ 23) (hc : 0 ≤ c.toInt ∧ c.toInt ≤ 23) (ht : 0 ≤ t.toInt ∧ t.toInt ≤ 2000000) : 0 ≤ (mCost v a c t).toInt ∧ (mCost v a c t).toInt ≤ 585 := by
  have h1 := mH_b hH hW ha ht
  have h2 := mH_b hH hW hc ht
  have n0 : (0 : Int32).toInt = 0 := by decide
  have e : -585 ≤ (mSl v a c t).toInt ∧ (mSl v a c t).toInt ≤ 585 := by
    unfold mSl
    by_cases q : a = c
    · rw [if_pos q]
      omega
    · rw [if_neg q]
      have s := i_sub (z := mH v c t - mH v a t) rfl (by omega)
      omega
  unfold mCost
  by_cases q : mSl v a c t < 0
  · rw [if_pos q]
    omega
  · rw [if_neg q]
    have := i_nlt q
    omega
def rsB (v : Vf) (j : Nat) (f : Int32 → Int32) : Prop := ∀ c : Int32, cW v c → 0 ≤ (f c).toInt ∧ (f c).toInt ≤ 1000000000 ∧ ((f c).toInt < 1000000000 → (f c).toInt ≤ 585 * (j : Int))
theorem rb_b {v : Vf} {c w tm : Int32} {f : Int32 → Int32} {j : Nat} (hH : MdH v) (hW : 1 ≤ (v 0 0).toInt) (hj : j ≤ 40) (hc : cW v c) (ht : 0 ≤ tm.toInt ∧ tm.toInt ≤ 2000000) (hf : rsB v j f) : 0 ≤ (rbV v c w tm f).toInt ∧ (rbV v c w tm f).toInt ≤ 1000000000 ∧ ((rbV v c w tm f).toInt < 1000000000 → (rbV v c w tm f).toInt ≤ 585 * ((j + 1 : Nat) : Int) ∧ 0 ≤ (mGo v c w tm).toInt ∧ (f (mGo v c w tm)).toInt < 1000000000 ∧ (rbV v c w tm f).toInt = (f (mGo v c w tm)).toInt + (mCost v c (mGo v c w tm) tm).toInt) := by
  have nf : (1000000000 : Int32).toInt = 1000000000 := by decide
  unfold rbV
  by_cases q : (mGo v c w tm).toInt < 0
  · rw [if_pos q]
    exact ⟨by omega, by omega, fun z => by omega⟩
  · rw [if_neg q]
    have g := go_cW2 hH.1 hc (show 0 ≤ (mGo v c w tm).toInt by omega)
    have b := hf _ g
    by_cases q2 : (f (mGo v c w tm)).toInt < 1000000000
    · rw [if_pos q2]
      have h24 := hH.1.2.2
      have g2 := g.2
      have c2 := hc.2
      have k := mCost_b (a := c) (c := mGo v c w tm) hH hW ⟨hc.1, by omega⟩ ⟨g.1, by omega⟩ ht
      have b3 := b.2.2 q2
      have s := i_add (z := f (mGo v c w tm) + mCost v c (mGo v c w tm) tm) rfl (by omega)
      exact ⟨by omega, by omega, fun z => ⟨by omega, by omega, q2, s⟩⟩
    · rw [if_neg q2]
      exact ⟨by omega, by omega, fun z => by omega⟩
theorem mn_b {v : Vf} {c tm : Int32} {f : Int32 → Int32} {j : Nat} (hH : MdH v) (hW : 1 ≤ (v 0 0).toInt) (hj : j ≤ 40) (hc : cW v c) (ht : 0 ≤ tm.toInt ∧ tm.toInt ≤ 2000000) (hf : rsB v j f) : ∀ n : Nat, 0 ≤ (mnV v c tm f n).toInt ∧ (mnV v c tm f n).toInt ≤ 1000000000 ∧ ((mnV v c tm f n).toInt < 1000000000 → (mnV v c tm f n).toInt ≤ 585 * ((j + 1 : Nat) : Int))
  | 0 => by
    have nf : (mnV v c tm f 0).toInt = 1000000000 := (by decide : (1000000000 : Int32).toInt = 1000000000)
    exact ⟨by omega, by omega, fun z => by omega⟩
  | n + 1 => by
    have ih := mn_b hH hW hj hc ht hf n
    have r := rb_b (w := Int32.ofNat n) hH hW hj hc ht hf
    by_cases q : (rbV v c (Int32.ofNat n) tm f).toInt < (mnV v c tm f n).toInt
    · have e : mnV v c tm f (n + 1) = rbV v c (Int32.ofNat n) tm f := if_pos q
      rw [e]
      exact ⟨r.1, r.2.1, fun z => (r.2.2 z).1⟩
    · have e : mnV v c tm f (n + 1) = mnV v c tm f n := if_neg q
      rw [e]
      exact ih
theorem rs_b {v : Vf} {b t : Int32} {n : Nat} (hH : MdH v) (hW : 1 ≤ (v 0 0).toInt) (hn : n ≤ 40) (ht : 0 ≤ t.toInt ∧ t.toInt ≤ 900000) : ∀ j : Nat, j ≤ n → rsB v j (rsV v b t n j)
  | 0, _ => fun c _ => by
    have nf : (1000000000 : Int32).toInt = 1000000000 := by decide
    have n0 : (0 : Int32).toInt = 0 := by decide
    show 0 ≤ (if c = b then (0 : Int32) else 1000000000).toInt ∧ (if c = b then (0 : Int32) else 1000000000).toInt ≤ 1000000000 ∧ ((if c = b then (0 : Int32) else 1000000000).toInt < 1000000000 → (if c = b then (0 : Int32) else 1000000000).toInt ≤ 585 * ((0 : Nat) : Int))
    split
    · exact ⟨by omega, by omega, fun _ => by omega⟩
    · exact ⟨by omega, by omega, fun z => by omega⟩
  | j + 1, hj => fun c hc => by
    have ih := rs_b (b := b) (t := t) hH hW hn ht j (by omega)
    have n0 : (0 : Int32).toInt = 0 := by decide
    have n1 : (1 : Int32).toInt = 1 := by decide
    have o := ofN_t (n := n - (j + 1)) (by omega)
    have t1 := i_add (z := t + Int32.ofNat (n - (j + 1))) rfl (by omega)
    have t2 := i_add (z := t + Int32.ofNat (n - (j + 1)) + 1) rfl (by omega)
    show 0 ≤ (if c = b then (0 : Int32) else mnV v c (t + Int32.ofNat (n - (j + 1)) + 1) (rsV v b t n j) 5).toInt ∧ (if c = b then (0 : Int32) else mnV v c (t + Int32.ofNat (n - (j + 1)) + 1) (rsV v b t n j) 5).toInt ≤ 1000000000 ∧ ((if c = b then (0 : Int32) else mnV v c (t + Int32.ofNat (n - (j + 1)) + 1) (rsV v b t n j) 5).toInt < 1000000000 → (if c = b then (0 : Int32) else mnV v c (t + Int32.ofNat (n - (j + 1)) + 1) (rsV v b t n j) 5).toInt ≤ 585 * ((j + 1 : Nat) : Int))
    split
    · exact ⟨by omega, by omega, fun _ => by omega⟩
    · exact mn_b hH hW (by omega) hc (by omega) ih 5
/-! the first of the best -/
theorem mn_le {v : Vf} {c tm : Int32} {f : Int32 → Int32} : ∀ (n : Nat) (u : Nat), u < n → (mnV v c tm f n).toInt ≤ (rbV v c (Int32.ofNat u) tm f).toInt
  | 0, u, h => absurd h (Nat.not_lt_zero _)
  | n + 1, u, h => by
    by_cases q : (rbV v c (Int32.ofNat n) tm f).toInt < (mnV v c tm f n).toInt
    · have e : mnV v c tm f (n + 1) = rbV v c (Int32.ofNat n) tm f := if_pos q
      rw [e]
      by_cases z : u = n
      · subst z
        exact Int.le_refl _
      · have := mn_le (v := v) (c := c) (tm := tm) (f := f) n u (by omega)
        omega
    · have e : mnV v c tm f (n + 1) = mnV v c tm f n := if_neg q
      rw [e]
      by_cases z : u = n
      · subst z
        omega
      · exact mn_le n u (by omega)
theorem ch_first {v : Vf} {c tm : Int32} {f : Int32 → Int32} : ∀ n : Nat, n ≤ 5 → (mnV v c tm f n).toInt < 1000000000 → (∃ m : Nat, m < n ∧ chV v c tm f n = Int32.ofNat m ∧ rbV v c (Int32.ofNat m) tm f = mnV v c tm f n ∧ ∀ u, u < m → (mnV v c tm f n).toInt < (rbV v c (Int32.ofNat u) tm f).toInt) ∧ ∀ u, u < n → (mnV v c tm f n).toInt ≤ (rbV v c (Int32.ofNat u) tm f).toInt := by
  intro n
  induction n with
  | zero =>
    intro _ h
    have e0 : mnV v c tm f 0 = 1000000000 := rfl
    rw [e0] at h
    exact absurd h (by decide)
  | succ n ih =>
    intro hn h
    by_cases q : (rbV v c (Int32.ofNat n) tm f).toInt < (mnV v c tm f n).toInt
    · have e : mnV v c tm f (n + 1) = rbV v c (Int32.ofNat n) tm f := if_pos q
      have e2 : chV v c tm f (n + 1) = Int32.ofNat n := if_pos q
      rw [e, e2]
      have lo : ∀ u, u < n → (mnV v c tm f n).toInt ≤ (rbV v c (Int32.ofNat u) tm f).toInt := mn_le n
      refine ⟨⟨n, by omega, rfl, rfl, fun u hu => by have := lo u hu; omega⟩, fun u hu => ?_⟩
      by_cases z : u = n
      · subst z
        exact Int.le_refl _
      · have := lo u (by omega)
        omega
    · have e : mnV v c tm f (n + 1) = mnV v c tm f n := if_neg q
      have e2 : chV v c tm f (n + 1) = chV v c tm f n := if_neg q
      rw [e] at h
      obtain ⟨⟨m, h1, h2, h3, h4⟩, h5⟩ := ih (by omega) h
      rw [e, e2]
      refine ⟨⟨m, by omega, h2, h3, h4⟩, fun u hu => ?_⟩
      by_cases z : u = n
      · subst z
        omega
      · exact h5 u (by omega)
