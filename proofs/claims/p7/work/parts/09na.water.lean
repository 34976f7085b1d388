/-! ===== water: the level is one, and the class's way to it ===== -/
theorem wS_lin {f : Nat → Int} {p : Nat → Bool} {T N : Int} : ∀ n : Nat, wS (fun w => T - f w * N) p n = T * wN p n - wS f p n * N
  | 0 => by
    show (0 : Int) = T * 0 - 0 * N
    rw [Int.mul_zero, Int.zero_mul]
    rfl
  | n + 1 => by
    have ih := wS_lin (f := f) (p := p) (T := T) (N := N) n
    rw [wS_s, wN_s, wS_s, ih]
    by_cases q : p n = true
    · rw [if_pos q, if_pos q, if_pos q, Int.mul_add, Int.add_mul, Int.mul_one]
      omega
    · rw [if_neg q, if_neg q, if_neg q, Int.add_zero, Int.add_zero, Int.add_zero]
theorem wS_mono {h : Nat → Int} {p q : Nat → Bool} : ∀ n : Nat, (∀ w, w < n → p w = true → q w = true) → (∀ w, w < n → q w = true → 0 ≤ h w) → wS h p n ≤ wS h q n
  | 0, _, _ => Int.le_refl _
  | n + 1, h1, h2 => by
    have ih := wS_mono (h := h) (p := p) (q := q) n (fun w hw => h1 w (by omega)) (fun w hw => h2 w (by omega))
    rw [wS_s, wS_s]
    by_cases a : p n = true
    · rw [if_pos a, if_pos (h1 n (by omega) a)]
      omega
    · rw [if_neg a]
      by_cases b : q n = true
      · rw [if_pos b]
        have := h2 n (by omega) b
        omega
      · rw [if_neg b]
        omega
theorem lt_mul {a b c : Int} (hc : 0 < c) : a < b ↔ a * c < b * c := ⟨fun h => Int.mul_lt_mul_of_pos_right h hc, fun h => Int.lt_of_mul_lt_mul_right h (by omega)⟩
theorem wG_sub {x : Int} {f : Nat → Int} {p q : Nat → Bool} {k : Nat} (hp : wG x f p k) (hq : wG x f q k) (h : (x + wS f p k) * wN q k ≤ (x + wS f q k) * wN p k) : ∀ w, w < k → p w = true → q w = true := by
  intro w hw a
  have b := (hp.2 w hw).mp a
  refine (hq.2 w hw).mpr ?_
  have c := (lt_mul hq.1).mp b
  refine (lt_mul hp.1).mpr ?_
  have e : f w * wN q k * wN p k = f w * wN p k * wN q k := by rw [Int.mul_assoc, Int.mul_comm (wN q k), ← Int.mul_assoc]
  omega
theorem wG_le {x : Int} {f : Nat → Int} {p q : Nat → Bool} {k : Nat} (hp : wG x f p k) (hq : wG x f q k) (h : (x + wS f p k) * wN q k ≤ (x + wS f q k) * wN p k) : (x + wS f q k) * wN p k ≤ (x + wS f p k) * wN q k := by
  have s := wG_sub hp hq h
  have m := wS_mono (h := fun w => (x + wS f q k) - f w * wN q k) k s (fun w hw a => by
    have b := (hq.2 w hw).mp a
    show 0 ≤ (x + wS f q k) - f w * wN q k
    omega)
  rw [wS_lin, wS_lin] at m
  rw [Int.add_mul, Int.add_mul] at m ⊢
  omega
theorem wG_eq {x : Int} {f : Nat → Int} {p q : Nat → Bool} {k : Nat} (hp : wG x f p k) (hq : wG x f q k) : (x + wS f p k) * wN q k = (x + wS f q k) * wN p k := by
  rcases Int.le_total ((x + wS f p k) * wN q k) ((x + wS f q k) * wN p k) with h | h
  · have := wG_le hp hq h
    omega
  · have := wG_le hq hp h
    omega
theorem wG_uniq {x : Int} {f : Nat → Int} {p q : Nat → Bool} {k : Nat} (hp : wG x f p k) (hq : wG x f q k) : (∀ w, w < k → p w = q w) ∧ wS f p k = wS f q k ∧ wN p k = wN q k := by
  have e := wG_eq hp hq
  have s1 := wG_sub hp hq (by omega)
  have s2 := wG_sub hq hp (by omega)
  have h : ∀ w, w < k → p w = q w := by
    intro w hw
    have a := s1 w hw
    have b := s2 w hw
    cases hpw : p w <;> cases hqw : q w
    · rfl
    · exact absurd (b hqw) (by rw [hpw]; decide)
    · exact absurd (a hpw) (by rw [hqw]; decide)
    · rfl
  exact ⟨h, wc_S k h⟩
/-! sums over a row -/
def gS (g : Int → Int) (s : Nat → Int) : Nat → Int
  | 0 => 0
  | n + 1 => gS g s n + g (s n)
theorem gS_s (g : Int → Int) (s : Nat → Int) (n : Nat) : gS g s (n + 1) = gS g s n + g (s n) := rfl
theorem gS_c {g : Int → Int} {s u : Nat → Int} : ∀ n : Nat, (∀ j, j < n → s j = u j) → gS g s n = gS g u n
  | 0, _ => rfl
  | n + 1, h => by rw [gS_s, gS_s, gS_c n (fun j hj => h j (by omega)), h n (by omega)]
def PermS (f s : Nat → Int) (n : Nat) : Prop := ∀ g : Int → Int, gS g f n = gS g s n
def SortS (s : Nat → Int) (n : Nat) : Prop := ∀ i j, i ≤ j → j < n → s i ≤ s j
/-- a row with one more in its place -/
def InsS (s u : Nat → Int) (n i : Nat) (x : Int) : Prop := i ≤ n ∧ (∀ j, j < i → u j = s j) ∧ u i = x ∧ ∀ j, i ≤ j → j < n → u (j + 1) = s j
theorem ins_sum {s u : Nat → Int} {n i : Nat} {x : Int} {g : Int → Int} (h : InsS s u n i x) : ∀ m, i ≤ m → m ≤ n → gS g u (m + 1) = gS g s m + g x
  | 0, h1, _ => by
    obtain rfl : i = 0 := by omega
    rw [gS_s, h.2.2.1]
    rfl
  | m + 1, h1, h2 => by
    by_cases q : i = m + 1
    · rw [gS_s, gS_c (m + 1) (fun j hj => h.2.1 j (by omega)), ← q, h.2.2.1]
    · have ih := ins_sum (g := g) h m (by omega) (by omega)
      rw [gS_s, ih, h.2.2.2 m (by omega) (by omega), gS_s]
      omega
theorem ins_perm {f s u : Nat → Int} {n i : Nat} (hp : PermS f s n) (h : InsS s u n i (f n)) : PermS f u (n + 1) := fun g => by rw [ins_sum h n h.1 (Nat.le_refl _), gS_s, hp g]
theorem ins_sort {s u : Nat → Int} {n i : Nat} {x : Int} (hs : SortS s n) (h : InsS s u n i x) (h1 : i = 0 ∨ s (i - 1) ≤ x) (h2 : ∀ j, i ≤ j → j < n → x ≤ s j) : SortS u (n + 1) := by
  obtain ⟨g0, g1, g2, g3⟩ := h
  have lo : ∀ a, a < i → u a ≤ x := fun a ha => by
    rw [g1 a ha]
    have := hs a (i - 1) (by omega) (by omega)
    rcases h1 with q | q <;> omega
  have hi : ∀ b, i < b → b < n + 1 → x ≤ u b ∧ u b = s (b - 1) := fun b hb hb2 => by
    have e := g3 (b - 1) (by omega) (by omega)
    rw [show b - 1 + 1 = b by omega] at e
    exact ⟨by rw [e]; exact h2 (b - 1) (by omega) (by omega), e⟩
  intro a b hab hb
  rcases Nat.lt_trichotomy a i with q | q | q
  · rcases Nat.lt_trichotomy b i with z | z | z
    · rw [g1 a q, g1 b z]
      exact hs a b hab (by omega)
    · rw [z, g2]
      exact lo a q
    · have l := lo a q
      have r := (hi b z (by omega)).1
      omega
  · rcases Nat.lt_or_ge i b with z | z
    · rw [q, g2]
      exact (hi b z (by omega)).1
    · rw [show b = a by omega]
      exact Int.le_refl _
  · rw [(hi a q (by omega)).2, (hi b (by omega) (by omega)).2]
    exact hs (a - 1) (b - 1) (by omega) (by omega)
/-! the level out of a sorted row -/
def wP (f : Nat → Int) (T N : Int) (w : Nat) : Bool := decide (f w * N < T)
theorem gS_N {f : Nat → Int} {T N : Int} : ∀ n : Nat, wN (wP f T N) n = gS (fun z => if z * N < T then 1 else 0) f n
  | 0 => rfl
  | n + 1 => by
    rw [wN_s, gS_s, gS_N n]
    unfold wP
    by_cases q : f n * N < T
    · rw [if_pos (decide_eq_true q), if_pos q]
    · rw [if_neg (by rw [decide_eq_false q]; decide), if_neg q]
theorem gS_S {f : Nat → Int} {T N : Int} : ∀ n : Nat, wS f (wP f T N) n = gS (fun z => if z * N < T then z else 0) f n
  | 0 => rfl
  | n + 1 => by
    rw [wS_s, gS_s, gS_S n]
    unfold wP
    by_cases q : f n * N < T
    · rw [if_pos (decide_eq_true q), if_pos q]
    · rw [if_neg (by rw [decide_eq_false q]; decide), if_neg q]
theorem gS_cut {s : Nat → Int} {T N : Int} {i : Nat} {g : Int → Int} (hy : ∀ j, j ≤ i → s j * N < T) (k : Nat) (hn : ∀ j, i < j → j < k → ¬ s j * N < T) : ∀ n : Nat, n ≤ k → gS (fun z => if z * N < T then g z else 0) s n = gS g s (min n (i + 1))
  | 0, _ => by
    rw [Nat.zero_min]
    rfl
  | n + 1, h => by
    have ih := gS_cut (g := g) hy k hn n (by omega)
    rw [gS_s, ih]
    by_cases q : n ≤ i
    · have e1 : min n (i + 1) = n := by omega
      have e2 : min (n + 1) (i + 1) = n + 1 := by omega
      rw [e1, e2, gS_s]
      show gS g s n + (if s n * N < T then g (s n) else 0) = _
      rw [if_pos (hy n q)]
    · have e1 : min n (i + 1) = i + 1 := by omega
      have e2 : min (n + 1) (i + 1) = i + 1 := by omega
      rw [e1, e2]
      show gS g s (i + 1) + (if s n * N < T then g (s n) else 0) = _
      rw [if_neg (hn n (by omega) (by omega)), Int.add_zero]
theorem gS_1 {s : Nat → Int} : ∀ n : Nat, gS (fun _ => 1) s n = (n : Int)
  | 0 => rfl
  | n + 1 => by
    rw [gS_s, gS_1 n]
    omega
/-- the class stops where the next floor is not below -/
theorem wat_cls {x : Int} {f s : Nat → Int} {k i : Nat} (hx : 0 < x) (hp : PermS f s k) (hs : SortS s k) (hi : i < k) (hb : i = 0 ∨ s i * (i : Int) < x + gS id s i) (he : i + 1 = k ∨ x + gS id s (i + 1) ≤ s (i + 1) * ((i + 1 : Nat) : Int)) : wG x f (wP f (x + gS id s (i + 1)) ((i + 1 : Nat) : Int)) k ∧ wN (wP f (x + gS id s (i + 1)) ((i + 1 : Nat) : Int)) k = ((i + 1 : Nat) : Int) ∧ x + wS f (wP f (x + gS id s (i + 1)) ((i + 1 : Nat) : Int)) k = x + gS id s (i + 1) := by
  have eT : gS id s (i + 1) = gS id s i + s i := rfl
  have e1 : s i * ((i + 1 : Nat) : Int) = s i * (i : Int) + s i := by
    rw [show ((i + 1 : Nat) : Int) = (i : Int) + 1 from by omega, Int.mul_add, Int.mul_one]
  have top : s i * ((i + 1 : Nat) : Int) < x + gS id s (i + 1) := by
    rcases hb with q | q
    · subst q
      have z : gS id s 0 = 0 := rfl
      rw [e1, eT, z]
      have : s 0 * ((0 : Nat) : Int) = 0 := Int.mul_zero _
      omega
    · omega
  have hy : ∀ j, j ≤ i → s j * ((i + 1 : Nat) : Int) < x + gS id s (i + 1) := fun j hj => by
    have a := hs j i hj hi
    have b := Int.mul_le_mul_of_nonneg_right a (show (0 : Int) ≤ ((i + 1 : Nat) : Int) by omega)
    omega
  have hn : ∀ j, i < j → j < k → ¬ s j * ((i + 1 : Nat) : Int) < x + gS id s (i + 1) := fun j h1 h2 => by
    rcases he with q | q
    · omega
    · have a := hs (i + 1) j (by omega) h2
      have b := Int.mul_le_mul_of_nonneg_right a (show (0 : Int) ≤ ((i + 1 : Nat) : Int) by omega)
      omega
  generalize hT : x + gS id s (i + 1) = T at *
  generalize hN : ((i + 1 : Nat) : Int) = N at *
  have cN : wN (wP f T N) k = N := by
    rw [gS_N, hp, gS_cut (g := fun _ => 1) hy k hn k (Nat.le_refl _), show min k (i + 1) = i + 1 by omega, gS_1, hN]
  have cS : x + wS f (wP f T N) k = T := by
    rw [gS_S, hp]
    have c := gS_cut (g := id) hy k hn k (Nat.le_refl _)
    rw [show min k (i + 1) = i + 1 by omega] at c
    have c2 : gS (fun z => if z * N < T then z else 0) s k = gS id s (i + 1) := c
    rw [c2, hT]
  refine ⟨⟨by rw [cN]; omega, fun w hw => ?_⟩, cN, cS⟩
  rw [cN, cS]
  unfold wP
  exact ⟨fun q => of_decide_eq_true q, fun q => decide_eq_true q⟩
