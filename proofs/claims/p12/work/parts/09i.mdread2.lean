section
/-! ===== the reference's reading: ground, and what is taken over ===== -/
def lGr : List Nat := [33, 34, 35, 36, 37, 38, 39, 40]
theorem rd_ground {v w : Vf} (h : RdM v) (e : scL lGr v w) (hw : 1 ≤ (w 37 0).toInt ∧ (w 37 0).toInt ≤ 6) (hd : 1 ≤ (w 38 0).toInt ∧ (w 38 0).toInt ≤ 6) (hc : (w 37 0).toInt * (w 38 0).toInt ≤ 24) (hb : bnd (w 39) 24 0 99 ∧ bnd (w 40) 24 0 9) : RdM w := by
  have q := e.mem (r := [41, 43, 44, 45, 46, 48, 51, 55, 57, 58]) (by decide)
  obtain ⟨a1, a2, a3, a4, a5, a6⟩ := h
  unfold rdG rdC rdZ rdMo rdB rdD at *
  unfold RdM rdG rdC rdZ rdMo rdB rdD
  rw [q 41 (by decide), q 43 (by decide), q 44 (by decide), q 45 (by decide), q 46 (by decide), q 48 (by decide), q 51 (by decide), q 55 (by decide), q 57 (by decide), q 58 (by decide)]
  exact ⟨⟨⟨by omega, hw.2⟩, ⟨by omega, hd.2⟩, hc⟩, a2, Or.inl ⟨hw.1, hd.1⟩, a4, Or.inr hb, a6⟩
theorem bnd_ext {f : Nat → Int32} {n : Nat} {lo hi : Int} {x : Int32} (h : bnd f n lo hi) (hx : lo ≤ x.toInt ∧ x.toInt ≤ hi) : bnd (upd f n x) (n + 1) lo hi := by
  intro j hj
  unfold upd
  split
  · exact hx
  · exact h j (by omega)
theorem bnd_0 {f : Nat → Int32} {lo hi : Int} : bnd f 0 lo hi := fun j h => absurd h (Nat.not_lt_zero j)
theorem rd_new {v : Vf} : RdM (up2 (up2 (up2 (up2 (up2 (up2 (up2 (up2 (up2 (up2 v 33 0 (-1)) 34 0 0) 37 0 0) 38 0 0) 41 0 0) 43 0 0) 48 0 0) 51 0 0) 55 0 0) 58 0 0) := by
  have z : (0 : Int32).toInt = 0 := by decide
  exact ⟨⟨(by decide : 0 ≤ (0 : Int32).toInt ∧ (0 : Int32).toInt ≤ 6), (by decide : 0 ≤ (0 : Int32).toInt ∧ (0 : Int32).toInt ≤ 6), (by decide : (0 : Int32).toInt * (0 : Int32).toInt ≤ 24)⟩, ⟨(by decide : 0 ≤ (0 : Int32).toInt ∧ (0 : Int32).toInt ≤ 12), (by decide : 0 ≤ (0 : Int32).toInt ∧ (0 : Int32).toInt ≤ 3), (by decide : 0 ≤ (0 : Int32).toInt ∧ (0 : Int32).toInt ≤ 6), (by decide : 0 ≤ (0 : Int32).toInt ∧ (0 : Int32).toInt ≤ 6), (by decide : 0 ≤ (0 : Int32).toInt ∧ (0 : Int32).toInt ≤ 5), (by decide : 0 ≤ (0 : Int32).toInt ∧ (0 : Int32).toInt ≤ 4)⟩, Or.inr ⟨z, z, z, z, z⟩, (fun j hj => absurd (show (j : Int) < (0 : Int32).toInt from hj) (by rw [z]; omega)), Or.inl z, (fun j hj => absurd (show (j : Int) < (0 : Int32).toInt from hj) (by rw [z]; omega))⟩
def TR (vm v : Vf) (a b c d e : Nat) : Prop := (∀ t, t = 23 ∨ 27 ≤ t → v t = vm t) ∧ (v 0 0 = vm 37 0 ∧ v 1 0 = vm 38 0 ∧ v 4 0 = vm 43 0 ∧ v 9 0 = vm 48 0 ∧ v 12 0 = vm 51 0 ∧ v 16 0 = vm 55 0 ∧ v 19 0 = vm 58 0) ∧ (((vm 37 0).toInt = 0 ∨ (bnd (v 2) a 0 99 ∧ bnd (v 3) a 0 9)) ∧ bnd (v 25) a 0 90) ∧ (bnd (v 5) b 1 9 ∧ (∀ j : Nat, j < b → (j : Int) < (vm 43 0).toInt → (0 ≤ (v 6 j).toInt ∧ (v 6 j).toInt ≤ 8) ∧ (0 ≤ (v 7 j).toInt ∧ (v 7 j).toInt ≤ 8)) ∧ bnd (v 24) b 0 999) ∧ bnd (v 8) c (-9) 9 ∧ (bnd (v 10) d 0 23 ∧ bnd (v 13) d 0 23) ∧ (bnd (v 17) e 0 23 ∧ (∀ j : Nat, j < e → (j : Int) < (vm 55 0).toInt → 0 ≤ (v 18 j).toInt ∧ (v 18 j).toInt ≤ 99))
theorem fr_up {vm v : Vf} {k j : Nat} {x : Int32} (h : ∀ t, t = 23 ∨ 27 ≤ t → v t = vm t) (hk : k ≠ 23 ∧ k < 27) : ∀ t, t = 23 ∨ 27 ≤ t → up2 v k j x t = vm t := fun t ht => by
  rw [up2_ne (fun q => by omega)]
  exact h t ht
theorem TR.zero {v : Vf} : TR v (up2 (up2 (up2 (up2 (up2 (up2 (up2 (up2 v 0 0 (v 37 0)) 1 0 (v 38 0)) 4 0 (v 43 0)) 9 0 (v 48 0)) 12 0 (v 51 0)) 16 0 (v 55 0)) 19 0 (v 58 0)) 22 0 1) 0 0 0 0 0 :=
  ⟨fr_up (fr_up (fr_up (fr_up (fr_up (fr_up (fr_up (fr_up (fun _ _ => rfl) (by decide)) (by decide)) (by decide)) (by decide)) (by decide)) (by decide)) (by decide)) (by decide), ⟨rfl, rfl, rfl, rfl, rfl, rfl, rfl⟩, ⟨Or.inr ⟨bnd_0, bnd_0⟩, bnd_0⟩, ⟨bnd_0, (fun j h => absurd h (Nat.not_lt_zero j)), bnd_0⟩, bnd_0, ⟨bnd_0, bnd_0⟩, ⟨bnd_0, (fun j h => absurd h (Nat.not_lt_zero j))⟩⟩
theorem TR.cell {vm v : Vf} {a b c d e : Nat} {x y : Int32} (h : TR vm v a b c d e) (hx : (vm 37 0).toInt = 0 ∨ ((0 ≤ x.toInt ∧ x.toInt ≤ 99) ∧ (0 ≤ y.toInt ∧ y.toInt ≤ 9))) : TR vm (up2 (up2 (up2 v 2 a x) 3 a y) 25 a 0) (a + 1) b c d e := by
  obtain ⟨h1, h2, h3, h4, h5, h6, h7⟩ := h
  refine ⟨fr_up (fr_up (fr_up h1 (by decide)) (by decide)) (by decide), h2, ⟨?_, bnd_ext h3.2 (by decide)⟩, h4, h5, h6, h7⟩
  rcases hx with q | q
  · exact Or.inl q
  · rcases h3.1 with z | z
    · exact Or.inl z
    · exact Or.inr ⟨bnd_ext z.1 q.1, bnd_ext z.2 q.2⟩
theorem TR.moon {vm v : Vf} {a b c d e : Nat} {m x y p : Int32} (h : TR vm v a b c d e) (hm : 1 ≤ m.toInt ∧ m.toInt ≤ 9) (hx : (b : Int) < (vm 43 0).toInt → (0 ≤ x.toInt ∧ x.toInt ≤ 8) ∧ (0 ≤ y.toInt ∧ y.toInt ≤ 8)) : TR vm (up2 (up2 (up2 (up2 (up2 v 5 b m) 6 b x) 7 b y) 24 b 0) 22 0 p) a (b + 1) c d e := by
  obtain ⟨h1, h2, h3, h4, h5, h6, h7⟩ := h
  refine ⟨fr_up (fr_up (fr_up (fr_up (fr_up h1 (by decide)) (by decide)) (by decide)) (by decide)) (by decide), h2, h3, ⟨bnd_ext h4.1 hm, fun j hj hc => ?_, bnd_ext h4.2.2 (by decide)⟩, h5, h6, h7⟩
  show (0 ≤ (upd (v 6) b x j).toInt ∧ (upd (v 6) b x j).toInt ≤ 8) ∧ (0 ≤ (upd (v 7) b y j).toInt ∧ (upd (v 7) b y j).toInt ≤ 8)
  rcases Nat.lt_or_ge j b with z | z
  · rw [upd_lt z, upd_lt z]
    exact h4.2.1 j z hc
  · have : j = b := by omega
    subst this
    rw [upd_at, upd_at]
    exact hx hc
theorem TR.part {vm v : Vf} {a b c d e : Nat} {x : Int32} (h : TR vm v a b c d e) (hx : -9 ≤ x.toInt ∧ x.toInt ≤ 9) : TR vm (up2 v 8 c x) a b (c + 1) d e := by
  obtain ⟨h1, h2, h3, h4, h5, h6, h7⟩ := h
  exact ⟨fr_up h1 (by decide), h2, h3, h4, bnd_ext h5 hx, h6, h7⟩
theorem TR.site {vm v : Vf} {a b c d e : Nat} {x y z p q r : Int32} (h : TR vm v a b c d e) (hx : 0 ≤ x.toInt ∧ x.toInt ≤ 23) (hy : 0 ≤ p.toInt ∧ p.toInt ≤ 23) : TR vm (up2 (up2 (up2 (up2 (up2 (up2 v 10 d x) 11 d y) 26 d z) 13 d p) 14 d q) 15 d r) a b c (d + 1) e := by
  obtain ⟨h1, h2, h3, h4, h5, h6, h7⟩ := h
  exact ⟨fr_up (fr_up (fr_up (fr_up (fr_up (fr_up h1 (by decide)) (by decide)) (by decide)) (by decide)) (by decide)) (by decide), h2, h3, h4, h5, ⟨bnd_ext h6.1 hx, bnd_ext h6.2 hy⟩, h7⟩
theorem TR.well {vm v : Vf} {a b c d e : Nat} {x y : Int32} (h : TR vm v a b c d e) (hx : 0 ≤ x.toInt ∧ x.toInt ≤ 23) (hy : (e : Int) < (vm 55 0).toInt → 0 ≤ y.toInt ∧ y.toInt ≤ 99) : TR vm (up2 (up2 v 17 e x) 18 e y) a b c d (e + 1) := by
  obtain ⟨h1, h2, h3, h4, h5, h6, h7⟩ := h
  refine ⟨fr_up (fr_up h1 (by decide)) (by decide), h2, h3, h4, h5, h6, ⟨bnd_ext h7.1 hx, fun j hj hc => ?_⟩⟩
  show 0 ≤ (upd (v 18) e y j).toInt ∧ (upd (v 18) e y j).toInt ≤ 99
  rcases Nat.lt_or_ge j e with z | z
  · rw [upd_lt z]
    exact h7.2 j z hc
  · have : j = e := by omega
    subst this
    rw [upd_at]
    exact hy hc
theorem TR.deed {vm v : Vf} {a b c d e j k : Nat} {x y : Int32} (h : TR vm v a b c d e) : TR vm (up2 (up2 v 20 j x) 21 k y) a b c d e := ⟨fr_up (fr_up h.1 (by decide)) (by decide), h.2⟩
theorem perl {p d q m z : Int32} (eq_ : q = p / d) (ez : z = q * m) (hp : 1 ≤ p.toInt ∧ p.toInt ≤ 81) (hd : 1 ≤ d.toInt ∧ d.toInt ≤ p.toInt) (hm : 1 ≤ m.toInt ∧ m.toInt ≤ 9) : 1 ≤ z.toInt ∧ z.toInt ≤ 9 * p.toInt := by
  have h1 := i_div eq_ (by omega) (by omega)
  have h2 : 1 ≤ p.toInt / d.toInt := (Int.le_ediv_iff_mul_le (by omega)).mpr (by omega)
  have k1 := mul_pos1 (a := q.toInt) (b := m.toInt) (by omega) hm.1
  have k2 : q.toInt * m.toInt ≤ q.toInt * 9 := Int.mul_le_mul_of_nonneg_left hm.2 (by omega)
  rw [i_mul ez (by omega)]
  omega
theorem tr_fin {vm v : Vf} (hM : MdI vm) (hR : RdM vm) (h : TR vm v 24 3 27 6 5) (hp : 1 ≤ (v 22 0).toInt ∧ (v 22 0).toInt ≤ 729) : MdI (up2 (up2 (up2 (up2 (up2 (up2 v 23 0 0) 27 0 0) 28 0 0) 29 0 20) 67 0 0) 75 0 0) := by
  obtain ⟨h1, ⟨c1, c2, c3, c4, c5, c6, c7⟩, h3, h4, h5, h6, h7⟩ := h
  obtain ⟨r1, r2, r3, r4, r5, r6⟩ := hR
  obtain ⟨⟨m1, m2, m3, m4, m5, m6, m7⟩, n1, n2, n3, n4, n5, n6, n7⟩ := hM
  have z : (0 : Int32).toInt = 0 := by decide
  have k62 : v 62 = vm 62 := h1 62 (by omega)
  have k77 : v 77 = vm 77 := h1 77 (by omega)
  have k30 : v 30 = vm 30 := h1 30 (by omega)
  have k32 : v 32 = vm 32 := h1 32 (by omega)
  have k68 : v 68 = vm 68 := h1 68 (by omega)
  have k69 : v 69 = vm 69 := h1 69 (by omega)
  have k47 : v 47 = vm 47 := h1 47 (by omega)
  have k49 : v 49 = vm 49 := h1 49 (by omega)
  have k52 : v 52 = vm 52 := h1 52 (by omega)
  have k56 : v 56 = vm 56 := h1 56 (by omega)
  unfold rdG rdC rdZ at *
  refine ⟨⟨?_, ?_, ?_, ?_, ?_, ?_, ?_⟩, ?_, ?_, ?_, ?_, ?_, ?_, ?_⟩
  · show (0 ≤ (v 0 0).toInt ∧ (v 0 0).toInt ≤ 6) ∧ (0 ≤ (v 1 0).toInt ∧ (v 1 0).toInt ≤ 6) ∧ (v 0 0).toInt * (v 1 0).toInt ≤ 24
    rw [c1, c2]
    exact r1
  · show (0 ≤ (v 4 0).toInt ∧ (v 4 0).toInt ≤ 3) ∧ (0 ≤ (v 9 0).toInt ∧ (v 9 0).toInt ≤ 6) ∧ (0 ≤ (v 12 0).toInt ∧ (v 12 0).toInt ≤ 6) ∧ (0 ≤ (v 16 0).toInt ∧ (v 16 0).toInt ≤ 5) ∧ (0 ≤ (v 19 0).toInt ∧ (v 19 0).toInt ≤ 4) ∧ (1 ≤ (v 22 0).toInt ∧ (v 22 0).toInt ≤ 729)
    rw [c3, c4, c5, c6, c7]
    exact ⟨r2.2.1, r2.2.2.1, r2.2.2.2.1, r2.2.2.2.2.1, r2.2.2.2.2.2, hp⟩
  · show (1 ≤ (v 0 0).toInt ∧ 1 ≤ (v 1 0).toInt) ∨ ((v 0 0).toInt = 0 ∧ (v 4 0).toInt = 0 ∧ (v 9 0).toInt = 0 ∧ (v 12 0).toInt = 0 ∧ (v 16 0).toInt = 0 ∧ (0 : Int32).toInt = 0)
    rw [c1, c2, c3, c4, c5, c6]
    exact r3.imp id (fun q => ⟨q.1, q.2.1, q.2.2.1, q.2.2.2.1, q.2.2.2.2, z⟩)
  · show bnd (v 5) 3 0 9 ∧ ((v 4 0).toInt = 0 ∨ bnd (v 5) 3 1 9) ∧ (∀ j : Nat, (j : Int) < (v 4 0).toInt → (0 ≤ (v 6 j).toInt ∧ (v 6 j).toInt ≤ 8) ∧ (0 ≤ (v 7 j).toInt ∧ (v 7 j).toInt ≤ 8)) ∧ bnd (v 8) 27 (-9) 9
    refine ⟨fun j hj => ⟨by have := (h4.1 j hj).1; omega, (h4.1 j hj).2⟩, Or.inr h4.1, fun j hj => ?_, h5⟩
    rw [c3] at hj
    exact h4.2.1 j (by omega) hj
  · show bnd (v 10) 6 0 23 ∧ bnd (v 13) 6 0 23 ∧ bnd (v 17) 5 0 23 ∧ ((v 0 0).toInt = 0 ∨ (bnd (v 2) 24 0 99 ∧ bnd (v 3) 24 0 9)) ∧ (∀ j : Nat, (j : Int) < (v 16 0).toInt → 0 ≤ (v 18 j).toInt ∧ (v 18 j).toInt ≤ 99)
    refine ⟨h6.1, h6.2, h7.1, by rw [c1]; exact h3.1, fun j hj => ?_⟩
    rw [c6] at hj
    exact h7.2 j (by omega) hj
  · show (0 ≤ (0 : Int32).toInt ∧ (0 : Int32).toInt ≤ 900000) ∧ bnd (v 24) 3 0 999 ∧ bnd (v 25) 24 0 90 ∧ (0 ≤ (0 : Int32).toInt ∧ (0 : Int32).toInt ≤ 23) ∧ (0 ≤ (20 : Int32).toInt ∧ (20 : Int32).toInt ≤ 99) ∧ 0 ≤ (v 30 0).toInt
    rw [k30]
    exact ⟨by decide, h4.2.2, h3.2, by decide, by decide, m6.2.2.2.2.2⟩
  · show (0 ≤ (v 32 0).toInt ∧ (v 32 0).toInt ≤ 250) ∧ (0 ≤ (0 : Int32).toInt ∧ (0 : Int32).toInt ≤ 12) ∧ bnd (v 68) 12 0 23 ∧ bnd (v 69) 12 0 999 ∧ (0 ≤ (0 : Int32).toInt ∧ (0 : Int32).toInt ≤ 30)
    rw [k32, k68, k69]
    exact ⟨m7.1, by decide, m7.2.2.1, m7.2.2.2.1, by decide⟩
  · show v 62 0 = -1
    rw [k62]
    exact n1
  · show imI (v 77) 0
    rw [k77]
    exact n2
  · show imI (v 77) 40
    rw [k77]
    exact n3
  · show bnd (v 47) 27 (-9) 9
    rw [k47]
    exact n4
  · show bnd (v 49) 6 0 23
    rw [k49]
    exact n5
  · show bnd (v 52) 6 0 23
    rw [k52]
    exact n6
  · show bnd (v 56) 5 0 23
    rw [k56]
    exact n7
theorem md_txt0 {v : Vf} (h : MdI v) : MdI (up2 v 32 0 0) := ⟨⟨h.1.1, h.1.2.1, h.1.2.2.1, h.1.2.2.2.1, h.1.2.2.2.2.1, h.1.2.2.2.2.2.1, ⟨(by decide : 0 ≤ (0 : Int32).toInt ∧ (0 : Int32).toInt ≤ 250), h.1.2.2.2.2.2.2.2⟩⟩, h.2⟩
end
section
/-! ground, and clauses that are too many -/
theorem g_fill {v : Vf} {i x b s s' : Int32} (h : ∀ j : Nat, (j : Int) < i.toInt → v 39 j = b ∧ v 40 j = s) (h0 : 0 ≤ i.toInt) (hx : x.toInt = i.toInt + 1) (hs : s' = s) : ∀ j : Nat, (j : Int) < x.toInt → up2 (up2 v 39 i.toNatClampNeg b) 40 i.toNatClampNeg s' 39 j = b ∧ up2 (up2 v 39 i.toNatClampNeg b) 40 i.toNatClampNeg s' 40 j = s := by
  subst hs
  intro j hj
  show upd (v 39) i.toNatClampNeg b j = b ∧ upd (v 40) i.toNatClampNeg s' j = s'
  have e := i_nat h0
  by_cases q : j = i.toNatClampNeg
  · subst q
    exact ⟨updA, updA⟩
  · rw [updN q, updN q]
    exact h j (by omega)
theorem g_keep {v w : Vf} {i x b s : Int32} (h : ∀ j : Nat, i.toInt ≤ (j : Int) → v 39 j = w 39 j ∧ v 40 j = w 40 j) (h0 : 0 ≤ i.toInt) (hx : x.toInt = i.toInt + 1) : ∀ j : Nat, x.toInt ≤ (j : Int) → up2 (up2 v 39 i.toNatClampNeg b) 40 i.toNatClampNeg s 39 j = w 39 j ∧ up2 (up2 v 39 i.toNatClampNeg b) 40 i.toNatClampNeg s 40 j = w 40 j := by
  intro j hj
  show upd (v 39) i.toNatClampNeg b j = w 39 j ∧ upd (v 40) i.toNatClampNeg s j = w 40 j
  have e := i_nat h0
  have q : j ≠ i.toNatClampNeg := by omega
  rw [updN q, updN q]
  exact h j (by omega)
theorem sm_ground {S : St0} {vm vn : Vf} {w d b s : Int32} (h : SM S vm) (e : scL lGr vm vn) (h37 : vn 37 = upd (vm 37) 0 w) (h38 : vn 38 = upd (vm 38) 0 d) (h39 : ∀ j : Nat, (j : Int) < 24 → vn 39 j = b ∧ vn 40 j = s) (h40 : ∀ j : Nat, (24 : Int) ≤ j → vn 39 j = vm 39 j ∧ vn 40 j = vm 40 j) : SM (groundS S w.toInt d.toInt b.toInt s.toInt) vn := fun t h1 j => by
  have e0 : groundS S w.toInt d.toInt b.toInt s.toInt t j = cond (Nat.beq t 39) (cond (Nat.blt j 24) b.toInt (S 39 j)) (cond (Nat.beq t 40) (cond (Nat.blt j 24) s.toInt (S 40 j)) (cond (Nat.beq t 38 && Nat.beq j 0) d.toInt (cond (Nat.beq t 37 && Nat.beq j 0) w.toInt (S t j)))) := rfl
  rw [e0]
  by_cases q9 : t = 39
  · subst q9
    show cond (Nat.blt j 24) b.toInt (S 39 j) = _
    by_cases hj : j < 24
    · rw [show Nat.blt j 24 = true from Nat.blt_eq.mpr hj, (h39 j (by omega)).1]
      rfl
    · rw [show Nat.blt j 24 = false from by cases hb : Nat.blt j 24; rfl; exact absurd (Nat.blt_eq.mp hb) hj, (h40 j (by omega)).1]
      exact h 39 (by decide) j
  · rw [beqN q9]
    by_cases q0 : t = 40
    · subst q0
      show cond (Nat.blt j 24) s.toInt (S 40 j) = _
      by_cases hj : j < 24
      · rw [show Nat.blt j 24 = true from Nat.blt_eq.mpr hj, (h39 j (by omega)).2]
        rfl
      · rw [show Nat.blt j 24 = false from by cases hb : Nat.blt j 24; rfl; exact absurd (Nat.blt_eq.mp hb) hj, (h40 j (by omega)).2]
        exact h 40 (by decide) j
    · rw [beqN q0]
      by_cases q8 : t = 38
      · subst q8
        rw [h38]
        show cond (Nat.beq j 0) d.toInt (S 38 j) = _
        by_cases hj : j = 0
        · subst hj
          rfl
        · rw [beqN hj, updN hj]
          exact h 38 (by decide) j
      · rw [beqN q8]
        by_cases q7 : t = 37
        · subst q7
          rw [h37]
          show cond (Nat.beq j 0) w.toInt (S 37 j) = _
          by_cases hj : j = 0
          · subst hj
            rfl
          · rw [beqN hj, updN hj]
            exact h 37 (by decide) j
        · rw [beqN q7, e t (by unfold lGr; intro hh; simp only [List.mem_cons, List.not_mem_nil, or_false] at hh; omega)]
          exact h t h1 j
theorem cl3_g {T : Nat → Int32} {n : Int} {S : St0} {q : Int} (h : tc T q = 103) (hc : 1 ≤ S 37 0) : clauseF T n S q = .inl (3, q) := by
  rw [cl_g h, show groundF T n S q (q + 1) = .inl (3, q) from th_no (th_no (th_no (th_no (th_no (th_no (chk_on hc))))))]
  rfl
theorem cl3_c {T : Nat → Int32} {n : Int} {S : St0} {q : Int} (h : tc T q = 99) (hS : S 37 0 ≠ 0) (hc : 12 ≤ S 41 0) : clauseF T n S q = .inl (3, q) := by
  rw [cl_c h hS, show cellF T n S q (q + 1) = .inl (3, q) from th_no (th_no (th_no (th_no (th_no (chk_on hc)))))]
  rfl
theorem cl3_m {T : Nat → Int32} {n : Int} {S : St0} {q : Int} (h : tc T q = 109) (hS : S 37 0 ≠ 0) (hc : 3 ≤ S 43 0) : clauseF T n S q = .inl (3, q) := by
  rw [cl_m h hS, show moonF T n S q (q + 1) = .inl (3, q) from th_no (th_no (th_no (th_no (chk_on hc))))]
  rfl
theorem cl3_h {T : Nat → Int32} {n : Int} {S : St0} {q : Int} (h : tc T q = 104) (hS : S 37 0 ≠ 0) (hc : 6 ≤ S 48 0) : clauseF T n S q = .inl (3, q) := by
  rw [cl_h h hS, show houseF T n S q (q + 1) = .inl (3, q) from th_no (th_no (th_no (th_no (chk_on hc))))]
  rfl
theorem cl3_k {T : Nat → Int32} {n : Int} {S : St0} {q : Int} (h : tc T q = 107) (hS : S 37 0 ≠ 0) (hc : 6 ≤ S 51 0) : clauseF T n S q = .inl (3, q) := by
  rw [cl_k h hS, show crackF T n S q (q + 1) = .inl (3, q) from th_no (th_no (th_no (th_no (th_no (th_no (chk_on hc))))))]
  rfl
theorem cl3_w {T : Nat → Int32} {n : Int} {S : St0} {q : Int} (h : tc T q = 119) (hS : S 37 0 ≠ 0) (hc : 5 ≤ S 55 0) : clauseF T n S q = .inl (3, q) := by
  rw [cl_w h hS, show wellF T n S q (q + 1) = .inl (3, q) from th_no (th_no (th_no (th_no (chk_on hc))))]
  rfl
theorem cl3_d {T : Nat → Int32} {n : Int} {S : St0} {q : Int} (h : tc T q = 100) (hS : S 37 0 ≠ 0) (hc : 4 ≤ S 58 0) : clauseF T n S q = .inl (3, q) := by
  rw [cl_d h hS, show deedF T n S q (q + 1) = .inl (3, q) from th_no (th_no (th_no (th_no (chk_on hc))))]
  rfl
end
section
/-! ===== what the reference takes over of a text, and the period ===== -/
def CpA (v w : Vf) (i : Int) : Prop := ∀ j : Nat, (j : Int) < i → v 2 j = w 39 j ∧ v 3 j = w 40 j
def CpB (v w : Vf) (i : Int) : Prop := ∀ j : Nat, (j : Int) < i → v 5 j = (if (j : Int) < (w 43 0).toInt then w 44 j else 1) ∧ v 6 j = w 45 j ∧ v 7 j = w 46 j
def CpC (v w : Vf) (i : Int) : Prop := ∀ j : Nat, (j : Int) < i → v 8 j = w 47 j
def CpD (v w : Vf) (i : Int) : Prop := ∀ j : Nat, (j : Int) < i → v 10 j = w 49 j ∧ v 11 j = w 50 j ∧ v 13 j = w 52 j ∧ v 14 j = w 53 j ∧ v 15 j = w 54 j - 30
def CpE (v w : Vf) (i : Int) : Prop := ∀ j : Nat, (j : Int) < i → v 17 j = w 56 j ∧ v 18 j = w 57 j
def CpF (v w : Vf) (i : Int) : Prop := ∀ j : Nat, (j : Int) < i → v 20 j = w 59 j - 100 ∧ v 21 j = w 60 j - 100
theorem cp_next {f g : Nat → Int32} {i i2 x : Int32} (h : ∀ j : Nat, (j : Int) < i.toInt → f j = g j) (h0 : 0 ≤ i.toInt) (h1 : i2.toInt = i.toInt + 1) (hx : x = g i.toNatClampNeg) : ∀ j : Nat, (j : Int) < i2.toInt → upd f i.toNatClampNeg x j = g j := by
  intro j hj
  have e := i_nat h0
  by_cases q : j = i.toNatClampNeg
  · subst q
    rw [updA]
    exact hx
  · rw [updN q]
    exact h j (by omega)
theorem CpA.next {v w : Vf} {i i2 x y : Int32} (h : CpA v w i.toInt) (h0 : 0 ≤ i.toInt) (h1 : i2.toInt = i.toInt + 1) (hx : x = w 39 i.toNatClampNeg) (hy : y = w 40 i.toNatClampNeg) : CpA (up2 (up2 (up2 v 2 i.toNatClampNeg x) 3 i.toNatClampNeg y) 25 i.toNatClampNeg 0) w i2.toInt := fun j hj => ⟨cp_next (fun j hj => (h j hj).1) h0 h1 hx j hj, cp_next (fun j hj => (h j hj).2) h0 h1 hy j hj⟩
theorem CpB.next {v w : Vf} {i i2 m x y p : Int32} (h : CpB v w i.toInt) (h0 : 0 ≤ i.toInt) (h1 : i2.toInt = i.toInt + 1) (hm : m = (if ((i.toNatClampNeg : Nat) : Int) < (w 43 0).toInt then w 44 i.toNatClampNeg else 1)) (hx : x = w 45 i.toNatClampNeg) (hy : y = w 46 i.toNatClampNeg) : CpB (up2 (up2 (up2 (up2 (up2 v 5 i.toNatClampNeg m) 6 i.toNatClampNeg x) 7 i.toNatClampNeg y) 24 i.toNatClampNeg 0) 22 0 p) w i2.toInt := fun j hj => ⟨cp_next (g := fun j => if (j : Int) < (w 43 0).toInt then w 44 j else 1) (fun j hj => (h j hj).1) h0 h1 hm j hj, cp_next (fun j hj => (h j hj).2.1) h0 h1 hx j hj, cp_next (fun j hj => (h j hj).2.2) h0 h1 hy j hj⟩
theorem CpC.next {v w : Vf} {i i2 x : Int32} (h : CpC v w i.toInt) (h0 : 0 ≤ i.toInt) (h1 : i2.toInt = i.toInt + 1) (hx : x = w 47 i.toNatClampNeg) : CpC (up2 v 8 i.toNatClampNeg x) w i2.toInt := fun j hj => cp_next (fun j hj => h j hj) h0 h1 hx j hj
theorem CpD.next {v w : Vf} {i i2 x y p q r : Int32} (h : CpD v w i.toInt) (h0 : 0 ≤ i.toInt) (h1 : i2.toInt = i.toInt + 1) (hx : x = w 49 i.toNatClampNeg) (hy : y = w 50 i.toNatClampNeg) (hp : p = w 52 i.toNatClampNeg) (hq : q = w 53 i.toNatClampNeg) (hr : r = w 54 i.toNatClampNeg - 30) : CpD (up2 (up2 (up2 (up2 (up2 (up2 v 10 i.toNatClampNeg x) 11 i.toNatClampNeg y) 26 i.toNatClampNeg 0) 13 i.toNatClampNeg p) 14 i.toNatClampNeg q) 15 i.toNatClampNeg r) w i2.toInt := fun j hj => ⟨cp_next (fun j hj => (h j hj).1) h0 h1 hx j hj, cp_next (fun j hj => (h j hj).2.1) h0 h1 hy j hj, cp_next (fun j hj => (h j hj).2.2.1) h0 h1 hp j hj, cp_next (fun j hj => (h j hj).2.2.2.1) h0 h1 hq j hj, cp_next (g := fun j => w 54 j - 30) (fun j hj => (h j hj).2.2.2.2) h0 h1 hr j hj⟩
theorem CpE.next {v w : Vf} {i i2 x y : Int32} (h : CpE v w i.toInt) (h0 : 0 ≤ i.toInt) (h1 : i2.toInt = i.toInt + 1) (hx : x = w 56 i.toNatClampNeg) (hy : y = w 57 i.toNatClampNeg) : CpE (up2 (up2 v 17 i.toNatClampNeg x) 18 i.toNatClampNeg y) w i2.toInt := fun j hj => ⟨cp_next (fun j hj => (h j hj).1) h0 h1 hx j hj, cp_next (fun j hj => (h j hj).2) h0 h1 hy j hj⟩
theorem CpF.next {v w : Vf} {i i2 x y : Int32} (h : CpF v w i.toInt) (h0 : 0 ≤ i.toInt) (h1 : i2.toInt = i.toInt + 1) (hx : x = w 59 i.toNatClampNeg - 100) (hy : y = w 60 i.toNatClampNeg - 100) : CpF (up2 (up2 v 20 i.toNatClampNeg x) 21 i.toNatClampNeg y) w i2.toInt := fun j hj => ⟨cp_next (g := fun j => w 59 j - 100) (fun j hj => (h j hj).1) h0 h1 hx j hj, cp_next (g := fun j => w 60 j - 100) (fun j hj => (h j hj).2) h0 h1 hy j hj⟩
def lcmS (p s : Int) : Int := p / (Int.gcd p s : Int) * s
def perI (f : Nat → Int) : Nat → Int
  | 0 => 1
  | n + 1 => lcmS (perI f n) (f n)
theorem perI_congr {f g : Nat → Int} : ∀ n : Nat, (∀ j, j < n → f j = g j) → perI f n = perI g n
  | 0, _ => rfl
  | n + 1, h => by
    show lcmS (perI f n) (f n) = lcmS (perI g n) (g n)
    rw [perI_congr n (fun j hj => h j (by omega)), h n (by omega)]
theorem lcm_1 (p : Int) : lcmS p 1 = p := by
  unfold lcmS
  rw [show Int.gcd p 1 = 1 from Nat.gcd_one_right _]
  show p / 1 * 1 = p
  rw [Int.ediv_one, Int.mul_one]
theorem perI_ones {f : Nat → Int} {m : Nat} : ∀ n : Nat, m ≤ n → (∀ j, m ≤ j → j < n → f j = 1) → perI f n = perI f m
  | 0, h, _ => by rw [show m = 0 by omega]
  | n + 1, h, hf => by
    by_cases q : m = n + 1
    · rw [q]
    · show lcmS (perI f n) (f n) = perI f m
      rw [hf n (by omega) (by omega), lcm_1]
      exact perI_ones n (by omega) (fun j h1 h2 => hf j h1 (by omega))
theorem per_next {f : Nat → Int32} {k : Nat} {m z q p d : Int32} (hp : p.toInt = perI (fun j => (f j).toInt) k) (hd : d.toInt = (Int.gcd p.toInt m.toInt : Int)) (eq_ : q = p / d) (ez : z = q * m) (b1 : 1 ≤ p.toInt ∧ p.toInt ≤ 81) (bd : 1 ≤ d.toInt ∧ d.toInt ≤ p.toInt) (bm : 1 ≤ m.toInt ∧ m.toInt ≤ 9) : z.toInt = perI (fun j => (upd f k m j).toInt) (k + 1) := by
  have h1 := i_div eq_ (by omega) (by omega)
  have h3 := mul_b (a := q.toInt) (b := m.toInt) (A := 81) (B := 9) (by omega) (by omega)
  have h2 := i_mul ez (by omega)
  show z.toInt = lcmS (perI (fun j => (upd f k m j).toInt) k) (upd f k m k).toInt
  rw [updA, perI_congr (g := fun j => (f j).toInt) k (fun j hj => by show (upd f k m j).toInt = _; rw [updN (by omega)]), ← hp]
  unfold lcmS
  rw [← hd, h2, h1.1]
def Rd0 (v w : Vf) : Prop := CpA v w 24 ∧ CpB v w 3 ∧ CpC v w 27 ∧ CpD v w 6 ∧ CpE v w 5 ∧ CpF v w 4 ∧ (v 22 0).toInt = perI (fun j => (v 5 j).toInt) 3
def cntE (v w : Vf) : Prop := v 0 0 = w 37 0 ∧ v 1 0 = w 38 0 ∧ v 4 0 = w 43 0 ∧ v 9 0 = w 48 0 ∧ v 12 0 = w 51 0 ∧ v 16 0 = w 55 0 ∧ v 19 0 = w 58 0
/-- what is told, as the reference has taken it over -/
def RpMF (S : St0) (v : Vf) : Prop := ∃ w : Vf, (∀ t, 37 ≤ t → t ≤ 60 → ∀ j, S t j = (w t j).toInt) ∧ cntE v w ∧ Rd0 v w
end
section
/-! ===== the state, the images, the counts: what the calls that set them do ===== -/
def stE (a b : Vf) : Prop := a 0 0 = b 0 0 ∧ (∀ j, j < 3 → a 1 j = b 1 j) ∧ (∀ j, j < 24 → a 2 j = b 2 j) ∧ (∀ j, j < 6 → a 3 j = b 3 j) ∧ a 4 0 = b 4 0 ∧ a 5 0 = b 5 0 ∧ a 6 0 = b 6 0 ∧ a 7 0 = b 7 0
def stZ (a b : Vf) : Prop := b 0 0 = 0 ∧ (∀ j, j < 3 → b 1 j = 0) ∧ (∀ j, j < 24 → b 2 j = 0) ∧ (∀ j, j < 6 → b 3 j = 0) ∧ b 4 0 = 0 ∧ b 5 0 = 0 ∧ b 6 0 = 20 ∧ b 7 = a 7 ∧ b 8 = a 8
def mdRe (v : Vf) : Prop := v 23 0 = 0 ∧ (∀ j, j < 3 → v 24 j = 0) ∧ (∀ j, j < 24 → v 25 j = 0) ∧ (∀ j, j < 6 → v 26 j = 0) ∧ v 27 0 = 0 ∧ v 28 0 = 0 ∧ v 29 0 = 20
def imC (f : Nat → Int32) (B : Nat) (v : Vf) : Prop := (∀ j, j < 24 → f (B + j) = v 25 j) ∧ (∀ j, j < 6 → f (B + 24 + j) = v 26 j) ∧ (∀ j, j < 3 → f (B + 30 + j) = v 24 j) ∧ f (B + 33) = v 23 0 ∧ f (B + 34) = v 27 0 ∧ f (B + 35) = v 28 0 ∧ f (B + 36) = v 29 0 ∧ f (B + 37) = v 30 0
def imO (B : Nat) (f g : Nat → Int32) : Prop := ∀ j, j < B ∨ B + 38 ≤ j → g j = f j
theorem imO.rf {B : Nat} {f : Nat → Int32} : imO B f f := fun _ _ => rfl
theorem im_o {B k : Nat} {f f' : Nat → Int32} {x : Int32} (h : imO B f f') (hk : B ≤ k ∧ k < B + 38) : imO B f (upd f' k x) := fun j hj => by
  rw [updN (show j ≠ k by omega)]
  exact h j hj
theorem im_w {f g : Nat → Int32} {C k : Nat} {i i2 x : Int32} (h : ∀ j : Nat, (j : Int) < i.toInt → f (C + j) = g j) (h0 : 0 ≤ i.toInt) (h1 : i2.toInt = i.toInt + 1) (hk : k = C + i.toNatClampNeg) (hx : x = g i.toNatClampNeg) : ∀ j : Nat, (j : Int) < i2.toInt → upd f k x (C + j) = g j := by
  subst hk
  intro j hj
  have e := i_nat h0
  by_cases q : j = i.toNatClampNeg
  · subst q
    rw [updA]
    exact hx
  · rw [updN (show C + j ≠ C + i.toNatClampNeg by omega)]
    exact h j (by omega)
theorem im_f {f g : Nat → Int32} {C n k : Nat} {x : Int32} (h : ∀ j, j < n → f (C + j) = g j) (hk : k < C ∨ C + n ≤ k) : ∀ j, j < n → upd f k x (C + j) = g j := fun j hj => by
  rw [updN (show C + j ≠ k by omega)]
  exact h j hj
/-- a number is set, within bounds: what it was -/
def SetP (x : Int32) (lo hi : Int) (old r new : Int32) : Prop := (r.toInt = -1000000002 ∧ (x.toInt < lo ∨ hi < x.toInt) ∧ new = old) ∨ ((lo ≤ x.toInt ∧ x.toInt ≤ hi) ∧ r = old ∧ new = x)
def PropP (h z n : Int32) (f : Nat → Int32) (r : Int32) (f' : Nat → Int32) : Prop := (r.toInt = -1000000001 ∧ (h.toInt < 0 ∨ n.toInt ≤ h.toInt) ∧ f' = f) ∨ (((0 ≤ h.toInt ∧ h.toInt < n.toInt) ∧ h.toInt ≤ 5) ∧ ((r.toInt = -1000000002 ∧ (z.toInt < 0 ∨ 999 < z.toInt) ∧ f' = f) ∨ ((0 ≤ z.toInt ∧ z.toInt ≤ 999) ∧ r = f h.toNatClampNeg ∧ f' = upd f h.toNatClampNeg z)))
/-- one more, if there is room -/
def CntP (ok : Prop) (m : Int) (c r c' : Int32) : Prop := (r.toInt = -1000000002 ∧ ¬ ok ∧ c' = c) ∨ (ok ∧ ((r.toInt = -1000000004 ∧ m ≤ c.toInt ∧ c' = c) ∨ (c.toInt < m ∧ r.toInt = c.toInt + 1 ∧ c'.toInt = c.toInt + 1)))
def SeeP (x y t h W D c r c' : Int32) : Prop := (r.toInt = -1000000001 ∧ ¬ ((0 ≤ x.toInt ∧ x.toInt < W.toInt) ∧ 0 ≤ y.toInt ∧ y.toInt < D.toInt) ∧ c' = c) ∨ (((0 ≤ x.toInt ∧ x.toInt < W.toInt) ∧ 0 ≤ y.toInt ∧ y.toInt < D.toInt) ∧ CntP ((0 ≤ t.toInt ∧ t.toInt ≤ 999) ∧ (-999 ≤ h.toInt ∧ h.toInt ≤ 999)) 12 c r c')
def TearP (b c r b' c' : Int32) : Prop := r.toInt = b.toInt + c.toInt ∧ b' = 0 ∧ c' = 0
/-- the class's images: kept, gone back to -/
def KeepC (i : Int32) (vs vi vj vi' vj' : Vf) : Prop := ((i.toInt < 0 ∨ 1 < i.toInt) ∧ vi' = vi ∧ vj' = vj) ∨ (i.toInt = 0 ∧ (stE vi' vs ∧ vi' 8 0 = 1) ∧ vj' = vj) ∨ (i.toInt = 1 ∧ (stE vj' vs ∧ vj' 8 0 = 1) ∧ vi' = vi)
def GoC1 (w vs : Vf) (r : Int32) (vs' : Vf) : Prop := ((w 8 0).toInt = 0 ∧ r.toInt = -1000000003 ∧ vs' = vs) ∨ ((w 8 0).toInt ≠ 0 ∧ r.toInt = 1 ∧ stE vs' w)
def GoC (i : Int32) (vs vi vj : Vf) (r : Int32) (vs' : Vf) : Prop := ((i.toInt < 0 ∨ 1 < i.toInt) ∧ r.toInt = -1000000001 ∧ vs' = vs) ∨ (i.toInt = 0 ∧ GoC1 vi vs r vs') ∨ (i.toInt = 1 ∧ GoC1 vj vs r vs')
/-- the reference's -/
def KeepM (i : Int32) (v v' : Vf) : Prop := ((i.toInt < 0 ∨ 1 < i.toInt) ∧ v' = v) ∨ (i.toInt = 0 ∧ imC (v' 77) 0 v ∧ imO 0 (v 77) (v' 77) ∧ v' 78 = upd (v 78) 0 1) ∨ (i.toInt = 1 ∧ imC (v' 77) 40 v ∧ imO 40 (v 77) (v' 77) ∧ v' 78 = upd (v 78) 1 1)
def GoM1 (B : Nat) (k : Int32) (v : Vf) (r : Int32) (v' : Vf) : Prop := (k.toInt = 0 ∧ r.toInt = -1000000003 ∧ v' = v) ∨ (k.toInt ≠ 0 ∧ r.toInt = 1 ∧ imC (v 77) B v')
def GoM (i : Int32) (v : Vf) (r : Int32) (v' : Vf) : Prop := ((i.toInt < 0 ∨ 1 < i.toInt) ∧ r.toInt = -1000000001 ∧ v' = v) ∨ (i.toInt = 0 ∧ GoM1 0 (v 78 0) v r v') ∨ (i.toInt = 1 ∧ GoM1 40 (v 78 1) v r v')
/-- a text that is taken, or not: what becomes of the rest -/
def lG9 : List Nat := [1, 2, 101, 102, 104, 105, 106, 107, 108]
def lG9a : List Nat := [1, 2, 12, 101, 102, 104, 105, 106, 107, 108, 401]
def GrC (r : Int32) (v vp vs vi vj v' vp' vs' vi' vj' : Vf) : Prop := (r.toInt < 0 ∧ vp' = vp ∧ vs' = vs ∧ vi' = vi ∧ vj' = vj ∧ fr lG9 v v') ∨ (0 ≤ r.toInt ∧ stZ vs vs' ∧ (v' 12 0 = 0 ∧ v' 401 0 = 0) ∧ (vi' 8 0 = 0 ∧ fr [8] vi vi') ∧ (vj' 8 0 = 0 ∧ fr [8] vj vj') ∧ fr lG9a v v')
def lG10 : List Nat := [32, 33, 34, 35, 36, 37, 38, 39, 40, 41, 42, 43, 44, 45, 46, 47, 48, 49, 50, 51, 52, 53, 54, 55, 56, 57, 58, 59, 60, 61]
def GrD (r : Int32) (v v' : Vf) : Prop := (r.toInt < 0 ∧ fr lG10 v v') ∨ (0 ≤ r.toInt ∧ mdRe v' ∧ (v' 67 0 = 0 ∧ v' 75 0 = 0) ∧ (v' 78 0 = 0 ∧ v' 78 1 = 0))
/-- what is told, as the reference has taken it over: width, depth, houses -/
def RpM0 (S : St0) (v : Vf) : Prop := S 37 0 = (v 0 0).toInt ∧ S 38 0 = (v 1 0).toInt ∧ S 48 0 = (v 9 0).toInt
end
