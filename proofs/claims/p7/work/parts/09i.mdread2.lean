/-! ===== the reference's reading: ground, and what is taken over ===== -/
def lGr : List Nat := [33, 34, 35, 36, 37, 38, 39, 40]
theorem rd_ground {v w : Vf} (h : RdM v) (e : scL lGr v w) (hw : 1 ≤ (w 37 0).toInt ∧ (w 37 0).toInt ≤ 6) (hd : 1 ≤ (w 38 0).toInt ∧ (w 38 0).toInt ≤ 6) (hc : (w 37 0).toInt * (w 38 0).toInt ≤ 24) (hb : bnd (w 39) 24 0 99 ∧ bnd (w 40) 24 0 9) : RdM w := by
  have q := e.mem (r := [41, 43, 44, 45, 46, 48, 51, 55, 57, 58]) (by decide)
  obtain ⟨a1, a2, a3, a4, a5, a6⟩ := h
  unfold rdG rdC rdZ rdMo rdB rdD at *
  unfold RdM rdG rdC rdZ rdMo rdB rdD
  rw [q 41 (by decide), q 43 (by decide), q 44 (by decide), q 45 (by decide), q 46 (by decide), q 48 (by decide), q 51 (by decide), q 55 (by decide), q 57 (by decide), q 58 (by decide)]
  exact ⟨⟨⟨by omega, hw.2⟩, ⟨by omega, hd.2⟩, hc⟩, a2, Or.inl ⟨hw.1, hd.1⟩, a4, Or.inr hb, a6⟩
theorem bnd_ext {f : Nat → Int32} {n : Nat} {lo hi : Int} {x : Int32} (h : bnd f n lo hi) (hx : lo ≤ x.toInt ∧ x.toInt ≤ hi) : bnd (upd f n x) (n + 1) lo hi := by
  intro j hj
  unfold upd
  split
  · exact hx
  · exact h j (by omega)
theorem bnd_0 {f : Nat → Int32} {lo hi : Int} : bnd f 0 lo hi := fun j h => absurd h (Nat.not_lt_zero j)
theorem rd_new {v : Vf} : RdM (up2 (up2 (up2 (up2 (up2 (up2 (up2 (up2 (up2 (up2 v 33 0 (-1)) 34 0 0) 37 0 0) 38 0 0) 41 0 0) 43 0 0) 48 0 0) 51 0 0) 55 0 0) 58 0 0) := by
  have z : (0 : Int32).toInt = 0 := by decide
  exact ⟨⟨(by decide : 0 ≤ (0 : Int32).toInt ∧ (0 : Int32).toInt ≤ 6), (by decide : 0 ≤ (0 : Int32).toInt ∧ (0 : Int32).toInt ≤ 6), (by decide : (0 : Int32).toInt * (0 : Int32).toInt ≤ 24)⟩, ⟨(by decide : 0 ≤ (0 : Int32).toInt ∧ (0 : Int32).toInt ≤ 12), (by decide : 0 ≤ (0 : Int32).toInt ∧ (0 : Int32).toInt ≤ 3), (by decide : 0 ≤ (0 : Int32).toInt ∧ (0 : Int32).toInt ≤ 6), (by decide : 0 ≤ (0 : Int32).toInt ∧ (0 : Int32).toInt ≤ 6), (by decide : 0 ≤ (0 : Int32).toInt ∧ (0 : Int32).toInt ≤ 5), (by decide : 0 ≤ (0 : Int32).toInt ∧ (0 : Int32).toInt ≤ 4)⟩, Or.inr ⟨z, z, z, z, z⟩, (fun j hj => absurd (show (j : Int) < (0 : Int32).toInt from hj) (by rw [z]; omega)), Or.inl z, (fun j hj => absurd (show (j : Int) < (0 : Int32).toInt from hj) (by rw [z]; omega))⟩
def TR (vm v : Vf) (a b c d e : Nat) : Prop := (∀ t, t = 23 ∨ 27 ≤ t → v t = vm t) ∧ (v 0 0 = vm 37 0 ∧ v 1 0 = vm 38 0 ∧ v 4 0 = vm 43 0 ∧ v 9 0 = vm 48 0 ∧ v 12 0 = vm 51 0 ∧ v 16 0 = vm 55 0 ∧ v 19 0 = vm 58 0) ∧ (((vm 37 0).toInt = 0 ∨ (bnd (v 2) a 0 99 ∧ bnd (v 3) a 0 9)) ∧ bnd (v 25) a 0 90) ∧ (bnd (v 5) b 1 9 ∧ (∀ j : Nat, j < b → (j : Int) < (vm 43 0).toInt → (0 ≤ (v 6 j).toInt ∧ (v 6 j).toInt ≤ 8) ∧ (0 ≤ (v 7 j).toInt ∧ (v 7 j).toInt ≤ 8)) ∧ bnd (v 24) b 0 999) ∧ bnd (v 8) c (-9) 9 ∧ (bnd (v 10) d 0 23 ∧ bnd (v 13) d 0 23) ∧ (bnd (v 17) e 0 23 ∧ (∀ j : Nat, j < e → (j : Int) < (vm 55 0).toInt → 0 ≤ (v 18 j).toInt ∧ (v 18 j).toInt ≤ 99))
theorem fr_up {vm v : Vf} {k j : Nat} {x : Int32} (h : ∀ t, t = 23 ∨ 27 ≤ t → v t = vm t) (hk : k ≠ 23 ∧ k < 27) : ∀ t, t = 23 ∨ 27 ≤ t → up2 v k j x t = vm t := fun t ht => by
  rw [up2_ne (fun q => by omega)]
  exact h t ht
theorem TR.zero {v : Vf} : TR v (up2 (up2 (up2 (up2 (up2 (up2 (up2 (up2 v 0 0 (v 37 0)) 1 0 (v 38 0)) 4 0 (v 43 0)) 9 0 (v 48 0)) 12 0 (v 51 0)) 16 0 (v 55 0)) 19 0 (v 58 0)) 22 0 1) 0 0 0 0 0 :=
  ⟨fr_up (fr_up (fr_up (fr_up (fr_up (fr_up (fr_up (fr_up (fun _ _ => rfl) (by decide)) (by decide)) (by decide)) (by decide)) (by decide)) (by decide)) (by decide)) (by decide), ⟨rfl, rfl, rfl, rfl, rfl, rfl, rfl⟩, ⟨Or.inr ⟨bnd_0, bnd_0⟩, bnd_0⟩, ⟨bnd_0, (fun j h => absurd h (Nat.not_lt_zero j)), bnd_0⟩, bnd_0, ⟨bnd_0, bnd_0⟩, ⟨bnd_0, (fun j h => absurd h (Nat.not_lt_zero j))⟩⟩
theorem TR.cell {vm v : Vf} {a b c d e : Nat} {x y : Int32} (h : TR vm v a b c d e) (hx : (vm 37 0).toInt = 0 ∨ ((0 ≤ x.toInt ∧ x.toInt ≤ 99) ∧ (0 ≤ y.toInt ∧ y.toInt ≤ 9))) : TR vm (up2 (up2 (up2 v 2 a x) 3 a y) 25 a 0) (a + 1) b c d e := by
  obtain ⟨h1, h2, h3, h4, h5, h6, h7⟩ := h
  refine ⟨fr_up (fr_up (fr_up h1 (by decide)) (by decide)) (by decide), h2, ⟨?_, bnd_ext h3.2 (by decide)⟩, h4, h5, h6, h7⟩
  rcases hx with q | q
  · exact Or.inl q
  · rcases h3.1 with z | z
    · exact Or.inl z
    · exact Or.inr ⟨bnd_ext z.1 q.1, bnd_ext z.2 q.2⟩
theorem TR.moon {vm v : Vf} {a b c d e : Nat} {m x y p : Int32} (h : TR vm v a b c d e) (hm : 1 ≤ m.toInt ∧ m.toInt ≤ 9) (hx : (b : Int) < (vm 43 0).toInt → (0 ≤ x.toInt ∧ x.toInt ≤ 8) ∧ (0 ≤ y.toInt ∧ y.toInt ≤ 8)) : TR vm (up2 (up2 (up2 (up2 (up2 v 5 b m) 6 b x) 7 b y) 24 b 0) 22 0 p) a (b + 1) c d e := by
  obtain ⟨h1, h2, h3, h4, h5, h6, h7⟩ := h
  refine ⟨fr_up (fr_up (fr_up (fr_up (fr_up h1 (by decide)) (by decide)) (by decide)) (by decide)) (by decide), h2, h3, ⟨bnd_ext h4.1 hm, fun j hj hc => ?_, bnd_ext h4.2.2 (by decide)⟩, h5, h6, h7⟩
  show (0 ≤ (upd (v 6) b x j).toInt ∧ (upd (v 6) b x j).toInt ≤ 8) ∧ (0 ≤ (upd (v 7) b y j).toInt ∧ (upd (v 7) b y j).toInt ≤ 8)
  rcases Nat.lt_or_ge j b with z | z
  · rw [upd_lt z, upd_lt z]
    exact h4.2.1 j z hc
  · have : j = b := by omega
    subst this
    rw [upd_at, upd_at]
    exact hx hc
theorem TR.part {vm v : Vf} {a b c d e : Nat} {x : Int32} (h : TR vm v a b c d e) (hx : -9 ≤ x.toInt ∧ x.toInt ≤ 9) : TR vm (up2 v 8 c x) a b (c + 1) d e := by
  obtain ⟨h1, h2, h3, h4, h5, h6, h7⟩ := h
  exact ⟨fr_up h1 (by decide), h2, h3, h4, bnd_ext h5 hx, h6, h7⟩
theorem TR.site {vm v : Vf} {a b c d e : Nat} {x y z p q r : Int32} (h : TR vm v a b c d e) (hx : 0 ≤ x.toInt ∧ x.toInt ≤ 23) (hy : 0 ≤ p.toInt ∧ p.toInt ≤ 23) : TR vm (up2 (up2 (up2 (up2 (up2 (up2 v 10 d x) 11 d y) 26 d z) 13 d p) 14 d q) 15 d r) a b c (d + 1) e := by
  obtain ⟨h1, h2, h3, h4, h5, h6, h7⟩ := h
  exact ⟨fr_up (fr_up (fr_up (fr_up (fr_up (fr_up h1 (by decide)) (by decide)) (by decide)) (by decide)) (by decide)) (by decide), h2, h3, h4, h5, ⟨bnd_ext h6.1 hx, bnd_ext h6.2 hy⟩, h7⟩
theorem TR.well {vm v : Vf} {a b c d e : Nat} {x y : Int32} (h : TR vm v a b c d e) (hx : 0 ≤ x.toInt ∧ x.toInt ≤ 23) (hy : (e : Int) < (vm 55 0).toInt → 0 ≤ y.toInt ∧ y.toInt ≤ 99) : TR vm (up2 (up2 v 17 e x) 18 e y) a b c d (e + 1) := by
  obtain ⟨h1, h2, h3, h4, h5, h6, h7⟩ := h
  refine ⟨fr_up (fr_up h1 (by decide)) (by decide), h2, h3, h4, h5, h6, ⟨bnd_ext h7.1 hx, fun j hj hc => ?_⟩⟩
  show 0 ≤ (upd (v 18) e y j).toInt ∧ (upd (v 18) e y j).toInt ≤ 99
  rcases Nat.lt_or_ge j e with z | z
  · rw [upd_lt z]
    exact h7.2 j z hc
  · have : j = e := by omega
    subst this
    rw [upd_at]
    exact hy hc
theorem TR.deed {vm v : Vf} {a b c d e j k : Nat} {x y : Int32} (h : TR vm v a b c d e) : TR vm (up2 (up2 v 20 j x) 21 k y) a b c d e := ⟨fr_up (fr_up h.1 (by decide)) (by decide), h.2⟩
theorem perl {p d q m z : Int32} (eq_ : q = p / d) (ez : z = q * m) (hp : 1 ≤ p.toInt ∧ p.toInt ≤ 81) (hd : 1 ≤ d.toInt ∧ d.toInt ≤ p.toInt) (hm : 1 ≤ m.toInt ∧ m.toInt ≤ 9) : 1 ≤ z.toInt ∧ z.toInt ≤ 9 * p.toInt := by
  have h1 := i_div eq_ (by omega) (by omega)
  have h2 : 1 ≤ p.toInt / d.toInt := (Int.le_ediv_iff_mul_le (by omega)).mpr (by omega)
  have k1 := mul_pos1 (a := q.toInt) (b := m.toInt) (by omega) hm.1
  have k2 : q.toInt * m.toInt ≤ q.toInt * 9 := Int.mul_le_mul_of_nonneg_left hm.2 (by omega)
  rw [i_mul ez (by omega)]
  omega
theorem tr_fin {vm v : Vf} (hM : MdI vm) (hR : RdM vm) (h : TR vm v 24 3 27 6 5) (hp : 1 ≤ (v 22 0).toInt ∧ (v 22 0).toInt ≤ 729) : MdI (up2 (up2 (up2 (up2 (up2 (up2 v 23 0 0) 27 0 0) 28 0 0) 29 0 20) 67 0 0) 75 0 0) := by
  obtain ⟨h1, ⟨c1, c2, c3, c4, c5, c6, c7⟩, h3, h4, h5, h6, h7⟩ := h
  obtain ⟨r1, r2, r3, r4, r5, r6⟩ := hR
  obtain ⟨⟨m1, m2, m3, m4, m5, m6, m7⟩, n1, n2, n3, n4, n5, n6, n7⟩ := hM
  have z : (0 : Int32).toInt = 0 := by decide
  have k62 : v 62 = vm 62 := h1 62 (by omega)
  have k77 : v 77 = vm 77 := h1 77 (by omega)
  have k30 : v 30 = vm 30 := h1 30 (by omega)
  have k32 : v 32 = vm 32 := h1 32 (by omega)
  have k68 : v 68 = vm 68 := h1 68 (by omega)
  have k69 : v 69 = vm 69 := h1 69 (by omega)
  have k47 : v 47 = vm 47 := h1 47 (by omega)
  have k49 : v 49 = vm 49 := h1 49 (by omega)
  have k52 : v 52 = vm 52 := h1 52 (by omega)
  have k56 : v 56 = vm 56 := h1 56 (by omega)
  unfold rdG rdC rdZ at *
  refine ⟨⟨?_, ?_, ?_, ?_, ?_, ?_, ?_⟩, ?_, ?_, ?_, ?_, ?_, ?_, ?_⟩
  · show (0 ≤ (v 0 0).toInt ∧ (v 0 0).toInt ≤ 6) ∧ (0 ≤ (v 1 0).toInt ∧ (v 1 0).toInt ≤ 6) ∧ (v 0 0).toInt * (v 1 0).toInt ≤ 24
    rw [c1, c2]
    exact r1
  · show (0 ≤ (v 4 0).toInt ∧ (v 4 0).toInt ≤ 3) ∧ (0 ≤ (v 9 0).toInt ∧ (v 9 0).toInt ≤ 6) ∧ (0 ≤ (v 12 0).toInt ∧ (v 12 0).toInt ≤ 6) ∧ (0 ≤ (v 16 0).toInt ∧ (v 16 0).toInt ≤ 5) ∧ (0 ≤ (v 19 0).toInt ∧ (v 19 0).toInt ≤ 4) ∧ (1 ≤ (v 22 0).toInt ∧ (v 22 0).toInt ≤ 729)
    rw [c3, c4, c5, c6, c7]
    exact ⟨r2.2.1, r2.2.2.1, r2.2.2.2.1, r2.2.2.2.2.1, r2.2.2.2.2.2, hp⟩
  · show (1 ≤ (v 0 0).toInt ∧ 1 ≤ (v 1 0).toInt) ∨ ((v 0 0).toInt = 0 ∧ (v 4 0).toInt = 0 ∧ (v 9 0).toInt = 0 ∧ (v 12 0).toInt = 0 ∧ (v 16 0).toInt = 0 ∧ (0 : Int32).toInt = 0)
    rw [c1, c2, c3, c4, c5, c6]
    exact r3.imp id (fun q => ⟨q.1, q.2.1, q.2.2.1, q.2.2.2.1, q.2.2.2.2, z⟩)
  · show bnd (v 5) 3 0 9 ∧ ((v 4 0).toInt = 0 ∨ bnd (v 5) 3 1 9) ∧ (∀ j : Nat, (j : Int) < (v 4 0).toInt → (0 ≤ (v 6 j).toInt ∧ (v 6 j).toInt ≤ 8) ∧ (0 ≤ (v 7 j).toInt ∧ (v 7 j).toInt ≤ 8)) ∧ bnd (v 8) 27 (-9) 9
    refine ⟨fun j hj => ⟨by have := (h4.1 j hj).1; omega, (h4.1 j hj).2⟩, Or.inr h4.1, fun j hj => ?_, h5⟩
    rw [c3] at hj
    exact h4.2.1 j (by omega) hj
  · show bnd (v 10) 6 0 23 ∧ bnd (v 13) 6 0 23 ∧ bnd (v 17) 5 0 23 ∧ ((v 0 0).toInt = 0 ∨ (bnd (v 2) 24 0 99 ∧ bnd (v 3) 24 0 9)) ∧ (∀ j : Nat, (j : Int) < (v 16 0).toInt → 0 ≤ (v 18 j).toInt ∧ (v 18 j).toInt ≤ 99)
    refine ⟨h6.1, h6.2, h7.1, by rw [c1]; exact h3.1, fun j hj => ?_⟩
    rw [c6] at hj
    exact h7.2 j (by omega) hj
  · show (0 ≤ (0 : Int32).toInt ∧ (0 : Int32).toInt ≤ 900000) ∧ bnd (v 24) 3 0 999 ∧ bnd (v 25) 24 0 90 ∧ (0 ≤ (0 : Int32).toInt ∧ (0 : Int32).toInt ≤ 23) ∧ (0 ≤ (20 : Int32).toInt ∧ (20 : Int32).toInt ≤ 99) ∧ 0 ≤ (v 30 0).toInt
    rw [k30]
    exact ⟨by decide, h4.2.2, h3.2, by decide, by decide, m6.2.2.2.2.2⟩
  · show (0 ≤ (v 32 0).toInt ∧ (v 32 0).toInt ≤ 250) ∧ (0 ≤ (0 : Int32).toInt ∧ (0 : Int32).toInt ≤ 12) ∧ bnd (v 68) 12 0 23 ∧ bnd (v 69) 12 0 999 ∧ (0 ≤ (0 : Int32).toInt ∧ (0 : Int32).toInt ≤ 30)
    rw [k32, k68, k69]
    exact ⟨m7.1, by decide, m7.2.2.1, m7.2.2.2.1, by decide⟩
  · show v 62 0 = -1
    rw [k62]
    exact n1
  · show imI (v 77) 0
    rw [k77]
    exact n2
  · show imI (v 77) 40
    rw [k77]
    exact n3
  · show bnd (v 47) 27 (-9) 9
    rw [k47]
    exact n4
  · show bnd (v 49) 6 0 23
    rw [k49]
    exact n5
  · show bnd (v 52) 6 0 23
    rw [k52]
    exact n6
  · show bnd (v 56) 5 0 23
    rw [k56]
    exact n7
theorem md_txt0 {v : Vf} (h : MdI v) : MdI (up2 v 32 0 0) := ⟨⟨h.1.1, h.1.2.1, h.1.2.2.1, h.1.2.2.2.1, h.1.2.2.2.2.1, h.1.2.2.2.2.2.1, ⟨(by decide : 0 ≤ (0 : Int32).toInt ∧ (0 : Int32).toInt ≤ 250), h.1.2.2.2.2.2.2.2⟩⟩, h.2⟩
