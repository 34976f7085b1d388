/-! ===== the reference's reading: what is told so far ===== -/
def rdG (v : Vf) : Prop := (0 ≤ (v 37 0).toInt ∧ (v 37 0).toInt ≤ 6) ∧ (0 ≤ (v 38 0).toInt ∧ (v 38 0).toInt ≤ 6) ∧ (v 37 0).toInt * (v 38 0).toInt ≤ 24
def rdC (v : Vf) : Prop := (0 ≤ (v 41 0).toInt ∧ (v 41 0).toInt ≤ 12) ∧ (0 ≤ (v 43 0).toInt ∧ (v 43 0).toInt ≤ 3) ∧ (0 ≤ (v 48 0).toInt ∧ (v 48 0).toInt ≤ 6) ∧ (0 ≤ (v 51 0).toInt ∧ (v 51 0).toInt ≤ 6) ∧ (0 ≤ (v 55 0).toInt ∧ (v 55 0).toInt ≤ 5) ∧ (0 ≤ (v 58 0).toInt ∧ (v 58 0).toInt ≤ 4)
def rdZ (v : Vf) : Prop := (1 ≤ (v 37 0).toInt ∧ 1 ≤ (v 38 0).toInt) ∨ ((v 37 0).toInt = 0 ∧ (v 43 0).toInt = 0 ∧ (v 48 0).toInt = 0 ∧ (v 51 0).toInt = 0 ∧ (v 55 0).toInt = 0)
def rdMo (v : Vf) : Prop := ∀ j : Nat, (j : Int) < (v 43 0).toInt → (2 ≤ (v 44 j).toInt ∧ (v 44 j).toInt ≤ 9) ∧ (0 ≤ (v 45 j).toInt ∧ (v 45 j).toInt ≤ 8) ∧ (0 ≤ (v 46 j).toInt ∧ (v 46 j).toInt ≤ 8)
def rdB (v : Vf) : Prop := (v 37 0).toInt = 0 ∨ (bnd (v 39) 24 0 99 ∧ bnd (v 40) 24 0 9)
def rdD (v : Vf) : Prop := ∀ j : Nat, (j : Int) < (v 55 0).toInt → 0 ≤ (v 57 j).toInt ∧ (v 57 j).toInt ≤ 99
def RdM (v : Vf) : Prop := rdG v ∧ rdC v ∧ rdZ v ∧ rdMo v ∧ rdB v ∧ rdD v
def tM : List Nat := [0, 1, 2, 3, 4, 5, 6, 7, 8, 9, 10, 12, 13, 16, 17, 18, 19, 22, 23, 24, 25, 27, 29, 30, 32, 47, 49, 52, 56, 62, 67, 68, 69, 75, 77]
def tR : List Nat := [37, 38, 39, 40, 41, 43, 44, 45, 46, 48, 51, 55, 57, 58]
theorem MdI.on {v w : Vf} (h : MdI v) (e : ∀ t ∈ tM, w t = v t) : MdI w := by
  unfold MdI MdH mdG mdC mdZ mdM mdA mdS mdT at *
  rw [e 0 (by decide), e 1 (by decide), e 2 (by decide), e 3 (by decide), e 4 (by decide), e 5 (by decide), e 6 (by decide), e 7 (by decide), e 8 (by decide), e 9 (by decide), e 10 (by decide), e 12 (by decide), e 13 (by decide), e 16 (by decide), e 17 (by decide), e 18 (by decide), e 19 (by decide), e 22 (by decide), e 23 (by decide), e 24 (by decide), e 25 (by decide), e 27 (by decide), e 29 (by decide), e 30 (by decide), e 32 (by decide), e 47 (by decide), e 49 (by decide), e 52 (by decide), e 56 (by decide), e 62 (by decide), e 67 (by decide), e 68 (by decide), e 69 (by decide), e 75 (by decide), e 77 (by decide)]
  exact h
theorem RdM.on {v w : Vf} (h : RdM v) (e : ∀ t ∈ tR, w t = v t) : RdM w := by
  unfold RdM rdG rdC rdZ rdMo rdB rdD at *
  rw [e 37 (by decide), e 38 (by decide), e 39 (by decide), e 40 (by decide), e 41 (by decide), e 43 (by decide), e 44 (by decide), e 45 (by decide), e 46 (by decide), e 48 (by decide), e 51 (by decide), e 55 (by decide), e 57 (by decide), e 58 (by decide)]
  exact h
/-- the same but for the reader's own places: fault, at, number, where it began, the cell -/
def sc (v w : Vf) : Prop := ∀ t, t ≠ 33 → t ≠ 34 → t ≠ 35 → t ≠ 36 → t ≠ 61 → w t = v t
theorem sc.rf {v : Vf} : sc v v := fun _ _ _ _ _ _ => rfl
theorem sc.tr {u v w : Vf} (h1 : sc u v) (h2 : sc v w) : sc u w := fun t a b c d e => (h2 t a b c d e).trans (h1 t a b c d e)
theorem sc.up {v w : Vf} {k j : Nat} {x : Int32} (h : sc v w) (hk : k = 33 ∨ k = 34 ∨ k = 35 ∨ k = 36 ∨ k = 61) : sc v (up2 w k j x) := fun t a b c d e => by
  rw [up2_ne (fun q => by omega)]
  exact h t a b c d e
theorem sc.mem {v w : Vf} (h : sc v w) {l : List Nat} (hl : ∀ t ∈ l, t ≠ 33 ∧ t ≠ 34 ∧ t ≠ 35 ∧ t ≠ 36 ∧ t ≠ 61) : ∀ t ∈ l, w t = v t := fun t ht => h t (hl t ht).1 (hl t ht).2.1 (hl t ht).2.2.1 (hl t ht).2.2.2.1 (hl t ht).2.2.2.2
theorem MdI.sc {v w : Vf} (h : MdI v) (e : sc v w) : MdI w := h.on (e.mem (by decide))
theorem RdM.sc {v w : Vf} (h : RdM v) (e : sc v w) : RdM w := h.on (e.mem (by decide))
/-- the same but for the reader's own places and one row -/
def scK (K : Nat) (v w : Vf) : Prop := ∀ t, t ≠ 33 → t ≠ 34 → t ≠ 35 → t ≠ 36 → t ≠ 61 → t ≠ K → w t = v t
def atI (v : Vf) : Prop := 0 ≤ (v 34 0).toInt ∧ (v 34 0).toInt ≤ (v 32 0).toInt
/-- the same but for fault, at, number and where it began -/
def sn (v w : Vf) : Prop := ∀ t, t ≠ 33 → t ≠ 34 → t ≠ 35 → t ≠ 36 → w t = v t
theorem sn.rf {v : Vf} : sn v v := fun _ _ _ _ _ => rfl
theorem sn.tr {u v w : Vf} (h1 : sn u v) (h2 : sn v w) : sn u w := fun t a b c d => (h2 t a b c d).trans (h1 t a b c d)
theorem sn.up {v w : Vf} {k j : Nat} {x : Int32} (h : sn v w) (hk : k = 33 ∨ k = 34 ∨ k = 35 ∨ k = 36) : sn v (up2 w k j x) := fun t a b c d => by
  rw [up2_ne (fun q => by omega)]
  exact h t a b c d
theorem sn.sc {v w : Vf} (h : sn v w) : sc v w := fun t a b c d _ => h t a b c d
theorem MdI.sn {v w : Vf} (h : MdI v) (e : sn v w) : MdI w := h.sc e.sc
theorem RdM.sn {v w : Vf} (h : RdM v) (e : sn v w) : RdM w := h.sc e.sc
theorem scK.mem {K : Nat} {v w : Vf} (h : scK K v w) {l : List Nat} (hl : ∀ t ∈ l, t ≠ 33 ∧ t ≠ 34 ∧ t ≠ 35 ∧ t ≠ 36 ∧ t ≠ 61 ∧ t ≠ K) : ∀ t ∈ l, w t = v t := fun t ht => h t (hl t ht).1 (hl t ht).2.1 (hl t ht).2.2.1 (hl t ht).2.2.2.1 (hl t ht).2.2.2.2.1 (hl t ht).2.2.2.2.2
theorem sc.scK {K : Nat} {v w : Vf} (h : sc v w) : scK K v w := fun t a b c d e _ => h t a b c d e
theorem scK.tr {K : Nat} {u v w : Vf} (h1 : scK K u v) (h2 : scK K v w) : scK K u w := fun t a b c d e f => (h2 t a b c d e f).trans (h1 t a b c d e f)
def tM' : List Nat := [0, 1, 2, 3, 4, 5, 6, 7, 8, 9, 10, 12, 13, 16, 17, 18, 19, 22, 23, 24, 25, 27, 29, 30, 32, 62, 67, 68, 69, 75, 77]
theorem MdI.on4 {v w : Vf} (h : MdI v) (e : ∀ t ∈ tM', w t = v t) (h47 : bnd (w 47) 27 (-9) 9) (h49 : bnd (w 49) 6 0 23) (h52 : bnd (w 52) 6 0 23) (h56 : bnd (w 56) 5 0 23) : MdI w := by
  unfold MdI MdH mdG mdC mdZ mdM mdA mdS mdT at h ⊢
  rw [e 0 (by decide), e 1 (by decide), e 2 (by decide), e 3 (by decide), e 4 (by decide), e 5 (by decide), e 6 (by decide), e 7 (by decide), e 8 (by decide), e 9 (by decide), e 10 (by decide), e 12 (by decide), e 13 (by decide), e 16 (by decide), e 17 (by decide), e 18 (by decide), e 19 (by decide), e 22 (by decide), e 23 (by decide), e 24 (by decide), e 25 (by decide), e 27 (by decide), e 29 (by decide), e 30 (by decide), e 32 (by decide), e 62 (by decide), e 67 (by decide), e 68 (by decide), e 69 (by decide), e 75 (by decide), e 77 (by decide)]
  exact ⟨h.1, h.2.1, h.2.2.1, h.2.2.2.1, h47, h49, h52, h56⟩
theorem atI.of {v w : Vf} (h : atI v) (h4 : w 34 = v 34) (h2 : w 32 = v 32) : atI w := by
  unfold atI at *
  rw [h4, h2]
  exact h
theorem cellv {w d n x a b : Int32} (hw : 0 ≤ w.toInt ∧ w.toInt ≤ 6) (hc : w.toInt * d.toInt ≤ 24) (ea : a = w * n) (eb : b = a + x) (hx : 0 ≤ x.toInt ∧ x.toInt < w.toInt) (hn : 0 ≤ n.toInt ∧ n.toInt < d.toInt) : 0 ≤ b.toInt ∧ b.toInt ≤ 23 := by
  have q := mcell_lt hw hc hx.1 hx.2 hn.1 hn.2
  have ta := i_mul ea (by omega)
  have tb := i_add eb (by omega)
  omega
theorem rd_told {v : Vf} {x : Int32} (h : RdM v) (hx : 0 ≤ x.toInt ∧ x.toInt ≤ 12) : RdM (up2 v 41 0 x) := ⟨h.1, ⟨hx, h.2.1.2⟩, h.2.2⟩
theorem rd_house {v : Vf} {x : Int32} (h : RdM v) (hw : 1 ≤ (v 37 0).toInt ∧ 1 ≤ (v 38 0).toInt) (hx : 0 ≤ x.toInt ∧ x.toInt ≤ 6) : RdM (up2 v 48 0 x) := ⟨h.1, ⟨h.2.1.1, h.2.1.2.1, hx, h.2.1.2.2.2⟩, Or.inl hw, h.2.2.2⟩
theorem rd_crack {v : Vf} {x : Int32} (h : RdM v) (hw : 1 ≤ (v 37 0).toInt ∧ 1 ≤ (v 38 0).toInt) (hx : 0 ≤ x.toInt ∧ x.toInt ≤ 6) : RdM (up2 v 51 0 x) := ⟨h.1, ⟨h.2.1.1, h.2.1.2.1, h.2.1.2.2.1, hx, h.2.1.2.2.2.2⟩, Or.inl hw, h.2.2.2⟩
theorem rd_deed {v : Vf} {x : Int32} (h : RdM v) (hx : 0 ≤ x.toInt ∧ x.toInt ≤ 4) : RdM (up2 v 58 0 x) := ⟨h.1, ⟨h.2.1.1, h.2.1.2.1, h.2.1.2.2.1, h.2.1.2.2.2.1, h.2.1.2.2.2.2.1, hx⟩, h.2.2⟩
theorem rd_base {v w : Vf} {j : Nat} {x : Int32} (h : RdM v) (e : scK 39 v w) (e1 : w 39 = upd (v 39) j x) (hx : 0 ≤ x.toInt ∧ x.toInt ≤ 99) : RdM w := by
  have q := e.mem (l := [37, 38, 40, 41, 43, 44, 45, 46, 48, 51, 55, 57, 58]) (by decide)
  unfold RdM rdG rdC rdZ rdMo rdB rdD at *
  rw [q 37 (by decide), q 38 (by decide), q 40 (by decide), q 41 (by decide), q 43 (by decide), q 44 (by decide), q 45 (by decide), q 46 (by decide), q 48 (by decide), q 51 (by decide), q 55 (by decide), q 57 (by decide), q 58 (by decide), e1]
  exact ⟨h.1, h.2.1, h.2.2.1, h.2.2.2.1, h.2.2.2.2.1.imp id (fun z => ⟨upd_b z.1 hx.1 hx.2, z.2⟩), h.2.2.2.2.2⟩
theorem rd_soft {v w : Vf} {j : Nat} {x : Int32} (h : RdM v) (e : scK 40 v w) (e1 : w 40 = upd (v 40) j x) (hx : 0 ≤ x.toInt ∧ x.toInt ≤ 9) : RdM w := by
  have q := e.mem (l := [37, 38, 39, 41, 43, 44, 45, 46, 48, 51, 55, 57, 58]) (by decide)
  unfold RdM rdG rdC rdZ rdMo rdB rdD at *
  rw [q 37 (by decide), q 38 (by decide), q 39 (by decide), q 41 (by decide), q 43 (by decide), q 44 (by decide), q 45 (by decide), q 46 (by decide), q 48 (by decide), q 51 (by decide), q 55 (by decide), q 57 (by decide), q 58 (by decide), e1]
  exact ⟨h.1, h.2.1, h.2.2.1, h.2.2.2.1, h.2.2.2.2.1.imp id (fun z => ⟨z.1, upd_b z.2 hx.1 hx.2⟩), h.2.2.2.2.2⟩
/-- a well told: the count, the place, how deep -/
def scL (l : List Nat) (v w : Vf) : Prop := ∀ t, t ∉ l → w t = v t
theorem scL.rf {l : List Nat} {v : Vf} : scL l v v := fun _ _ => rfl
theorem scL.up {l : List Nat} {v w : Vf} {k j : Nat} {x : Int32} (h : scL l v w) (hk : k ∈ l) : scL l v (up2 w k j x) := fun t a => by
  rw [up2_ne (show t ≠ k from fun q => a (by rw [q]; exact hk))]
  exact h t a
theorem scL.sn {l : List Nat} {u v w : Vf} (h : scL l u v) (e : sn v w) (hl : 33 ∈ l ∧ 34 ∈ l ∧ 35 ∈ l ∧ 36 ∈ l) : scL l u w := fun t a => (e t (fun q => a (q ▸ hl.1)) (fun q => a (q ▸ hl.2.1)) (fun q => a (q ▸ hl.2.2.1)) (fun q => a (q ▸ hl.2.2.2))).trans (h t a)
theorem scL.sc {l : List Nat} {u v w : Vf} (h : scL l u v) (e : sc v w) (hl : 33 ∈ l ∧ 34 ∈ l ∧ 35 ∈ l ∧ 36 ∈ l ∧ 61 ∈ l) : scL l u w := fun t a => (e t (fun q => a (q ▸ hl.1)) (fun q => a (q ▸ hl.2.1)) (fun q => a (q ▸ hl.2.2.1)) (fun q => a (q ▸ hl.2.2.2.1)) (fun q => a (q ▸ hl.2.2.2.2))).trans (h t a)
theorem scL.K {K : Nat} {l : List Nat} {u v w : Vf} (h : scL l u v) (e : scK K v w) (hl : 33 ∈ l ∧ 34 ∈ l ∧ 35 ∈ l ∧ 36 ∈ l ∧ 61 ∈ l ∧ K ∈ l) : scL l u w := fun t a => (e t (fun q => a (q ▸ hl.1)) (fun q => a (q ▸ hl.2.1)) (fun q => a (q ▸ hl.2.2.1)) (fun q => a (q ▸ hl.2.2.2.1)) (fun q => a (q ▸ hl.2.2.2.2.1)) (fun q => a (q ▸ hl.2.2.2.2.2))).trans (h t a)
theorem scL.mem {l : List Nat} {v w : Vf} (h : scL l v w) {r : List Nat} (hr : ∀ t ∈ r, t ∉ l) : ∀ t ∈ r, w t = v t := fun t ht => h t (hr t ht)
def lWe : List Nat := [33, 34, 35, 36, 61, 55, 56, 57]
theorem rd_well {v w : Vf} {y : Int32} (h : RdM v) (e : scL lWe v w) (hw : 1 ≤ (v 37 0).toInt ∧ 1 ≤ (v 38 0).toInt) (hc : (v 55 0).toInt ≤ 4) (hx : (w 55 0).toInt = (v 55 0).toInt + 1) (e1 : w 57 = upd (v 57) (v 55 0).toNatClampNeg y) (hy : 0 ≤ y.toInt ∧ y.toInt ≤ 99) : RdM w := by
  have q := e.mem (r := [37, 38, 39, 40, 41, 43, 44, 45, 46, 48, 51, 58]) (by decide)
  have k0 := i_nat h.2.1.2.2.2.2.1.1
  obtain ⟨a1, a2, a3, a4, a5, a6⟩ := h
  unfold rdG rdC rdZ rdMo rdB rdD at *
  unfold RdM rdG rdC rdZ rdMo rdB rdD
  rw [q 37 (by decide), q 38 (by decide), q 39 (by decide), q 40 (by decide), q 41 (by decide), q 43 (by decide), q 44 (by decide), q 45 (by decide), q 46 (by decide), q 48 (by decide), q 51 (by decide), q 58 (by decide), e1]
  refine ⟨a1, ⟨a2.1, a2.2.1, a2.2.2.1, a2.2.2.2.1, by omega, a2.2.2.2.2.2⟩, Or.inl hw, a4, a5, fun j hj => ?_⟩
  unfold upd
  split
  · exact hy
  · exact a6 j (by omega)
/-- a moon told -/
def lMo : List Nat := [33, 34, 35, 36, 61, 43, 44, 45, 46, 47]
def moF (m : Nat) (v w : Vf) : Prop := scL lMo v w ∧ ∀ j, j < m → w 44 j = v 44 j ∧ w 45 j = v 45 j ∧ w 46 j = v 46 j
theorem moF.rf {m : Nat} {v : Vf} : moF m v v := ⟨scL.rf, fun _ _ => ⟨rfl, rfl, rfl⟩⟩
theorem moF.sn {m : Nat} {u v w : Vf} (h : moF m u v) (e : sn v w) : moF m u w := ⟨h.1.sn e (by decide), fun j hj => by
  rw [e 44 (by decide) (by decide) (by decide) (by decide), e 45 (by decide) (by decide) (by decide) (by decide), e 46 (by decide) (by decide) (by decide) (by decide)]
  exact h.2 j hj⟩
theorem moF.up {m k j : Nat} {v w : Vf} {x : Int32} (h : moF m v w) (hk : k = 34 ∨ k = 43 ∨ k = 47) : moF m v (up2 w k j x) := by
  rcases hk with rfl | rfl | rfl
  · exact ⟨h.1.up (by decide), h.2⟩
  · exact ⟨h.1.up (by decide), h.2⟩
  · exact ⟨h.1.up (by decide), h.2⟩
theorem upd_lt {f : Nat → Int32} {j m : Nat} {x : Int32} (h : j < m) : upd f m x j = f j := by
  unfold upd
  rw [if_neg (by omega)]
theorem moF.m44 {m : Nat} {v w : Vf} {x : Int32} (h : moF m v w) : moF m v (up2 w 44 m x) := ⟨h.1.up (by decide), fun j hj => ⟨(show upd (w 44) m x j = _ from (upd_lt hj).trans (h.2 j hj).1), (h.2 j hj).2⟩⟩
theorem moF.k45 {m : Nat} {v w u : Vf} {x : Int32} (h : moF m v w) (e : scK 45 w u) (e1 : u 45 = upd (w 45) m x) : moF m v u := ⟨h.1.K e (by decide), fun j hj => by
  have q := e.mem (l := [44, 46]) (by decide)
  rw [q 44 (by decide), q 46 (by decide), e1, upd_lt hj]
  exact h.2 j hj⟩
theorem moF.k46 {m : Nat} {v w u : Vf} {x : Int32} (h : moF m v w) (e : scK 46 w u) (e1 : u 46 = upd (w 46) m x) : moF m v u := ⟨h.1.K e (by decide), fun j hj => by
  have q := e.mem (l := [44, 45]) (by decide)
  rw [q 44 (by decide), q 45 (by decide), e1, upd_lt hj]
  exact h.2 j hj⟩
theorem upd_at {f : Nat → Int32} {m : Nat} {x : Int32} : upd f m x m = x := by
  unfold upd
  rw [if_pos rfl]
theorem rd_moon {v w : Vf} (h : RdM v) (e : moF (v 43 0).toNatClampNeg v w) (hw : 1 ≤ (v 37 0).toInt ∧ 1 ≤ (v 38 0).toInt) (hc : (v 43 0).toInt ≤ 2) (hx : (w 43 0).toInt = (v 43 0).toInt + 1) (h4 : 2 ≤ (w 44 (v 43 0).toNatClampNeg).toInt ∧ (w 44 (v 43 0).toNatClampNeg).toInt ≤ 9) (h5 : 0 ≤ (w 45 (v 43 0).toNatClampNeg).toInt ∧ (w 45 (v 43 0).toNatClampNeg).toInt ≤ 8) (h6 : 0 ≤ (w 46 (v 43 0).toNatClampNeg).toInt ∧ (w 46 (v 43 0).toNatClampNeg).toInt ≤ 8) : RdM w := by
  have q := e.1.mem (r := [37, 38, 39, 40, 41, 48, 51, 55, 57, 58]) (by decide)
  have k0 := i_nat h.2.1.2.1.1
  obtain ⟨a1, a2, a3, a4, a5, a6⟩ := h
  unfold rdG rdC rdZ rdMo rdB rdD at *
  unfold RdM rdG rdC rdZ rdMo rdB rdD
  rw [q 37 (by decide), q 38 (by decide), q 39 (by decide), q 40 (by decide), q 41 (by decide), q 48 (by decide), q 51 (by decide), q 55 (by decide), q 57 (by decide), q 58 (by decide)]
  refine ⟨a1, ⟨a2.1, by omega, a2.2.2⟩, Or.inl hw, fun j hj => ?_, a5, a6⟩
  rcases Nat.lt_or_ge j (v 43 0).toNatClampNeg with z | z
  · rw [(e.2 j z).1, (e.2 j z).2.1, (e.2 j z).2.2]
    exact a4 j (by omega)
  · rw [show j = (v 43 0).toNatClampNeg by omega]
    exact ⟨h4, h5, h6⟩
