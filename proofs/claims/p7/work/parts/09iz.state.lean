/-! ===== the state, the images, the counts: what the calls that set them do ===== -/
def stE (a b : Vf) : Prop := a 0 0 = b 0 0 ∧ (∀ j, j < 3 → a 1 j = b 1 j) ∧ (∀ j, j < 24 → a 2 j = b 2 j) ∧ (∀ j, j < 6 → a 3 j = b 3 j) ∧ a 4 0 = b 4 0 ∧ a 5 0 = b 5 0 ∧ a 6 0 = b 6 0 ∧ a 7 0 = b 7 0
def stZ (a b : Vf) : Prop := b 0 0 = 0 ∧ (∀ j, j < 3 → b 1 j = 0) ∧ (∀ j, j < 24 → b 2 j = 0) ∧ (∀ j, j < 6 → b 3 j = 0) ∧ b 4 0 = 0 ∧ b 5 0 = 0 ∧ b 6 0 = 20 ∧ b 7 = a 7 ∧ b 8 = a 8
def mdRe (v : Vf) : Prop := v 23 0 = 0 ∧ (∀ j, j < 3 → v 24 j = 0) ∧ (∀ j, j < 24 → v 25 j = 0) ∧ (∀ j, j < 6 → v 26 j = 0) ∧ v 27 0 = 0 ∧ v 28 0 = 0 ∧ v 29 0 = 20
def imC (f : Nat → Int32) (B : Nat) (v : Vf) : Prop := (∀ j, j < 24 → f (B + j) = v 25 j) ∧ (∀ j, j < 6 → f (B + 24 + j) = v 26 j) ∧ (∀ j, j < 3 → f (B + 30 + j) = v 24 j) ∧ f (B + 33) = v 23 0 ∧ f (B + 34) = v 27 0 ∧ f (B + 35) = v 28 0 ∧ f (B + 36) = v 29 0 ∧ f (B + 37) = v 30 0
def imO (B : Nat) (f g : Nat → Int32) : Prop := ∀ j, j < B ∨ B + 38 ≤ j → g j = f j
theorem imO.rf {B : Nat} {f : Nat → Int32} : imO B f f := fun _ _ => rfl
theorem im_o {B k : Nat} {f f' : Nat → Int32} {x : Int32} (h : imO B f f') (hk : B ≤ k ∧ k < B + 38) : imO B f (upd f' k x) := fun j hj => by
  rw [updN (show j ≠ k by omega)]
  exact h j hj
theorem im_w {f g : Nat → Int32} {C k : Nat} {i i2 x : Int32} (h : ∀ j : Nat, (j : Int) < i.toInt → f (C + j) = g j) (h0 : 0 ≤ i.toInt) (h1 : i2.toInt = i.toInt + 1) (hk : k = C + i.toNatClampNeg) (hx : x = g i.toNatClampNeg) : ∀ j : Nat, (j : Int) < i2.toInt → upd f k x (C + j) = g j := by
  subst hk
  intro j hj
  have e := i_nat h0
  by_cases q : j = i.toNatClampNeg
  · subst q
    rw [updA]
    exact hx
  · rw [updN (show C + j ≠ C + i.toNatClampNeg by omega)]
    exact h j (by omega)
theorem im_f {f g : Nat → Int32} {C n k : Nat} {x : Int32} (h : ∀ j, j < n → f (C + j) = g j) (hk : k < C ∨ C + n ≤ k) : ∀ j, j < n → upd f k x (C + j) = g j := fun j hj => by
  rw [updN (show C + j ≠ k by omega)]
  exact h j hj
/-- a number is set, within bounds: what it was -/
def SetP (x : Int32) (lo hi : Int) (old r new : Int32) : Prop := (r.toInt = -1000000002 ∧ (x.toInt < lo ∨ hi < x.toInt) ∧ new = old) ∨ ((lo ≤ x.toInt ∧ x.toInt ≤ hi) ∧ r = old ∧ new = x)
def PropP (h z n : Int32) (f : Nat → Int32) (r : Int32) (f' : Nat → Int32) : Prop := (r.toInt = -1000000001 ∧ (h.toInt < 0 ∨ n.toInt ≤ h.toInt) ∧ f' = f) ∨ (((0 ≤ h.toInt ∧ h.toInt < n.toInt) ∧ h.toInt ≤ 5) ∧ ((r.toInt = -1000000002 ∧ (z.toInt < 0 ∨ 999 < z.toInt) ∧ f' = f) ∨ ((0 ≤ z.toInt ∧ z.toInt ≤ 999) ∧ r = f h.toNatClampNeg ∧ f' = upd f h.toNatClampNeg z)))
/-- one more, if there is room -/
def CntP (ok : Prop) (m : Int) (c r c' : Int32) : Prop := (r.toInt = -1000000002 ∧ ¬ ok ∧ c' = c) ∨ (ok ∧ ((r.toInt = -1000000004 ∧ m ≤ c.toInt ∧ c' = c) ∨ (c.toInt < m ∧ r.toInt = c.toInt + 1 ∧ c'.toInt = c.toInt + 1)))
def SeeP (x y t h W D c r c' : Int32) : Prop := (r.toInt = -1000000001 ∧ ¬ ((0 ≤ x.toInt ∧ x.toInt < W.toInt) ∧ 0 ≤ y.toInt ∧ y.toInt < D.toInt) ∧ c' = c) ∨ (((0 ≤ x.toInt ∧ x.toInt < W.toInt) ∧ 0 ≤ y.toInt ∧ y.toInt < D.toInt) ∧ CntP ((0 ≤ t.toInt ∧ t.toInt ≤ 999) ∧ (-999 ≤ h.toInt ∧ h.toInt ≤ 999)) 12 c r c')
def TearP (b c r b' c' : Int32) : Prop := r.toInt = b.toInt + c.toInt ∧ b' = 0 ∧ c' = 0
/-- the class's images: kept, gone back to -/
def KeepC (i : Int32) (vs vi vj vi' vj' : Vf) : Prop := ((i.toInt < 0 ∨ 1 < i.toInt) ∧ vi' = vi ∧ vj' = vj) ∨ (i.toInt = 0 ∧ (stE vi' vs ∧ vi' 8 0 = 1) ∧ vj' = vj) ∨ (i.toInt = 1 ∧ (stE vj' vs ∧ vj' 8 0 = 1) ∧ vi' = vi)
def GoC1 (w vs : Vf) (r : Int32) (vs' : Vf) : Prop := ((w 8 0).toInt = 0 ∧ r.toInt = -1000000003 ∧ vs' = vs) ∨ ((w 8 0).toInt ≠ 0 ∧ r.toInt = 1 ∧ stE vs' w)
def GoC (i : Int32) (vs vi vj : Vf) (r : Int32) (vs' : Vf) : Prop := ((i.toInt < 0 ∨ 1 < i.toInt) ∧ r.toInt = -1000000001 ∧ vs' = vs) ∨ (i.toInt = 0 ∧ GoC1 vi vs r vs') ∨ (i.toInt = 1 ∧ GoC1 vj vs r vs')
/-- the reference's -/
def KeepM (i : Int32) (v v' : Vf) : Prop := ((i.toInt < 0 ∨ 1 < i.toInt) ∧ v' = v) ∨ (i.toInt = 0 ∧ imC (v' 77) 0 v ∧ imO 0 (v 77) (v' 77) ∧ v' 78 = upd (v 78) 0 1) ∨ (i.toInt = 1 ∧ imC (v' 77) 40 v ∧ imO 40 (v 77) (v' 77) ∧ v' 78 = upd (v 78) 1 1)
def GoM1 (B : Nat) (k : Int32) (v : Vf) (r : Int32) (v' : Vf) : Prop := (k.toInt = 0 ∧ r.toInt = -1000000003 ∧ v' = v) ∨ (k.toInt ≠ 0 ∧ r.toInt = 1 ∧ imC (v 77) B v')
def GoM (i : Int32) (v : Vf) (r : Int32) (v' : Vf) : Prop := ((i.toInt < 0 ∨ 1 < i.toInt) ∧ r.toInt = -1000000001 ∧ v' = v) ∨ (i.toInt = 0 ∧ GoM1 0 (v 78 0) v r v') ∨ (i.toInt = 1 ∧ GoM1 40 (v 78 1) v r v')
/-- a text that is taken, or not: what becomes of the rest -/
def lG9 : List Nat := [1, 2, 101, 102, 104, 105, 106, 107, 108]
def lG9a : List Nat := [1, 2, 12, 101, 102, 104, 105, 106, 107, 108, 401]
def GrC (r : Int32) (v vp vs vi vj v' vp' vs' vi' vj' : Vf) : Prop := (r.toInt < 0 ∧ vp' = vp ∧ vs' = vs ∧ vi' = vi ∧ vj' = vj ∧ fr lG9 v v') ∨ (0 ≤ r.toInt ∧ stZ vs vs' ∧ (v' 12 0 = 0 ∧ v' 401 0 = 0) ∧ (vi' 8 0 = 0 ∧ fr [8] vi vi') ∧ (vj' 8 0 = 0 ∧ fr [8] vj vj') ∧ fr lG9a v v')
def lG10 : List Nat := [32, 33, 34, 35, 36, 37, 38, 39, 40, 41, 42, 43, 44, 45, 46, 47, 48, 49, 50, 51, 52, 53, 54, 55, 56, 57, 58, 59, 60, 61]
def GrD (r : Int32) (v v' : Vf) : Prop := (r.toInt < 0 ∧ fr lG10 v v') ∨ (0 ≤ r.toInt ∧ mdRe v' ∧ (v' 67 0 = 0 ∧ v' 75 0 = 0) ∧ (v' 78 0 = 0 ∧ v' 78 1 = 0))
/-- what is told, as the reference has taken it over: width, depth, houses -/
def RpM0 (S : St0) (v : Vf) : Prop := S 37 0 = (v 0 0).toInt ∧ S 38 0 = (v 1 0).toInt ∧ S 48 0 = (v 9 0).toInt
