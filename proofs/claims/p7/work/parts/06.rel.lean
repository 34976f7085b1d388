/-! ===== the class's plan against what is told so far ===== -/
def upS (S : St0) (t j : Nat) (x : Int) : St0 := fun t' j' => cond (Nat.beq t' t && Nat.beq j' j) x (S t' j')
theorem beqN {k j : Nat} (h : k ≠ j) : Nat.beq k j = false := by
  cases hb : Nat.beq k j
  · rfl
  · exact absurd (Nat.eq_of_beq_eq_true hb) h
theorem updA {f : Nat → Int32} {m : Nat} {x : Int32} : upd f m x m = x := by
  unfold upd
  simp
theorem updN {f : Nat → Int32} {m k : Nat} {x : Int32} (h : k ≠ m) : upd f m x k = f k := by
  unfold upd
  simp [h]
theorem upS_at {S : St0} {t j : Nat} {x : Int} : upS S t j x t j = x := by
  show cond (Nat.beq t t && Nat.beq j j) x _ = x
  rw [Nat.beq_refl, Nat.beq_refl]
  rfl
theorem upS_nj {S : St0} {t j k : Nat} {x : Int} (h : k ≠ j) : upS S t j x t k = S t k := by
  show cond (Nat.beq t t && Nat.beq k j) x _ = _
  rw [beqN h, Bool.and_false]
  rfl
def bitB (x : Int32) (c : Nat) : Bool := x.toBitVec.getLsbD c
def RpG (S : St0) (vp : Vf) : Prop := (vp 0 0).toInt = S 37 0 ∧ (vp 1 0).toInt = S 38 0 ∧ (∀ c : Nat, (c : Int) < S 37 0 * S 38 0 → (vp 3 c).toInt = S 39 c ∧ (vp 4 c).toInt = S 40 c) ∧ ((S 37 0 = 0 ∧ S 38 0 = 0) ∨ (1 ≤ S 37 0 ∧ 1 ≤ S 38 0))
def RpC (S : St0) (cx ck : Int32) : Prop := ck.toInt = S 41 0 ∧ 0 ≤ S 41 0 ∧ ∀ c : Nat, c < 24 → bitB cx c = anyE (S 42) c (S 41 0).toNat
def RpM1 (S : St0) (vp : Vf) (m b0 b1 b2 b3 b4 : Nat) : Prop := ((m : Int) < S 43 0 → (vp b0 0).toInt = S 44 m ∧ (vp b1 0).toInt = S 45 m ∧ (vp b2 0).toInt = S 46 m ∧ (∀ j : Nat, (j : Int) < S 44 m → (vp b3 j).toInt = S 47 (9 * m + j)) ∧ (∀ j : Nat, (j : Int) < S 44 m → vp b3 ((S 44 m).toNat + j) = vp b3 j) ∧ (∀ c : Nat, (c : Int) < S 37 0 * S 38 0 → (vp b4 c).toInt = S 45 m * ((c : Int) % S 37 0) + S 46 m * ((c : Int) / S 37 0))) ∧ (S 43 0 ≤ (m : Int) → vp b0 0 = 1 ∧ vp b3 0 = 0 ∧ vp b3 1 = 0)
def RpM (S : St0) (vp : Vf) : Prop := ((vp 5 0).toInt = S 43 0 ∧ (S 37 0 = 0 → S 43 0 = 0)) ∧ RpM1 S vp 0 20 21 22 23 24 ∧ RpM1 S vp 1 30 31 32 33 34 ∧ RpM1 S vp 2 40 41 42 43 44
def RpH (S : St0) (vp : Vf) : Prop := (vp 60 0).toInt = S 48 0 ∧ ∀ k : Nat, (k : Int) < S 48 0 → (vp 61 k).toInt = S 49 k ∧ (vp 62 k).toInt = S 50 k
def RpK (S : St0) (vp : Vf) : Prop := (vp 70 0).toInt = S 51 0 ∧ ∀ k : Nat, (k : Int) < S 51 0 → (vp 71 k).toInt = S 52 k ∧ (vp 72 k).toInt = S 53 k ∧ (vp 73 k).toInt = S 54 k - 30
def RpW (S : St0) (vp : Vf) : Prop := (vp 80 0).toInt = S 55 0 ∧ ∀ k : Nat, (k : Int) < S 55 0 → (vp 81 k).toInt = S 56 k ∧ (vp 82 k).toInt = S 57 k
def RpD (S : St0) (vp : Vf) : Prop := (vp 90 0).toInt = S 58 0 ∧ ∀ k : Nat, (k : Int) < S 58 0 → (vp 92 k).toInt = S 59 k - 100 ∧ (vp 93 k).toInt = S 60 k - 100
def Rp (S : St0) (vp : Vf) (cx ck : Int32) : Prop := RpG S vp ∧ RpC S cx ck ∧ RpM S vp ∧ RpH S vp ∧ RpK S vp ∧ RpW S vp ∧ RpD S vp
theorem any_congr {f g : Nat → Int} {c : Int} : ∀ k : Nat, (∀ j, j < k → f j = g j) → anyE f c k = anyE g c k
  | 0, _ => rfl
  | k + 1, h => by
    show (anyE f c k || decide (f k = c)) = (anyE g c k || decide (g k = c))
    rw [any_congr k (fun j hj => h j (by omega)), h k (by omega)]
theorem any2_congr {f g f' g' : Nat → Int} {c d : Int} : ∀ k : Nat, (∀ j, j < k → f j = f' j ∧ g j = g' j) → anyE2 f g c d k = anyE2 f' g' c d k
  | 0, _ => rfl
  | k + 1, h => by
    show (anyE2 f g c d k || decide (f k = c ∧ g k = d)) = (anyE2 f' g' c d k || decide (f' k = c ∧ g' k = d))
    rw [any2_congr k (fun j hj => h j (by omega)), (h k (by omega)).1, (h k (by omega)).2]
theorem ckB {c : Int} {P : Prop} [Decidable P] (h : (c = 0 ∧ ¬ P) ∨ (c ≠ 0 ∧ P)) : (c = 0 ∧ decide P = false) ∨ (c ≠ 0 ∧ decide P = true) := by
  rcases h with ⟨h1, h2⟩ | ⟨h1, h2⟩
  · exact Or.inl ⟨h1, decide_eq_false h2⟩
  · exact Or.inr ⟨h1, decide_eq_true h2⟩
theorem ckA {c : Int} {b b' : Bool} (h : (c = 1 ∧ b = true) ∨ (c = 0 ∧ b = false)) (e : b = b') : (c = 0 ∧ b' = false) ∨ (c ≠ 0 ∧ b' = true) := by
  subst e
  rcases h with ⟨h1, h2⟩ | ⟨h1, h2⟩
  · exact Or.inr ⟨by omega, h2⟩
  · exact Or.inl ⟨h1, h2⟩
/-- a row with one more at its end -/
theorem row_add {f : Nat → Int32} {g : Nat → Int} {n x : Int32} {k : Nat} (hn : 0 ≤ n.toInt) (hk : (k : Int) < n.toInt + 1) (h : (k : Int) < n.toInt → (f k).toInt = g k) : (upd f n.toNatClampNeg x k).toInt = cond (Nat.beq k n.toInt.toNat) x.toInt (g k) := by
  have en : n.toNatClampNeg = n.toInt.toNat := rfl
  rw [en]
  by_cases hq : k = n.toInt.toNat
  · subst hq
    rw [updA, Nat.beq_refl]
    rfl
  · rw [updN hq, beqN hq]
    exact h (by omega)
def houseS (S : St0) (c h : Int) : St0 := upS (upS (upS S 48 0 (S 48 0 + 1)) 49 (S 48 0).toNat c) 50 (S 48 0).toNat h
theorem rp_house {S : St0} {vp : Vf} {cx ck n' c h : Int32} {f1' f2' f3' : Nat → Int32} (hR : Rp S vp cx ck) (h0 : 0 ≤ (vp 60 0).toInt) (e1 : n'.toInt = (vp 60 0).toInt + 1) (e2 : f1' = upd (vp 61) (vp 60 0).toNatClampNeg c) (e3 : f2' = upd (vp 62) (vp 60 0).toNatClampNeg h) : Rp (houseS S c.toInt h.toInt) (up3 (up3 (up3 (up2 vp 60 0 n') 61 f1') 62 f2') 63 f3') cx ck := by
  obtain ⟨a1, a2, a3, ⟨b1, b2⟩, a5, a6, a7⟩ := hR
  refine ⟨a1, a2, a3, ⟨?_, fun k hk => ?_⟩, a5, a6, a7⟩
  · show n'.toInt = S 48 0 + 1
    omega
  · have hk : (k : Int) < S 48 0 + 1 := hk
    subst e2 e3
    refine ⟨?_, ?_⟩
    · show (upd (vp 61) _ c k).toInt = cond (Nat.beq k (S 48 0).toNat) c.toInt (S 49 k)
      rw [← b1]
      exact row_add h0 (by omega) (fun q => (b2 k (by omega)).1)
    · show (upd (vp 62) _ h k).toInt = cond (Nat.beq k (S 48 0).toNat) h.toInt (S 50 k)
      rw [← b1]
      exact row_add h0 (by omega) (fun q => (b2 k (by omega)).2)
def wellS (S : St0) (c h : Int) : St0 := upS (upS (upS S 55 0 (S 55 0 + 1)) 56 (S 55 0).toNat c) 57 (S 55 0).toNat h
theorem rp_well {S : St0} {vp : Vf} {cx ck n' c h : Int32} {f1' f2' f3' : Nat → Int32} (hR : Rp S vp cx ck) (h0 : 0 ≤ (vp 80 0).toInt) (e1 : n'.toInt = (vp 80 0).toInt + 1) (e2 : f1' = upd (vp 81) (vp 80 0).toNatClampNeg c) (e3 : f2' = upd (vp 82) (vp 80 0).toNatClampNeg h) : Rp (wellS S c.toInt h.toInt) (up3 (up3 (up3 (up2 vp 80 0 n') 81 f1') 82 f2') 83 f3') cx ck := by
  obtain ⟨a1, a2, a3, a4, a5, ⟨b1, b2⟩, a7⟩ := hR
  refine ⟨a1, a2, a3, a4, a5, ⟨?_, fun k hk => ?_⟩, a7⟩
  · show n'.toInt = S 55 0 + 1
    omega
  · have hk : (k : Int) < S 55 0 + 1 := hk
    subst e2 e3
    refine ⟨?_, ?_⟩
    · show (upd (vp 81) _ c k).toInt = cond (Nat.beq k (S 55 0).toNat) c.toInt (S 56 k)
      rw [← b1]
      exact row_add h0 (by omega) (fun q => (b2 k (by omega)).1)
    · show (upd (vp 82) _ h k).toInt = cond (Nat.beq k (S 55 0).toNat) h.toInt (S 57 k)
      rw [← b1]
      exact row_add h0 (by omega) (fun q => (b2 k (by omega)).2)
def crackS (S : St0) (c d h : Int) : St0 := upS (upS (upS (upS S 51 0 (S 51 0 + 1)) 52 (S 51 0).toNat c) 53 (S 51 0).toNat d) 54 (S 51 0).toNat h
theorem rp_crack {S : St0} {vp : Vf} {cx ck n' c d h : Int32} {f1' f2' f3' : Nat → Int32} {hh : Int} (hR : Rp S vp cx ck) (h0 : 0 ≤ (vp 70 0).toInt) (e1 : n'.toInt = (vp 70 0).toInt + 1) (e2 : f1' = upd (vp 71) (vp 70 0).toNatClampNeg c) (e3 : f2' = upd (vp 72) (vp 70 0).toNatClampNeg d) (e4 : f3' = upd (vp 73) (vp 70 0).toNatClampNeg h) (eh : h.toInt = hh - 30) : Rp (crackS S c.toInt d.toInt hh) (up3 (up3 (up3 (up2 vp 70 0 n') 71 f1') 72 f2') 73 f3') cx ck := by
  obtain ⟨a1, a2, a3, a4, ⟨b1, b2⟩, a6, a7⟩ := hR
  refine ⟨a1, a2, a3, a4, ⟨?_, fun k hk => ?_⟩, a6, a7⟩
  · show n'.toInt = S 51 0 + 1
    omega
  · have hk : (k : Int) < S 51 0 + 1 := hk
    subst e2 e3 e4
    refine ⟨?_, ?_, ?_⟩
    · show (upd (vp 71) _ c k).toInt = cond (Nat.beq k (S 51 0).toNat) c.toInt (S 52 k)
      rw [← b1]
      exact row_add h0 (by omega) (fun q => (b2 k (by omega)).1)
    · show (upd (vp 72) _ d k).toInt = cond (Nat.beq k (S 51 0).toNat) d.toInt (S 53 k)
      rw [← b1]
      exact row_add h0 (by omega) (fun q => (b2 k (by omega)).2.1)
    · show (upd (vp 73) _ h k).toInt = cond (Nat.beq k (S 51 0).toNat) hh (S 54 k) - 30
      rw [← b1, row_add (g := fun k => S 54 k - 30) h0 (by omega) (fun q => (b2 k (by omega)).2.2)]
      cases Nat.beq k (vp 70 0).toInt.toNat
      · rfl
      · exact eh
def deedS (S : St0) (c d : Int) : St0 := upS (upS (upS S 58 0 (S 58 0 + 1)) 59 (S 58 0).toNat c) 60 (S 58 0).toNat d
theorem rp_deed {S : St0} {vp : Vf} {cx ck n' c d : Int32} {f1' f2' f3' : Nat → Int32} {cc dd : Int} (hR : Rp S vp cx ck) (h0 : 0 ≤ (vp 90 0).toInt) (e1 : n'.toInt = (vp 90 0).toInt + 1) (e2 : f2' = upd (vp 92) (vp 90 0).toNatClampNeg c) (e3 : f3' = upd (vp 93) (vp 90 0).toNatClampNeg d) (ec : c.toInt = cc - 100) (ed : d.toInt = dd - 100) : Rp (deedS S cc dd) (up3 (up3 (up3 (up2 vp 90 0 n') 91 f1') 92 f2') 93 f3') cx ck := by
  obtain ⟨a1, a2, a3, a4, a5, a6, ⟨b1, b2⟩⟩ := hR
  refine ⟨a1, a2, a3, a4, a5, a6, ⟨?_, fun k hk => ?_⟩⟩
  · show n'.toInt = S 58 0 + 1
    omega
  · have hk : (k : Int) < S 58 0 + 1 := hk
    subst e2 e3
    refine ⟨?_, ?_⟩
    · show (upd (vp 92) _ c k).toInt = cond (Nat.beq k (S 58 0).toNat) cc (S 59 k) - 100
      rw [← b1, row_add (g := fun k => S 59 k - 100) h0 (by omega) (fun q => (b2 k (by omega)).1)]
      cases Nat.beq k (vp 90 0).toInt.toNat
      · rfl
      · exact ec
    · show (upd (vp 93) _ d k).toInt = cond (Nat.beq k (S 58 0).toNat) dd (S 60 k) - 100
      rw [← b1, row_add (g := fun k => S 60 k - 100) h0 (by omega) (fun q => (b2 k (by omega)).2)]
      cases Nat.beq k (vp 90 0).toInt.toNat
      · rfl
      · exact ed
theorem c_ofNat {c : Int32} (hc : 0 ≤ c.toInt ∧ c.toInt ≤ 23) : ∃ k : Fin 24, c = Int32.ofNat k.val ∧ c.toInt.toNat = k.val := by
  refine ⟨⟨c.toInt.toNat, by omega⟩, ?_, rfl⟩
  apply Int32.toInt_inj.mp
  show c.toInt = (Int32.ofNat c.toInt.toNat).toInt
  rw [Int32.toInt_ofNat_of_lt (by omega)]
  omega
theorem sh_amt : ∀ k : Fin 24, ((Int32.ofNat k.val &&& 31).toBitVec.smod 32).toNat = k.val := by decide
theorem and1 (y : BitVec 32) : (y &&& 1#32) = if y.getLsbD 0 then 1#32 else 0#32 := by
  rw [BitVec.and_one_eq_setWidth_ofBool_getLsbD]
  cases y.getLsbD 0 <;> rfl
theorem bit_test {x c : Int32} (hc : 0 ≤ c.toInt ∧ c.toInt ≤ 23) : ((x >>> (c &&& 31)) &&& 1) = if bitB x c.toInt.toNat then 1 else 0 := by
  obtain ⟨k, rfl, hk⟩ := c_ofNat hc
  rw [hk]
  apply Int32.toBitVec_inj.mp
  have h1 : (x >>> (Int32.ofNat k.val &&& 31)).toBitVec = x.toBitVec.sshiftRight k.val := by
    show BitVec.sshiftRight x.toBitVec ((Int32.ofNat k.val &&& 31).toBitVec.smod 32).toNat = _
    rw [sh_amt k]
  show (x >>> (Int32.ofNat k.val &&& 31)).toBitVec &&& 1#32 = _
  rw [h1, and1]
  have h2 : (x.toBitVec.sshiftRight k.val).getLsbD 0 = x.toBitVec.getLsbD k.val := by
    rw [BitVec.getLsbD_sshiftRight]
    have := k.isLt
    simp
    omega
  rw [h2]
  show _ = (if bitB x k.val then (1 : Int32) else 0).toBitVec
  unfold bitB
  cases x.toBitVec.getLsbD k.val <;> rfl
theorem bit_set {x c : Int32} (hc : 0 ≤ c.toInt ∧ c.toInt ≤ 23) (j : Nat) (hj : j < 24) : bitB (x ||| ((1 : Int32) <<< (c &&& 31))) j = (bitB x j || decide (c.toInt = (j : Int))) := by
  obtain ⟨k, rfl, hk⟩ := c_ofNat hc
  unfold bitB
  have h1 : (x ||| ((1 : Int32) <<< (Int32.ofNat k.val &&& 31))).toBitVec = x.toBitVec ||| ((1#32) <<< k.val) := by
    show x.toBitVec ||| (BitVec.shiftLeft 1#32 ((Int32.ofNat k.val &&& 31).toBitVec.smod 32).toNat) = _
    rw [sh_amt k]
    rfl
  rw [h1, BitVec.getLsbD_or]
  have h2 : ((1#32) <<< k.val).getLsbD j = decide (k.val = j) := by
    rw [BitVec.getLsbD_shiftLeft]
    have := k.isLt
    by_cases h : k.val = j
    · subst h; simp; omega
    · simp [h]; omega
  rw [h2]
  congr 1
  have : ((Int32.ofNat k.val).toInt = (j : Int)) ↔ k.val = j := by
    rw [Int32.toInt_ofNat_of_lt (by have := k.isLt; omega)]
    omega
  exact decide_eq_decide.mpr this.symm
