section
/-! ===== numbers: Int32 by its toInt ===== -/
theorem i_rng (x : Int32) : -2147483648 ≤ x.toInt ∧ x.toInt ≤ 2147483647 := by
  have h1 := Int32.le_toInt x
  have h2 := Int32.toInt_lt x
  omega
theorem i_lt {x y : Int32} (h : x < y) : x.toInt < y.toInt := Int32.lt_iff_toInt_lt.mp h
theorem i_le {x y : Int32} (h : x ≤ y) : x.toInt ≤ y.toInt := Int32.le_iff_toInt_le.mp h
theorem i_nlt {x y : Int32} (h : ¬ x < y) : y.toInt ≤ x.toInt := Int.not_lt.mp fun q => h (Int32.lt_iff_toInt_lt.mpr q)
theorem i_nle {x y : Int32} (h : ¬ x ≤ y) : y.toInt < x.toInt := Int.not_le.mp fun q => h (Int32.le_iff_toInt_le.mpr q)
theorem i_ne {x y : Int32} (h : ¬ x = y) : x.toInt ≠ y.toInt := fun q => h (Int32.toInt_inj.mp q)
theorem i_eq {x y : Int32} (h : x = y) : x.toInt = y.toInt := by rw [h]
theorem i_eqr {x y : Int32} (h : x.toInt = y.toInt) : x = y := Int32.toInt_inj.mp h
theorem i_bmod {z : Int} (h : -2147483648 ≤ z ∧ z ≤ 2147483647) : z.bmod (2 ^ 32) = z := by
  rw [Int.bmod_eq_of_le] <;> omega
theorem i_add {z x y : Int32} (e : z = x + y) (h : -2147483648 ≤ x.toInt + y.toInt ∧ x.toInt + y.toInt ≤ 2147483647) : z.toInt = x.toInt + y.toInt := by
  rw [e, Int32.toInt_add, i_bmod h]
theorem i_sub {z x y : Int32} (e : z = x - y) (h : -2147483648 ≤ x.toInt - y.toInt ∧ x.toInt - y.toInt ≤ 2147483647) : z.toInt = x.toInt - y.toInt := by
  rw [e, Int32.toInt_sub, i_bmod h]
theorem i_mul {z x y : Int32} (e : z = x * y) (h : -2147483648 ≤ x.toInt * y.toInt ∧ x.toInt * y.toInt ≤ 2147483647) : z.toInt = x.toInt * y.toInt := by
  rw [e, Int32.toInt_mul, i_bmod h]
theorem i_div {z x y : Int32} (e : z = x / y) (hx : 0 ≤ x.toInt) (hy : 0 < y.toInt) : z.toInt = x.toInt / y.toInt ∧ 0 ≤ z.toInt ∧ z.toInt ≤ x.toInt := by
  have h1 : (x / y).toInt = x.toInt / y.toInt := by
    rw [Int32.toInt_div_of_ne_right x y (fun q => by rw [q] at hy; exact absurd hy (by decide)), Int.tdiv_eq_ediv_of_nonneg hx]
  rw [e, h1]
  exact ⟨rfl, Int.ediv_nonneg hx (by omega), Int.ediv_le_self _ hx⟩
theorem i_rem {z x y : Int32} (e : z = x - x / y * y) (hx : 0 ≤ x.toInt) (hy : 0 < y.toInt) : z.toInt = x.toInt % y.toInt ∧ 0 ≤ z.toInt ∧ z.toInt < y.toInt ∧ z.toInt ≤ x.toInt := by
  have hq := i_div (z := x / y) rfl hx hy
  have h1 := Int.mul_ediv_add_emod x.toInt y.toInt
  have h2 := Int.emod_nonneg x.toInt (b := y.toInt) (by omega)
  have h3 := Int.emod_lt_of_pos x.toInt hy
  have h4 := i_rng x
  have h0 := hq.2.1
  rw [hq.1] at h0
  have h5 : 0 ≤ y.toInt * (x.toInt / y.toInt) := Int.mul_nonneg (by omega) h0
  have hm : (x / y * y).toInt = x.toInt / y.toInt * y.toInt := by
    rw [i_mul (z := x / y * y) rfl, hq.1]
    rw [hq.1, Int.mul_comm]
    omega
  have hz := i_sub e (by rw [hm, Int.mul_comm]; omega)
  rw [hm, Int.mul_comm] at hz
  refine ⟨?_, ?_, ?_, ?_⟩
  · omega
  · omega
  · omega
  · omega
theorem i_in {x : Int32} {n : Nat} (h0 : 0 ≤ x.toInt) (h1 : x.toInt < (n : Int)) : vp_in x n := by
  intro q
  rcases q with q | q
  · have := i_lt q
    rw [Int32.toInt_zero] at this
    omega
  · have e : x.toNatClampNeg = x.toInt.toNat := rfl
    rw [e] at q
    omega
theorem i_nat {x : Int32} (h0 : 0 ≤ x.toInt) : (x.toNatClampNeg : Int) = x.toInt := by
  have e : x.toNatClampNeg = x.toInt.toNat := rfl
  rw [e]
  omega
theorem i_natlt {x : Int32} {n : Nat} (h1 : x.toInt < (n : Int)) (hn : 0 < n) : x.toNatClampNeg < n := by
  have e : x.toNatClampNeg = x.toInt.toNat := rfl
  rw [e]
  omega
theorem i_ne0 {x : Int32} (h : x.toInt ≠ 0) : ¬ x = 0 := fun q => h (by rw [q]; rfl)
theorem i_max {z x y : Int32} (e : z = if x < y then y else x) : z.toInt = max x.toInt y.toInt := by
  rw [e]
  split <;> rename_i h
  · have := i_lt h; omega
  · have := i_nlt h; omega
theorem i_min {z x y : Int32} (e : z = if y < x then y else x) : z.toInt = min x.toInt y.toInt := by
  rw [e]
  split <;> rename_i h
  · have := i_lt h; omega
  · have := i_nlt h; omega
theorem i_c3 {x : Int32} (h0 : 0 ≤ x.toInt) (h1 : x.toInt < 3) : x = 0 ∨ x = 1 ∨ x = 2 := by
  rcases (show x.toInt = 0 ∨ x.toInt = 1 ∨ x.toInt = 2 by omega) with h | h | h
  · exact Or.inl (i_eqr (by rw [h]; rfl))
  · exact Or.inr (Or.inl (i_eqr (by rw [h]; rfl)))
  · exact Or.inr (Or.inr (i_eqr (by rw [h]; rfl)))
theorem i_mulc {z x y : Int32} (b : Int) (e : z = x * y) (hx : 0 ≤ x.toInt) (hx1 : x.toInt ≤ 100000) (hy : 0 ≤ y.toInt) (hy1 : y.toInt ≤ b) (hb : b ≤ 1000) : 0 ≤ z.toInt ∧ z.toInt ≤ x.toInt * b := by
  have k1 : 0 ≤ x.toInt * y.toInt := Int.mul_nonneg hx hy
  have k2 : x.toInt * y.toInt ≤ x.toInt * b := Int.mul_le_mul_of_nonneg_left hy1 hx
  have k3 : x.toInt * b ≤ 100000 * b := Int.mul_le_mul_of_nonneg_right hx1 (by omega)
  rw [i_mul e (by omega)]
  exact ⟨k1, k2⟩
/-! ===== values of a world by tags ===== -/
abbrev Vf : Type := Nat → Nat → Int32
def up2 (v : Vf) (t j : Nat) (x : Int32) : Vf := fun t' => cond (Nat.beq t' t) (upd (v t') j x) (v t')
def up3 (v : Vf) (t : Nat) (f : Nat → Int32) : Vf := fun t' => cond (Nat.beq t' t) f (v t')
/-- an array of references, by what it holds below its length -/
theorem va_refs {D : va_G} {cl : List vw_C} {A : Nat → Prop} {ws : va_W} {H : Heap} {p a n : Nat} {cA : ClassId} {f g : Nat → Option Nat} (hP : va_P D cl ws H) (hD : va_D A ws) (hp : ws[p]? = some (a, .inl (cA, n, .inr (.inr (.inr (.inr f)))))) (h : ∀ j, j < n → f j = g j) : va_P D cl (ws.set p (a, .inl (cA, n, .inr (.inr (.inr (.inr g)))))) H := by
  refine hP.set hD hp ?_ (fun q _ => rfl)
  have h1 := hP p _ hp
  show H[a]? = some (vp_cell _ _)
  have h2 : H[a]? = some (vp_cell cA (n, .inr (.inr (.inr (.inr f))))) := h1
  rw [h2, vp_cell_q, vp_cell_q]
  congr 1
  unfold arrV
  congr 1
  congr 1
  funext j
  show va_rf (f j.val) = va_rf (g j.val)
  rw [h j.val j.isLt]
/-! ===== the places that hold in every state: tables, nest mates, the two rows of ways ===== -/
def wyX (j : Nat) : Int32 := match j with
  | 2 => 1
  | 4 => -1
  | _ => 0
def wyY (j : Nat) : Int32 := match j with
  | 1 => -1
  | 3 => 1
  | _ => 0
noncomputable def nestM : List (String × Nat × MethodName × String) := [("TidedGround", 19, yX2_init, "TidedGround"), ("TidedGround", 33, yX6_init, "TidedGround"), ("TidedGround$Plan", 26, yX5_init, "TidedGround"), ("TidedGround$Plan", 40, yX0_init, "TidedGround"), ("TidedGround$Plan", 74, yX9_greatestDivisor, "TidedGround"), ("TidedGround$Reader", 176, yX9_isOff, "TidedGround"), ("TidedGround$Wells", 60, yX9_greatestDivisor, "TidedGround"), ("TidedGround$World", 120, yX9_isOff, "TidedGround"), ("TidedGround$World", 161, yX9_leftOver, "TidedGround")]
abbrev tyE (cI cZ cM cS : ClassId) : List (ClassId × FieldType) := [(cI, .int), (cZ, .boolean), (cM, .object "TidedGround$Moon"), (cS, .object "TidedGround$State")]
abbrev Ev : Type := (Nat → ClassId) × (Nat → Nat → Nat) × ClassId × ClassId × ClassId × ClassId × Nat × Nat
abbrev eD (E : Ev) : va_G := (E.1, E.2.1)
abbrev eI (E : Ev) : ClassId := E.2.2.1
abbrev eZ (E : Ev) : ClassId := E.2.2.2.1
abbrev eM (E : Ev) : ClassId := E.2.2.2.2.1
abbrev eS (E : Ev) : ClassId := E.2.2.2.2.2.1
abbrev eX (E : Ev) : Nat := E.2.2.2.2.2.2.1
abbrev eY (E : Ev) : Nat := E.2.2.2.2.2.2.2
abbrev eT (E : Ev) : List (ClassId × FieldType) := tyE (eI E) (eZ E) (eM E) (eS E)
def EN (E : Ev) (A : Nat → Prop) (U : State) (H : Heap) : Prop :=
  va_K (eD E) vwCl (eT E) U ∧ va_Z "TidedGround" "WAY_X" "[I" (.ref (eX E)) A U H ∧ va_Z "TidedGround" "WAY_Y" "[I" (.ref (eY E)) A U H ∧ va_T .int (eX E) 5 (fun j => .int (wyX j)) A U H ∧ va_T .int (eY E) 5 (fun j => .int (wyY j)) A U H ∧
  va_Nw (.fieldLinkNest "TidedGround$Plan" 65 "TidedGround" "WAY_X" "[I" "TidedGround") U ∧ va_Nw (.fieldLinkNest "TidedGround$Plan" 68 "TidedGround" "WAY_Y" "[I" "TidedGround") U ∧ ∀ q ∈ nestM, va_Nw (.methodLinkNest q.1 q.2.1 q.2.2.1 q.2.2.2) U
theorem EN.warm {E : Ev} {A : Nat → Prop} {s U : State} {H : Heap} (hW : s.WarmedH U.vm) (h : EN E A s H) : EN E A U H := by
  obtain ⟨h1, h2, h3, h4, h5, h6, h7, h8⟩ := h
  exact ⟨va_K.moved hW.alike h1, va_Z.moved hW.alike h2, va_Z.moved hW.alike h3, va_T.moved hW.alike h4, va_T.moved hW.alike h5, va_Nw.warmF hW h6, va_Nw.warmF hW h7, fun q hq => va_Nw.warmM hW (h8 q hq)⟩
theorem EN.calling {E : Ev} {A : Nat → Prop} {U : State} {H : Heap} {a : Array Value} {g : JFrame} {mk : MethodId} (h : EN E A U H) : EN E A (U.calling g mk a) H := by
  obtain ⟨h1, h2, h3, h4, h5, h6, h7, h8⟩ := h
  exact ⟨va_K.moved (Vm.Alike.refl U.vm) h1, va_Z.moved (Vm.Alike.refl U.vm) h2, va_Z.moved (Vm.Alike.refl U.vm) h3, va_T.moved (Vm.Alike.refl U.vm) h4, va_T.moved (Vm.Alike.refl U.vm) h5, va_Nw.same rfl rfl h6, va_Nw.same rfl rfl h7, fun q hq => va_Nw.same rfl rfl (h8 q hq)⟩
theorem EN.kept {E : Ev} {A : Nat → Prop} {U : State} {H H1 : Heap} (h : EN E A U H) (hq : ∀ a : Nat, a < H.size → ¬ A a → H1[a]? = H[a]?) : EN E A U H1 := by
  obtain ⟨h1, h2, h3, h4, h5, h6⟩ := h
  exact ⟨h1, va_Z.kept h2 hq, va_Z.kept h3 hq, va_T.kept h4 hq, va_T.kept h5 hq, h6⟩
theorem EN.narrow {E : Ev} {A B : Nat → Prop} {U : State} {H : Heap} (h : EN E A U H) (hAB : ∀ q, B q → A q) : EN E B U H := by
  obtain ⟨h1, h2, h3, h4, h5, h6⟩ := h
  exact ⟨h1, va_Z.narrow h2 hAB, va_Z.narrow h3 hAB, va_T.narrow h4 hAB, va_T.narrow h5 hAB, h6⟩
/-! ===== contracts that only read: what a caller needs ===== -/
abbrev RdP (E : Ev) (A : Nat → Prop) (av : List Value) (ws : va_W) : Array Value → State → Prop := va_Pc av (fun U => EN E A U U.heap ∧ va_P (eD E) vwCl ws U.heap)
theorem RdP.blind {E : Ev} {A : Nat → Prop} {av : List Value} {ws : va_W} : FrameBlind (RdP E A av ws) := fun a U g mk h => ⟨h.1, EN.calling h.2.1, h.2.2⟩
section RD
variable {p : Program} {l : Launch} {e : Env} {R : Room} {s : State} {m : MethodId} {args : Array Value} {below : List Frame} {meth : Method} {c : Code} {H : Heap} {locs : List Loc} {cells slots : Nat} {Q : State → Prop}
variable {y : MethodName} {bytes cc : ByteArray} {maxL nL n index : Nat} {ret : Option FieldType} {ws : List Cond} {rm : Room} {Ts : List Cond} {own C host : String} {b : Addr} {As rest st0 : List Value} {pc : Nat} {ls : Array Slot} {E : Ev} {A : Nat → Prop} {wc : va_W} {post : Int32 → Prop}
/-- the walk's end by another name -/
theorem W_abs {g : JFrame} (h : ∀ Q' : State → Prop, Q' = Q → W p l e R s m args below meth c H locs cells slots Q' g) : W p l e R s m args below meth c H locs cells slots Q g := h Q rfl
/-- a method of an object, that only reads -/
theorem rd_V (S : CallFix p m c cc nL s args Ts own) (hM : Met l y ws rm (RdP E A (.ref b :: As) wc) (vp_Si post) 0 0 (fun _ => False)) (cw : CallW R s args own C index y bytes maxL ret ws rm 0 0 n) (hE : EN E A s H) (hP : va_P (eD E) vwCl wc H) {ci : Nat} {fs : List Value} {r : vw_C} (hc : vwCl[ci]? = some r) (he : wc[0]? = some (b, .inr (ci, fs))) (hrC : r.1 = C)
    (hn : As.length = n) (hsize : ls.size = nL) (hst : st0 = As.reverse ++ .ref b :: rest) (hW : (rest.map fun v => v.category).sum ≤ 8) (hdg : decode cc pc = .ok (.invokevirtual index, 3)) (hf : cells ≤ R.cells ∧ slots ≤ R.slots)
    (kk : ∀ r : Int32, post r → W p l e R s m args below meth c H locs cells slots Q (F0 m (pc + 3) ls (.int r :: rest))) : W p l e R s m args below meth c H locs cells slots Q (F0 m pc ls st0) := by
  subst hrC
  exact vp_callSi (W.runV S hM cw ⟨RdP.blind, va_recv hE.1 hP hc he, fun U hU hW => ⟨rfl, by rw [hU]; exact EN.warm hW hE, by rw [hU]; exact hP⟩⟩ rfl hn hsize hst (lv_room hW) hdg hf) kk
/-- a static method of ours, that only reads -/
theorem rd_S (S : CallFix p m c cc nL s args Ts own) (hM : Met l y ws rm (RdP E A As wc) (vp_Si post) 0 0 (fun _ => False)) (cw : CallB R s args own index y bytes maxL ret ws rm 0 0 n ∧ (Cond.static y).before args s = true) (hE : EN E A s H) (hP : va_P (eD E) vwCl wc H)
    (hn : As.length = n) (hsize : ls.size = nL) (hst : st0 = As.reverse ++ rest) (hW : (rest.map fun v => v.category).sum ≤ 8) (hdg : decode cc pc = .ok (.invokestatic index, 3)) (hf : cells ≤ R.cells ∧ slots ≤ R.slots)
    (kk : ∀ r : Int32, post r → W p l e R s m args below meth c H locs cells slots Q (F0 m (pc + 3) ls (.int r :: rest))) : W p l e R s m args below meth c H locs cells slots Q (F0 m pc ls st0) :=
  vp_callSi (W.runS S hM cw ⟨RdP.blind, fun U hU hW => ⟨rfl, by rw [hU]; exact EN.warm hW hE, by rw [hU]; exact hP⟩⟩ rfl hn hsize hst (lv_room hW) hdg hf) kk
/-- a private static method of a nest mate, that only reads -/
theorem rd_SN (S : CallFix p m c cc nL s args Ts own) (hM : Met l y ws rm (RdP E A As wc) (vp_Si post) 0 0 (fun _ => False)) (cw : va_CN R s args own index y host bytes maxL ret ws rm 0 0 n ∧ (Cond.static y).before args s = true ∧ True) (hE : EN E A s H) (hP : va_P (eD E) vwCl wc H)
    (hn : As.length = n) (hsize : ls.size = nL) (hst : st0 = As.reverse ++ rest) (hW : (rest.map fun v => v.category).sum ≤ 8) (hdg : decode cc pc = .ok (.invokestatic index, 3)) (hf : cells ≤ R.cells ∧ slots ≤ R.slots)
    (kk : ∀ r : Int32, post r → W p l e R s m args below meth c H locs cells slots Q (F0 m (pc + 3) ls (.int r :: rest))) : W p l e R s m args below meth c H locs cells slots Q (F0 m pc ls st0) :=
  vp_callSi (va_Run.run (va_runSN S hM cw ⟨RdP.blind, fun U hU hW => ⟨rfl, by rw [hU]; exact EN.warm hW hE, by rw [hU]; exact hP⟩⟩ rfl hn hsize hst (lv_room hW) hdg hf)) kk
end RD
end
section
theorem wyX_b (j : Nat) : -1 ≤ (wyX j).toInt ∧ (wyX j).toInt ≤ 1 := by
  unfold wyX
  split <;> decide
theorem wyY_b (j : Nat) : -1 ≤ (wyY j).toInt ∧ (wyY j).toInt ≤ 1 := by
  unfold wyY
  split <;> decide
theorem nar_b {x : Int32} (h : x.toInt = 0 ∨ x.toInt = 1) : narrow .boolean (.int x) = .int x := by
  rcases h with h | h
  · rw [show x = 0 from i_eqr (by rw [h]; rfl)]; rfl
  · rw [show x = 1 from i_eqr (by rw [h]; rfl)]; rfl
def moonI (m0 : Int32) (mr ma : Nat → Int32) : Prop := (1 ≤ m0.toInt ∧ m0.toInt ≤ 9) ∧ (∀ j, j < 18 → -9 ≤ (mr j).toInt ∧ (mr j).toInt ≤ 9) ∧ (∀ j, j < 24 → 0 ≤ (ma j).toInt ∧ (ma j).toInt ≤ 1000)
def sitesI (N : Int) (n : Int32) (f1 : Nat → Int32) : Prop := (0 ≤ n.toInt ∧ n.toInt ≤ N) ∧ (∀ j, j < 6 → 0 ≤ (f1 j).toInt ∧ (f1 j).toInt ≤ 23)
def groundI (w d c : Int32) : Prop := (0 ≤ w.toInt ∧ w.toInt ≤ 6) ∧ (0 ≤ d.toInt ∧ d.toInt ≤ 6) ∧ c.toInt = w.toInt * d.toInt ∧ c.toInt ≤ 24
def PlanI (v : Vf) : Prop := groundI (v 0 0) (v 1 0) (v 2 0) ∧ (0 ≤ (v 5 0).toInt ∧ (v 5 0).toInt ≤ 3) ∧ moonI (v 20 0) (v 23) (v 24) ∧ moonI (v 30 0) (v 33) (v 34) ∧ moonI (v 40 0) (v 43) (v 44) ∧ sitesI 6 (v 60 0) (v 61) ∧ sitesI 6 (v 70 0) (v 71) ∧ sitesI 5 (v 80 0) (v 81) ∧ sitesI 4 (v 90 0) (v 91)
def StateI (v : Vf) : Prop := (0 ≤ (v 0 0).toInt ∧ (v 0 0).toInt ≤ 900100) ∧ (∀ j, j < 3 → 0 ≤ (v 1 j).toInt ∧ (v 1 j).toInt ≤ 8) ∧ (0 ≤ (v 4 0).toInt ∧ (v 4 0).toInt ≤ 23)
/-- a place within the ground has a number below 24, and below the ground's -/
theorem cell_lt {w d c x y : Int32} (h : groundI w d c) (hx : 0 ≤ x.toInt) (hx1 : x.toInt < w.toInt) (hy : 0 ≤ y.toInt) (hy1 : y.toInt < d.toInt) : 0 ≤ y.toInt * w.toInt ∧ y.toInt * w.toInt ≤ 36 ∧ y.toInt * w.toInt + x.toInt < c.toInt := by
  obtain ⟨⟨a1, a2⟩, ⟨b1, b2⟩, h3, h4⟩ := h
  have k1 : 0 ≤ y.toInt * w.toInt := Int.mul_nonneg hy a1
  have k2 : (y.toInt + 1) * w.toInt ≤ d.toInt * w.toInt := Int.mul_le_mul_of_nonneg_right (by omega) a1
  have k3 : (y.toInt + 1) * w.toInt = y.toInt * w.toInt + w.toInt := by rw [Int.add_mul, Int.one_mul]
  have k4 : d.toInt * w.toInt = w.toInt * d.toInt := Int.mul_comm _ _
  refine ⟨k1, ?_, ?_⟩ <;> omega
abbrev moonL (E : Ev) (q qr qa : Nat) (m0 m1 m2 : Int32) (mr ma : Nat → Int32) : va_W := [(q, .inr (0, [.int m0, .int m1, .int m2, .ref qr, .ref qa])), (qr, .inl (eI E, 18, .inl mr)), (qa, .inl (eI E, 24, .inl ma))]
abbrev sitesL (E : Ev) (q q1 q2 q3 : Nat) (n : Int32) (f1 f2 f3 : Nat → Int32) : va_W := [(q, .inr (5, [.int n, .ref q1, .ref q2, .ref q3])), (q1, .inl (eI E, 6, .inl f1)), (q2, .inl (eI E, 6, .inl f2)), (q3, .inl (eI E, 6, .inl f3))]
abbrev planL (E : Ev) (a : Nat → Nat) (v : Vf) : va_W := [((a 0), .inr (1, [.int (v 0 0), .int (v 1 0), .int (v 2 0), .ref (a 3), .ref (a 4), .int (v 5 0), .ref (a 6), .ref (a 7), .ref (a 8), .ref (a 9), .ref (a 10)])), ((a 3), .inl (eI E, 24, .inl (v 3))), ((a 4), .inl (eI E, 24, .inl (v 4))), ((a 6), .inl (eM E, 3, .inr (.inr (.inr (.inr (fun i => some (a (20 + 10 * i)))))))), ((a 20), .inr (0, [.int (v 20 0), .int (v 21 0), .int (v 22 0), .ref (a 23), .ref (a 24)])), ((a 23), .inl (eI E, 18, .inl (v 23))), ((a 24), .inl (eI E, 24, .inl (v 24))), ((a 30), .inr (0, [.int (v 30 0), .int (v 31 0), .int (v 32 0), .ref (a 33), .ref (a 34)])), ((a 33), .inl (eI E, 18, .inl (v 33))), ((a 34), .inl (eI E, 24, .inl (v 34))), ((a 40), .inr (0, [.int (v 40 0), .int (v 41 0), .int (v 42 0), .ref (a 43), .ref (a 44)])), ((a 43), .inl (eI E, 18, .inl (v 43))), ((a 44), .inl (eI E, 24, .inl (v 44))), ((a 7), .inr (5, [.int (v 60 0), .ref (a 61), .ref (a 62), .ref (a 63)])), ((a 61), .inl (eI E, 6, .inl (v 61))), ((a 62), .inl (eI E, 6, .inl (v 62))), ((a 63), .inl (eI E, 6, .inl (v 63))), ((a 8), .inr (5, [.int (v 70 0), .ref (a 71), .ref (a 72), .ref (a 73)])), ((a 71), .inl (eI E, 6, .inl (v 71))), ((a 72), .inl (eI E, 6, .inl (v 72))), ((a 73), .inl (eI E, 6, .inl (v 73))), ((a 9), .inr (5, [.int (v 80 0), .ref (a 81), .ref (a 82), .ref (a 83)])), ((a 81), .inl (eI E, 6, .inl (v 81))), ((a 82), .inl (eI E, 6, .inl (v 82))), ((a 83), .inl (eI E, 6, .inl (v 83))), ((a 10), .inr (5, [.int (v 90 0), .ref (a 91), .ref (a 92), .ref (a 93)])), ((a 91), .inl (eI E, 6, .inl (v 91))), ((a 92), .inl (eI E, 6, .inl (v 92))), ((a 93), .inl (eI E, 6, .inl (v 93)))]
abbrev stateL (E : Ev) (a : Nat → Nat) (v : Vf) : va_W := [((a 0), .inr (6, [.int (v 0 0), .ref (a 1), .ref (a 2), .ref (a 3), .int (v 4 0), .int (v 5 0), .int (v 6 0), .int (v 7 0), .int (v 8 0)])), ((a 1), .inl (eI E, 3, .inl (v 1))), ((a 2), .inl (eI E, 24, .inl (v 2))), ((a 3), .inl (eI E, 6, .inl (v 3)))]
abbrev wpsL (E : Ev) (qw : Nat) (a : Nat → Nat) (v : Vf) (b : Nat → Nat) (u : Vf) : va_W := [(qw, .inr (8, [.ref (a 0), .ref (b 0)])), ((a 0), .inr (1, [.int (v 0 0), .int (v 1 0), .int (v 2 0), .ref (a 3), .ref (a 4), .int (v 5 0), .ref (a 6), .ref (a 7), .ref (a 8), .ref (a 9), .ref (a 10)])), ((a 3), .inl (eI E, 24, .inl (v 3))), ((a 4), .inl (eI E, 24, .inl (v 4))), ((a 6), .inl (eM E, 3, .inr (.inr (.inr (.inr (fun i => some (a (20 + 10 * i)))))))), ((a 20), .inr (0, [.int (v 20 0), .int (v 21 0), .int (v 22 0), .ref (a 23), .ref (a 24)])), ((a 23), .inl (eI E, 18, .inl (v 23))), ((a 24), .inl (eI E, 24, .inl (v 24))), ((a 30), .inr (0, [.int (v 30 0), .int (v 31 0), .int (v 32 0), .ref (a 33), .ref (a 34)])), ((a 33), .inl (eI E, 18, .inl (v 33))), ((a 34), .inl (eI E, 24, .inl (v 34))), ((a 40), .inr (0, [.int (v 40 0), .int (v 41 0), .int (v 42 0), .ref (a 43), .ref (a 44)])), ((a 43), .inl (eI E, 18, .inl (v 43))), ((a 44), .inl (eI E, 24, .inl (v 44))), ((a 7), .inr (5, [.int (v 60 0), .ref (a 61), .ref (a 62), .ref (a 63)])), ((a 61), .inl (eI E, 6, .inl (v 61))), ((a 62), .inl (eI E, 6, .inl (v 62))), ((a 63), .inl (eI E, 6, .inl (v 63))), ((a 8), .inr (5, [.int (v 70 0), .ref (a 71), .ref (a 72), .ref (a 73)])), ((a 71), .inl (eI E, 6, .inl (v 71))), ((a 72), .inl (eI E, 6, .inl (v 72))), ((a 73), .inl (eI E, 6, .inl (v 73))), ((a 9), .inr (5, [.int (v 80 0), .ref (a 81), .ref (a 82), .ref (a 83)])), ((a 81), .inl (eI E, 6, .inl (v 81))), ((a 82), .inl (eI E, 6, .inl (v 82))), ((a 83), .inl (eI E, 6, .inl (v 83))), ((a 10), .inr (5, [.int (v 90 0), .ref (a 91), .ref (a 92), .ref (a 93)])), ((a 91), .inl (eI E, 6, .inl (v 91))), ((a 92), .inl (eI E, 6, .inl (v 92))), ((a 93), .inl (eI E, 6, .inl (v 93))), ((b 0), .inr (6, [.int (u 0 0), .ref (b 1), .ref (b 2), .ref (b 3), .int (u 4 0), .int (u 5 0), .int (u 6 0), .int (u 7 0), .int (u 8 0)])), ((b 1), .inl (eI E, 3, .inl (u 1))), ((b 2), .inl (eI E, 24, .inl (u 2))), ((b 3), .inl (eI E, 6, .inl (u 3)))]
end
section
/-! ===== contracts that write: what a caller needs ===== -/
theorem fm_of_map {is : List Nat} {w wc : va_W} (h : is.map (fun i => w[i]?) = wc.map some) : is.filterMap (fun i => w[i]?) = wc := by
  have e : is.filterMap (fun i => w[i]?) = (is.map (fun i => w[i]?)).filterMap id := by
    rw [List.filterMap_map]
    rfl
  rw [e, h, List.filterMap_map]
  simp
abbrev MtP (E : Ev) (sz : Nat) (av : List Value) (ws : va_W) : Array Value → State → Prop := va_Pc av (fun U => U.heap.size = sz ∧ EN E (va_A ws sz) U U.heap ∧ va_P (eD E) vwCl ws U.heap ∧ va_D (fun _ => True) ws)
theorem MtP.blind {E : Ev} {sz : Nat} {av : List Value} {ws : va_W} : FrameBlind (MtP E sz av ws) := fun a U g mk h => ⟨h.1, h.2.1, EN.calling h.2.2.1, h.2.2.2⟩
abbrev MtB (E : Ev) {S : Type} (A : Nat → Prop) (w1 : S → va_W) : S → State → Prop := fun u t => va_P (eD E) vwCl (w1 u) t.heap ∧ va_D A (w1 u)
section MT
variable {p : Program} {l : Launch} {e : Env} {R : Room} {s : State} {m : MethodId} {args : Array Value} {below : List Frame} {meth : Method} {c : Code} {H : Heap} {locs : List Loc} {cells slots : Nat} {Q : State → Prop}
variable {y : MethodName} {bytes cc : ByteArray} {maxL nL n index : Nat} {ret : Option FieldType} {ws : List Cond} {rm : Room} {Ts : List Cond} {own C : String} {b : Addr} {As rest st0 : List Value} {pc : Nat} {ls : Array Slot} {E : Ev} {A : Nat → Prop}
theorem mt_Vi {S : Type} {post : Int32 → S → Prop} {w1 wf : S → va_W} {w wc wr : va_W} (S0 : CallFix p m c cc nL s args Ts own)
    (hM : Met l y ws rm (MtP E H.size (.ref b :: As) wc) (va_Qi post (MtB E (va_A wc H.size) w1) (va_A wc H.size)) 0 0 (va_A wc H.size)) (cw : CallW R s args own C index y bytes maxL ret ws rm 0 0 n)
    (hE : EN E A s s.heap) (hS : va_S A s.heap H locs) (hA : ∀ q, s.heap.size ≤ q → A q) (hP : va_P (eD E) vwCl w H) (hD : va_D A w) (isC isR : List Nat) (hC : isC.map (fun i => w[i]?) = wc.map some) (hR : isR.map (fun i => w[i]?) = wr.map some) (hnC : va_nd isC = true) (hnR : va_nd isR = true) (hdis : ∀ i ∈ isR, i ∉ isC)
    (perm : List Nat) (hnp : va_nd perm = true) (hperm : ∀ u, perm.map (fun i => (wr ++ w1 u)[i]?) = (wf u).map some) {ci : Nat} {fs : List Value} {r : vw_C} (hc : vwCl[ci]? = some r) (he : wc[0]? = some (b, .inr (ci, fs))) (hrC : r.1 = C)
    (hn : As.length = n) (hsize : ls.size = nL) (hst : st0 = As.reverse ++ .ref b :: rest) (hW : (rest.map fun v => v.category).sum ≤ 8) (hdg : decode cc pc = .ok (.invokevirtual index, 3)) (hf : cells ≤ R.cells ∧ slots ≤ R.slots)
    (kk : ∀ (r : Int32) (u : S) (H1 : Heap) (locs1 : List Loc), post r u → va_P (eD E) vwCl (wf u) H1 → va_D A (wf u) → va_S A s.heap H1 locs1 → W p l e R s m args below meth c H1 locs1 cells slots Q (F0 m (pc + 3) ls (.int r :: rest))) : W p l e R s m args below meth c H locs cells slots Q (F0 m pc ls st0) := by
  subst hrC
  have hPc : va_P (eD E) vwCl wc H := hP.sub isC (fm_of_map hC)
  have hDc := hD.sub isC hnC hC
  have hFc := va_free hD hS hA isC hC
  refine va_calli (va_runV S0 hM cw ⟨MtP.blind, va_recv hE.1 hPc hc he, fun U hU hW => ⟨rfl, by rw [hU], by rw [hU]; exact EN.warm hW ((hE.kept hS.2.1).narrow hFc), by rw [hU]; exact hPc, hDc.weaken (fun _ _ _ _ => trivial)⟩⟩ rfl hn hsize hst (lv_room hW) hdg hf) hS (fun q _ h => hFc q h) hFc (fun r u t H1 locs1 ht hvm hw hB hz1 hk1 hS1 => ?_)
  obtain ⟨hP1, hD1⟩ := hB
  rw [ht] at hP1
  obtain ⟨hP2, hD2⟩ := va_join hP hD isC isR hC hR hnR hdis hk1 hFc hP1 hD1
  exact kk r u H1 locs1 hw (hP2.sub perm (fm_of_map (hperm u))) (hD2.sub perm hnp (hperm u)) hS1
theorem mt_Vv {S : Type} {post : S → Prop} {w1 wf : S → va_W} {w wc wr : va_W} (S0 : CallFix p m c cc nL s args Ts own)
    (hM : Met l y ws rm (MtP E H.size (.ref b :: As) wc) (va_Qv post (MtB E (va_A wc H.size) w1) (va_A wc H.size)) 0 0 (va_A wc H.size)) (cw : CallW R s args own C index y bytes maxL ret ws rm 0 0 n)
    (hE : EN E A s s.heap) (hS : va_S A s.heap H locs) (hA : ∀ q, s.heap.size ≤ q → A q) (hP : va_P (eD E) vwCl w H) (hD : va_D A w) (isC isR : List Nat) (hC : isC.map (fun i => w[i]?) = wc.map some) (hR : isR.map (fun i => w[i]?) = wr.map some) (hnC : va_nd isC = true) (hnR : va_nd isR = true) (hdis : ∀ i ∈ isR, i ∉ isC)
    (perm : List Nat) (hnp : va_nd perm = true) (hperm : ∀ u, perm.map (fun i => (wr ++ w1 u)[i]?) = (wf u).map some) {ci : Nat} {fs : List Value} {r : vw_C} (hc : vwCl[ci]? = some r) (he : wc[0]? = some (b, .inr (ci, fs))) (hrC : r.1 = C)
    (hn : As.length = n) (hsize : ls.size = nL) (hst : st0 = As.reverse ++ .ref b :: rest) (hW : (rest.map fun v => v.category).sum ≤ 8) (hdg : decode cc pc = .ok (.invokevirtual index, 3)) (hf : cells ≤ R.cells ∧ slots ≤ R.slots)
    (kk : ∀ (u : S) (H1 : Heap) (locs1 : List Loc), post u → va_P (eD E) vwCl (wf u) H1 → va_D A (wf u) → va_S A s.heap H1 locs1 → W p l e R s m args below meth c H1 locs1 cells slots Q (F0 m (pc + 3) ls rest)) : W p l e R s m args below meth c H locs cells slots Q (F0 m pc ls st0) := by
  subst hrC
  have hPc : va_P (eD E) vwCl wc H := hP.sub isC (fm_of_map hC)
  have hDc := hD.sub isC hnC hC
  have hFc := va_free hD hS hA isC hC
  refine va_callv (va_runV S0 hM cw ⟨MtP.blind, va_recv hE.1 hPc hc he, fun U hU hW => ⟨rfl, by rw [hU], by rw [hU]; exact EN.warm hW ((hE.kept hS.2.1).narrow hFc), by rw [hU]; exact hPc, hDc.weaken (fun _ _ _ _ => trivial)⟩⟩ rfl hn hsize hst (lv_room hW) hdg hf) hS (fun q _ h => hFc q h) hFc (fun u t H1 locs1 ht hvm hw hB hz1 hk1 hS1 => ?_)
  obtain ⟨hP1, hD1⟩ := hB
  rw [ht] at hP1
  obtain ⟨hP2, hD2⟩ := va_join hP hD isC isR hC hR hnR hdis hk1 hFc hP1 hD1
  exact kk u H1 locs1 hw (hP2.sub perm (fm_of_map (hperm u))) (hD2.sub perm hnp (hperm u)) hS1
end MT
end
section
/-! ===== all but some places stay as they were ===== -/
def fr (l : List Nat) (v w : Vf) : Prop := ∀ t, t ∉ l → w t = v t
theorem fr.rf {l : List Nat} {v : Vf} : fr l v v := fun _ _ => rfl
theorem fr.up {l : List Nat} {v w : Vf} {k j : Nat} {x : Int32} (h : fr l v w) (hk : k ∈ l) : fr l v (up2 w k j x) := fun t a => by
  have q : Nat.beq t k = false := by
    cases hb : Nat.beq t k
    · rfl
    · exact absurd (by rw [Nat.eq_of_beq_eq_true hb]; exact hk) a
  show cond (Nat.beq t k) _ _ = _
  rw [q]
  exact h t a
theorem fr.up3 {l : List Nat} {v w : Vf} {k : Nat} {f : Nat → Int32} (h : fr l v w) (hk : k ∈ l) : fr l v (up3 w k f) := fun t a => by
  have q : Nat.beq t k = false := by
    cases hb : Nat.beq t k
    · rfl
    · exact absurd (by rw [Nat.eq_of_beq_eq_true hb]; exact hk) a
  show cond (Nat.beq t k) _ _ = _
  rw [q]
  exact h t a
theorem fr.tr {l l' : List Nat} {u v w : Vf} (h : fr l u v) (e : fr l' v w) (hl : ∀ t ∈ l', t ∈ l) : fr l u w := fun t a => (e t (fun q => a (hl t q))).trans (h t a)
def lRd : List Nat := [33, 34, 35, 36, 37, 38, 39, 40, 41, 42, 43, 44, 45, 46, 47, 48, 49, 50, 51, 52, 53, 54, 55, 56, 57, 58, 59, 60, 61]
end
section
theorem u0_next {f : Nat → Int32} {i i2 : Int32} (h : ∀ j : Nat, (j : Int) < i.toInt → f j = 0) (h0 : 0 ≤ i.toInt) (h1 : i2.toInt = i.toInt + 1) : ∀ j : Nat, (j : Int) < i2.toInt → upd f i.toNatClampNeg 0 j = 0 := by
  intro j hj
  unfold upd
  split
  · rfl
  · rename_i hne
    refine h j ?_
    have := i_nat h0
    omega
theorem mul_b {a b A B : Int} (ha : 0 ≤ a ∧ a ≤ A) (hb : 0 ≤ b ∧ b ≤ B) : 0 ≤ a * b ∧ a * b ≤ A * B := ⟨Int.mul_nonneg ha.1 hb.1, Int.mul_le_mul ha.2 hb.2 hb.1 (by omega)⟩
theorem ah_next {f : Nat → Int32} {i i2 x : Int32} {g : Int → Int} (h : ∀ j : Nat, (j : Int) < i.toInt → (f j).toInt = g j) (h0 : 0 ≤ i.toInt) (h1 : i2.toInt = i.toInt + 1) (hx : x.toInt = g i.toInt) : ∀ j : Nat, (j : Int) < i2.toInt → (upd f i.toNatClampNeg x j).toInt = g j := by
  intro j hj
  have e := i_nat h0
  unfold upd
  split
  · rename_i q
    rw [q, e]
    exact hx
  · exact h j (by omega)
end
section
/-! what a branch says of a call's answer -/
theorem or_y {r : Int32} {A B : Prop} (h : (r.toInt = 1 ∧ A) ∨ (r.toInt = 0 ∧ B)) (c : r.toInt ≠ (0 : Int32).toInt) : r.toInt = 1 ∧ A := h.resolve_right (fun q => c (q.1.trans (by decide)))
theorem or_n {r : Int32} {A B : Prop} (h : (r.toInt = 1 ∧ A) ∨ (r.toInt = 0 ∧ B)) (c : r.toInt = (0 : Int32).toInt) : r.toInt = 0 ∧ B := h.resolve_left (fun q => by
  have n0 : (0 : Int32).toInt = 0 := by decide
  have q1 := q.1
  omega)
theorem b_y {r : Int32} (h : r.toInt = 0 ∨ r.toInt = 1) (c : r.toInt ≠ (0 : Int32).toInt) : r.toInt = 1 := h.resolve_left (fun q => c (q.trans (by decide)))
theorem cm_n {r : Int32} {A : Prop} (h : r.toInt = -1 ∨ A) (c : r.toInt ≠ (-1 : Int32).toInt) : A := h.resolve_left (fun q => c (q.trans (by decide)))
theorem pb_rn {A F lo hi r a b : Int} (h : (A = 0 ∧ F = 0 ∧ lo ≤ r ∧ r ≤ hi) ∨ (A ≠ 0 ∧ r = 0)) (ha : a ≤ lo ∧ a ≤ 0) (hb : hi ≤ b ∧ 0 ≤ b) : a ≤ r ∧ r ≤ b := by
  rcases h with ⟨-, -, h3, h4⟩ | ⟨-, h4⟩
  · exact ⟨Int.le_trans ha.1 h3, Int.le_trans h4 hb.1⟩
  · rw [h4]
    exact ⟨ha.2, hb.2⟩
end
section
/-! ===== bounds of rows, one place written ===== -/
theorem upd_b {f : Nat → Int32} {n k : Nat} {lo hi : Int} {x : Int32} (h : ∀ j, j < n → lo ≤ (f j).toInt ∧ (f j).toInt ≤ hi) (h0 : lo ≤ x.toInt) (h1 : x.toInt ≤ hi) : ∀ j, j < n → lo ≤ (upd f k x j).toInt ∧ (upd f k x j).toInt ≤ hi := by
  intro j hj
  unfold upd
  split
  · exact ⟨h0, h1⟩
  · exact h j hj
theorem row_up {f : Nat → Int32} {k : Nat} {x : Int32} (h : ∀ j, j < 18 → -9 ≤ (f j).toInt ∧ (f j).toInt ≤ 9) (h0 : -9 ≤ x.toInt) (h1 : x.toInt ≤ 9) : ∀ j, j < 18 → -9 ≤ (upd f k x j).toInt ∧ (upd f k x j).toInt ≤ 9 := upd_b h h0 h1
theorem ahe_up {f : Nat → Int32} {k : Nat} {x : Int32} (h : ∀ j, j < 24 → 0 ≤ (f j).toInt ∧ (f j).toInt ≤ 1000) (h0 : 0 ≤ x.toInt) (h1 : x.toInt ≤ 1000) : ∀ j, j < 24 → 0 ≤ (upd f k x j).toInt ∧ (upd f k x j).toInt ≤ 1000 := upd_b h h0 h1
theorem cel_up {f : Nat → Int32} {k : Nat} {x : Int32} (h : ∀ j, j < 6 → 0 ≤ (f j).toInt ∧ (f j).toInt ≤ 23) (h0 : 0 ≤ x.toInt) (h1 : x.toInt ≤ 23) : ∀ j, j < 6 → 0 ≤ (upd f k x j).toInt ∧ (upd f k x j).toInt ≤ 23 := upd_b h h0 h1
theorem up0_next {v : Vf} {t : Nat} {i i2 : Int32} (h : ∀ j : Nat, (j : Int) < i.toInt → v t j = 0) (h0 : 0 ≤ i.toInt) (h1 : i2.toInt = i.toInt + 1) : ∀ j : Nat, (j : Int) < i2.toInt → up2 v t i.toNatClampNeg 0 t j = 0 := by
  intro j hj
  have e : up2 v t i.toNatClampNeg 0 t = upd (v t) i.toNatClampNeg 0 := by
    unfold up2
    rw [Nat.beq_refl]
    rfl
  rw [e]
  unfold upd
  split
  · rfl
  · rename_i hne
    refine h j ?_
    have := i_nat h0
    omega
/-- a state as it is at first: step 0, shifts 0, cart 0 -/
theorem st_fresh {v : Vf} (h0 : v 0 0 = 0) (h1 : ∀ j, j < 3 → v 1 j = 0) : StateI (up2 (up2 (up2 v 4 0 0) 5 0 0) 6 0 20) := by
  refine ⟨?_, ?_, ?_⟩
  · show 0 ≤ (v 0 0).toInt ∧ (v 0 0).toInt ≤ 900100
    rw [h0]
    decide
  · intro j hj
    show 0 ≤ (v 1 j).toInt ∧ (v 1 j).toInt ≤ 8
    rw [h1 j hj]
    decide
  · show 0 ≤ (0 : Int32).toInt ∧ (0 : Int32).toInt ≤ 23
    decide
end
section
theorem si_wide {N : Int} {n : Int32} {f : Nat → Int32} (h : sitesI N n f) (hN : N ≤ 6) : sitesI 6 n f := ⟨⟨h.1.1, by have := h.1.2; omega⟩, h.2⟩
theorem z_back {a b : Int32} (h : a.toInt = 0 ∨ b.toInt = a.toInt) (hb : b.toInt = 0) : a.toInt = 0 := by omega
theorem i_mul66 {z x y : Int32} (e : z = x * y) (hx : 0 ≤ x.toInt ∧ x.toInt ≤ 6) (hy : 0 ≤ y.toInt ∧ y.toInt ≤ 6) : z.toInt = x.toInt * y.toInt ∧ 0 ≤ z.toInt ∧ z.toInt ≤ 36 := by
  have k1 : 0 ≤ x.toInt * y.toInt := Int.mul_nonneg hx.1 hy.1
  have k2 : x.toInt * y.toInt ≤ x.toInt * 6 := Int.mul_le_mul_of_nonneg_left hy.2 hx.1
  have k3 := i_mul e (by omega)
  omega
end
section
/-! ===== what a text says: a spec of the reading, in whole numbers ===== -/
def tc (T : Nat → Int32) (p : Int) : Int := (T p.toNat).toInt
def skF (T : Nat → Int32) (n : Int) : Nat → Int → Int
  | 0, p => p
  | f + 1, p => if p < n ∧ tc T p = 32 then skF T n f (p + 1) else p
def skp (T : Nat → Int32) (n p : Int) : Int := skF T n (n - p).toNat p
theorem skp_step {T : Nat → Int32} {n p : Int} (h1 : p < n) (h2 : tc T p = 32) : skp T n (p + 1) = skp T n p := by
  unfold skp
  rw [show (n - p).toNat = (n - (p + 1)).toNat + 1 by omega]
  show _ = if p < n ∧ tc T p = 32 then skF T n (n - (p + 1)).toNat (p + 1) else p
  rw [if_pos ⟨h1, h2⟩]
theorem skp_stop {T : Nat → Int32} {n p : Int} (h : n ≤ p ∨ tc T p ≠ 32) : skp T n p = p := by
  unfold skp
  cases (n - p).toNat with
  | zero => rfl
  | succ f =>
    show (if p < n ∧ tc T p = 32 then skF T n f (p + 1) else p) = p
    rw [if_neg (fun q => h.elim (fun a => by omega) (fun a => a q.2))]
theorem sk_out {T : Nat → Int32} {n p q : Int} (h : skp T n q = skp T n p) (hs : n ≤ q ∨ tc T q ≠ 32) : q = skp T n p := (skp_stop hs).symm.trans h
theorem skp_ge {T : Nat → Int32} {n : Int} : ∀ (f : Nat) (p : Int), p ≤ skF T n f p
  | 0, p => Int.le_refl p
  | f + 1, p => by
    show p ≤ if p < n ∧ tc T p = 32 then skF T n f (p + 1) else p
    split
    · exact Int.le_trans (by omega) (skp_ge f (p + 1))
    · exact Int.le_refl p
/-- the end of the figures from p on -/
def deF (T : Nat → Int32) (n : Int) : Nat → Int → Int
  | 0, p => p
  | f + 1, p => if p < n ∧ 48 ≤ tc T p ∧ tc T p ≤ 57 then deF T n f (p + 1) else p
def dep (T : Nat → Int32) (n p : Int) : Int := deF T n (n - p).toNat p
theorem dep_step {T : Nat → Int32} {n p : Int} (h1 : p < n) (h2 : 48 ≤ tc T p ∧ tc T p ≤ 57) : dep T n (p + 1) = dep T n p := by
  unfold dep
  rw [show (n - p).toNat = (n - (p + 1)).toNat + 1 by omega]
  show _ = if p < n ∧ 48 ≤ tc T p ∧ tc T p ≤ 57 then deF T n (n - (p + 1)).toNat (p + 1) else p
  rw [if_pos ⟨h1, h2⟩]
theorem dep_stop {T : Nat → Int32} {n p : Int} (h : n ≤ p ∨ tc T p < 48 ∨ 57 < tc T p) : dep T n p = p := by
  unfold dep
  cases (n - p).toNat with
  | zero => rfl
  | succ f =>
    show (if p < n ∧ 48 ≤ tc T p ∧ tc T p ≤ 57 then deF T n f (p + 1) else p) = p
    rw [if_neg (fun q => by omega)]
theorem de_out {T : Nat → Int32} {n p q : Int} (h : dep T n q = dep T n p) (hs : n ≤ q ∨ tc T q < 48 ∨ 57 < tc T q) : q = dep T n p := (dep_stop hs).symm.trans h
/-- the value of the first three figures -/
def vv3 (T : Nat → Int32) (q : Int) : Nat → Int
  | 0 => 0
  | k + 1 => if k < 3 then 10 * vv3 T q k + (tc T (q + k) - 48) else vv3 T q k
theorem vv_in {T : Nat → Int32} {q p x : Int} (hq : q ≤ p) (h3 : p - q < 3) (hx : x = 10 * vv3 T q (p - q).toNat + (tc T p - 48)) : x = vv3 T q (p + 1 - q).toNat := by
  rw [show (p + 1 - q).toNat = (p - q).toNat + 1 by omega]
  show x = if (p - q).toNat < 3 then 10 * vv3 T q (p - q).toNat + (tc T (q + ((p - q).toNat : Nat)) - 48) else _
  rw [if_pos (by omega), show q + (((p - q).toNat : Nat) : Int) = p by omega]
  exact hx
theorem vv_out {T : Nat → Int32} {q p : Int} (hq : q ≤ p) (h3 : 3 ≤ p - q) : vv3 T q (p - q).toNat = vv3 T q (p + 1 - q).toNat := by
  rw [show (p + 1 - q).toNat = (p - q).toNat + 1 by omega]
  show _ = if (p - q).toNat < 3 then _ else vv3 T q (p - q).toNat
  rw [if_neg (by omega)]
/-- a fault (its number, its place), or what was read -/
abbrev Rd (α : Type) : Type := (Int × Int) ⊕ α
def rb {α β : Type} (a : Rd α) (f : α → Rd β) : Rd β := match a with
  | .inl e => .inl e
  | .inr x => f x
/-- a number: value, where it ends, where it begins -/
def numF (T : Nat → Int32) (n lo hi p : Int) : Rd (Int × Int × Int) :=
  if skp T n p < n ∧ 48 ≤ tc T (skp T n p) ∧ tc T (skp T n p) ≤ 57 then
    (if 3 < dep T n (skp T n p) - skp T n p ∨ vv3 T (skp T n p) (dep T n (skp T n p) - skp T n p).toNat < lo ∨ hi < vv3 T (skp T n p) (dep T n (skp T n p) - skp T n p).toNat then .inl (2, skp T n p)
     else .inr (vv3 T (skp T n p) (dep T n (skp T n p) - skp T n p).toNat, dep T n (skp T n p), skp T n p))
  else .inl (1, skp T n p)
theorem num_no1 {T : Nat → Int32} {n lo hi p q : Int} (hq : q = skp T n p) (h : n ≤ q ∨ tc T q < 48 ∨ 57 < tc T q) : numF T n lo hi p = .inl (1, q) := by
  subst hq
  unfold numF
  rw [if_neg (fun z => by omega)]
theorem num_no2 {T : Nat → Int32} {n lo hi p q e v : Int} (hq : q = skp T n p) (h : q < n ∧ 48 ≤ tc T q ∧ tc T q ≤ 57) (he : e = dep T n q) (hv : v = vv3 T q (e - q).toNat) (hb : 3 < e - q ∨ v < lo ∨ hi < v) : numF T n lo hi p = .inl (2, q) := by
  subst hq he hv
  unfold numF
  rw [if_pos h, if_pos hb]
theorem num_ok {T : Nat → Int32} {n lo hi p q e v : Int} (hq : q = skp T n p) (h : q < n ∧ 48 ≤ tc T q ∧ tc T q ≤ 57) (he : e = dep T n q) (hv : v = vv3 T q (e - q).toNat) (hb : e - q ≤ 3 ∧ lo ≤ v ∧ v ≤ hi) : numF T n lo hi p = .inr (v, e, q) := by
  subst hq he hv
  unfold numF
  rw [if_pos h, if_neg (fun z => by omega)]
/-- a sign -/
def sgnF (T : Nat → Int32) (n s p : Int) : Rd Int := if skp T n p < n ∧ tc T (skp T n p) = s then .inr (skp T n p + 1) else .inl (1, skp T n p)
theorem sgn_ok {T : Nat → Int32} {n s p q : Int} (hq : q = skp T n p) (h : q < n ∧ tc T q = s) : sgnF T n s p = .inr (q + 1) := by
  subst hq
  exact if_pos h
theorem sgn_no {T : Nat → Int32} {n s p q : Int} (hq : q = skp T n p) (h : n ≤ q ∨ tc T q ≠ s) : sgnF T n s p = .inl (1, q) := by
  subst hq
  exact if_neg (fun z => h.elim (fun a => by omega) (fun a => a z.2))
/-- what a method of the class's reader makes of it: g is the fault before, g', w' the fault behind -/
def CF {α : Type} (a : Rd α) (g w g' w' : Int) (ok : α → Prop) : Prop := (g ≠ 0 ∧ g' = g ∧ w' = w) ∨ (g = 0 ∧ ((∃ k q, a = .inl (k, q) ∧ g' = k ∧ w' = q) ∨ (∃ x, a = .inr x ∧ g' = 0 ∧ w' = w ∧ ok x)))
/-- and what a method of the reference -/
def MF {α : Type} (a : Rd α) (w r w' : Int) (ok : α → Prop) : Prop := (∃ k q, a = .inl (k, q) ∧ r = k ∧ w' = q) ∨ (∃ x, a = .inr x ∧ r = 0 ∧ w' = w ∧ ok x)
theorem num_pos {T : Nat → Int32} {n lo hi p k q : Int} (h : numF T n lo hi p = .inl (k, q)) : k = 1 ∨ k = 2 := by
  unfold numF at h
  split at h
  · split at h
    · cases h; exact Or.inr rfl
    · cases h
  · cases h; exact Or.inl rfl
theorem CF.old {α : Type} {a : Rd α} {g w g' w' : Int} {ok : α → Prop} (h : g ≠ 0) (h1 : g' = g) (h2 : w' = w) : CF a g w g' w' ok := Or.inl ⟨h, h1, h2⟩
theorem CF.no {α : Type} {a : Rd α} {g w g' w' k q : Int} {ok : α → Prop} (h : g = 0) (ha : a = .inl (k, q)) (h1 : g' = k) (h2 : w' = q) : CF a g w g' w' ok := Or.inr ⟨h, Or.inl ⟨k, q, ha, h1, h2⟩⟩
theorem CF.ok {α : Type} {a : Rd α} {g w g' w' : Int} {ok : α → Prop} {x : α} (h : g = 0) (ha : a = .inr x) (h1 : g' = 0) (h2 : w' = w) (h3 : ok x) : CF a g w g' w' ok := Or.inr ⟨h, Or.inr ⟨x, ha, h1, h2, h3⟩⟩
/-! steps behind each other -/
def th {α β : Type} (a : Rd α) (s : α → Rd β) : Rd (α × β) := rb a (fun x => rb (s x) (fun y => .inr (x, y)))
def chk (b : Bool) (k q : Int) : Rd Unit := if b = true then .inl (k, q) else .inr ()
def okF {α : Type} (a : Rd α) : Prop := ∀ k q, a = .inl (k, q) → 1 ≤ k ∧ k ≤ 4
theorem okF.num {T : Nat → Int32} {n lo hi p : Int} : okF (numF T n lo hi p) := fun k q h => by
  rcases num_pos h with h | h <;> omega
theorem okF.sgn {T : Nat → Int32} {n s p : Int} : okF (sgnF T n s p) := fun k q h => by
  unfold sgnF at h
  split at h
  · cases h
  · cases h; decide
theorem okF.chk {b : Bool} {k q : Int} (hk : 1 ≤ k ∧ k ≤ 4) : okF (chk b k q) := fun k' q' h => by
  unfold Jvm.Pilot.@@N@@.chk at h
  split at h
  · cases h; exact hk
  · cases h
theorem okF.th {α β : Type} {a : Rd α} {s : α → Rd β} (h1 : okF a) (h2 : ∀ x, okF (s x)) : okF (th a s) := fun k q h => by
  cases a with
  | inl e => cases h; exact h1 _ _ rfl
  | inr x =>
    have h : rb (s x) (fun y => (.inr (x, y) : Rd (α × β))) = .inl (k, q) := h
    cases hs : s x with
    | inl e => rw [hs] at h; cases h; exact h2 x _ _ hs
    | inr y => rw [hs] at h; cases h
theorem th_no {α β : Type} {a : Rd α} {s : α → Rd β} {e : Int × Int} (h : a = .inl e) : th a s = .inl e := by rw [h]; rfl
theorem th_in {α β : Type} {a : Rd α} {s : α → Rd β} {x : α} {e : Int × Int} (h : a = .inr x) (h2 : s x = .inl e) : th a s = .inl e := by
  rw [h]
  show rb (s x) _ = _
  rw [h2]
  rfl
theorem th_ok {α β : Type} {a : Rd α} {s : α → Rd β} {x : α} {y : β} (h : a = .inr x) (h2 : s x = .inr y) : th a s = .inr (x, y) := by
  rw [h]
  show rb (s x) _ = _
  rw [h2]
  rfl
theorem CF.then {α β : Type} {a : Rd α} {s : α → Rd β} {a2 : Rd β} {g w g1 w1 g2 w2 : Int} {ok1 : α → Prop} {ok2 : β → Prop} (h1 : CF a g w g1 w1 ok1) (h2 : CF a2 g1 w1 g2 w2 ok2) (hk : okF a) (he : ∀ x, ok1 x → s x = a2) : CF (th a s) g w g2 w2 (fun z => ok1 z.1 ∧ ok2 z.2) := by
  rcases h1 with ⟨q1, q2, q3⟩ | ⟨q1, ⟨k, q, q2, q3, q4⟩ | ⟨x, q2, q3, q4, q5⟩⟩
  · rcases h2 with ⟨p1, p2, p3⟩ | ⟨p1, p2⟩
    · exact Or.inl ⟨q1, by omega, by omega⟩
    · omega
  · have := hk k q q2
    rcases h2 with ⟨p1, p2, p3⟩ | ⟨p1, p2⟩
    · exact CF.no q1 (th_no q2) (by omega) (by omega)
    · omega
  · rcases h2 with ⟨p1, p2, p3⟩ | ⟨p1, ⟨k, q, p2, p3, p4⟩ | ⟨y, p2, p3, p4, p5⟩⟩
    · omega
    · exact CF.no q1 (th_in q2 ((he x q5).trans p2)) p3 p4
    · exact CF.ok q1 (th_ok q2 ((he x q5).trans p2)) p3 (by omega) ⟨q5, p5⟩
/-- a refusal of the class's -/
theorem CF.chk {b : Bool} {c k q g w g' w' : Int} (hb : g = 0 → (c = 0 ∧ b = false) ∨ (c ≠ 0 ∧ b = true)) (h : (c ≠ 0 ∧ g = 0 ∧ g' = k ∧ w' = q) ∨ ((c = 0 ∨ g ≠ 0) ∧ g' = g ∧ w' = w)) : CF (chk b k q) g w g' w' (fun _ => True) := by
  rcases Decidable.em (g = 0) with z | z
  · rcases hb z with ⟨c1, rfl⟩ | ⟨c1, rfl⟩
    · rcases h with h | h
      · omega
      · exact CF.ok (x := ()) z rfl (by omega) (by omega) trivial
    · rcases h with h | h
      · exact CF.no h.2.1 rfl h.2.2.1 h.2.2.2
      · omega
  · rcases h with h | h
    · omega
    · exact CF.old z h.2.1 h.2.2
theorem CF.get {α : Type} {a : Rd α} {g w g' w' : Int} {ok : α → Prop} (h : CF a g w g' w' ok) (hk : okF a) (h0 : g' = 0) : g = 0 ∧ w' = w ∧ ∃ x, a = .inr x ∧ ok x := by
  rcases h with ⟨q1, q2, q3⟩ | ⟨q1, ⟨k, q, q2, q3, q4⟩ | ⟨x, q2, q3, q4, q5⟩⟩
  · omega
  · have := hk k q q2
    omega
  · exact ⟨q1, q4, x, q2, q5⟩
theorem num_rng {T : Nat → Int32} {n lo hi p : Int} {x : Int × Int × Int} (h : numF T n lo hi p = .inr x) : lo ≤ x.1 ∧ x.1 ≤ hi := by
  unfold numF at h
  split at h
  · split at h
    · cases h
    · rename_i q
      cases h
      exact ⟨by omega, by omega⟩
  · cases h
theorem th_get {α β : Type} {a : Rd α} {s : α → Rd β} {z : α × β} (h : th a s = .inr z) : a = .inr z.1 ∧ s z.1 = .inr z.2 := by
  cases a with
  | inl e => cases h
  | inr x =>
    have h : rb (s x) (fun y => (.inr (x, y) : Rd (α × β))) = .inr z := h
    cases hs : s x with
    | inl e => rw [hs] at h; cases h
    | inr y => rw [hs] at h; cases h; exact ⟨rfl, hs⟩
theorem CF.mono {α : Type} {a : Rd α} {g w g' w' : Int} {ok ok' : α → Prop} (h : CF a g w g' w' ok) (hm : g = 0 → g' = 0 → ∀ x, ok x → ok' x) : CF a g w g' w' ok' := by
  rcases h with h | ⟨q1, h | ⟨x, q2, q3, q4, q5⟩⟩
  · exact Or.inl h
  · exact Or.inr ⟨q1, Or.inl h⟩
  · exact CF.ok q1 q2 q3 q4 (hm q1 q3 x q5)
/-- the reference's steps -/
theorem MF.no {α : Type} {a : Rd α} {w r w' k q : Int} {ok : α → Prop} (ha : a = .inl (k, q)) (h1 : r = k) (h2 : w' = q) : MF a w r w' ok := Or.inl ⟨k, q, ha, h1, h2⟩
theorem MF.ok {α : Type} {a : Rd α} {w r w' : Int} {ok : α → Prop} {x : α} (ha : a = .inr x) (h1 : r = 0) (h2 : w' = w) (h3 : ok x) : MF a w r w' ok := Or.inr ⟨x, ha, h1, h2, h3⟩
theorem MF.stop {α β : Type} {a : Rd α} {s : α → Rd β} {w r w' : Int} {ok : α → Prop} {ok2 : α × β → Prop} (h : MF a w r w' ok) (hr : r ≠ 0) : MF (th a s) w r w' ok2 := by
  rcases h with ⟨k, q, h1, h2, h3⟩ | ⟨x, h1, h2, h3⟩
  · exact MF.no (th_no h1) h2 h3
  · exact absurd h2 hr
theorem MF.then {α β : Type} {a : Rd α} {s : α → Rd β} {a2 : Rd β} {w r1 w1 r2 w2 : Int} {ok1 : α → Prop} {ok2 : β → Prop} (h1 : MF a w r1 w1 ok1) (hr : r1 = 0) (h2 : MF a2 w1 r2 w2 ok2) (hk : okF a) (he : ∀ x, ok1 x → s x = a2) : MF (th a s) w r2 w2 (fun z => ok1 z.1 ∧ ok2 z.2) := by
  rcases h1 with ⟨k, q, q2, q3, q4⟩ | ⟨x, q2, q3, q4, q5⟩
  · have := hk k q q2
    omega
  · rcases h2 with ⟨k, q, p2, p3, p4⟩ | ⟨y, p2, p3, p4, p5⟩
    · exact MF.no (th_in q2 ((he x q5).trans p2)) p3 p4
    · exact MF.ok (th_ok q2 ((he x q5).trans p2)) p3 (by omega) ⟨q5, p5⟩
theorem MF.mono {α : Type} {a : Rd α} {w r w' : Int} {ok ok' : α → Prop} (h : MF a w r w' ok) (hm : r = 0 → ∀ x, ok x → ok' x) : MF a w r w' ok' := by
  rcases h with h | ⟨x, q2, q3, q4, q5⟩
  · exact Or.inl h
  · exact MF.ok q2 q3 q4 (hm q3 x q5)
/-! the clauses: S is what is told so far, by the reference's places -/
abbrev St0 : Type := Nat → Nat → Int
def anyE (f : Nat → Int) (c : Int) : Nat → Bool
  | 0 => false
  | k + 1 => anyE f c k || decide (f k = c)
def anyE2 (f h : Nat → Int) (c d : Int) : Nat → Bool
  | 0 => false
  | k + 1 => anyE2 f h c d k || decide (f k = c ∧ h k = d)
def placeF (T : Nat → Int32) (n W D p : Int) : Rd ((Int × Int × Int) × (Int × Int × Int)) := th (numF T n 0 (W - 1) p) (fun a => numF T n 0 (D - 1) a.2.1)
def plc (W : Int) (z : (Int × Int × Int) × (Int × Int × Int)) : Int := W * z.2.1 + z.1.1
theorem place_lt {T : Nat → Int32} {n W D p : Int} {z : (Int × Int × Int) × (Int × Int × Int)} (h : placeF T n W D p = .inr z) : 1 ≤ W ∧ 1 ≤ D ∧ 0 ≤ plc W z ∧ plc W z < W * D := by
  obtain ⟨h1, h2⟩ := th_get h
  have r1 := num_rng h1
  have r2 := num_rng h2
  have q1 : 0 ≤ W * z.2.1 := Int.mul_nonneg (by omega) (by omega)
  have q2 : W * z.2.1 ≤ W * (D - 1) := Int.mul_le_mul_of_nonneg_left (by omega) (by omega)
  have q3 : W * (D - 1) = W * D - W := by rw [Int.mul_sub, Int.mul_one]
  unfold plc
  omega
def houseF (T : Nat → Int32) (n : Int) (S : St0) (wa p : Int) := th (th (th (th (chk (decide (6 ≤ S 48 0)) 3 wa) (fun _ => placeF T n (S 37 0) (S 38 0) p)) (fun z => chk (anyE (S 49) (plc (S 37 0) z.2) (S 48 0).toNat) 4 z.2.2.2.2)) (fun z => numF T n 0 99 z.1.2.2.2.1)) (fun z => sgnF T n 59 z.2.2.1)
def wellF (T : Nat → Int32) (n : Int) (S : St0) (wa p : Int) := th (th (th (th (chk (decide (5 ≤ S 55 0)) 3 wa) (fun _ => placeF T n (S 37 0) (S 38 0) p)) (fun z => chk (anyE (S 56) (plc (S 37 0) z.2) (S 55 0).toNat) 4 z.2.2.2.2)) (fun z => numF T n 0 99 z.1.2.2.2.1)) (fun z => sgnF T n 59 z.2.2.1)
def cellF (T : Nat → Int32) (n : Int) (S : St0) (wa p : Int) := th (th (th (th (th (chk (decide (12 ≤ S 41 0)) 3 wa) (fun _ => placeF T n (S 37 0) (S 38 0) p)) (fun z => chk (anyE (S 42) (plc (S 37 0) z.2) (S 41 0).toNat) 4 z.2.2.2.2)) (fun z => numF T n 0 99 z.1.2.2.2.1)) (fun z => numF T n 0 9 z.2.2.1)) (fun z => sgnF T n 59 z.2.2.1)
def deedF (T : Nat → Int32) (n : Int) (S : St0) (wa p : Int) := th (th (th (th (chk (decide (4 ≤ S 58 0)) 3 wa) (fun _ => numF T n 0 300 p)) (fun z => numF T n 0 300 z.2.2.1)) (fun z => chk (decide (z.2.1 < z.1.2.1)) 4 z.2.2.2)) (fun z => sgnF T n 59 z.1.2.2.1)
def crackF (T : Nat → Int32) (n : Int) (S : St0) (wa p : Int) := th (th (th (th (th (th (chk (decide (6 ≤ S 51 0)) 3 wa) (fun _ => placeF T n (S 37 0) (S 38 0) p)) (fun z => numF T n 0 1 z.2.2.2.1)) (fun z => chk (decide ((z.2.1 = 0 ∧ plc (S 37 0) z.1.2 % S 37 0 = S 37 0 - 1) ∨ (z.2.1 ≠ 0 ∧ plc (S 37 0) z.1.2 / S 37 0 = S 38 0 - 1))) 2 z.2.2.2)) (fun z => chk (anyE2 (S 52) (S 53) (plc (S 37 0) z.1.1.2) z.1.2.1 (S 51 0).toNat) 4 z.1.2.2.2)) (fun z => numF T n 0 60 z.1.1.2.2.1)) (fun z => sgnF T n 59 z.2.2.1)
def groundF (T : Nat → Int32) (n : Int) (S : St0) (wa p : Int) := th (th (th (th (th (th (chk (decide (1 ≤ S 37 0)) 3 wa) (fun _ => numF T n 1 6 p)) (fun z => numF T n 1 6 z.2.2.1)) (fun z => chk (decide (24 < z.1.2.1 * z.2.1)) 2 z.2.2.2)) (fun z => numF T n 0 99 z.1.2.2.1)) (fun z => numF T n 0 9 z.2.2.1)) (fun z => sgnF T n 59 z.2.2.1)
/-- a row of a moon: from the i-th part on; s is the rows of all moons, b where this one's begins -/
def upI (f : Nat → Int) (k : Nat) (x : Int) : Nat → Int := fun j => if j = k then x else f j
def rowF (T : Nat → Int32) (n : Int) (b : Nat) : Nat → Nat → Int → (Nat → Int) → Rd (Nat × Int × (Nat → Int))
  | 0, _, p, _ => .inl (1, p)
  | f + 1, i, p, s => rb (numF T n 0 18 p) (fun a =>
      if skp T n a.2.1 < n ∧ tc T (skp T n a.2.1) = 44 ∧ i + 1 ≠ 9 then rowF T n b f (i + 1) (skp T n a.2.1 + 1) (upI s (b + i) (a.1 - 9))
      else if i + 1 < 2 then .inl (1, skp T n a.2.1) else .inr (i + 1, skp T n a.2.1, upI s (b + i) (a.1 - 9)))
theorem row_no {T : Nat → Int32} {n : Int} {b f i : Nat} {p : Int} {s : Nat → Int} {k q : Int} (h : numF T n 0 18 p = .inl (k, q)) : rowF T n b (f + 1) i p s = .inl (k, q) := by
  show rb (numF T n 0 18 p) _ = _
  rw [h]
  rfl
theorem row_on {T : Nat → Int32} {n : Int} {b f i : Nat} {p : Int} {s : Nat → Int} {v e q z : Int} (h : numF T n 0 18 p = .inr (v, e, q)) (hz : z = skp T n e) (hc : z < n ∧ tc T z = 44 ∧ i + 1 ≠ 9) : rowF T n b (f + 1) i p s = rowF T n b f (i + 1) (z + 1) (upI s (b + i) (v - 9)) := by
  subst hz
  show rb (numF T n 0 18 p) _ = _
  rw [h]
  show (if _ then _ else _) = _
  rw [if_pos hc]
theorem row_end {T : Nat → Int32} {n : Int} {b f i : Nat} {p : Int} {s : Nat → Int} {v e q z : Int} (h : numF T n 0 18 p = .inr (v, e, q)) (hz : z = skp T n e) (hc : ¬ (z < n ∧ tc T z = 44 ∧ i + 1 ≠ 9)) : rowF T n b (f + 1) i p s = if i + 1 < 2 then .inl (1, z) else .inr (i + 1, z, upI s (b + i) (v - 9)) := by
  subst hz
  show rb (numF T n 0 18 p) _ = _
  rw [h]
  show (if _ then _ else _) = _
  rw [if_neg hc]
theorem okF.row {T : Nat → Int32} {n : Int} {b : Nat} : ∀ (f i : Nat) (p : Int) (s : Nat → Int), okF (rowF T n b f i p s)
  | 0, i, p, s => fun k q h => by cases h; decide
  | f + 1, i, p, s => fun k q h => by
    cases hn : numF T n 0 18 p with
    | inl e => obtain ⟨k1, q1⟩ := e; rw [row_no hn] at h; cases h; exact okF.num _ _ hn
    | inr e =>
      obtain ⟨v, e, q0⟩ := e
      by_cases hc : skp T n e < n ∧ tc T (skp T n e) = 44 ∧ i + 1 ≠ 9
      · rw [row_on hn rfl hc] at h; exact okF.row f _ _ _ _ _ h
      · rw [row_end hn rfl hc] at h
        split at h
        · cases h; decide
        · cases h
def moonF (T : Nat → Int32) (n : Int) (S : St0) (wa p : Int) := th (th (th (th (chk (decide (3 ≤ S 43 0)) 3 wa) (fun _ => numF T n 0 8 p)) (fun z => numF T n 0 8 z.2.2.1)) (fun z => rowF T n (9 * (S 43 0).toNat) 9 0 z.2.2.1 (S 47))) (fun z => sgnF T n 59 z.2.2.1)
theorem any_no {f : Nat → Int} {c i j : Int} (h : anyE f c i.toNat = false) (hi : 0 ≤ i) (hj : j = i + 1) (hx : f i.toNat ≠ c) : anyE f c j.toNat = false := by
  subst hj
  rw [show (i + 1).toNat = i.toNat + 1 by omega]
  show (anyE f c i.toNat || decide (f i.toNat = c)) = false
  rw [h, decide_eq_false hx]
  rfl
theorem any_up {f : Nat → Int} {c : Int} : ∀ (k m : Nat), anyE f c k = true → anyE f c (k + m) = true
  | k, 0, h => h
  | k, m + 1, h => by
    show (anyE f c (k + m) || _) = true
    rw [any_up k m h]
    rfl
theorem any_yes {f : Nat → Int} {c i n : Int} (hi : 0 ≤ i) (hn : i < n) (hx : f i.toNat = c) : anyE f c n.toNat = true := by
  have h1 : anyE f c (i.toNat + 1) = true := by
    show (anyE f c i.toNat || decide (f i.toNat = c)) = true
    rw [decide_eq_true hx, Bool.or_true]
  have h2 := any_up (f := f) (c := c) (i.toNat + 1) (n.toNat - (i.toNat + 1)) h1
  rw [show i.toNat + 1 + (n.toNat - (i.toNat + 1)) = n.toNat by omega] at h2
  exact h2
theorem any2_no {f h : Nat → Int} {c d i j : Int} (ha : anyE2 f h c d i.toNat = false) (hi : 0 ≤ i) (hj : j = i + 1) (hx : ¬ (f i.toNat = c ∧ h i.toNat = d)) : anyE2 f h c d j.toNat = false := by
  subst hj
  rw [show (i + 1).toNat = i.toNat + 1 by omega]
  show (anyE2 f h c d i.toNat || decide (f i.toNat = c ∧ h i.toNat = d)) = false
  rw [ha, decide_eq_false hx]
  rfl
theorem any2_up {f h : Nat → Int} {c d : Int} : ∀ (k m : Nat), anyE2 f h c d k = true → anyE2 f h c d (k + m) = true
  | k, 0, q => q
  | k, m + 1, q => by
    show (anyE2 f h c d (k + m) || _) = true
    rw [any2_up k m q]
    rfl
theorem any2_yes {f h : Nat → Int} {c d i n : Int} (hi : 0 ≤ i) (hn : i < n) (hx : f i.toNat = c ∧ h i.toNat = d) : anyE2 f h c d n.toNat = true := by
  have h1 : anyE2 f h c d (i.toNat + 1) = true := by
    show (anyE2 f h c d i.toNat || decide (f i.toNat = c ∧ h i.toNat = d)) = true
    rw [decide_eq_true hx, Bool.or_true]
  have h2 := any2_up (f := f) (h := h) (c := c) (d := d) (i.toNat + 1) (n.toNat - (i.toNat + 1)) h1
  rw [show i.toNat + 1 + (n.toNat - (i.toNat + 1)) = n.toNat by omega] at h2
  exact h2
abbrev fI (f : Nat → Int32) : Nat → Int := fun k => (f k).toInt
theorem bes_of {x way a b cx cy r : Int32} {W D rx ry : Int} (hc : (r.toInt = -1 ∧ (cx.toInt < 0 ∨ W ≤ cx.toInt ∨ cy.toInt < 0 ∨ D ≤ cy.toInt)) ∨ (r.toInt = W * cy.toInt + cx.toInt ∧ (0 ≤ cx.toInt ∧ cx.toInt < W) ∧ 0 ≤ cy.toInt ∧ cy.toInt < D)) (hW : 1 ≤ W) (hx : 0 ≤ x.toInt ∧ x.toInt ≤ 23) (hxl : x.toInt < W * D) (tx : rx = x.toInt % W) (ty : ry = x.toInt / W) (ea : a = wyX way.toNatClampNeg) (eb : b = wyY way.toNatClampNeg) (tcx : cx.toInt = rx + a.toInt) (tcy : cy.toInt = ry + b.toInt) :
    (way.toInt = 2 → ((r.toInt = -1 ∧ x.toInt % W = W - 1) ∨ (0 ≤ r.toInt ∧ x.toInt % W ≠ W - 1))) ∧ (way.toInt = 3 → ((r.toInt = -1 ∧ x.toInt / W = D - 1) ∨ (0 ≤ r.toInt ∧ x.toInt / W ≠ D - 1))) := by
  have m1 := Int.emod_nonneg x.toInt (show W ≠ 0 by omega)
  have m2 := Int.emod_lt_of_pos x.toInt (show 0 < W by omega)
  have d1 : 0 ≤ x.toInt / W := Int.ediv_nonneg hx.1 (by omega)
  have d2 : x.toInt / W < D := Int.ediv_lt_of_lt_mul (by omega) (by rw [Int.mul_comm]; exact hxl)
  have mm : 0 ≤ W * cy.toInt ∨ cy.toInt < 0 := by
    rcases Int.lt_or_le cy.toInt 0 with q | q
    · exact Or.inr q
    · exact Or.inl (Int.mul_nonneg (by omega) q)
  refine ⟨fun h => ?_, fun h => ?_⟩
  · have k : way.toNatClampNeg = 2 := by show way.toInt.toNat = 2; omega
    rw [k] at ea eb
    have a1 : a.toInt = 1 := by rw [ea]; decide
    have b1 : b.toInt = 0 := by rw [eb]; decide
    omega
  · have k : way.toNatClampNeg = 3 := by show way.toInt.toNat = 3; omega
    rw [k] at ea eb
    have a1 : a.toInt = 0 := by rw [ea]; decide
    have b1 : b.toInt = 1 := by rw [eb]; decide
    omega
end
section
/-! ===== the class's plan against what is told so far ===== -/
def upS (S : St0) (t j : Nat) (x : Int) : St0 := fun t' j' => cond (Nat.beq t' t && Nat.beq j' j) x (S t' j')
theorem beqN {k j : Nat} (h : k ≠ j) : Nat.beq k j = false := by
  cases hb : Nat.beq k j
  · rfl
  · exact absurd (Nat.eq_of_beq_eq_true hb) h
theorem updA {f : Nat → Int32} {m : Nat} {x : Int32} : upd f m x m = x := by
  unfold upd
  simp
theorem updN {f : Nat → Int32} {m k : Nat} {x : Int32} (h : k ≠ m) : upd f m x k = f k := by
  unfold upd
  simp [h]
theorem upS_at {S : St0} {t j : Nat} {x : Int} : upS S t j x t j = x := by
  show cond (Nat.beq t t && Nat.beq j j) x _ = x
  rw [Nat.beq_refl, Nat.beq_refl]
  rfl
theorem upS_nj {S : St0} {t j k : Nat} {x : Int} (h : k ≠ j) : upS S t j x t k = S t k := by
  show cond (Nat.beq t t && Nat.beq k j) x _ = _
  rw [beqN h, Bool.and_false]
  rfl
def bitB (x : Int32) (c : Nat) : Bool := x.toBitVec.getLsbD c
def RpG (S : St0) (vp : Vf) : Prop := (vp 0 0).toInt = S 37 0 ∧ (vp 1 0).toInt = S 38 0 ∧ (∀ c : Nat, (c : Int) < S 37 0 * S 38 0 → (vp 3 c).toInt = S 39 c ∧ (vp 4 c).toInt = S 40 c) ∧ ((S 37 0 = 0 ∧ S 38 0 = 0) ∨ (1 ≤ S 37 0 ∧ 1 ≤ S 38 0))
def RpC (S : St0) (cx ck : Int32) : Prop := ck.toInt = S 41 0 ∧ 0 ≤ S 41 0 ∧ ∀ c : Nat, c < 24 → bitB cx c = anyE (S 42) c (S 41 0).toNat
def RpM1 (S : St0) (vp : Vf) (m b0 b1 b2 b3 b4 : Nat) : Prop := ((m : Int) < S 43 0 → (vp b0 0).toInt = S 44 m ∧ (vp b1 0).toInt = S 45 m ∧ (vp b2 0).toInt = S 46 m ∧ (∀ j : Nat, (j : Int) < S 44 m → (vp b3 j).toInt = S 47 (9 * m + j)) ∧ (∀ j : Nat, (j : Int) < S 44 m → vp b3 ((S 44 m).toNat + j) = vp b3 j) ∧ (∀ c : Nat, (c : Int) < S 37 0 * S 38 0 → (vp b4 c).toInt = S 45 m * ((c : Int) % S 37 0) + S 46 m * ((c : Int) / S 37 0))) ∧ (S 43 0 ≤ (m : Int) → vp b0 0 = 1 ∧ vp b3 0 = 0 ∧ vp b3 1 = 0)
def RpM (S : St0) (vp : Vf) : Prop := ((vp 5 0).toInt = S 43 0 ∧ (S 37 0 = 0 → S 43 0 = 0)) ∧ RpM1 S vp 0 20 21 22 23 24 ∧ RpM1 S vp 1 30 31 32 33 34 ∧ RpM1 S vp 2 40 41 42 43 44
def RpH (S : St0) (vp : Vf) : Prop := (vp 60 0).toInt = S 48 0 ∧ ∀ k : Nat, (k : Int) < S 48 0 → (vp 61 k).toInt = S 49 k ∧ (vp 62 k).toInt = S 50 k
def RpK (S : St0) (vp : Vf) : Prop := (vp 70 0).toInt = S 51 0 ∧ ∀ k : Nat, (k : Int) < S 51 0 → (vp 71 k).toInt = S 52 k ∧ (vp 72 k).toInt = S 53 k ∧ (vp 73 k).toInt = S 54 k - 30
def RpW (S : St0) (vp : Vf) : Prop := (vp 80 0).toInt = S 55 0 ∧ ∀ k : Nat, (k : Int) < S 55 0 → (vp 81 k).toInt = S 56 k ∧ (vp 82 k).toInt = S 57 k
def RpD (S : St0) (vp : Vf) : Prop := (vp 90 0).toInt = S 58 0 ∧ ∀ k : Nat, (k : Int) < S 58 0 → (vp 92 k).toInt = S 59 k - 100 ∧ (vp 93 k).toInt = S 60 k - 100
def Rp (S : St0) (vp : Vf) (cx ck : Int32) : Prop := RpG S vp ∧ RpC S cx ck ∧ RpM S vp ∧ RpH S vp ∧ RpK S vp ∧ RpW S vp ∧ RpD S vp
theorem any_congr {f g : Nat → Int} {c : Int} : ∀ k : Nat, (∀ j, j < k → f j = g j) → anyE f c k = anyE g c k
  | 0, _ => rfl
  | k + 1, h => by
    show (anyE f c k || decide (f k = c)) = (anyE g c k || decide (g k = c))
    rw [any_congr k (fun j hj => h j (by omega)), h k (by omega)]
theorem any2_congr {f g f' g' : Nat → Int} {c d : Int} : ∀ k : Nat, (∀ j, j < k → f j = f' j ∧ g j = g' j) → anyE2 f g c d k = anyE2 f' g' c d k
  | 0, _ => rfl
  | k + 1, h => by
    show (anyE2 f g c d k || decide (f k = c ∧ g k = d)) = (anyE2 f' g' c d k || decide (f' k = c ∧ g' k = d))
    rw [any2_congr k (fun j hj => h j (by omega)), (h k (by omega)).1, (h k (by omega)).2]
theorem ckB {c : Int} {P : Prop} [Decidable P] (h : (c = 0 ∧ ¬ P) ∨ (c ≠ 0 ∧ P)) : (c = 0 ∧ decide P = false) ∨ (c ≠ 0 ∧ decide P = true) := by
  rcases h with ⟨h1, h2⟩ | ⟨h1, h2⟩
  · exact Or.inl ⟨h1, decide_eq_false h2⟩
  · exact Or.inr ⟨h1, decide_eq_true h2⟩
theorem ckA {c : Int} {b b' : Bool} (h : (c = 1 ∧ b = true) ∨ (c = 0 ∧ b = false)) (e : b = b') : (c = 0 ∧ b' = false) ∨ (c ≠ 0 ∧ b' = true) := by
  subst e
  rcases h with ⟨h1, h2⟩ | ⟨h1, h2⟩
  · exact Or.inr ⟨by omega, h2⟩
  · exact Or.inl ⟨h1, h2⟩
/-- a row with one more at its end -/
theorem row_add {f : Nat → Int32} {g : Nat → Int} {n x : Int32} {k : Nat} (hn : 0 ≤ n.toInt) (hk : (k : Int) < n.toInt + 1) (h : (k : Int) < n.toInt → (f k).toInt = g k) : (upd f n.toNatClampNeg x k).toInt = cond (Nat.beq k n.toInt.toNat) x.toInt (g k) := by
  have en : n.toNatClampNeg = n.toInt.toNat := rfl
  rw [en]
  by_cases hq : k = n.toInt.toNat
  · subst hq
    rw [updA, Nat.beq_refl]
    rfl
  · rw [updN hq, beqN hq]
    exact h (by omega)
def houseS (S : St0) (c h : Int) : St0 := upS (upS (upS S 48 0 (S 48 0 + 1)) 49 (S 48 0).toNat c) 50 (S 48 0).toNat h
theorem rp_house {S : St0} {vp : Vf} {cx ck n' c h : Int32} {f1' f2' f3' : Nat → Int32} (hR : Rp S vp cx ck) (h0 : 0 ≤ (vp 60 0).toInt) (e1 : n'.toInt = (vp 60 0).toInt + 1) (e2 : f1' = upd (vp 61) (vp 60 0).toNatClampNeg c) (e3 : f2' = upd (vp 62) (vp 60 0).toNatClampNeg h) : Rp (houseS S c.toInt h.toInt) (up3 (up3 (up3 (up2 vp 60 0 n') 61 f1') 62 f2') 63 f3') cx ck := by
  obtain ⟨a1, a2, a3, ⟨b1, b2⟩, a5, a6, a7⟩ := hR
  refine ⟨a1, a2, a3, ⟨?_, fun k hk => ?_⟩, a5, a6, a7⟩
  · show n'.toInt = S 48 0 + 1
    omega
  · have hk : (k : Int) < S 48 0 + 1 := hk
    subst e2 e3
    refine ⟨?_, ?_⟩
    · show (upd (vp 61) _ c k).toInt = cond (Nat.beq k (S 48 0).toNat) c.toInt (S 49 k)
      rw [← b1]
      exact row_add h0 (by omega) (fun q => (b2 k (by omega)).1)
    · show (upd (vp 62) _ h k).toInt = cond (Nat.beq k (S 48 0).toNat) h.toInt (S 50 k)
      rw [← b1]
      exact row_add h0 (by omega) (fun q => (b2 k (by omega)).2)
def wellS (S : St0) (c h : Int) : St0 := upS (upS (upS S 55 0 (S 55 0 + 1)) 56 (S 55 0).toNat c) 57 (S 55 0).toNat h
theorem rp_well {S : St0} {vp : Vf} {cx ck n' c h : Int32} {f1' f2' f3' : Nat → Int32} (hR : Rp S vp cx ck) (h0 : 0 ≤ (vp 80 0).toInt) (e1 : n'.toInt = (vp 80 0).toInt + 1) (e2 : f1' = upd (vp 81) (vp 80 0).toNatClampNeg c) (e3 : f2' = upd (vp 82) (vp 80 0).toNatClampNeg h) : Rp (wellS S c.toInt h.toInt) (up3 (up3 (up3 (up2 vp 80 0 n') 81 f1') 82 f2') 83 f3') cx ck := by
  obtain ⟨a1, a2, a3, a4, a5, ⟨b1, b2⟩, a7⟩ := hR
  refine ⟨a1, a2, a3, a4, a5, ⟨?_, fun k hk => ?_⟩, a7⟩
  · show n'.toInt = S 55 0 + 1
    omega
  · have hk : (k : Int) < S 55 0 + 1 := hk
    subst e2 e3
    refine ⟨?_, ?_⟩
    · show (upd (vp 81) _ c k).toInt = cond (Nat.beq k (S 55 0).toNat) c.toInt (S 56 k)
      rw [← b1]
      exact row_add h0 (by omega) (fun q => (b2 k (by omega)).1)
    · show (upd (vp 82) _ h k).toInt = cond (Nat.beq k (S 55 0).toNat) h.toInt (S 57 k)
      rw [← b1]
      exact row_add h0 (by omega) (fun q => (b2 k (by omega)).2)
def crackS (S : St0) (c d h : Int) : St0 := upS (upS (upS (upS S 51 0 (S 51 0 + 1)) 52 (S 51 0).toNat c) 53 (S 51 0).toNat d) 54 (S 51 0).toNat h
theorem rp_crack {S : St0} {vp : Vf} {cx ck n' c d h : Int32} {f1' f2' f3' : Nat → Int32} {hh : Int} (hR : Rp S vp cx ck) (h0 : 0 ≤ (vp 70 0).toInt) (e1 : n'.toInt = (vp 70 0).toInt + 1) (e2 : f1' = upd (vp 71) (vp 70 0).toNatClampNeg c) (e3 : f2' = upd (vp 72) (vp 70 0).toNatClampNeg d) (e4 : f3' = upd (vp 73) (vp 70 0).toNatClampNeg h) (eh : h.toInt = hh - 30) : Rp (crackS S c.toInt d.toInt hh) (up3 (up3 (up3 (up2 vp 70 0 n') 71 f1') 72 f2') 73 f3') cx ck := by
  obtain ⟨a1, a2, a3, a4, ⟨b1, b2⟩, a6, a7⟩ := hR
  refine ⟨a1, a2, a3, a4, ⟨?_, fun k hk => ?_⟩, a6, a7⟩
  · show n'.toInt = S 51 0 + 1
    omega
  · have hk : (k : Int) < S 51 0 + 1 := hk
    subst e2 e3 e4
    refine ⟨?_, ?_, ?_⟩
    · show (upd (vp 71) _ c k).toInt = cond (Nat.beq k (S 51 0).toNat) c.toInt (S 52 k)
      rw [← b1]
      exact row_add h0 (by omega) (fun q => (b2 k (by omega)).1)
    · show (upd (vp 72) _ d k).toInt = cond (Nat.beq k (S 51 0).toNat) d.toInt (S 53 k)
      rw [← b1]
      exact row_add h0 (by omega) (fun q => (b2 k (by omega)).2.1)
    · show (upd (vp 73) _ h k).toInt = cond (Nat.beq k (S 51 0).toNat) hh (S 54 k) - 30
      rw [← b1, row_add (g := fun k => S 54 k - 30) h0 (by omega) (fun q => (b2 k (by omega)).2.2)]
      cases Nat.beq k (vp 70 0).toInt.toNat
      · rfl
      · exact eh
def deedS (S : St0) (c d : Int) : St0 := upS (upS (upS S 58 0 (S 58 0 + 1)) 59 (S 58 0).toNat c) 60 (S 58 0).toNat d
theorem rp_deed {S : St0} {vp : Vf} {cx ck n' c d : Int32} {f1' f2' f3' : Nat → Int32} {cc dd : Int} (hR : Rp S vp cx ck) (h0 : 0 ≤ (vp 90 0).toInt) (e1 : n'.toInt = (vp 90 0).toInt + 1) (e2 : f2' = upd (vp 92) (vp 90 0).toNatClampNeg c) (e3 : f3' = upd (vp 93) (vp 90 0).toNatClampNeg d) (ec : c.toInt = cc - 100) (ed : d.toInt = dd - 100) : Rp (deedS S cc dd) (up3 (up3 (up3 (up2 vp 90 0 n') 91 f1') 92 f2') 93 f3') cx ck := by
  obtain ⟨a1, a2, a3, a4, a5, a6, ⟨b1, b2⟩⟩ := hR
  refine ⟨a1, a2, a3, a4, a5, a6, ⟨?_, fun k hk => ?_⟩⟩
  · show n'.toInt = S 58 0 + 1
    omega
  · have hk : (k : Int) < S 58 0 + 1 := hk
    subst e2 e3
    refine ⟨?_, ?_⟩
    · show (upd (vp 92) _ c k).toInt = cond (Nat.beq k (S 58 0).toNat) cc (S 59 k) - 100
      rw [← b1, row_add (g := fun k => S 59 k - 100) h0 (by omega) (fun q => (b2 k (by omega)).1)]
      cases Nat.beq k (vp 90 0).toInt.toNat
      · rfl
      · exact ec
    · show (upd (vp 93) _ d k).toInt = cond (Nat.beq k (S 58 0).toNat) dd (S 60 k) - 100
      rw [← b1, row_add (g := fun k => S 60 k - 100) h0 (by omega) (fun q => (b2 k (by omega)).2)]
      cases Nat.beq k (vp 90 0).toInt.toNat
      · rfl
      · exact ed
theorem c_ofNat {c : Int32} (hc : 0 ≤ c.toInt ∧ c.toInt ≤ 23) : ∃ k : Fin 24, c = Int32.ofNat k.val ∧ c.toInt.toNat = k.val := by
  refine ⟨⟨c.toInt.toNat, by omega⟩, ?_, rfl⟩
  apply Int32.toInt_inj.mp
  show c.toInt = (Int32.ofNat c.toInt.toNat).toInt
  rw [Int32.toInt_ofNat_of_lt (by omega)]
  omega
theorem sh_amt : ∀ k : Fin 24, ((Int32.ofNat k.val &&& 31).toBitVec.smod 32).toNat = k.val := by decide
theorem and1 (y : BitVec 32) : (y &&& 1#32) = if y.getLsbD 0 then 1#32 else 0#32 := by
  rw [BitVec.and_one_eq_setWidth_ofBool_getLsbD]
  cases y.getLsbD 0 <;> rfl
theorem bit_test {x c : Int32} (hc : 0 ≤ c.toInt ∧ c.toInt ≤ 23) : ((x >>> (c &&& 31)) &&& 1) = if bitB x c.toInt.toNat then 1 else 0 := by
  obtain ⟨k, rfl, hk⟩ := c_ofNat hc
  rw [hk]
  apply Int32.toBitVec_inj.mp
  have h1 : (x >>> (Int32.ofNat k.val &&& 31)).toBitVec = x.toBitVec.sshiftRight k.val := by
    show BitVec.sshiftRight x.toBitVec ((Int32.ofNat k.val &&& 31).toBitVec.smod 32).toNat = _
    rw [sh_amt k]
  show (x >>> (Int32.ofNat k.val &&& 31)).toBitVec &&& 1#32 = _
  rw [h1, and1]
  have h2 : (x.toBitVec.sshiftRight k.val).getLsbD 0 = x.toBitVec.getLsbD k.val := by
    rw [BitVec.getLsbD_sshiftRight]
    have := k.isLt
    simp
    omega
  rw [h2]
  show _ = (if bitB x k.val then (1 : Int32) else 0).toBitVec
  unfold bitB
  cases x.toBitVec.getLsbD k.val <;> rfl
theorem bit_set {x c : Int32} (hc : 0 ≤ c.toInt ∧ c.toInt ≤ 23) (j : Nat) (hj : j < 24) : bitB (x ||| ((1 : Int32) <<< (c &&& 31))) j = (bitB x j || decide (c.toInt = (j : Int))) := by
  obtain ⟨k, rfl, hk⟩ := c_ofNat hc
  unfold bitB
  have h1 : (x ||| ((1 : Int32) <<< (Int32.ofNat k.val &&& 31))).toBitVec = x.toBitVec ||| ((1#32) <<< k.val) := by
    show x.toBitVec ||| (BitVec.shiftLeft 1#32 ((Int32.ofNat k.val &&& 31).toBitVec.smod 32).toNat) = _
    rw [sh_amt k]
    rfl
  rw [h1, BitVec.getLsbD_or]
  have h2 : ((1#32) <<< k.val).getLsbD j = decide (k.val = j) := by
    rw [BitVec.getLsbD_shiftLeft]
    have := k.isLt
    by_cases h : k.val = j
    · subst h; simp; omega
    · simp [h]; omega
  rw [h2]
  congr 1
  have : ((Int32.ofNat k.val).toInt = (j : Int)) ↔ k.val = j := by
    rw [Int32.toInt_ofNat_of_lt (by have := k.isLt; omega)]
    omega
  exact decide_eq_decide.mpr this.symm
end
section
theorem row_set {f : Nat → Int32} {g : Nat → Int} {k i : Nat} {x : Int32} (h : (f i).toInt = g i) : (upd f k x i).toInt = cond (Nat.beq i k) x.toInt (g i) := by
  by_cases hq : i = k
  · subst hq
    rw [updA, Nat.beq_refl]
    rfl
  · rw [updN hq, beqN hq]
    exact h
def cellS (S : St0) (c b s : Int) : St0 := upS (upS (upS (upS S 41 0 (S 41 0 + 1)) 42 (S 41 0).toNat c) 39 c.toNat b) 40 c.toNat s
theorem rp_cell {S : St0} {vp : Vf} {cx ck ck' c b s : Int32} (hR : Rp S vp cx ck) (hc : 0 ≤ c.toInt ∧ c.toInt ≤ 23) (h0 : 0 ≤ ck.toInt) (hk : ck'.toInt = ck.toInt + 1) : Rp (cellS S c.toInt b.toInt s.toInt) (up2 (up2 vp 3 c.toNatClampNeg b) 4 c.toNatClampNeg s) (cx ||| ((1 : Int32) <<< (c &&& 31))) ck' := by
  obtain ⟨⟨a1, a2, a3, a4⟩, ⟨b1, b0, b2⟩, h3, h4, h5, h6, h7⟩ := hR
  refine ⟨⟨a1, a2, fun i hi => ⟨?_, ?_⟩, a4⟩, ⟨?_, (show 0 ≤ S 41 0 + 1 by omega), fun j hj => ?_⟩, h3, h4, h5, h6, h7⟩
  · show (upd (vp 3) c.toInt.toNat b i).toInt = cond (Nat.beq i c.toInt.toNat) b.toInt (S 39 i)
    exact row_set (a3 i hi).1
  · show (upd (vp 4) c.toInt.toNat s i).toInt = cond (Nat.beq i c.toInt.toNat) s.toInt (S 40 i)
    exact row_set (a3 i hi).2
  · show ck'.toInt = S 41 0 + 1
    omega
  · show bitB _ j = anyE (fun i => cond (Nat.beq i (S 41 0).toNat) c.toInt (S 42 i)) j (S 41 0 + 1).toNat
    rw [show (S 41 0 + 1).toNat = (S 41 0).toNat + 1 by omega, bit_set hc j hj, b2 j hj]
    show _ = (anyE (fun i => cond (Nat.beq i (S 41 0).toNat) c.toInt (S 42 i)) j (S 41 0).toNat || decide (cond (Nat.beq (S 41 0).toNat (S 41 0).toNat) c.toInt (S 42 (S 41 0).toNat) = (j : Int)))
    rw [any_congr (f := fun i => cond (Nat.beq i (S 41 0).toNat) c.toInt (S 42 i)) (g := S 42) _ (fun i hi => by show cond (Nat.beq i (S 41 0).toNat) _ _ = _; rw [beqN (by omega)]; rfl), Nat.beq_refl]
    rfl
def groundS (S : St0) (w d b s : Int) : St0 := fun t j => cond (Nat.beq t 39) (cond (Nat.blt j 24) b (S 39 j)) (cond (Nat.beq t 40) (cond (Nat.blt j 24) s (S 40 j)) (upS (upS S 37 0 w) 38 0 d t j))
theorem rp_ground {S : St0} {vp vq : Vf} {cx ck w d b s : Int32} (hR : Rp S vp cx ck) (e : ∀ t, t ≠ 0 → t ≠ 1 → t ≠ 2 → t ≠ 3 → t ≠ 4 → vq t = vp t) (h0 : vq 0 0 = w) (h1 : vq 1 0 = d) (hg0 : S 37 0 = 0) (hw1 : 1 ≤ w.toInt ∧ 1 ≤ d.toInt) (hwd : w.toInt * d.toInt ≤ 24) (hb : ∀ j : Nat, (j : Int) < w.toInt * d.toInt → vq 3 j = b ∧ vq 4 j = s) : Rp (groundS S w.toInt d.toInt b.toInt s.toInt) vq cx ck := by
  obtain ⟨-, h2, h3, h4, h5, h6, h7⟩ := hR
  refine ⟨⟨?_, ?_, fun i hi => ?_, Or.inr hw1⟩, h2, ?_, ?_, ?_, ?_, ?_⟩
  · show (vq 0 0).toInt = w.toInt
    rw [h0]
  · show (vq 1 0).toInt = d.toInt
    rw [h1]
  · have hi : (i : Int) < w.toInt * d.toInt := hi
    have hl : Nat.blt i 24 = true := Nat.blt_eq.mpr (by omega)
    refine ⟨?_, ?_⟩
    · show (vq 3 i).toInt = cond (Nat.blt i 24) b.toInt (S 39 i)
      rw [hl, (hb i hi).1]
      rfl
    · show (vq 4 i).toInt = cond (Nat.blt i 24) s.toInt (S 40 i)
      rw [hl, (hb i hi).2]
      rfl
  · have h0 : S 43 0 = 0 := h3.1.2 hg0
    have z1 := h3.2.1.2 (by omega)
    have z2 := h3.2.2.1.2 (by omega)
    have z3 := h3.2.2.2.2 (by omega)
    refine ⟨⟨?_, fun _ => h0⟩, ⟨fun q => ?_, fun _ => ?_⟩, ⟨fun q => ?_, fun _ => ?_⟩, ⟨fun q => ?_, fun _ => ?_⟩⟩
    · show (vq 5 0).toInt = S 43 0
      rw [e 5 (by decide) (by decide) (by decide) (by decide) (by decide)]
      exact h3.1.1
    · have q : ((0 : Nat) : Int) < S 43 0 := q
      omega
    · rw [e 20 (by decide) (by decide) (by decide) (by decide) (by decide), e 23 (by decide) (by decide) (by decide) (by decide) (by decide)]
      exact z1
    · have q : ((1 : Nat) : Int) < S 43 0 := q
      omega
    · rw [e 30 (by decide) (by decide) (by decide) (by decide) (by decide), e 33 (by decide) (by decide) (by decide) (by decide) (by decide)]
      exact z2
    · have q : ((2 : Nat) : Int) < S 43 0 := q
      omega
    · rw [e 40 (by decide) (by decide) (by decide) (by decide) (by decide), e 43 (by decide) (by decide) (by decide) (by decide) (by decide)]
      exact z3
  · unfold RpH at *
    rw [e 60 (by decide) (by decide) (by decide) (by decide) (by decide), e 61 (by decide) (by decide) (by decide) (by decide) (by decide), e 62 (by decide) (by decide) (by decide) (by decide) (by decide)]
    exact h4
  · unfold RpK at *
    rw [e 70 (by decide) (by decide) (by decide) (by decide) (by decide), e 71 (by decide) (by decide) (by decide) (by decide) (by decide), e 72 (by decide) (by decide) (by decide) (by decide) (by decide), e 73 (by decide) (by decide) (by decide) (by decide) (by decide)]
    exact h5
  · unfold RpW at *
    rw [e 80 (by decide) (by decide) (by decide) (by decide) (by decide), e 81 (by decide) (by decide) (by decide) (by decide) (by decide), e 82 (by decide) (by decide) (by decide) (by decide) (by decide)]
    exact h6
  · unfold RpD at *
    rw [e 90 (by decide) (by decide) (by decide) (by decide) (by decide), e 92 (by decide) (by decide) (by decide) (by decide) (by decide), e 93 (by decide) (by decide) (by decide) (by decide) (by decide)]
    exact h7
theorem ckF {r c : Int} {b b' : Bool} (h : (r = -1 ∧ b = false) ∨ (0 ≤ r ∧ b = true)) (hc : (c = 0 ∧ r = -1) ∨ (c = 1 ∧ r ≠ -1)) (e : b = b') : (c = 0 ∧ b' = false) ∨ (c ≠ 0 ∧ b' = true) := by
  subst e
  rcases h with ⟨h1, h2⟩ | ⟨h1, h2⟩
  · exact Or.inl ⟨by omega, h2⟩
  · exact Or.inr ⟨by omega, h2⟩
theorem ckT {c : Int} {x : Int32} {b b' : Bool} (hc : (c = 0 ∧ x.toInt = 0) ∨ (c = 1 ∧ x.toInt ≠ 0)) (hx : x = if b then 1 else 0) (e : b = b') : (c = 0 ∧ b' = false) ∨ (c ≠ 0 ∧ b' = true) := by
  subst e
  cases b
  · have h1 : x.toInt = 0 := by rw [hx]; decide
    exact Or.inl ⟨by omega, rfl⟩
  · have h1 : x.toInt = 1 := by rw [hx]; decide
    exact Or.inr ⟨by omega, rfl⟩
end
section
/-! the row of a moon, as the class reads it -/
def RowI (T : Nat → Int32) (n : Int) (b : Nat) (p0 : Int) (s0 : Nat → Int) (g0 w0 : Int) (i : Nat) (p g w : Int) (mr : Nat → Int32) : Prop :=
  (g0 ≠ 0 ∧ g = g0 ∧ w = w0) ∨ (g0 = 0 ∧ ((g ≠ 0 ∧ rowF T n b 9 0 p0 s0 = .inl (g, w)) ∨ (g = 0 ∧ w = w0 ∧ ∃ s1 : Nat → Int, rowF T n b 9 0 p0 s0 = rowF T n b (9 - i) i p s1 ∧ ∀ j, j < i → (mr j).toInt = s1 (b + j))))
def RowE (T : Nat → Int32) (n : Int) (b : Nat) (p0 : Int) (s0 : Nat → Int) (g0 w0 : Int) (i : Nat) (p g w : Int) (mr : Nat → Int32) : Prop :=
  (g0 ≠ 0 ∧ g = g0 ∧ w = w0) ∨ (g0 = 0 ∧ ((g ≠ 0 ∧ rowF T n b 9 0 p0 s0 = .inl (g, w)) ∨ (g = 0 ∧ w = w0 ∧ ∃ s1 : Nat → Int, rowF T n b 9 0 p0 s0 = (if i < 2 then .inl (1, p) else .inr (i, p, s1)) ∧ ∀ j, j < i → (mr j).toInt = s1 (b + j))))
theorem RowI.out {T : Nat → Int32} {n : Int} {b : Nat} {p0 : Int} {s0 : Nat → Int} {g0 w0 : Int} {i : Nat} {p g w : Int} {mr : Nat → Int32} (h : RowI T n b p0 s0 g0 w0 i p g w mr) (hg : g ≠ 0) : RowE T n b p0 s0 g0 w0 i p g w mr := by
  rcases h with h | ⟨h0, h | h⟩
  · exact Or.inl h
  · exact Or.inr ⟨h0, Or.inl h⟩
  · exact absurd h.1 hg
theorem row_upd {mr : Nat → Int32} {s1 : Nat → Int} {b i : Nat} {x : Int32} {v : Int} (h : ∀ j, j < i → (mr j).toInt = s1 (b + j)) (hx : x.toInt = v) : ∀ j, j < i + 1 → (upd mr i x j).toInt = upI s1 (b + i) v (b + j) := by
  intro j hj
  unfold upI
  by_cases hq : j = i
  · subst hq
    rw [updA, if_pos rfl]
    exact hx
  · rw [updN hq, if_neg (by omega)]
    exact h j (by omega)
theorem RowI.back {T : Nat → Int32} {n : Int} {b : Nat} {p0 : Int} {s0 : Nat → Int} {g0 w0 : Int} {i : Nat} {p g w g1 w1 r e na z : Int} {mr : Nat → Int32} {x : Int32} (h : RowI T n b p0 s0 g0 w0 i p g w mr) (hg : g = 0) (hi : i < 9) (hn : CF (numF T n 0 18 p) g w g1 w1 (fun y => r = y.1 ∧ e = y.2.1 ∧ na = y.2.2)) (hz : z = skp T n e) (hc : z < n ∧ tc T z = 44 ∧ i + 1 ≠ 9) (hx : x.toInt = r - 9) : RowI T n b p0 s0 g0 w0 (i + 1) (z + 1) g1 w1 (upd mr i x) := by
  rcases h with h | ⟨h0, h | ⟨h1, h2, s1, h3, h4⟩⟩
  · omega
  · omega
  · rw [show 9 - i = (9 - (i + 1)) + 1 by omega] at h3
    rcases hn with q | ⟨-, ⟨k, q, q1, q2, q3⟩ | ⟨y, q1, q2, q3, q4⟩⟩
    · omega
    · have := okF.num _ _ q1
      exact Or.inr ⟨h0, Or.inl ⟨by omega, by rw [h3, row_no q1, q2, q3]⟩⟩
    · obtain ⟨v, e', na'⟩ := y
      obtain ⟨r1, r2, r3⟩ := q4
      have r1 : r = v := r1
      have r2 : e = e' := r2
      subst r1 r2
      exact Or.inr ⟨h0, Or.inr ⟨q2, by omega, _, by rw [h3, row_on q1 hz hc], row_upd h4 hx⟩⟩
theorem RowI.exit {T : Nat → Int32} {n : Int} {b : Nat} {p0 : Int} {s0 : Nat → Int} {g0 w0 : Int} {i : Nat} {p g w g1 w1 r e na z : Int} {mr : Nat → Int32} {x : Int32} (h : RowI T n b p0 s0 g0 w0 i p g w mr) (hg : g = 0) (hi : i < 9) (hn : CF (numF T n 0 18 p) g w g1 w1 (fun y => r = y.1 ∧ e = y.2.1 ∧ na = y.2.2)) (hz : z = skp T n e) (hc : ¬ (z < n ∧ tc T z = 44 ∧ i + 1 ≠ 9)) (hx : x.toInt = r - 9) : RowE T n b p0 s0 g0 w0 (i + 1) z g1 w1 (upd mr i x) := by
  rcases h with h | ⟨h0, h | ⟨h1, h2, s1, h3, h4⟩⟩
  · omega
  · omega
  · rw [show 9 - i = (9 - (i + 1)) + 1 by omega] at h3
    rcases hn with q | ⟨-, ⟨k, q, q1, q2, q3⟩ | ⟨y, q1, q2, q3, q4⟩⟩
    · omega
    · have := okF.num _ _ q1
      exact Or.inr ⟨h0, Or.inl ⟨by omega, by rw [h3, row_no q1, q2, q3]⟩⟩
    · obtain ⟨v, e', na'⟩ := y
      obtain ⟨r1, r2, r3⟩ := q4
      have r1 : r = v := r1
      have r2 : e = e' := r2
      subst r1 r2
      exact Or.inr ⟨h0, Or.inr ⟨q2, by omega, _, by rw [h3, row_end q1 hz hc], row_upd h4 hx⟩⟩
theorem RowE.fin {T : Nat → Int32} {n : Int} {b : Nat} {p0 : Int} {s0 : Nat → Int} {g0 w0 : Int} {i : Nat} {p g w g1 w1 c : Int} {mr : Nat → Int32} (h : RowE T n b p0 s0 g0 w0 i p g w mr) (hc : (c = 0 ∧ 2 ≤ i) ∨ (c = 1 ∧ i < 2)) (hr : (c ≠ 0 ∧ g = 0 ∧ g1 = 1 ∧ w1 = p) ∨ ((c = 0 ∨ g ≠ 0) ∧ g1 = g ∧ w1 = w)) : CF (rowF T n b 9 0 p0 s0) g0 w0 g1 w1 (fun z => i = z.1 ∧ p = z.2.1 ∧ ∀ j, j < z.1 → (mr j).toInt = z.2.2 (b + j)) := by
  rcases h with ⟨h1, h2, h3⟩ | ⟨h0, ⟨h1, h2⟩ | ⟨h1, h2, s1, h3, h4⟩⟩
  · exact CF.old h1 (by omega) (by omega)
  · exact CF.no h0 h2 (by omega) (by omega)
  · rcases hc with ⟨c1, c2⟩ | ⟨c1, c2⟩
    · rw [if_neg (by omega)] at h3
      exact CF.ok h0 h3 (by omega) (by omega) ⟨rfl, rfl, h4⟩
    · rw [if_pos c2] at h3
      exact CF.no h0 h3 (by omega) (by omega)
theorem row_keep {T : Nat → Int32} {n : Int} {b : Nat} : ∀ (f i : Nat) (p : Int) (s : Nat → Int) (z : Nat × Int × (Nat → Int)), rowF T n b f i p s = .inr z → z.1 ≤ i + f ∧ i < z.1 ∧ 2 ≤ z.1 ∧ ∀ j, j < b + i ∨ b + z.1 ≤ j → z.2.2 j = s j
  | 0, i, p, s, z, h => by cases h
  | f + 1, i, p, s, z, h => by
    cases hn : numF T n 0 18 p with
    | inl e => obtain ⟨k1, q1⟩ := e; rw [row_no hn] at h; cases h
    | inr e =>
      obtain ⟨v, e, q0⟩ := e
      by_cases hc : skp T n e < n ∧ tc T (skp T n e) = 44 ∧ i + 1 ≠ 9
      · rw [row_on hn rfl hc] at h
        obtain ⟨r1, r2, r3, r4⟩ := row_keep f _ _ _ z h
        refine ⟨by omega, by omega, r3, fun j hj => ?_⟩
        rw [r4 j (by omega)]
        exact if_neg (by omega)
      · rw [row_end hn rfl hc] at h
        split at h
        · cases h
        · rename_i q
          cases h
          exact ⟨by omega, by omega, by show 2 ≤ i + 1; omega, fun j hj => if_neg (by show ¬ j = b + i; have hj : j < b + i ∨ b + (i + 1) ≤ j := hj; omega)⟩
def moonS (S : St0) (px py : Int) (r : Nat × Int × (Nat → Int)) : St0 := fun t j => cond (Nat.beq t 47) (r.2.2 j) (upS (upS (upS (upS S 43 0 (S 43 0 + 1)) 44 (S 43 0).toNat r.1) 45 (S 43 0).toNat px) 46 (S 43 0).toNat py t j)
theorem RowI.start {T : Nat → Int32} {n : Int} {b : Nat} {p : Int} {s0 : Nat → Int} {g w : Int} {mr : Nat → Int32} : RowI T n b p s0 g w 0 p g w mr := by
  rcases Decidable.em (g = 0) with h | h
  · exact Or.inr ⟨h, Or.inr ⟨h, rfl, s0, rfl, fun j hj => absurd hj (by omega)⟩⟩
  · exact Or.inl ⟨h, rfl, rfl⟩
theorem CF.stop {α β : Type} {a : Rd α} {s : α → Rd β} {g w g' w' : Int} {ok : α → Prop} {ok2 : α × β → Prop} (h : CF a g w g' w' ok) (hg : g' ≠ 0) : CF (th a s) g w g' w' ok2 := by
  rcases h with h | ⟨q1, ⟨k, q, q2, q3, q4⟩ | ⟨x, q2, q3, q4, q5⟩⟩
  · exact Or.inl h
  · exact CF.no q1 (th_no q2) q3 q4
  · exact absurd q3 hg
theorem g_pos {W D c : Int} (hc : c = W * D) (h : (W = 0 ∧ D = 0) ∨ (1 ≤ W ∧ 1 ≤ D)) : (1 ≤ W ∧ 1 ≤ c) ∨ (W = 0 ∧ c = 0) := by
  rcases h with ⟨h1, h2⟩ | ⟨h1, h2⟩
  · exact Or.inr ⟨h1, by rw [hc, h1, Int.zero_mul]⟩
  · have := Int.mul_le_mul h1 h2 (by omega) (by omega)
    exact Or.inl ⟨h1, by omega⟩
theorem gr_step {v : Vf} {k x b s : Int32} (h : ∀ j : Nat, (j : Int) < k.toInt → v 3 j = b ∧ v 4 j = s) (hk : 0 ≤ k.toInt) (hx : x.toInt = k.toInt + 1) : ∀ j : Nat, (j : Int) < x.toInt → up2 (up2 v 3 k.toNatClampNeg b) 4 k.toNatClampNeg s 3 j = b ∧ up2 (up2 v 3 k.toNatClampNeg b) 4 k.toNatClampNeg s 4 j = s := by
  intro j hj
  show upd (v 3) k.toInt.toNat b j = b ∧ upd (v 4) k.toInt.toNat s j = s
  by_cases hq : j = k.toInt.toNat
  · rw [hq, updA, updA]
    exact ⟨rfl, rfl⟩
  · rw [updN hq, updN hq]
    exact h j (by omega)
theorem upd_low {f : Nat → Int32} {a : Nat} {x : Int32} {L : Int} (hL : L ≤ (a : Int)) : ∀ j : Nat, (j : Int) < L → upd f a x j = f j := fun j hj => updN (by omega)
theorem lt_aux {j k : Nat} {a : Int} (h : (j : Int) < a) (ha : a ≤ 9) (m : Nat) (hm : k < m) : 9 * k + j < 9 * m := by omega
theorem rp_moon0 {S : St0} {vp : Vf} {cx ck px py mc len : Int32} {mr mr' ma' : Nat → Int32} {r : Nat × Int × (Nat → Int)} (hR : Rp S vp cx ck) (hm : S 43 0 = 0) (hmc : mc.toInt = 1) (hlen : len.toInt = r.1) (hmr : ∀ j, j < r.1 → (mr' j).toInt = r.2.2 (0 + j)) (hdb : ∀ j, j < r.1 → mr' (r.1 + j) = mr' j) (hah : ∀ c : Nat, (c : Int) < S 37 0 * S 38 0 → (ma' c).toInt = px.toInt * ((c : Int) % S 37 0) + py.toInt * ((c : Int) / S 37 0)) (h37 : S 37 0 ≠ 0) (hlow : ∀ j, j < 0 → r.2.2 j = S 47 j) : Rp (moonS S px.toInt py.toInt r) (up2 (up3 (up3 (up2 (up3 (up2 (up2 vp 21 0 px) 22 0 py) 23 mr) 20 0 len) 23 mr') 24 ma') 5 0 mc) cx ck := by
  obtain ⟨h1, h2, ⟨m0, m1, m2, m3⟩, h4, h5, h6, h7⟩ := hR
  have ek : (S 43 0).toNat = 0 := by omega
  have ea0 : moonS S px.toInt py.toInt r 44 0 = r.1 ∧ moonS S px.toInt py.toInt r 45 0 = px.toInt ∧ moonS S px.toInt py.toInt r 46 0 = py.toInt := by
    refine ⟨?_, ?_, ?_⟩
    · show cond (Nat.beq 0 (S 43 0).toNat) (r.1 : Int) (S 44 0) = r.1
      rw [ek]
      rfl
    · show cond (Nat.beq 0 (S 43 0).toNat) px.toInt (S 45 0) = px.toInt
      rw [ek]
      rfl
    · show cond (Nat.beq 0 (S 43 0).toNat) py.toInt (S 46 0) = py.toInt
      rw [ek]
      rfl
  refine ⟨h1, h2, ⟨⟨?_, fun q => absurd (show S 37 0 = 0 from q) h37⟩, ⟨fun hq => ?_, fun hq => ?_⟩, ⟨fun hq => ?_, fun hq => ?_⟩, ⟨fun hq => ?_, fun hq => ?_⟩⟩, h4, h5, h6, h7⟩
  · show mc.toInt = S 43 0 + 1
    omega
  · rw [ea0.1, ea0.2.1, ea0.2.2]
    refine ⟨hlen, rfl, rfl, fun j hj => ?_, fun j hj => ?_, hah⟩
    · exact hmr j (Int.ofNat_lt.mp hj)
    · rw [show ((r.1 : Nat) : Int).toNat = r.1 from rfl]
      exact hdb j (Int.ofNat_lt.mp hj)
  · have hq : S 43 0 + 1 ≤ ((0 : Nat) : Int) := hq
    omega
  · have hq : ((1 : Nat) : Int) < S 43 0 + 1 := hq
    omega
  · exact m2.2 (by omega)
  · have hq : ((2 : Nat) : Int) < S 43 0 + 1 := hq
    omega
  · exact m3.2 (by omega)
theorem rp_moon1 {S : St0} {vp : Vf} {cx ck px py mc len : Int32} {mr mr' ma' : Nat → Int32} {r : Nat × Int × (Nat → Int)} (hR : Rp S vp cx ck) (hm : S 43 0 = 1) (hmc : mc.toInt = 2) (hlen : len.toInt = r.1) (hmr : ∀ j, j < r.1 → (mr' j).toInt = r.2.2 (9 + j)) (hdb : ∀ j, j < r.1 → mr' (r.1 + j) = mr' j) (hah : ∀ c : Nat, (c : Int) < S 37 0 * S 38 0 → (ma' c).toInt = px.toInt * ((c : Int) % S 37 0) + py.toInt * ((c : Int) / S 37 0)) (h37 : S 37 0 ≠ 0) (hlow : ∀ j, j < 9 → r.2.2 j = S 47 j) (hs0 : S 44 0 ≤ 9) : Rp (moonS S px.toInt py.toInt r) (up2 (up3 (up3 (up2 (up3 (up2 (up2 vp 31 0 px) 32 0 py) 33 mr) 30 0 len) 33 mr') 34 ma') 5 0 mc) cx ck := by
  obtain ⟨h1, h2, ⟨m0, m1, m2, m3⟩, h4, h5, h6, h7⟩ := hR
  have ek : (S 43 0).toNat = 1 := by omega
  have ea0 : moonS S px.toInt py.toInt r 44 0 = S 44 0 ∧ moonS S px.toInt py.toInt r 45 0 = S 45 0 ∧ moonS S px.toInt py.toInt r 46 0 = S 46 0 := by
    refine ⟨?_, ?_, ?_⟩
    · show cond (Nat.beq 0 (S 43 0).toNat) (r.1 : Int) (S 44 0) = S 44 0
      rw [ek]
      rfl
    · show cond (Nat.beq 0 (S 43 0).toNat) px.toInt (S 45 0) = S 45 0
      rw [ek]
      rfl
    · show cond (Nat.beq 0 (S 43 0).toNat) py.toInt (S 46 0) = S 46 0
      rw [ek]
      rfl
  have ea1 : moonS S px.toInt py.toInt r 44 1 = r.1 ∧ moonS S px.toInt py.toInt r 45 1 = px.toInt ∧ moonS S px.toInt py.toInt r 46 1 = py.toInt := by
    refine ⟨?_, ?_, ?_⟩
    · show cond (Nat.beq 1 (S 43 0).toNat) (r.1 : Int) (S 44 1) = r.1
      rw [ek]
      rfl
    · show cond (Nat.beq 1 (S 43 0).toNat) px.toInt (S 45 1) = px.toInt
      rw [ek]
      rfl
    · show cond (Nat.beq 1 (S 43 0).toNat) py.toInt (S 46 1) = py.toInt
      rw [ek]
      rfl
  refine ⟨h1, h2, ⟨⟨?_, fun q => absurd (show S 37 0 = 0 from q) h37⟩, ⟨fun hq => ?_, fun hq => ?_⟩, ⟨fun hq => ?_, fun hq => ?_⟩, ⟨fun hq => ?_, fun hq => ?_⟩⟩, h4, h5, h6, h7⟩
  · show mc.toInt = S 43 0 + 1
    omega
  · have q := m1.1 (by omega)
    rw [ea0.1, ea0.2.1, ea0.2.2]
    refine ⟨q.1, q.2.1, q.2.2.1, fun j hj => ?_, q.2.2.2.2.1, q.2.2.2.2.2⟩
    show _ = r.2.2 (9 * 0 + j)
    rw [hlow (9 * 0 + j) (lt_aux (k := 0) hj hs0 1 (by decide))]
    exact q.2.2.2.1 j hj
  · have hq : S 43 0 + 1 ≤ ((0 : Nat) : Int) := hq
    omega
  · rw [ea1.1, ea1.2.1, ea1.2.2]
    refine ⟨hlen, rfl, rfl, fun j hj => ?_, fun j hj => ?_, hah⟩
    · exact hmr j (Int.ofNat_lt.mp hj)
    · rw [show ((r.1 : Nat) : Int).toNat = r.1 from rfl]
      exact hdb j (Int.ofNat_lt.mp hj)
  · have hq : S 43 0 + 1 ≤ ((1 : Nat) : Int) := hq
    omega
  · have hq : ((2 : Nat) : Int) < S 43 0 + 1 := hq
    omega
  · exact m3.2 (by omega)
theorem rp_moon2 {S : St0} {vp : Vf} {cx ck px py mc len : Int32} {mr mr' ma' : Nat → Int32} {r : Nat × Int × (Nat → Int)} (hR : Rp S vp cx ck) (hm : S 43 0 = 2) (hmc : mc.toInt = 3) (hlen : len.toInt = r.1) (hmr : ∀ j, j < r.1 → (mr' j).toInt = r.2.2 (18 + j)) (hdb : ∀ j, j < r.1 → mr' (r.1 + j) = mr' j) (hah : ∀ c : Nat, (c : Int) < S 37 0 * S 38 0 → (ma' c).toInt = px.toInt * ((c : Int) % S 37 0) + py.toInt * ((c : Int) / S 37 0)) (h37 : S 37 0 ≠ 0) (hlow : ∀ j, j < 18 → r.2.2 j = S 47 j) (hs0 : S 44 0 ≤ 9) (hs1 : S 44 1 ≤ 9) : Rp (moonS S px.toInt py.toInt r) (up2 (up3 (up3 (up2 (up3 (up2 (up2 vp 41 0 px) 42 0 py) 43 mr) 40 0 len) 43 mr') 44 ma') 5 0 mc) cx ck := by
  obtain ⟨h1, h2, ⟨m0, m1, m2, m3⟩, h4, h5, h6, h7⟩ := hR
  have ek : (S 43 0).toNat = 2 := by omega
  have ea0 : moonS S px.toInt py.toInt r 44 0 = S 44 0 ∧ moonS S px.toInt py.toInt r 45 0 = S 45 0 ∧ moonS S px.toInt py.toInt r 46 0 = S 46 0 := by
    refine ⟨?_, ?_, ?_⟩
    · show cond (Nat.beq 0 (S 43 0).toNat) (r.1 : Int) (S 44 0) = S 44 0
      rw [ek]
      rfl
    · show cond (Nat.beq 0 (S 43 0).toNat) px.toInt (S 45 0) = S 45 0
      rw [ek]
      rfl
    · show cond (Nat.beq 0 (S 43 0).toNat) py.toInt (S 46 0) = S 46 0
      rw [ek]
      rfl
  have ea1 : moonS S px.toInt py.toInt r 44 1 = S 44 1 ∧ moonS S px.toInt py.toInt r 45 1 = S 45 1 ∧ moonS S px.toInt py.toInt r 46 1 = S 46 1 := by
    refine ⟨?_, ?_, ?_⟩
    · show cond (Nat.beq 1 (S 43 0).toNat) (r.1 : Int) (S 44 1) = S 44 1
      rw [ek]
      rfl
    · show cond (Nat.beq 1 (S 43 0).toNat) px.toInt (S 45 1) = S 45 1
      rw [ek]
      rfl
    · show cond (Nat.beq 1 (S 43 0).toNat) py.toInt (S 46 1) = S 46 1
      rw [ek]
      rfl
  have ea2 : moonS S px.toInt py.toInt r 44 2 = r.1 ∧ moonS S px.toInt py.toInt r 45 2 = px.toInt ∧ moonS S px.toInt py.toInt r 46 2 = py.toInt := by
    refine ⟨?_, ?_, ?_⟩
    · show cond (Nat.beq 2 (S 43 0).toNat) (r.1 : Int) (S 44 2) = r.1
      rw [ek]
      rfl
    · show cond (Nat.beq 2 (S 43 0).toNat) px.toInt (S 45 2) = px.toInt
      rw [ek]
      rfl
    · show cond (Nat.beq 2 (S 43 0).toNat) py.toInt (S 46 2) = py.toInt
      rw [ek]
      rfl
  refine ⟨h1, h2, ⟨⟨?_, fun q => absurd (show S 37 0 = 0 from q) h37⟩, ⟨fun hq => ?_, fun hq => ?_⟩, ⟨fun hq => ?_, fun hq => ?_⟩, ⟨fun hq => ?_, fun hq => ?_⟩⟩, h4, h5, h6, h7⟩
  · show mc.toInt = S 43 0 + 1
    omega
  · have q := m1.1 (by omega)
    rw [ea0.1, ea0.2.1, ea0.2.2]
    refine ⟨q.1, q.2.1, q.2.2.1, fun j hj => ?_, q.2.2.2.2.1, q.2.2.2.2.2⟩
    show _ = r.2.2 (9 * 0 + j)
    rw [hlow (9 * 0 + j) (lt_aux (k := 0) hj hs0 2 (by decide))]
    exact q.2.2.2.1 j hj
  · have hq : S 43 0 + 1 ≤ ((0 : Nat) : Int) := hq
    omega
  · have q := m2.1 (by omega)
    rw [ea1.1, ea1.2.1, ea1.2.2]
    refine ⟨q.1, q.2.1, q.2.2.1, fun j hj => ?_, q.2.2.2.2.1, q.2.2.2.2.2⟩
    show _ = r.2.2 (9 * 1 + j)
    rw [hlow (9 * 1 + j) (lt_aux (k := 1) hj hs1 2 (by decide))]
    exact q.2.2.2.1 j hj
  · have hq : S 43 0 + 1 ≤ ((1 : Nat) : Int) := hq
    omega
  · rw [ea2.1, ea2.2.1, ea2.2.2]
    refine ⟨hlen, rfl, rfl, fun j hj => ?_, fun j hj => ?_, hah⟩
    · exact hmr j (Int.ofNat_lt.mp hj)
    · rw [show ((r.1 : Nat) : Int).toNat = r.1 from rfl]
      exact hdb j (Int.ofNat_lt.mp hj)
  · have hq : S 43 0 + 1 ≤ ((2 : Nat) : Int) := hq
    omega
theorem CF.mono2 {α : Type} {a : Rd α} {g w g' w' : Int} {ok ok' : α → Prop} (h : CF a g w g' w' ok) (hm : g = 0 → g' = 0 → ∀ x, a = .inr x → ok x → ok' x) : CF a g w g' w' ok' := by
  rcases h with h | ⟨q1, h | ⟨x, q2, q3, q4, q5⟩⟩
  · exact Or.inl h
  · exact Or.inr ⟨q1, Or.inl h⟩
  · exact CF.ok q1 q2 q3 q4 (hm q1 q3 x q2 q5)
theorem up2N {v : Vf} {k j t : Nat} {x : Int32} (h : t ≠ k) : up2 v k j x t = v t := by
  show cond (Nat.beq t k) _ _ = _
  rw [beqN h]
  rfl
theorem chk_no {P : Prop} [Decidable P] {k q : Int} {x : Unit} (h : chk (decide P) k q = .inr x) : ¬ P := by
  intro hp
  rw [decide_eq_true hp] at h
  cases h
end
section
/-! a clause, the text -/
def clauseF (T : Nat → Int32) (n : Int) (S : St0) (q : Int) : Rd (Int × St0) :=
  if S 37 0 = 0 ∧ tc T q ≠ 103 then .inl (1, q)
  else if tc T q = 103 then rb (groundF T n S q (q + 1)) (fun z => .inr (z.2, groundS S z.1.1.1.1.1.2.1 z.1.1.1.1.2.1 z.1.1.2.1 z.1.2.1))
  else if tc T q = 99 then rb (cellF T n S q (q + 1)) (fun z => .inr (z.2, cellS S (plc (S 37 0) z.1.1.1.1.2) z.1.1.2.1 z.1.2.1))
  else if tc T q = 109 then rb (moonF T n S q (q + 1)) (fun z => .inr (z.2, moonS S z.1.1.1.2.1 z.1.1.2.1 z.1.2))
  else if tc T q = 104 then rb (houseF T n S q (q + 1)) (fun z => .inr (z.2, houseS S (plc (S 37 0) z.1.1.1.2) z.1.2.1))
  else if tc T q = 107 then rb (crackF T n S q (q + 1)) (fun z => .inr (z.2, crackS S (plc (S 37 0) z.1.1.1.1.1.2) z.1.1.1.1.2.1 z.1.2.1))
  else if tc T q = 119 then rb (wellF T n S q (q + 1)) (fun z => .inr (z.2, wellS S (plc (S 37 0) z.1.1.1.2) z.1.2.1))
  else if tc T q = 100 then rb (deedF T n S q (q + 1)) (fun z => .inr (z.2, deedS S z.1.1.1.2.1 z.1.1.2.1))
  else .inl (1, q)
def textF (T : Nat → Int32) (n : Int) : Nat → Int → St0 → Rd St0
  | 0, _, S => .inr S
  | f + 1, p, S => if skp T n p < n then rb (clauseF T n S (skp T n p)) (fun y => textF T n f y.1 y.2) else .inr S
/-- nothing told so far -/
def Z0 (S : St0) : Prop := S 37 0 = 0 ∧ S 38 0 = 0 ∧ S 41 0 = 0 ∧ S 43 0 = 0 ∧ S 48 0 = 0 ∧ S 51 0 = 0 ∧ S 55 0 = 0 ∧ S 58 0 = 0
theorem CF.map {α β : Type} {a : Rd α} {f : α → β} {g w g' w' : Int} {ok : α → Prop} {ok' : β → Prop} (h : CF a g w g' w' ok) (hm : ∀ x, ok x → ok' (f x)) : CF (rb a (fun z => .inr (f z))) g w g' w' ok' := by
  rcases h with h | ⟨q1, ⟨k, q, q2, q3, q4⟩ | ⟨x, q2, q3, q4, q5⟩⟩
  · exact Or.inl h
  · exact CF.no q1 (by rw [q2]; rfl) q3 q4
  · exact CF.ok q1 (x := f x) (by rw [q2]; rfl) q3 q4 (hm x q5)
theorem MF.map {α β : Type} {a : Rd α} {f : α → β} {w r w' : Int} {ok : α → Prop} {ok' : β → Prop} (h : MF a w r w' ok) (hm : ∀ x, ok x → ok' (f x)) : MF (rb a (fun z => .inr (f z))) w r w' ok' := by
  rcases h with ⟨k, q, q2, q3, q4⟩ | ⟨x, q2, q3, q4, q5⟩
  · exact MF.no (by rw [q2]; rfl) q3 q4
  · exact MF.ok (x := f x) (by rw [q2]; rfl) q3 q4 (hm x q5)
theorem cl_no {T : Nat → Int32} {n : Int} {S : St0} {q : Int} (h : (S 37 0 = 0 ∧ tc T q ≠ 103) ∨ (tc T q ≠ 103 ∧ tc T q ≠ 99 ∧ tc T q ≠ 109 ∧ tc T q ≠ 104 ∧ tc T q ≠ 107 ∧ tc T q ≠ 119 ∧ tc T q ≠ 100)) : clauseF T n S q = .inl (1, q) := by
  unfold clauseF
  rcases h with h | ⟨h1, h2, h3, h4, h5, h6, h7⟩
  · rw [if_pos h]
  · rw [if_neg h1, if_neg h2, if_neg h3, if_neg h4, if_neg h5, if_neg h6, if_neg h7, ite_self]
theorem cl_g {T : Nat → Int32} {n : Int} {S : St0} {q : Int} (h : tc T q = 103) : clauseF T n S q = rb (groundF T n S q (q + 1)) (fun z => .inr (z.2, groundS S z.1.1.1.1.1.2.1 z.1.1.1.1.2.1 z.1.1.2.1 z.1.2.1)) := by
  unfold clauseF
  rw [if_neg (fun z => z.2 h), if_pos h]
theorem cl_c {T : Nat → Int32} {n : Int} {S : St0} {q : Int} (h : tc T q = 99) (hS : S 37 0 ≠ 0) : clauseF T n S q = rb (cellF T n S q (q + 1)) (fun z => .inr (z.2, cellS S (plc (S 37 0) z.1.1.1.1.2) z.1.1.2.1 z.1.2.1)) := by
  unfold clauseF
  rw [if_neg (fun z => hS z.1), if_neg (by omega), if_pos h]
theorem cl_m {T : Nat → Int32} {n : Int} {S : St0} {q : Int} (h : tc T q = 109) (hS : S 37 0 ≠ 0) : clauseF T n S q = rb (moonF T n S q (q + 1)) (fun z => .inr (z.2, moonS S z.1.1.1.2.1 z.1.1.2.1 z.1.2)) := by
  unfold clauseF
  rw [if_neg (fun z => hS z.1), if_neg (by omega), if_neg (by omega), if_pos h]
theorem cl_h {T : Nat → Int32} {n : Int} {S : St0} {q : Int} (h : tc T q = 104) (hS : S 37 0 ≠ 0) : clauseF T n S q = rb (houseF T n S q (q + 1)) (fun z => .inr (z.2, houseS S (plc (S 37 0) z.1.1.1.2) z.1.2.1)) := by
  unfold clauseF
  rw [if_neg (fun z => hS z.1), if_neg (by omega), if_neg (by omega), if_neg (by omega), if_pos h]
theorem cl_k {T : Nat → Int32} {n : Int} {S : St0} {q : Int} (h : tc T q = 107) (hS : S 37 0 ≠ 0) : clauseF T n S q = rb (crackF T n S q (q + 1)) (fun z => .inr (z.2, crackS S (plc (S 37 0) z.1.1.1.1.1.2) z.1.1.1.1.2.1 z.1.2.1)) := by
  unfold clauseF
  rw [if_neg (fun z => hS z.1), if_neg (by omega), if_neg (by omega), if_neg (by omega), if_neg (by omega), if_pos h]
theorem cl_w {T : Nat → Int32} {n : Int} {S : St0} {q : Int} (h : tc T q = 119) (hS : S 37 0 ≠ 0) : clauseF T n S q = rb (wellF T n S q (q + 1)) (fun z => .inr (z.2, wellS S (plc (S 37 0) z.1.1.1.2) z.1.2.1)) := by
  unfold clauseF
  rw [if_neg (fun z => hS z.1), if_neg (by omega), if_neg (by omega), if_neg (by omega), if_neg (by omega), if_neg (by omega), if_pos h]
theorem cl_d {T : Nat → Int32} {n : Int} {S : St0} {q : Int} (h : tc T q = 100) (hS : S 37 0 ≠ 0) : clauseF T n S q = rb (deedF T n S q (q + 1)) (fun z => .inr (z.2, deedS S z.1.1.1.2.1 z.1.1.2.1)) := by
  unfold clauseF
  rw [if_neg (fun z => hS z.1), if_neg (by omega), if_neg (by omega), if_neg (by omega), if_neg (by omega), if_neg (by omega), if_neg (by omega), if_pos h]
theorem tx_end {T : Nat → Int32} {n : Int} {f : Nat} {p : Int} {S : St0} (h : n ≤ skp T n p) : textF T n f p S = .inr S := by
  cases f with
  | zero => rfl
  | succ f => exact if_neg (by omega)
theorem tx_no {T : Nat → Int32} {n : Int} {f : Nat} {p z : Int} {S : St0} {k q : Int} (hz : z = skp T n p) (h : z < n) (hc : clauseF T n S z = .inl (k, q)) : textF T n (f + 1) p S = .inl (k, q) := by
  subst hz
  show (if skp T n p < n then _ else _) = _
  rw [if_pos h, hc]
  rfl
theorem tx_on {T : Nat → Int32} {n : Int} {f : Nat} {p z : Int} {S : St0} {y : Int × St0} (hz : z = skp T n p) (h : z < n) (hc : clauseF T n S z = .inr y) : textF T n (f + 1) p S = textF T n f y.1 y.2 := by
  subst hz
  show (if skp T n p < n then _ else _) = _
  rw [if_pos h, hc]
  rfl
theorem rp_0 {S : St0} {vp : Vf} {cx ck : Int32} (hZ : Z0 S) (h0 : (vp 0 0).toInt = 0) (h1 : (vp 1 0).toInt = 0) (hc : ck.toInt = 0) (hx : cx = 0) (h5 : (vp 5 0).toInt = 0) (h6 : (vp 60 0).toInt = 0) (h7 : (vp 70 0).toInt = 0) (h8 : (vp 80 0).toInt = 0) (h9 : (vp 90 0).toInt = 0) (hu0 : vp 20 0 = 1 ∧ vp 23 0 = 0 ∧ vp 23 1 = 0) (hu1 : vp 30 0 = 1 ∧ vp 33 0 = 0 ∧ vp 33 1 = 0) (hu2 : vp 40 0 = 1 ∧ vp 43 0 = 0 ∧ vp 43 1 = 0) : Rp S vp cx ck := by
  obtain ⟨z1, z2, z3, z4, z5, z6, z7, z8⟩ := hZ
  refine ⟨⟨by omega, by omega, fun c hc => ?_, Or.inl ⟨z1, z2⟩⟩, ⟨by omega, by omega, fun c hc => ?_⟩, ⟨⟨by omega, fun _ => z4⟩, ⟨fun q => ?_, fun _ => hu0⟩, ⟨fun q => ?_, fun _ => hu1⟩, ⟨fun q => ?_, fun _ => hu2⟩⟩, ⟨by omega, fun k hk => ?_⟩, ⟨by omega, fun k hk => ?_⟩, ⟨by omega, fun k hk => ?_⟩, ⟨by omega, fun k hk => ?_⟩⟩
  · rw [z1, Int.zero_mul] at hc; omega
  · rw [z3, hx]
    show (0 : Int32).toBitVec.getLsbD c = false
    exact BitVec.getLsbD_zero
  · rw [z4] at q; omega
  · rw [z4] at q; omega
  · rw [z4] at q; omega
  · rw [z5] at hk; omega
  · rw [z6] at hk; omega
  · rw [z7] at hk; omega
  · rw [z8] at hk; omega
/-- the loop over the clauses, as the class does it -/
def nextS (a : Rd (Int × St0)) (S : St0) : St0 := match a with
  | .inl _ => S
  | .inr y => y.2
def TxI (T : Nat → Int32) (n : Int) (S0 : St0) (i : Nat) (p g w : Int) (S : St0) (vp : Vf) (cx ck : Int32) : Prop :=
  (g ≠ 0 ∧ textF T n 251 0 S0 = .inl (g, w)) ∨ (g = 0 ∧ w = -1 ∧ textF T n 251 0 S0 = textF T n (251 - i) p S ∧ Rp S vp cx ck)
theorem okF.clause {T : Nat → Int32} {n : Int} {S : St0} {q : Int} : okF (clauseF T n S q) := by
  have hb : ∀ {α : Type} {a : Rd α} {f : α → Int × St0}, okF a → okF (rb a (fun z => (.inr (f z) : Rd (Int × St0)))) := by
    intro α a f h k q hq
    cases a with
    | inl e => cases hq; exact h _ _ rfl
    | inr x => cases hq
  have h1 : okF (.inl (1, q) : Rd (Int × St0)) := fun k q h => by cases h; decide
  have ck : ∀ {b : Bool} {k q : Int}, 1 ≤ k ∧ k ≤ 4 → okF (Jvm.Pilot.@@N@@.chk b k q) := fun h => okF.chk h
  have pl : ∀ {W D p : Int}, okF (placeF T n W D p) := okF.num.th (fun _ => okF.num)
  unfold clauseF
  split
  · exact h1
  split
  · exact hb (((((((ck (by decide)).th (fun _ => okF.num)).th (fun _ => okF.num)).th (fun _ => ck (by decide))).th (fun _ => okF.num)).th (fun _ => okF.num)).th (fun _ => okF.sgn))
  split
  · exact hb ((((((ck (by decide)).th (fun _ => pl)).th (fun _ => ck (by decide))).th (fun _ => okF.num)).th (fun _ => okF.num)).th (fun _ => okF.sgn))
  split
  · exact hb (((((ck (by decide)).th (fun _ => okF.num)).th (fun _ => okF.num)).th (fun _ => okF.row _ _ _ _)).th (fun _ => okF.sgn))
  split
  · exact hb (((((ck (by decide)).th (fun _ => pl)).th (fun _ => ck (by decide))).th (fun _ => okF.num)).th (fun _ => okF.sgn))
  split
  · exact hb (((((((ck (by decide)).th (fun _ => pl)).th (fun _ => okF.num)).th (fun _ => ck (by decide))).th (fun _ => ck (by decide))).th (fun _ => okF.num)).th (fun _ => okF.sgn))
  split
  · exact hb (((((ck (by decide)).th (fun _ => pl)).th (fun _ => ck (by decide))).th (fun _ => okF.num)).th (fun _ => okF.sgn))
  split
  · exact hb (((((ck (by decide)).th (fun _ => okF.num)).th (fun _ => okF.num)).th (fun _ => ck (by decide))).th (fun _ => okF.sgn))
  · exact h1
theorem TxI.start {T : Nat → Int32} {n : Int} {S0 : St0} {vp : Vf} {cx ck : Int32} (h : Rp S0 vp cx ck) : TxI T n S0 0 0 0 (-1) S0 vp cx ck := Or.inr ⟨rfl, rfl, rfl, h⟩
theorem TxI.next {T : Nat → Int32} {n : Int} {S0 S : St0} {i : Nat} {p z g w g1 w1 p1 : Int} {vp vp1 : Vf} {cx ck cx1 ck1 : Int32} (h : TxI T n S0 i p g w S vp cx ck) (hg : g = 0) (hi : i < 251) (hz : z = skp T n p) (hn : z < n) (hc : CF (clauseF T n S z) g w g1 w1 (fun y => p1 = y.1 ∧ Rp y.2 vp1 cx1 ck1)) : TxI T n S0 (i + 1) p1 g1 w1 (nextS (clauseF T n S z) S) vp1 cx1 ck1 := by
  rcases h with h | ⟨h1, h2, h3, h4⟩
  · exact absurd hg h.1
  · rw [show 251 - i = (251 - (i + 1)) + 1 by omega] at h3
    rcases hc with q | ⟨-, ⟨k, q, q1, q2, q3⟩ | ⟨y, q1, q2, q3, q4⟩⟩
    · exact absurd hg q.1
    · have := okF.clause _ _ q1
      exact Or.inl ⟨by omega, by rw [h3, tx_no hz hn q1, q2, q3]⟩
    · refine Or.inr ⟨q2, by omega, ?_, ?_⟩
      · rw [h3, tx_on hz hn q1, q1]
        obtain ⟨y1, y2⟩ := y
        have e : p1 = y1 := q4.1
        subst e
        rfl
      · rw [q1]
        exact q4.2
theorem TxI.fin {T : Nat → Int32} {n : Int} {S0 S : St0} {i : Nat} {p g w : Int} {vp : Vf} {cx ck : Int32} (h : TxI T n S0 i p g w S vp cx ck) (he : g ≠ 0 ∨ n ≤ skp T n p) : CF (textF T n 251 0 S0) 0 (-1) g w (fun S => Rp S vp cx ck) := by
  rcases h with ⟨h1, h2⟩ | ⟨h1, h2, h3, h4⟩
  · exact CF.no rfl h2 rfl rfl
  · refine CF.ok rfl (x := S) ?_ h1 h2 h4
    rw [h3]
    exact tx_end (he.resolve_left (fun q => q h1))
end
section
/-! ===== what a text tells is sound: places within the ground, a crack told once ===== -/
def okS (S : St0) : Prop := (0 ≤ S 37 0 ∧ 0 ≤ S 48 0 ∧ 0 ≤ S 51 0 ∧ 0 ≤ S 55 0) ∧ (S 37 0 = 0 → S 48 0 = 0 ∧ S 51 0 = 0 ∧ S 55 0 = 0) ∧ (∀ k : Nat, (k : Int) < S 48 0 → (0 ≤ S 49 k ∧ S 49 k < S 37 0 * S 38 0) ∧ 0 ≤ S 50 k ∧ S 50 k ≤ 99) ∧ (∀ k : Nat, (k : Int) < S 51 0 → (0 ≤ S 52 k ∧ S 52 k < S 37 0 * S 38 0) ∧ 0 ≤ S 53 k ∧ S 53 k ≤ 1) ∧ (∀ k i : Nat, (k : Int) < S 51 0 → i < k → ¬ (S 52 i = S 52 k ∧ S 53 i = S 53 k)) ∧ (∀ k : Nat, (k : Int) < S 55 0 → 0 ≤ S 56 k ∧ S 56 k < S 37 0 * S 38 0)
theorem any2_all {f g : Nat → Int} {c d : Int} : ∀ n : Nat, anyE2 f g c d n = false → ∀ i, i < n → ¬ (f i = c ∧ g i = d)
  | 0, _, i, hi => absurd hi (by omega)
  | n + 1, h, i, hi => by
    have h : (anyE2 f g c d n || decide (f n = c ∧ g n = d)) = false := h
    rw [Bool.or_eq_false_iff] at h
    by_cases q : i = n
    · subst q
      exact of_decide_eq_false h.2
    · exact any2_all n h.1 i (by omega)
theorem chk_f {b : Bool} {k q : Int} {x : Unit} (h : chk b k q = .inr x) : b = false := by
  cases b
  · rfl
  · cases h
theorem rb_get {α β : Type} {a : Rd α} {f : α → β} {y : β} (h : rb a (fun z => (.inr (f z) : Rd β)) = .inr y) : ∃ z, a = .inr z ∧ y = f z := by
  cases a with
  | inl e => cases h
  | inr z => exact ⟨z, rfl, by cases h; rfl⟩
theorem ok_ground {S : St0} {w d b s : Int} (h : okS S) (h0 : S 37 0 = 0) (hw : 1 ≤ w) : okS (groundS S w d b s) := by
  obtain ⟨a0, a1, a2, a3, a4, a5⟩ := h
  obtain ⟨z1, z2, z3⟩ := a1 h0
  refine ⟨⟨(show 0 ≤ w by omega), a0.2⟩, fun q => ⟨z1, z2, z3⟩, fun k hk => ?_, fun k hk => ?_, fun k i hk => ?_, fun k hk => ?_⟩
  · have hk : (k : Int) < S 48 0 := hk
    omega
  · have hk : (k : Int) < S 51 0 := hk
    omega
  · have hk : (k : Int) < S 51 0 := hk
    omega
  · have hk : (k : Int) < S 55 0 := hk
    omega
theorem ok_house {S : St0} {c x : Int} (h : okS S) (hW : S 37 0 ≠ 0) (hc : 0 ≤ c ∧ c < S 37 0 * S 38 0) (hx : 0 ≤ x ∧ x ≤ 99) : okS (houseS S c x) := by
  obtain ⟨a0, a1, a2, a3, a4, a5⟩ := h
  refine ⟨⟨a0.1, (show 0 ≤ S 48 0 + 1 by omega), a0.2.2⟩, fun q => absurd q hW, fun k hk => ?_, a3, a4, a5⟩
  have hk : (k : Int) < S 48 0 + 1 := hk
  show (0 ≤ cond (Nat.beq k (S 48 0).toNat) c (S 49 k) ∧ cond (Nat.beq k (S 48 0).toNat) c (S 49 k) < S 37 0 * S 38 0) ∧ 0 ≤ cond (Nat.beq k (S 48 0).toNat) x (S 50 k) ∧ cond (Nat.beq k (S 48 0).toNat) x (S 50 k) ≤ 99
  by_cases q : k = (S 48 0).toNat
  · rw [q, Nat.beq_refl]
    exact ⟨hc, hx⟩
  · rw [beqN q]
    exact a2 k (by omega)
theorem ok_well {S : St0} {c x : Int} (h : okS S) (hW : S 37 0 ≠ 0) (hc : 0 ≤ c ∧ c < S 37 0 * S 38 0) : okS (wellS S c x) := by
  obtain ⟨a0, a1, a2, a3, a4, a5⟩ := h
  refine ⟨⟨a0.1, a0.2.1, a0.2.2.1, (show 0 ≤ S 55 0 + 1 by omega)⟩, fun q => absurd q hW, a2, a3, a4, fun k hk => ?_⟩
  have hk : (k : Int) < S 55 0 + 1 := hk
  show 0 ≤ cond (Nat.beq k (S 55 0).toNat) c (S 56 k) ∧ cond (Nat.beq k (S 55 0).toNat) c (S 56 k) < S 37 0 * S 38 0
  by_cases q : k = (S 55 0).toNat
  · rw [q, Nat.beq_refl]
    exact hc
  · rw [beqN q]
    exact a5 k (by omega)
theorem ok_crack {S : St0} {c d x : Int} (h : okS S) (hW : S 37 0 ≠ 0) (hc : 0 ≤ c ∧ c < S 37 0 * S 38 0) (hd : 0 ≤ d ∧ d ≤ 1) (hn : anyE2 (S 52) (S 53) c d (S 51 0).toNat = false) : okS (crackS S c d x) := by
  obtain ⟨a0, a1, a2, a3, a4, a5⟩ := h
  refine ⟨⟨a0.1, a0.2.1, (show 0 ≤ S 51 0 + 1 by omega), a0.2.2.2⟩, fun q => absurd q hW, a2, fun k hk => ?_, fun k i hk hi => ?_, a5⟩
  · have hk : (k : Int) < S 51 0 + 1 := hk
    show (0 ≤ cond (Nat.beq k (S 51 0).toNat) c (S 52 k) ∧ cond (Nat.beq k (S 51 0).toNat) c (S 52 k) < S 37 0 * S 38 0) ∧ 0 ≤ cond (Nat.beq k (S 51 0).toNat) d (S 53 k) ∧ cond (Nat.beq k (S 51 0).toNat) d (S 53 k) ≤ 1
    by_cases q : k = (S 51 0).toNat
    · rw [q, Nat.beq_refl]
      exact ⟨hc, hd⟩
    · rw [beqN q]
      exact a3 k (by omega)
  · have hk : (k : Int) < S 51 0 + 1 := hk
    show ¬ (cond (Nat.beq i (S 51 0).toNat) c (S 52 i) = cond (Nat.beq k (S 51 0).toNat) c (S 52 k) ∧ cond (Nat.beq i (S 51 0).toNat) d (S 53 i) = cond (Nat.beq k (S 51 0).toNat) d (S 53 k))
    rw [beqN (show i ≠ (S 51 0).toNat by omega)]
    by_cases q : k = (S 51 0).toNat
    · rw [q, Nat.beq_refl]
      exact any2_all _ hn i (by omega)
    · rw [beqN q]
      exact a4 k i (by omega) hi
theorem clause_ok {T : Nat → Int32} {n : Int} {S : St0} {q : Int} {y : Int × St0} (hS : okS S) (h : clauseF T n S q = .inr y) : okS y.2 := by
  by_cases c1 : tc T q = 103
  · rw [cl_g c1] at h
    obtain ⟨z, hz, rfl⟩ := rb_get h
    have g := th_get (th_get (th_get (th_get (th_get hz).1).1).1).1
    have g6 := th_get g.1
    have q1 := chk_no g6.1
    have q2 := num_rng g6.2
    have q3 := hS.1.1
    exact ok_ground hS (by omega) q2.1
  · by_cases c0 : S 37 0 = 0
    · rw [cl_no (Or.inl ⟨c0, c1⟩)] at h
      cases h
    · by_cases c2 : tc T q = 99
      · rw [cl_c c2 c0] at h
        obtain ⟨z, hz, rfl⟩ := rb_get h
        exact hS
      · by_cases c3 : tc T q = 109
        · rw [cl_m c3 c0] at h
          obtain ⟨z, hz, rfl⟩ := rb_get h
          exact hS
        · by_cases c4 : tc T q = 104
          · rw [cl_h c4 c0] at h
            obtain ⟨z, hz, rfl⟩ := rb_get h
            have g := th_get (th_get (th_get (th_get hz).1).1).1
            have q1 := place_lt g.2
            exact ok_house hS c0 ⟨q1.2.2.1, q1.2.2.2⟩ (num_rng (th_get (th_get hz).1).2)
          · by_cases c5 : tc T q = 107
            · rw [cl_k c5 c0] at h
              obtain ⟨z, hz, rfl⟩ := rb_get h
              have g2 := th_get (th_get hz).1
              have g3 := th_get g2.1
              have g4 := th_get g3.1
              have g5 := th_get g4.1
              have g6 := th_get g5.1
              have q1 := place_lt g6.2
              exact ok_crack hS c0 ⟨q1.2.2.1, q1.2.2.2⟩ (num_rng g5.2) (chk_f g3.2)
            · by_cases c6 : tc T q = 119
              · rw [cl_w c6 c0] at h
                obtain ⟨z, hz, rfl⟩ := rb_get h
                have g := th_get (th_get (th_get (th_get hz).1).1).1
                have q1 := place_lt g.2
                exact ok_well hS c0 ⟨q1.2.2.1, q1.2.2.2⟩
              · by_cases c7 : tc T q = 100
                · rw [cl_d c7 c0] at h
                  obtain ⟨z, hz, rfl⟩ := rb_get h
                  exact hS
                · rw [cl_no (Or.inr ⟨c1, c2, c3, c4, c5, c6, c7⟩)] at h
                  cases h
theorem text_ok {T : Nat → Int32} {n : Int} : ∀ (f : Nat) (p : Int) (S S' : St0), textF T n f p S = .inr S' → okS S → okS S'
  | 0, p, S, S', h, hS => by
    cases h
    exact hS
  | f + 1, p, S, S', h, hS => by
    by_cases hn : skp T n p < n
    · cases hc : clauseF T n S (skp T n p) with
      | inl e =>
        obtain ⟨k1, q1⟩ := e
        rw [tx_no rfl hn hc] at h
        cases h
      | inr y =>
        rw [tx_on rfl hn hc] at h
        exact text_ok f _ _ _ h (clause_ok hS hc)
    · rw [tx_end (by omega)] at h
      cases h
      exact hS
theorem ok_0 {S : St0} (h : Z0 S) : okS S := by
  obtain ⟨z1, z2, z3, z4, z5, z6, z7, z8⟩ := h
  refine ⟨⟨by omega, by omega, by omega, by omega⟩, fun _ => ⟨z5, z6, z7⟩, fun k hk => ?_, fun k hk => ?_, fun k i hk => ?_, fun k hk => ?_⟩ <;> omega
end
section
/-! ===== the reference: what its rows hold ===== -/
theorem lc_lt {z : Int32} {x y : Int64} (e : z = lg_cmp x y) (h : z < 0) : x.toInt < y.toInt := Int64.lt_iff_toInt_lt.mp ((lg_cmp_lt x y).mp (e ▸ h))
theorem lc_nlt {z : Int32} {x y : Int64} (e : z = lg_cmp x y) (h : ¬ z < 0) : y.toInt ≤ x.toInt := Int.not_lt.mp fun q => h (e ▸ (lg_cmp_lt x y).mpr (Int64.lt_iff_toInt_lt.mpr q))
theorem lc_gt {z : Int32} {x y : Int64} (e : z = lg_cmp x y) (h : 0 < z) : y.toInt < x.toInt := Int64.lt_iff_toInt_lt.mp ((lg_cmp_gt x y).mp (e ▸ h))
theorem lc_ngt {z : Int32} {x y : Int64} (e : z = lg_cmp x y) (h : ¬ 0 < z) : x.toInt ≤ y.toInt := Int.not_lt.mp fun q => h (e ▸ (lg_cmp_gt x y).mpr (Int64.lt_iff_toInt_lt.mpr q))
def bnd (f : Nat → Int32) (n : Nat) (lo hi : Int) : Prop := ∀ j, j < n → lo ≤ (f j).toInt ∧ (f j).toInt ≤ hi
def mdG (v : Vf) : Prop := (0 ≤ (v 0 0).toInt ∧ (v 0 0).toInt ≤ 6) ∧ (0 ≤ (v 1 0).toInt ∧ (v 1 0).toInt ≤ 6) ∧ (v 0 0).toInt * (v 1 0).toInt ≤ 24
def mdC (v : Vf) : Prop := (0 ≤ (v 4 0).toInt ∧ (v 4 0).toInt ≤ 3) ∧ (0 ≤ (v 9 0).toInt ∧ (v 9 0).toInt ≤ 6) ∧ (0 ≤ (v 12 0).toInt ∧ (v 12 0).toInt ≤ 6) ∧ (0 ≤ (v 16 0).toInt ∧ (v 16 0).toInt ≤ 5) ∧ (0 ≤ (v 19 0).toInt ∧ (v 19 0).toInt ≤ 4) ∧ (1 ≤ (v 22 0).toInt ∧ (v 22 0).toInt ≤ 729)
def mdZ (v : Vf) : Prop := (1 ≤ (v 0 0).toInt ∧ 1 ≤ (v 1 0).toInt) ∨ ((v 0 0).toInt = 0 ∧ (v 4 0).toInt = 0 ∧ (v 9 0).toInt = 0 ∧ (v 12 0).toInt = 0 ∧ (v 16 0).toInt = 0 ∧ (v 67 0).toInt = 0)
def mdM (v : Vf) : Prop := bnd (v 5) 3 0 9 ∧ ((v 4 0).toInt = 0 ∨ bnd (v 5) 3 1 9) ∧ (∀ j : Nat, (j : Int) < (v 4 0).toInt → (0 ≤ (v 6 j).toInt ∧ (v 6 j).toInt ≤ 8) ∧ (0 ≤ (v 7 j).toInt ∧ (v 7 j).toInt ≤ 8)) ∧ bnd (v 8) 27 (-9) 9
def mdA (v : Vf) : Prop := bnd (v 10) 6 0 23 ∧ bnd (v 13) 6 0 23 ∧ bnd (v 17) 5 0 23 ∧ ((v 0 0).toInt = 0 ∨ (bnd (v 2) 24 0 99 ∧ bnd (v 3) 24 0 9)) ∧ (∀ j : Nat, (j : Int) < (v 16 0).toInt → 0 ≤ (v 18 j).toInt ∧ (v 18 j).toInt ≤ 99)
def mdS (v : Vf) : Prop := (0 ≤ (v 23 0).toInt ∧ (v 23 0).toInt ≤ 900000) ∧ bnd (v 24) 3 0 999 ∧ bnd (v 25) 24 0 90 ∧ (0 ≤ (v 27 0).toInt ∧ (v 27 0).toInt ≤ 23) ∧ (0 ≤ (v 29 0).toInt ∧ (v 29 0).toInt ≤ 99) ∧ 0 ≤ (v 30 0).toInt
def mdT (v : Vf) : Prop := (0 ≤ (v 32 0).toInt ∧ (v 32 0).toInt ≤ 250) ∧ (0 ≤ (v 67 0).toInt ∧ (v 67 0).toInt ≤ 12) ∧ bnd (v 68) 12 0 23 ∧ bnd (v 69) 12 0 999 ∧ (0 ≤ (v 75 0).toInt ∧ (v 75 0).toInt ≤ 30)
def imI (f : Nat → Int32) (i : Nat) : Prop := (∀ c, c < 24 → 0 ≤ (f (i + c)).toInt ∧ (f (i + c)).toInt ≤ 90) ∧ (∀ c, c < 3 → 0 ≤ (f (i + 30 + c)).toInt ∧ (f (i + 30 + c)).toInt ≤ 999) ∧ (0 ≤ (f (i + 33)).toInt ∧ (f (i + 33)).toInt ≤ 900000) ∧ (0 ≤ (f (i + 34)).toInt ∧ (f (i + 34)).toInt ≤ 23) ∧ (0 ≤ (f (i + 36)).toInt ∧ (f (i + 36)).toInt ≤ 99) ∧ 0 ≤ (f (i + 37)).toInt
def MdH (v : Vf) : Prop := mdG v ∧ mdC v ∧ mdZ v ∧ mdM v ∧ mdA v ∧ mdS v ∧ mdT v
def MdI (v : Vf) : Prop := MdH v ∧ v 62 0 = -1 ∧ imI (v 77) 0 ∧ imI (v 77) 40 ∧ bnd (v 47) 27 (-9) 9 ∧ bnd (v 49) 6 0 23 ∧ bnd (v 52) 6 0 23 ∧ bnd (v 56) 5 0 23
theorem mcell_lt {w d x y : Int32} (hw : 0 ≤ w.toInt ∧ w.toInt ≤ 6) (hc : w.toInt * d.toInt ≤ 24) (hx : 0 ≤ x.toInt) (hx1 : x.toInt < w.toInt) (hy : 0 ≤ y.toInt) (hy1 : y.toInt < d.toInt) : 0 ≤ w.toInt * y.toInt ∧ w.toInt * y.toInt + x.toInt < w.toInt * d.toInt := by
  have k1 : 0 ≤ w.toInt * y.toInt := Int.mul_nonneg hw.1 hy
  have k2 : w.toInt * (y.toInt + 1) ≤ w.toInt * d.toInt := Int.mul_le_mul_of_nonneg_left (by omega) hw.1
  have k3 : w.toInt * (y.toInt + 1) = w.toInt * y.toInt + w.toInt := by rw [Int.mul_add, Int.mul_one]
  constructor <;> omega
/-! ===== what its small methods answer ===== -/
def mPart (v : Vf) (k c t : Int32) : Int32 := if k = v 62 0 then 0 else v 8 ((9 * k + ((((t + v 24 k.toNatClampNeg) + v 6 k.toNatClampNeg * (c - c / v 0 0 * v 0 0)) + v 7 k.toNatClampNeg * (c / v 0 0)) - (((t + v 24 k.toNatClampNeg) + v 6 k.toNatClampNeg * (c - c / v 0 0 * v 0 0)) + v 7 k.toNatClampNeg * (c / v 0 0)) / v 5 k.toNatClampNeg * v 5 k.toNatClampNeg)).toNatClampNeg)
def mPullN (v : Vf) (c t : Int32) : Nat → Int32
  | 0 => 0
  | n + 1 => mPullN v c t n + mPart v (Int32.ofNat n) c t
def mPull (v : Vf) (c t : Int32) : Int32 := mPullN v c t (v 4 0).toNatClampNeg
def mStiff (v : Vf) (c : Int32) : Int32 := if v 3 c.toNatClampNeg - v 25 c.toNatClampNeg / 10 < 0 then 0 else v 3 c.toNatClampNeg - v 25 c.toNatClampNeg / 10
def mH (v : Vf) (c t : Int32) : Int32 := v 2 c.toNatClampNeg + mStiff v c * mPull v c t
def mDx (way : Int32) : Int32 := if way = 2 then 1 else if way = 4 then -1 else 0
def mDy (way : Int32) : Int32 := if way = 3 then 1 else if way = 1 then -1 else 0
def mIn (v : Vf) (x y : Int32) : Prop := (0 ≤ x.toInt ∧ x.toInt < (v 0 0).toInt) ∧ (0 ≤ y.toInt ∧ y.toInt < (v 1 0).toInt)
noncomputable def mBes (v : Vf) (c way : Int32) : Int32 := @ite _ (mIn v ((c - c / v 0 0 * v 0 0) + mDx way) (c / v 0 0 + mDy way)) (Classical.propDecidable _) (v 0 0 * (c / v 0 0 + mDy way) + ((c - c / v 0 0 * v 0 0) + mDx way)) (-1)
def mOpen (v : Vf) (k t : Int32) : Int32 := if mPull v (v 13 k.toNatClampNeg) t ≤ v 15 k.toNatClampNeg then 0 else 1
noncomputable def mOth (v : Vf) (k : Nat) : Int32 := mBes v (v 13 k) (if v 14 k = 0 then 2 else 3)
noncomputable def mB2 (v : Vf) (a b : Int32) (k : Nat) : Int32 := if v 13 k = b then (if mOth v k = a then 1 else 0) else 0
noncomputable def mBet (v : Vf) (a b : Int32) (k : Nat) : Int32 := if v 13 k = a then (if mOth v k = b then 1 else mB2 v a b k) else mB2 v a b k
noncomputable def mBarN (v : Vf) (a b t : Int32) : Nat → Int32
  | 0 => 0
  | n + 1 => if mBarN v a b t n ≠ 0 then 1 else if mBet v a b n ≠ 0 then (if mOpen v (Int32.ofNat n) t ≠ 0 then 1 else 0) else 0
theorem mBarN_s (v : Vf) (a b t : Int32) (n : Nat) : mBarN v a b t (n + 1) = if mBarN v a b t n ≠ 0 then 1 else if mBet v a b n ≠ 0 then (if mOpen v (Int32.ofNat n) t ≠ 0 then 1 else 0) else 0 := rfl
noncomputable def mBar (v : Vf) (a b t : Int32) : Int32 := mBarN v a b t (v 12 0).toNatClampNeg
noncomputable def mGo (v : Vf) (c way t : Int32) : Int32 := if way = 0 then c else if (mBes v c way).toInt < 0 then mBes v c way else if mBar v c (mBes v c way) t ≠ 0 ∨ v 29 0 < mH v (mBes v c way) t - mH v c t then -1 else mBes v c way
def mSl (v : Vf) (a b t : Int32) : Int32 := if a = b then 0 else mH v b t - mH v a t
def mCost (v : Vf) (a b t : Int32) : Int32 := if mSl v a b t < 0 then 0 else mSl v a b t
theorem i_ofN {x : Int32} (h : 0 ≤ x.toInt) : Int32.ofNat x.toNatClampNeg = x := by
  have hr := i_rng x
  have e := i_nat h
  refine i_eqr ?_
  rw [Int32.toInt_ofNat_of_lt (by omega)]
  exact e
theorem i_nat1 {x z : Int32} (h : 0 ≤ x.toInt) (hz : z.toInt = x.toInt + 1) : z.toNatClampNeg = x.toNatClampNeg + 1 := by
  have e := i_nat h
  have e2 := i_nat (x := z) (by omega)
  omega
theorem wd_pos {w d : Int} (hw : 0 ≤ w) (h : 1 ≤ w * d) : 1 ≤ w := by
  rcases Int.lt_or_le 0 w with q | q
  · omega
  · rw [show w = 0 by omega, Int.zero_mul] at h
    omega
theorem i_mulr {z x y : Int32} (e : z = x * y) (hx : 0 ≤ x.toInt ∧ x.toInt ≤ 9) (hy : -27 ≤ y.toInt ∧ y.toInt ≤ 27) : -243 ≤ z.toInt ∧ z.toInt ≤ 243 := by
  have k1 : x.toInt * y.toInt ≤ x.toInt * 27 := Int.mul_le_mul_of_nonneg_left hy.2 hx.1
  have k2 : x.toInt * (-27) ≤ x.toInt * y.toInt := Int.mul_le_mul_of_nonneg_left hy.1 hx.1
  rw [i_mul e (by omega)]
  omega
/-- the rest of a division, of any signs, within bounds -/
theorem i_remabs {z x y : Int32} (e : z = x - x / y * y) (hx : -100000 ≤ x.toInt ∧ x.toInt ≤ 100000) (hy : y.toInt ≠ 0) : z.toInt = x.toInt.tmod y.toInt := by
  have hq : (x / y).toInt = x.toInt.tdiv y.toInt := Int32.toInt_div_of_ne_left x y (fun q => by rw [q] at hx; exact absurd hx.1 (by decide))
  have hd := Int.mul_tdiv_add_tmod x.toInt y.toInt
  have hr := i_rng y
  have ha : (x.toInt.tmod y.toInt).natAbs ≤ x.toInt.natAbs := by
    rw [Int.natAbs_tmod]
    exact Nat.mod_le _ _
  have hm : (x / y * y).toInt = x.toInt.tdiv y.toInt * y.toInt := by
    rw [i_mul (z := x / y * y) rfl, hq]
    rw [hq, Int.mul_comm]
    omega
  rw [i_sub e (by rw [hm, Int.mul_comm]; omega), hm, Int.mul_comm]
  omega
theorem rem_small {x y : Int} (hy : y ≠ 0) : (x.tmod y).natAbs < y.natAbs := by
  rw [Int.natAbs_tmod]
  exact Nat.mod_lt _ (by omega)
theorem rem_le {x y : Int} : (x.tmod y).natAbs ≤ x.natAbs := by
  rw [Int.natAbs_tmod]
  exact Nat.mod_le _ _
theorem neg_sub0 (x : Int32) : -x = 0 - x := by simp
theorem mPull_next {v : Vf} {c t i i2 s r z : Int32} (hs : s = mPullN v c t i.toNatClampNeg) (h0 : 0 ≤ i.toInt) (h1 : i2.toInt = i.toInt + 1) (hr : r = mPart v i c t) (hz : z = s + r) : z = mPullN v c t i2.toNatClampNeg := by
  rw [i_nat1 h0 h1, hz, hs, hr]
  show _ = mPullN v c t i.toNatClampNeg + mPart v (Int32.ofNat i.toNatClampNeg) c t
  rw [i_ofN h0]
def mFl (v : Vf) (w t : Int32) : Int32 := mH v (v 17 w.toNatClampNeg) t - v 18 w.toNatClampNeg
noncomputable def mRB (v : Vf) (k c way t : Int32) : Int32 := if mGo v c way ((t + k) + 1) < 0 then 1000000000 else if v 63 (24 * (k + 1) + mGo v c way ((t + k) + 1)).toNatClampNeg < 1000000000 then v 63 (24 * (k + 1) + mGo v c way ((t + k) + 1)).toNatClampNeg + mCost v c (mGo v c way ((t + k) + 1)) ((t + k) + 1) else 1000000000
theorem gcd_step (x y : Int) : Int.gcd y (x.tmod y) = Int.gcd x y := by
  show Nat.gcd y.natAbs (x.tmod y).natAbs = Nat.gcd x.natAbs y.natAbs
  rw [Int.natAbs_tmod, Nat.gcd_comm x.natAbs y.natAbs, Nat.gcd_rec y.natAbs x.natAbs, Nat.gcd_comm]
theorem gcd_le {a b : Int} (h : 1 ≤ a) : 1 ≤ (Int.gcd a b : Int) ∧ (Int.gcd a b : Int) ≤ a := by
  have h1 : 0 < a.natAbs := by omega
  have k1 : 0 < Int.gcd a b := Nat.gcd_pos_of_pos_left _ h1
  have k2 : Int.gcd a b ≤ a.natAbs := Nat.gcd_le_left _ h1
  omega
theorem gcd_le' {a b : Int} (h : 1 ≤ b) : 1 ≤ (Int.gcd a b : Int) ∧ (Int.gcd a b : Int) ≤ b := by
  have h1 : 0 < b.natAbs := by omega
  have k1 : 0 < Int.gcd a b := Nat.gcd_pos_of_pos_right _ h1
  have k2 : Int.gcd a b ≤ b.natAbs := Nat.gcd_le_right _ h1
  omega
abbrev mdL (E : Ev) (am : Nat → Nat) (vm : Vf) : va_W := [((am 0), .inr (10, [.int (vm 0 0), .int (vm 1 0), .ref (am 2), .ref (am 3), .int (vm 4 0), .ref (am 5), .ref (am 6), .ref (am 7), .ref (am 8), .int (vm 9 0), .ref (am 10), .ref (am 11), .int (vm 12 0), .ref (am 13), .ref (am 14), .ref (am 15), .int (vm 16 0), .ref (am 17), .ref (am 18), .int (vm 19 0), .ref (am 20), .ref (am 21), .int (vm 22 0), .int (vm 23 0), .ref (am 24), .ref (am 25), .ref (am 26), .int (vm 27 0), .int (vm 28 0), .int (vm 29 0), .int (vm 30 0), .ref (am 31), .int (vm 32 0), .int (vm 33 0), .int (vm 34 0), .int (vm 35 0), .int (vm 36 0), .int (vm 37 0), .int (vm 38 0), .ref (am 39), .ref (am 40), .int (vm 41 0), .ref (am 42), .int (vm 43 0), .ref (am 44), .ref (am 45), .ref (am 46), .ref (am 47), .int (vm 48 0), .ref (am 49), .ref (am 50), .int (vm 51 0), .ref (am 52), .ref (am 53), .ref (am 54), .int (vm 55 0), .ref (am 56), .ref (am 57), .int (vm 58 0), .ref (am 59), .ref (am 60), .int (vm 61 0), .int (vm 62 0), .ref (am 63), .int (vm 64 0), .int (vm 65 0), .int (vm 66 0), .int (vm 67 0), .ref (am 68), .ref (am 69), .ref (am 70), .ref (am 71), .ref (am 72), .int (vm 73 0), .ref (am 74), .int (vm 75 0), .ref (am 76), .ref (am 77), .ref (am 78)])), ((am 2), .inl (eI E, 24, .inl (vm 2))), ((am 3), .inl (eI E, 24, .inl (vm 3))), ((am 5), .inl (eI E, 3, .inl (vm 5))), ((am 6), .inl (eI E, 3, .inl (vm 6))), ((am 7), .inl (eI E, 3, .inl (vm 7))), ((am 8), .inl (eI E, 27, .inl (vm 8))), ((am 10), .inl (eI E, 6, .inl (vm 10))), ((am 11), .inl (eI E, 6, .inl (vm 11))), ((am 13), .inl (eI E, 6, .inl (vm 13))), ((am 14), .inl (eI E, 6, .inl (vm 14))), ((am 15), .inl (eI E, 6, .inl (vm 15))), ((am 17), .inl (eI E, 5, .inl (vm 17))), ((am 18), .inl (eI E, 5, .inl (vm 18))), ((am 20), .inl (eI E, 4, .inl (vm 20))), ((am 21), .inl (eI E, 4, .inl (vm 21))), ((am 24), .inl (eI E, 3, .inl (vm 24))), ((am 25), .inl (eI E, 24, .inl (vm 25))), ((am 26), .inl (eI E, 6, .inl (vm 26))), ((am 31), .inl (eI E, 250, .inl (vm 31))), ((am 39), .inl (eI E, 24, .inl (vm 39))), ((am 40), .inl (eI E, 24, .inl (vm 40))), ((am 42), .inl (eI E, 12, .inl (vm 42))), ((am 44), .inl (eI E, 3, .inl (vm 44))), ((am 45), .inl (eI E, 3, .inl (vm 45))), ((am 46), .inl (eI E, 3, .inl (vm 46))), ((am 47), .inl (eI E, 27, .inl (vm 47))), ((am 49), .inl (eI E, 6, .inl (vm 49))), ((am 50), .inl (eI E, 6, .inl (vm 50))), ((am 52), .inl (eI E, 6, .inl (vm 52))), ((am 53), .inl (eI E, 6, .inl (vm 53))), ((am 54), .inl (eI E, 6, .inl (vm 54))), ((am 56), .inl (eI E, 5, .inl (vm 56))), ((am 57), .inl (eI E, 5, .inl (vm 57))), ((am 59), .inl (eI E, 4, .inl (vm 59))), ((am 60), .inl (eI E, 4, .inl (vm 60))), ((am 63), .inl (eI E, 984, .inl (vm 63))), ((am 68), .inl (eI E, 12, .inl (vm 68))), ((am 69), .inl (eI E, 12, .inl (vm 69))), ((am 70), .inl (eI E, 12, .inl (vm 70))), ((am 71), .inl (eI E, 3, .inl (vm 71))), ((am 72), .inl (eI E, 729, .inl (vm 72))), ((am 74), .inl (eI E, 64, .inl (vm 74))), ((am 76), .inl (eI E, 30, .inl (vm 76))), ((am 77), .inl (eI E, 80, .inl (vm 77))), ((am 78), .inl (eZ E, 2, .inl (vm 78)))]
end
section
/-! ===== further functions of the reference's values ===== -/
def mHeld (x : Int32) : Int32 := if x ≤ 999999999 then x else 999999999
def mPair (v : Vf) (c : Int32) : Int32 := 10 * (c - c / v 0 0 * v 0 0) + c / v 0 0
def mAbs (x : Int32) : Int32 := if x < 0 then -x else x
def mMx (a b : Int32) : Int32 := if a < b then b else a
noncomputable def mDif (v : Vf) (c t way : Int32) : Int32 := if (mBes v c way).toInt < 0 then 0 else mH v (mBes v c way) t - mH v c t
noncomputable def mLeanN (v : Vf) (c t : Int32) : Nat → Int32
  | 0 => 0
  | n + 1 => mMx (mLeanN v c t n) (mAbs (mDif v c t (Int32.ofNat (n + 1))))
noncomputable def mLean (v : Vf) (c t : Int32) : Int32 := mLeanN v c t 4
theorem lean_m {v : Vf} {c t way way2 mo d : Int32} (h : mo = mLeanN v c t (way.toInt - 1).toNat) (hw : 1 ≤ way.toInt) (h2 : way2.toInt = way.toInt + 1) (e : d = mMx mo (mAbs (mDif v c t way))) : d = mLeanN v c t (way2.toInt - 1).toNat := by
  have e1 : (way2.toInt - 1).toNat = (way.toInt - 1).toNat + 1 := by omega
  have e2 : Int32.ofNat ((way.toInt - 1).toNat + 1) = way := by
    rw [show (way.toInt - 1).toNat + 1 = way.toNatClampNeg from by show _ = way.toInt.toNat; omega]
    exact i_ofN (by omega)
  rw [e1]
  show d = mMx (mLeanN v c t (way.toInt - 1).toNat) (mAbs (mDif v c t (Int32.ofNat ((way.toInt - 1).toNat + 1))))
  rw [e2, ← h]
  exact e
end
section
/-! bits of a set, pairs -/
def hasB (s k : Int32) : Prop := ¬ ((s >>> (k &&& 31)) &&& 1) = 0
theorem bit01 (x : Int32) : x &&& 1 = 0 ∨ x &&& 1 = 1 := by
  have h1 : (x &&& 1).toBitVec = x.toBitVec &&& 1#32 := rfl
  have h2 : (x.toBitVec &&& 1#32).toNat = x.toBitVec.toNat % 2 ^ 1 := by
    rw [BitVec.toNat_and]
    exact Nat.and_two_pow_sub_one_eq_mod _ 1
  have z0 : (0 : Int32).toBitVec.toNat = 0 := rfl
  have z1 : (1 : Int32).toBitVec.toNat = 1 := rfl
  rcases (show x.toBitVec.toNat % 2 ^ 1 = 0 ∨ x.toBitVec.toNat % 2 ^ 1 = 1 by omega) with q | q
  · exact Or.inl (Int32.toBitVec_inj.mp (BitVec.eq_of_toNat_eq (by rw [h1, h2, q, z0])))
  · exact Or.inr (Int32.toBitVec_inj.mp (BitVec.eq_of_toNat_eq (by rw [h1, h2, q, z1])))
theorem has_y {x y z : Int32} (ex : y = x &&& 1) (h : y = 1) (hz : z.toInt ≠ 0) : z.toInt ≠ 0 ↔ ¬ y = 0 := ⟨fun _ q => by rw [h] at q; exact absurd q (by decide), fun _ => hz⟩
theorem has_n {x y z : Int32} (ex : y = x &&& 1) (h : ¬ y = 1) (hz : z.toInt = 0) : z.toInt ≠ 0 ↔ ¬ y = 0 := ⟨fun q => absurd hz q, fun q => by
  rcases bit01 x with e | e
  · exact absurd (ex.trans e) q
  · exact absurd (ex.trans e) h⟩
noncomputable def mOP (v : Vf) (p : Int32) : Int32 := @ite _ (0 ≤ p.toInt ∧ mIn v (p / 10) (p - p / 10 * 10)) (Classical.propDecidable _) (v 0 0 * (p - p / 10 * 10) + p / 10) (-1)
theorem op_neg {v : Vf} {p r : Int32} (h : p.toInt < 0) (hr : r.toInt = -1) : r = mOP v p := by
  unfold mOP
  rw [if_neg (fun q => by have := q.1; omega)]
  exact i_eqr (by rw [hr]; decide)
theorem op_eq {v : Vf} {p r X Y : Int32} (hG : mdG v) (h0 : 0 ≤ p.toInt) (hX : X = p / 10) (hY : Y = p - p / 10 * 10) (h : (r.toInt = -1 ∧ (X.toInt < 0 ∨ (v 0 0).toInt ≤ X.toInt ∨ Y.toInt < 0 ∨ (v 1 0).toInt ≤ Y.toInt)) ∨ (r.toInt = (v 0 0).toInt * Y.toInt + X.toInt ∧ (0 ≤ X.toInt ∧ X.toInt < (v 0 0).toInt) ∧ 0 ≤ Y.toInt ∧ Y.toInt < (v 1 0).toInt)) : r = mOP v p := by
  obtain ⟨g1, g2, g3⟩ := hG
  unfold mOP
  rw [← hY, ← hX]
  rcases h with ⟨h1, h2⟩ | ⟨h1, h2, h3⟩
  · rw [if_neg (fun q => by obtain ⟨-, ⟨q1, q2⟩, q3, q4⟩ := q; omega)]
    exact i_eqr (by rw [h1]; decide)
  · rw [if_pos ⟨h0, h2, h3⟩]
    have hb := mul_b (a := (v 0 0).toInt) (b := Y.toInt) (A := 6) (B := 6) (by omega) (by omega)
    have t1 := i_mul (z := v 0 0 * Y) rfl (by omega)
    have t2 := i_add (z := v 0 0 * Y + X) rfl (by omega)
    exact i_eqr (by omega)
end
