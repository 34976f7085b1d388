/-! ===== numbers: Int32 by its toInt ===== -/
theorem i_rng (x : Int32) : -2147483648 ≤ x.toInt ∧ x.toInt ≤ 2147483647 := by
  have h1 := Int32.le_toInt x
  have h2 := Int32.toInt_lt x
  omega
theorem i_lt {x y : Int32} (h : x < y) : x.toInt < y.toInt := Int32.lt_iff_toInt_lt.mp h
theorem i_le {x y : Int32} (h : x ≤ y) : x.toInt ≤ y.toInt := Int32.le_iff_toInt_le.mp h
theorem i_nlt {x y : Int32} (h : ¬ x < y) : y.toInt ≤ x.toInt := Int.not_lt.mp fun q => h (Int32.lt_iff_toInt_lt.mpr q)
theorem i_nle {x y : Int32} (h : ¬ x ≤ y) : y.toInt < x.toInt := Int.not_le.mp fun q => h (Int32.le_iff_toInt_le.mpr q)
theorem i_ne {x y : Int32} (h : ¬ x = y) : x.toInt ≠ y.toInt := fun q => h (Int32.toInt_inj.mp q)
theorem i_eq {x y : Int32} (h : x = y) : x.toInt = y.toInt := by rw [h]
theorem i_eqr {x y : Int32} (h : x.toInt = y.toInt) : x = y := Int32.toInt_inj.mp h
theorem i_bmod {z : Int} (h : -2147483648 ≤ z ∧ z ≤ 2147483647) : z.bmod (2 ^ 32) = z := by
  rw [Int.bmod_eq_of_le] <;> omega
theorem i_add {z x y : Int32} (e : z = x + y) (h : -2147483648 ≤ x.toInt + y.toInt ∧ x.toInt + y.toInt ≤ 2147483647) : z.toInt = x.toInt + y.toInt := by
  rw [e, Int32.toInt_add, i_bmod h]
theorem i_sub {z x y : Int32} (e : z = x - y) (h : -2147483648 ≤ x.toInt - y.toInt ∧ x.toInt - y.toInt ≤ 2147483647) : z.toInt = x.toInt - y.toInt := by
  rw [e, Int32.toInt_sub, i_bmod h]
theorem i_mul {z x y : Int32} (e : z = x * y) (h : -2147483648 ≤ x.toInt * y.toInt ∧ x.toInt * y.toInt ≤ 2147483647) : z.toInt = x.toInt * y.toInt := by
  rw [e, Int32.toInt_mul, i_bmod h]
theorem i_div {z x y : Int32} (e : z = x / y) (hx : 0 ≤ x.toInt) (hy : 0 < y.toInt) : z.toInt = x.toInt / y.toInt ∧ 0 ≤ z.toInt ∧ z.toInt ≤ x.toInt := by
  have h1 : (x / y).toInt = x.toInt / y.toInt := by
    rw [Int32.toInt_div_of_ne_right x y (fun q => by rw [q] at hy; exact absurd hy (by decide)), Int.tdiv_eq_ediv_of_nonneg hx]
  rw [e, h1]
  exact ⟨rfl, Int.ediv_nonneg hx (by omega), Int.ediv_le_self _ hx⟩
theorem i_rem {z x y : Int32} (e : z = x - x / y * y) (hx : 0 ≤ x.toInt) (hy : 0 < y.toInt) : z.toInt = x.toInt % y.toInt ∧ 0 ≤ z.toInt ∧ z.toInt < y.toInt ∧ z.toInt ≤ x.toInt := by
  have hq := i_div (z := x / y) rfl hx hy
  have h1 := Int.mul_ediv_add_emod x.toInt y.toInt
  have h2 := Int.emod_nonneg x.toInt (b := y.toInt) (by omega)
  have h3 := Int.emod_lt_of_pos x.toInt hy
  have h4 := i_rng x
  have h0 := hq.2.1
  rw [hq.1] at h0
  have h5 : 0 ≤ y.toInt * (x.toInt / y.toInt) := Int.mul_nonneg (by omega) h0
  have hm : (x / y * y).toInt = x.toInt / y.toInt * y.toInt := by
    rw [i_mul (z := x / y * y) rfl, hq.1]
    rw [hq.1, Int.mul_comm]
    omega
  have hz := i_sub e (by rw [hm, Int.mul_comm]; omega)
  rw [hm, Int.mul_comm] at hz
  refine ⟨?_, ?_, ?_, ?_⟩
  · omega
  · omega
  · omega
  · omega
theorem i_in {x : Int32} {n : Nat} (h0 : 0 ≤ x.toInt) (h1 : x.toInt < (n : Int)) : vp_in x n := by
  intro q
  rcases q with q | q
  · have := i_lt q
    rw [Int32.toInt_zero] at this
    omega
  · have e : x.toNatClampNeg = x.toInt.toNat := rfl
    rw [e] at q
    omega
theorem i_nat {x : Int32} (h0 : 0 ≤ x.toInt) : (x.toNatClampNeg : Int) = x.toInt := by
  have e : x.toNatClampNeg = x.toInt.toNat := rfl
  rw [e]
  omega
theorem i_natlt {x : Int32} {n : Nat} (h1 : x.toInt < (n : Int)) (hn : 0 < n) : x.toNatClampNeg < n := by
  have e : x.toNatClampNeg = x.toInt.toNat := rfl
  rw [e]
  omega
theorem i_ne0 {x : Int32} (h : x.toInt ≠ 0) : ¬ x = 0 := fun q => h (by rw [q]; rfl)
theorem i_max {z x y : Int32} (e : z = if x < y then y else x) : z.toInt = max x.toInt y.toInt := by
  rw [e]
  split <;> rename_i h
  · have := i_lt h; omega
  · have := i_nlt h; omega
theorem i_min {z x y : Int32} (e : z = if y < x then y else x) : z.toInt = min x.toInt y.toInt := by
  rw [e]
  split <;> rename_i h
  · have := i_lt h; omega
  · have := i_nlt h; omega
theorem i_c3 {x : Int32} (h0 : 0 ≤ x.toInt) (h1 : x.toInt < 3) : x = 0 ∨ x = 1 ∨ x = 2 := by
  rcases (show x.toInt = 0 ∨ x.toInt = 1 ∨ x.toInt = 2 by omega) with h | h | h
  · exact Or.inl (i_eqr (by rw [h]; rfl))
  · exact Or.inr (Or.inl (i_eqr (by rw [h]; rfl)))
  · exact Or.inr (Or.inr (i_eqr (by rw [h]; rfl)))
theorem i_mulc {z x y : Int32} (b : Int) (e : z = x * y) (hx : 0 ≤ x.toInt) (hx1 : x.toInt ≤ 100000) (hy : 0 ≤ y.toInt) (hy1 : y.toInt ≤ b) (hb : b ≤ 1000) : 0 ≤ z.toInt ∧ z.toInt ≤ x.toInt * b := by
  have k1 : 0 ≤ x.toInt * y.toInt := Int.mul_nonneg hx hy
  have k2 : x.toInt * y.toInt ≤ x.toInt * b := Int.mul_le_mul_of_nonneg_left hy1 hx
  have k3 : x.toInt * b ≤ 100000 * b := Int.mul_le_mul_of_nonneg_right hx1 (by omega)
  rw [i_mul e (by omega)]
  exact ⟨k1, k2⟩
/-! ===== values of a world by tags ===== -/
abbrev Vf : Type := Nat → Nat → Int32
def up2 (v : Vf) (t j : Nat) (x : Int32) : Vf := fun t' => cond (Nat.beq t' t) (upd (v t') j x) (v t')
def up3 (v : Vf) (t : Nat) (f : Nat → Int32) : Vf := fun t' => cond (Nat.beq t' t) f (v t')
/-- an array of references, by what it holds below its length -/
theorem va_refs {D : va_G} {cl : List vw_C} {A : Nat → Prop} {ws : va_W} {H : Heap} {p a n : Nat} {cA : ClassId} {f g : Nat → Option Nat} (hP : va_P D cl ws H) (hD : va_D A ws) (hp : ws[p]? = some (a, .inl (cA, n, .inr (.inr (.inr (.inr f)))))) (h : ∀ j, j < n → f j = g j) : va_P D cl (ws.set p (a, .inl (cA, n, .inr (.inr (.inr (.inr g)))))) H := by
  refine hP.set hD hp ?_ (fun q _ => rfl)
  have h1 := hP p _ hp
  show H[a]? = some (vp_cell _ _)
  have h2 : H[a]? = some (vp_cell cA (n, .inr (.inr (.inr (.inr f))))) := h1
  rw [h2, vp_cell_q, vp_cell_q]
  congr 1
  unfold arrV
  congr 1
  congr 1
  funext j
  show va_rf (f j.val) = va_rf (g j.val)
  rw [h j.val j.isLt]
/-! ===== the places that hold in every state: tables, nest mates, the two rows of ways ===== -/
def wyX (j : Nat) : Int32 := match j with
  | 2 => 1
  | 4 => -1
  | _ => 0
def wyY (j : Nat) : Int32 := match j with
  | 1 => -1
  | 3 => 1
  | _ => 0
noncomputable def nestM : List (String × Nat × MethodName × String) := [("TidedGround", 19, yX2_init, "TidedGround"), ("TidedGround", 33, yX6_init, "TidedGround"), ("TidedGround$Plan", 26, yX5_init, "TidedGround"), ("TidedGround$Plan", 40, yX0_init, "TidedGround"), ("TidedGround$Plan", 74, yX9_greatestDivisor, "TidedGround"), ("TidedGround$Reader", 176, yX9_isOff, "TidedGround"), ("TidedGround$Wells", 60, yX9_greatestDivisor, "TidedGround"), ("TidedGround$World", 120, yX9_isOff, "TidedGround"), ("TidedGround$World", 161, yX9_leftOver, "TidedGround")]
abbrev tyE (cI cZ cM cS : ClassId) : List (ClassId × FieldType) := [(cI, .int), (cZ, .boolean), (cM, .object "TidedGround$Moon"), (cS, .object "TidedGround$State")]
abbrev Ev : Type := (Nat → ClassId) × (Nat → Nat → Nat) × ClassId × ClassId × ClassId × ClassId × Nat × Nat
abbrev eD (E : Ev) : va_G := (E.1, E.2.1)
abbrev eI (E : Ev) : ClassId := E.2.2.1
abbrev eZ (E : Ev) : ClassId := E.2.2.2.1
abbrev eM (E : Ev) : ClassId := E.2.2.2.2.1
abbrev eS (E : Ev) : ClassId := E.2.2.2.2.2.1
abbrev eX (E : Ev) : Nat := E.2.2.2.2.2.2.1
abbrev eY (E : Ev) : Nat := E.2.2.2.2.2.2.2
abbrev eT (E : Ev) : List (ClassId × FieldType) := tyE (eI E) (eZ E) (eM E) (eS E)
def EN (E : Ev) (A : Nat → Prop) (U : State) (H : Heap) : Prop :=
  va_K (eD E) vwCl (eT E) U ∧ va_Z "TidedGround" "WAY_X" "[I" (.ref (eX E)) A U H ∧ va_Z "TidedGround" "WAY_Y" "[I" (.ref (eY E)) A U H ∧ va_T .int (eX E) 5 (fun j => .int (wyX j)) A U H ∧ va_T .int (eY E) 5 (fun j => .int (wyY j)) A U H ∧
  va_Nw (.fieldLinkNest "TidedGround$Plan" 65 "TidedGround" "WAY_X" "[I" "TidedGround") U ∧ va_Nw (.fieldLinkNest "TidedGround$Plan" 68 "TidedGround" "WAY_Y" "[I" "TidedGround") U ∧ ∀ q ∈ nestM, va_Nw (.methodLinkNest q.1 q.2.1 q.2.2.1 q.2.2.2) U
theorem EN.warm {E : Ev} {A : Nat → Prop} {s U : State} {H : Heap} (hW : s.WarmedH U.vm) (h : EN E A s H) : EN E A U H := by
  obtain ⟨h1, h2, h3, h4, h5, h6, h7, h8⟩ := h
  exact ⟨va_K.moved hW.alike h1, va_Z.moved hW.alike h2, va_Z.moved hW.alike h3, va_T.moved hW.alike h4, va_T.moved hW.alike h5, va_Nw.warmF hW h6, va_Nw.warmF hW h7, fun q hq => va_Nw.warmM hW (h8 q hq)⟩
theorem EN.calling {E : Ev} {A : Nat → Prop} {U : State} {H : Heap} {a : Array Value} {g : JFrame} {mk : MethodId} (h : EN E A U H) : EN E A (U.calling g mk a) H := by
  obtain ⟨h1, h2, h3, h4, h5, h6, h7, h8⟩ := h
  exact ⟨va_K.moved (Vm.Alike.refl U.vm) h1, va_Z.moved (Vm.Alike.refl U.vm) h2, va_Z.moved (Vm.Alike.refl U.vm) h3, va_T.moved (Vm.Alike.refl U.vm) h4, va_T.moved (Vm.Alike.refl U.vm) h5, va_Nw.same rfl rfl h6, va_Nw.same rfl rfl h7, fun q hq => va_Nw.same rfl rfl (h8 q hq)⟩
theorem EN.kept {E : Ev} {A : Nat → Prop} {U : State} {H H1 : Heap} (h : EN E A U H) (hq : ∀ a : Nat, a < H.size → ¬ A a → H1[a]? = H[a]?) : EN E A U H1 := by
  obtain ⟨h1, h2, h3, h4, h5, h6⟩ := h
  exact ⟨h1, va_Z.kept h2 hq, va_Z.kept h3 hq, va_T.kept h4 hq, va_T.kept h5 hq, h6⟩
theorem EN.narrow {E : Ev} {A B : Nat → Prop} {U : State} {H : Heap} (h : EN E A U H) (hAB : ∀ q, B q → A q) : EN E B U H := by
  obtain ⟨h1, h2, h3, h4, h5, h6⟩ := h
  exact ⟨h1, va_Z.narrow h2 hAB, va_Z.narrow h3 hAB, va_T.narrow h4 hAB, va_T.narrow h5 hAB, h6⟩
/-! ===== contracts that only read: what a caller needs ===== -/
abbrev RdP (E : Ev) (A : Nat → Prop) (av : List Value) (ws : va_W) : Array Value → State → Prop := va_Pc av (fun U => EN E A U U.heap ∧ va_P (eD E) vwCl ws U.heap)
theorem RdP.blind {E : Ev} {A : Nat → Prop} {av : List Value} {ws : va_W} : FrameBlind (RdP E A av ws) := fun a U g mk h => ⟨h.1, EN.calling h.2.1, h.2.2⟩
section RD
variable {p : Program} {l : Launch} {e : Env} {R : Room} {s : State} {m : MethodId} {args : Array Value} {below : List Frame} {meth : Method} {c : Code} {H : Heap} {locs : List Loc} {cells slots : Nat} {Q : State → Prop}
variable {y : MethodName} {bytes cc : ByteArray} {maxL nL n index : Nat} {ret : Option FieldType} {ws : List Cond} {rm : Room} {Ts : List Cond} {own C host : String} {b : Addr} {As rest st0 : List Value} {pc : Nat} {ls : Array Slot} {E : Ev} {A : Nat → Prop} {wc : va_W} {post : Int32 → Prop}
/-- the walk's end by another name -/
theorem W_abs {g : JFrame} (h : ∀ Q' : State → Prop, Q' = Q → W p l e R s m args below meth c H locs cells slots Q' g) : W p l e R s m args below meth c H locs cells slots Q g := h Q rfl
/-- a method of an object, that only reads -/
theorem rd_V (S : CallFix p m c cc nL s args Ts own) (hM : Met l y ws rm (RdP E A (.ref b :: As) wc) (vp_Si post) 0 0 (fun _ => False)) (cw : CallW R s args own C index y bytes maxL ret ws rm 0 0 n) (hE : EN E A s H) (hP : va_P (eD E) vwCl wc H) {ci : Nat} {fs : List Value} {r : vw_C} (hc : vwCl[ci]? = some r) (he : wc[0]? = some (b, .inr (ci, fs))) (hrC : r.1 = C)
    (hn : As.length = n) (hsize : ls.size = nL) (hst : st0 = As.reverse ++ .ref b :: rest) (hW : (rest.map fun v => v.category).sum ≤ 8) (hdg : decode cc pc = .ok (.invokevirtual index, 3)) (hf : cells ≤ R.cells ∧ slots ≤ R.slots)
    (kk : ∀ r : Int32, post r → W p l e R s m args below meth c H locs cells slots Q (F0 m (pc + 3) ls (.int r :: rest))) : W p l e R s m args below meth c H locs cells slots Q (F0 m pc ls st0) := by
  subst hrC
  exact vp_callSi (W.runV S hM cw ⟨RdP.blind, va_recv hE.1 hP hc he, fun U hU hW => ⟨rfl, by rw [hU]; exact EN.warm hW hE, by rw [hU]; exact hP⟩⟩ rfl hn hsize hst (lv_room hW) hdg hf) kk
/-- a static method of ours, that only reads -/
theorem rd_S (S : CallFix p m c cc nL s args Ts own) (hM : Met l y ws rm (RdP E A As wc) (vp_Si post) 0 0 (fun _ => False)) (cw : CallB R s args own index y bytes maxL ret ws rm 0 0 n ∧ (Cond.static y).before args s = true) (hE : EN E A s H) (hP : va_P (eD E) vwCl wc H)
    (hn : As.length = n) (hsize : ls.size = nL) (hst : st0 = As.reverse ++ rest) (hW : (rest.map fun v => v.category).sum ≤ 8) (hdg : decode cc pc = .ok (.invokestatic index, 3)) (hf : cells ≤ R.cells ∧ slots ≤ R.slots)
    (kk : ∀ r : Int32, post r → W p l e R s m args below meth c H locs cells slots Q (F0 m (pc + 3) ls (.int r :: rest))) : W p l e R s m args below meth c H locs cells slots Q (F0 m pc ls st0) :=
  vp_callSi (W.runS S hM cw ⟨RdP.blind, fun U hU hW => ⟨rfl, by rw [hU]; exact EN.warm hW hE, by rw [hU]; exact hP⟩⟩ rfl hn hsize hst (lv_room hW) hdg hf) kk
/-- a private static method of a nest mate, that only reads -/
theorem rd_SN (S : CallFix p m c cc nL s args Ts own) (hM : Met l y ws rm (RdP E A As wc) (vp_Si post) 0 0 (fun _ => False)) (cw : va_CN R s args own index y host bytes maxL ret ws rm 0 0 n ∧ (Cond.static y).before args s = true ∧ True) (hE : EN E A s H) (hP : va_P (eD E) vwCl wc H)
    (hn : As.length = n) (hsize : ls.size = nL) (hst : st0 = As.reverse ++ rest) (hW : (rest.map fun v => v.category).sum ≤ 8) (hdg : decode cc pc = .ok (.invokestatic index, 3)) (hf : cells ≤ R.cells ∧ slots ≤ R.slots)
    (kk : ∀ r : Int32, post r → W p l e R s m args below meth c H locs cells slots Q (F0 m (pc + 3) ls (.int r :: rest))) : W p l e R s m args below meth c H locs cells slots Q (F0 m pc ls st0) :=
  vp_callSi (va_Run.run (va_runSN S hM cw ⟨RdP.blind, fun U hU hW => ⟨rfl, by rw [hU]; exact EN.warm hW hE, by rw [hU]; exact hP⟩⟩ rfl hn hsize hst (lv_room hW) hdg hf)) kk
end RD
