def rm_X10_in : Room := { frames := 0, cells := 0, slots := 0, locals := 0 }
set_option maxHeartbeats 4000000 in
set_option maxRecDepth 100000 in
theorem c_X10_in (l : Launch) (E : Ev) (A : Nat → Prop) (x : Int64) (y : Int64) (z : Int64) : Met l yX10_in wsX10_in rm_X10_in (RdP E A [.long x, .long y, .long z] ([])) (vp_Si (fun r => (r.toInt = 1 ∧ y.toInt ≤ x.toInt ∧ x.toInt ≤ z.toInt) ∨ (r.toInt = 0 ∧ (x.toInt < y.toInt ∨ z.toInt < x.toInt)))) 0 0 (fun _ => False) := by
  refine Met.ofW (cc := cX10_in) (maxL := 6) (ret := (some .boolean)) (by decide) rfl ?_
  intro p e s m args below meth c s₁ B hml hv
  obtain ⟨rfl, hE, hP⟩ := hv
  have hx := B.exec
  have hb := B.bytes
  have hr := B.returns
  have hts := atoms_spec (ws := wsX10_in) B.pre
  have hown : s.vm.findClass RX10 = some m.cls := findClass_of_methodNamed B.named
  have hlocks := B.notSynchronized
  have hK := hE.1
  have n_0 : (0 : Int32).toInt = 0 := by decide
  have n_1 : (1 : Int32).toInt = 1 := by decide
  have hl := lv_entry ([.long x, .long y, .long z]) (n := 6) (Nat.le_of_ble_eq_true rfl)
  rw [lg_entry_eq]
  generalize (lg_sl ([.long x, .long y, .long z]) ++ List.replicate (6 - (lg_sl ([.long x, .long y, .long z])).length) Slot.unset).toArray = ls at hl ⊢
  have hl : lv_has ls 6 [(0, .long x), (2, .long y), (4, .long z)] := hl
  refine W_abs (fun Q hQ => ?_)
  refine lv_lload_n hx hb dX10_in_0 rfl (lv_at hl 0 rfl) ?_
  refine lv_lload_n hx hb dX10_in_1 rfl (lv_at hl 1 rfl) ?_
  refine W.lcmp hx hb dX10_in_2 ?_
  refine lv_topi (fun x2 e2 => ?_)
  refine lv_if_lt (tgt := 17) hx hb dX10_in_3 (by decide) (fun c3 => ?_) (fun c3 => ?_)
  · have c3_ := lc_lt e2 c3
    refine lv_iconst (v := 0) hx hb dX10_in_17 (by decide) ?_
    subst hQ
    exact W.zret (v := 0) hx hb hr rfl (fun t ht hW => ⟨0, rfl, (by omega), ht⟩) (fun q h => absurd h List.not_mem_nil) dX10_in_18
  · have c3_ := lc_nlt e2 c3
    refine lv_lload_n hx hb dX10_in_6 rfl (lv_at hl 0 rfl) ?_
    refine lv_lload hx hb dX10_in_7 (lv_at hl 2 rfl) ?_
    refine W.lcmp hx hb dX10_in_9 ?_
    refine lv_topi (fun x9 e9 => ?_)
    refine lv_if_gt (tgt := 17) hx hb dX10_in_10 (by decide) (fun c10 => ?_) (fun c10 => ?_)
    · have c10_ := lc_gt e9 c10
      refine lv_iconst (v := 0) hx hb dX10_in_17 (by decide) ?_
      subst hQ
      exact W.zret (v := 0) hx hb hr rfl (fun t ht hW => ⟨0, rfl, (by omega), ht⟩) (fun q h => absurd h List.not_mem_nil) dX10_in_18
    · have c10_ := lc_ngt e9 c10
      refine lv_iconst (v := 1) hx hb dX10_in_13 (by decide) ?_
      refine lv_goto (tgt := 18) hx hb dX10_in_14 (by decide) ?_
      subst hQ
      exact W.zret (v := 1) hx hb hr rfl (fun t ht hW => ⟨1, rfl, (by omega), ht⟩) (fun q h => absurd h List.not_mem_nil) dX10_in_18
def rm_X10_has : Room := { frames := 0, cells := 0, slots := 0, locals := 0 }
set_option maxHeartbeats 4000000 in
set_option maxRecDepth 100000 in
theorem c_X10_has (l : Launch) (E : Ev) (A : Nat → Prop) (x : Int32) (k : Int32) : Met l yX10_has wsX10_has rm_X10_has (RdP E A [.int x, .int k] ([])) (vp_Si (fun r => ((r.toInt = 0 ∨ r.toInt = 1)) ∧ (r.toInt ≠ 0 ↔ hasB x k))) 0 0 (fun _ => False) := by
  refine Met.ofW (cc := cX10_has) (maxL := 2) (ret := (some .boolean)) (by decide) rfl ?_
  intro p e s m args below meth c s₁ B hml hv
  obtain ⟨rfl, hE, hP⟩ := hv
  have hx := B.exec
  have hb := B.bytes
  have hr := B.returns
  have hts := atoms_spec (ws := wsX10_has) B.pre
  have hown : s.vm.findClass RX10 = some m.cls := findClass_of_methodNamed B.named
  have hlocks := B.notSynchronized
  have hK := hE.1
  have n_0 : (0 : Int32).toInt = 0 := by decide
  have n_1 : (1 : Int32).toInt = 1 := by decide
  have hl := lv_entry ([.int x, .int k]) (n := 2) (Nat.le_of_ble_eq_true rfl)
  rw [lg_entry_eq]
  generalize (lg_sl ([.int x, .int k]) ++ List.replicate (2 - (lg_sl ([.int x, .int k])).length) Slot.unset).toArray = ls at hl ⊢
  have hl : lv_has ls 2 [(0, .int x), (1, .int k)] := hl
  refine W_abs (fun Q hQ => ?_)
  refine lv_iload_n hx hb dX10_has_0 rfl (lv_at hl 0 rfl) ?_
  refine lv_iload_n hx hb dX10_has_1 rfl (lv_at hl 1 rfl) ?_
  refine lv_ishr hx hb dX10_has_2 ?_
  refine lv_topi (fun x2 e2 => ?_)
  refine lv_iconst (v := 1) hx hb dX10_has_3 (by decide) ?_
  refine lv_iand hx hb dX10_has_4 ?_
  refine lv_topi (fun x4 e4 => ?_)
  refine lv_iconst (v := 1) hx hb dX10_has_5 (by decide) ?_
  refine lv_icmp_ne (tgt := 13) hx hb dX10_has_6 (by decide) (fun c6 => ?_) (fun c6 => ?_)
  · have c6_ := i_ne c6
    refine lv_iconst (v := 0) hx hb dX10_has_13 (by decide) ?_
    subst hQ
    exact W.zret (v := 0) hx hb hr rfl (fun t ht hW => ⟨0, rfl, ⟨(by omega), (by unfold hasB; rw [← e2, ← e4]; first | exact has_y e4 c6 (by decide) | exact has_n e4 c6 (by decide))⟩, ht⟩) (fun q h => absurd h List.not_mem_nil) dX10_has_14
  · have c6_ := i_eq c6
    refine lv_iconst (v := 1) hx hb dX10_has_9 (by decide) ?_
    refine lv_goto (tgt := 14) hx hb dX10_has_10 (by decide) ?_
    subst hQ
    exact W.zret (v := 1) hx hb hr rfl (fun t ht hW => ⟨1, rfl, ⟨(by omega), (by unfold hasB; rw [← e2, ← e4]; first | exact has_y e4 c6 (by decide) | exact has_n e4 c6 (by decide))⟩, ht⟩) (fun q h => absurd h List.not_mem_nil) dX10_has_14
def rm_X10_held : Room := { frames := 0, cells := 0, slots := 0, locals := 0 }
set_option maxHeartbeats 4000000 in
set_option maxRecDepth 100000 in
theorem c_X10_held (l : Launch) (E : Ev) (A : Nat → Prop) (x : Int32) : Met l yX10_held wsX10_held rm_X10_held (RdP E A [.int x] ([])) (vp_Si (fun r => (True) ∧ (r = mHeld x))) 0 0 (fun _ => False) := by
  refine Met.ofW (cc := cX10_held) (maxL := 1) (ret := (some .int)) (by decide) rfl ?_
  intro p e s m args below meth c s₁ B hml hv
  obtain ⟨rfl, hE, hP⟩ := hv
  have hx := B.exec
  have hb := B.bytes
  have hr := B.returns
  have hts := atoms_spec (ws := wsX10_held) B.pre
  have hown : s.vm.findClass RX10 = some m.cls := findClass_of_methodNamed B.named
  have hlocks := B.notSynchronized
  have hK := hE.1
  have lk0 := hts (.constant RX10 354 999999999) (List.mem_of_getElem? (i := 1) rfl)
  have n_0 : (0 : Int32).toInt = 0 := by decide
  have n_999999999 : (999999999 : Int32).toInt = 999999999 := by decide
  have hl := lv_entry ([.int x]) (n := 1) (Nat.le_of_ble_eq_true rfl)
  rw [lg_entry_eq]
  generalize (lg_sl ([.int x]) ++ List.replicate (1 - (lg_sl ([.int x])).length) Slot.unset).toArray = ls at hl ⊢
  have hl : lv_has ls 1 [(0, .int x)] := hl
  refine W_abs (fun Q hQ => ?_)
  refine lv_iload_n hx hb dX10_held_0 rfl (lv_at hl 0 rfl) ?_
  refine lv_ldcw hx hb hown lk0 dX10_held_1 ?_
  refine lv_icmp_le (tgt := 13) hx hb dX10_held_4 (by decide) (fun c4 => ?_) (fun c4 => ?_)
  · have c4_ := i_le c4
    refine lv_iload_n hx hb dX10_held_13 rfl (lv_at hl 0 rfl) ?_
    subst hQ
    exact W.iret (v := x) hx hb hr (fun t ht hW => ⟨x, rfl, ⟨trivial, (by unfold mHeld; first | rw [if_pos c4] | rw [if_neg c4])⟩, ht⟩) (fun q h => absurd h List.not_mem_nil) dX10_held_14
  · have c4_ := i_nle c4
    refine lv_ldcw hx hb hown lk0 dX10_held_7 ?_
    refine lv_goto (tgt := 14) hx hb dX10_held_10 (by decide) ?_
    subst hQ
    exact W.iret (v := 999999999) hx hb hr (fun t ht hW => ⟨999999999, rfl, ⟨trivial, (by unfold mHeld; first | rw [if_pos c4] | rw [if_neg c4])⟩, ht⟩) (fun q h => absurd h List.not_mem_nil) dX10_held_14
def rm_X10_isStep : Room := { frames := 1, cells := 0, slots := 0, locals := 25 }
set_option maxHeartbeats 4000000 in
set_option maxRecDepth 100000 in
theorem c_X10_isStep (l : Launch) (E : Ev) (A : Nat → Prop) (x : Int32) : Met l yX10_isStep wsX10_isStep rm_X10_isStep (RdP E A [.int x] ([])) (vp_Si (fun r => (r.toInt = 1 ∧ 0 ≤ x.toInt ∧ x.toInt ≤ 900000) ∨ (r.toInt = 0 ∧ (x.toInt < 0 ∨ 900000 < x.toInt)))) 0 0 (fun _ => False) := by
  refine Met.ofW (cc := cX10_isStep) (maxL := 1) (ret := (some .boolean)) (by decide) rfl ?_
  intro p e s m args below meth c s₁ B hml hv
  obtain ⟨rfl, hE, hP⟩ := hv
  have hx := B.exec
  have hb := B.bytes
  have hr := B.returns
  have hts := atoms_spec (ws := wsX10_isStep) B.pre
  have hown : s.vm.findClass RX10 = some m.cls := findClass_of_methodNamed B.named
  have hlocks := B.notSynchronized
  have hK := hE.1
  have lk0 := hts (.constantLong RX10 390 900000) (List.mem_of_getElem? (i := 1) rfl)
  have hl := lv_entry ([.int x]) (n := 1) (Nat.le_of_ble_eq_true rfl)
  rw [lg_entry_eq]
  generalize (lg_sl ([.int x]) ++ List.replicate (1 - (lg_sl ([.int x])).length) Slot.unset).toArray = ls at hl ⊢
  have hl : lv_has ls 1 [(0, .int x)] := hl
  refine W_abs (fun Q hQ => ?_)
  refine lv_iload_n hx hb dX10_isStep_0 rfl (lv_at hl 0 rfl) ?_
  refine lv_i2l hx hb dX10_isStep_1 rfl ?_
  refine lv_lconst (v := 0) hx hb dX10_isStep_2 (by decide) ?_
  refine lv_ldc2 hx hb hown lk0 dX10_isStep_3 ?_
  have lt6_0 : (x.toInt64).toInt = x.toInt := Int32.toInt_toInt64 _
  have lt6_1 : (0 : Int64).toInt = 0 := by decide
  have lt6_2 : (900000 : Int64).toInt = 900000 := by decide
  refine rd_S (As := [.long x.toInt64, .long 0, .long 900000]) (rest := []) ⟨hx, hb, hml, hown, hts⟩ (c_X10_in l E A x.toInt64 0 900000) (va_cwS 3 hts gX10_isStep_X10_in rfl rfl rfl (by decide +kernel) ⟨Nat.le_of_ble_eq_true rfl, Nat.le_of_ble_eq_true rfl⟩) hE (hP.sub (ws' := []) [] rfl) rfl hl.1 rfl (Nat.le_of_ble_eq_true rfl) dX10_isStep_6 ⟨Nat.zero_le _, Nat.zero_le _⟩ (fun r6 h6 => ?_)
  subst hQ
  exact W.zret (v := r6) hx hb hr (nar_b (by omega)) (fun t ht hW => ⟨r6, rfl, (by omega), ht⟩) (fun q h => absurd h List.not_mem_nil) dX10_isStep_9
def rm_X10_divisor : Room := { frames := 0, cells := 0, slots := 0, locals := 0 }
set_option maxHeartbeats 4000000 in
set_option maxRecDepth 100000 in
theorem c_X10_divisor (l : Launch) (E : Ev) (A : Nat → Prop) (a : Int32) (b : Int32) (ha : -100000 ≤ a.toInt ∧ a.toInt ≤ 100000) (hb : -100000 ≤ b.toInt ∧ b.toInt ≤ 100000) : Met l yX10_divisor wsX10_divisor rm_X10_divisor (RdP E A [.int a, .int b] ([])) (vp_Si (fun r => r.toInt = (Int.gcd a.toInt b.toInt : Int))) 0 0 (fun _ => False) := by
  refine Met.ofW (cc := cX10_divisor) (maxL := 5) (ret := (some .int)) (by decide) rfl ?_
  intro p e s m args below meth c s₁ B hml hv
  obtain ⟨rfl, hE, hP⟩ := hv
  have hx := B.exec
  have hb := B.bytes
  have hr := B.returns
  have hts := atoms_spec (ws := wsX10_divisor) B.pre
  have hown : s.vm.findClass RX10 = some m.cls := findClass_of_methodNamed B.named
  have hlocks := B.notSynchronized
  have hK := hE.1
  have n_0 : (0 : Int32).toInt = 0 := by decide
  have hl := lv_entry ([.int a, .int b]) (n := 5) (Nat.le_of_ble_eq_true rfl)
  rw [lg_entry_eq]
  generalize (lg_sl ([.int a, .int b]) ++ List.replicate (5 - (lg_sl ([.int a, .int b])).length) Slot.unset).toArray = ls at hl ⊢
  have hl : lv_has ls 5 [(0, .int a), (1, .int b)] := hl
  refine W_abs (fun Q hQ => ?_)
  refine lv_iload_n hx hb dX10_divisor_0 rfl (lv_at hl 0 rfl) ?_
  refine lv_istore_n (lv' := [(2, .int a), (0, .int a), (1, .int b)]) hx hb dX10_divisor_1 rfl hl (by decide) rfl (fun ls hl => ?_)
  refine lv_iload_n hx hb dX10_divisor_2 rfl (lv_at hl 2 rfl) ?_
  refine lv_istore_n (lv' := [(3, .int b), (2, .int a), (0, .int a), (1, .int b)]) hx hb dX10_divisor_3 rfl hl (by decide) rfl (fun ls hl => ?_)
  have K4 : ∀ (μ : Nat) (x0 : Int32) (y0 : Int32) (ls : Array Slot), y0.toInt.natAbs < μ → (-100000 ≤ x0.toInt ∧ x0.toInt ≤ 100000) → (-100000 ≤ y0.toInt ∧ y0.toInt ≤ 100000) → (Int.gcd x0.toInt y0.toInt = Int.gcd a.toInt b.toInt) → lv_has ls 5 [(0, .int a), (1, .int b), (2, .int x0), (3, .int y0)] → W p l e (headSpec wsX10_divisor rm_X10_divisor).room s m ([.int a, .int b] : List Value).toArray below meth c s.heap [] 0 0 Q (F0 m 4 ls []) := by
    intro μ
    induction μ with
    | zero =>
      intro x0 y0 ls hμ4
      exact absurd hμ4 (Nat.not_lt_zero _)
    | succ μ ih4 =>
      intro x0 y0 ls hμ4 h4_0 h4_1 h4_2 hl
      refine lv_iload_n hx hb dX10_divisor_4 rfl (lv_at hl 3 rfl) ?_
      refine lv_if_eq (tgt := 21) hx hb dX10_divisor_5 (by decide) (fun c5 => ?_) (fun c5 => ?_)
      · have c5_ := i_eq c5
        refine lv_iload_n hx hb dX10_divisor_21 rfl (lv_at hl 2 rfl) ?_
        refine lv_if_ge (tgt := 30) hx hb dX10_divisor_22 (by decide) (fun c22 => ?_) (fun c22 => ?_)
        · have c22_ := i_le c22
          refine lv_iload_n hx hb dX10_divisor_30 rfl (lv_at hl 2 rfl) ?_
          subst hQ
          exact W.iret (v := x0) hx hb hr (fun t ht hW => ⟨x0, rfl, (by have g := h4_2; rw [show y0.toInt = 0 by omega, Int.gcd_zero_right] at g; omega), ht⟩) (fun q h => absurd h List.not_mem_nil) dX10_divisor_31
        · have c22_ := i_nle c22
          refine lv_iload_n hx hb dX10_divisor_25 rfl (lv_at hl 2 rfl) ?_
          refine lv_ineg hx hb dX10_divisor_26 ?_
          refine lv_topi (fun x26 e26 => ?_)
          have t26 := i_sub (z := x26) (x := 0) (y := x0) (by rw [e26]; exact neg_sub0 x0) (by omega)
          refine lv_goto (tgt := 31) hx hb dX10_divisor_27 (by decide) ?_
          subst hQ
          exact W.iret (v := x26) hx hb hr (fun t ht hW => ⟨x26, rfl, (by have g := h4_2; rw [show y0.toInt = 0 by omega, Int.gcd_zero_right] at g; omega), ht⟩) (fun q h => absurd h List.not_mem_nil) dX10_divisor_31
      · have c5_ := i_ne c5
        refine lv_iload_n hx hb dX10_divisor_8 rfl (lv_at hl 2 rfl) ?_
        refine lv_iload_n hx hb dX10_divisor_9 rfl (lv_at hl 3 rfl) ?_
        refine lv_irem hx hb dX10_divisor_10 c5 ?_
        refine lv_topi (fun x10 e10 => ?_)
        have t10 := i_remabs e10 (by omega) c5_
        have t10a := rem_small (x := x0.toInt) (y := y0.toInt) c5_
        rw [← t10] at t10a
        refine lv_istore (lv' := [(4, .int x10), (0, .int a), (1, .int b), (2, .int x0), (3, .int y0)]) hx hb dX10_divisor_11 hl (by decide) rfl (fun ls hl => ?_)
        refine lv_iload_n hx hb dX10_divisor_13 rfl (lv_at hl 4 rfl) ?_
        refine lv_istore_n (lv' := [(2, .int y0), (4, .int x10), (0, .int a), (1, .int b), (3, .int y0)]) hx hb dX10_divisor_14 rfl hl (by decide) rfl (fun ls hl => ?_)
        refine lv_iload hx hb dX10_divisor_15 (lv_at hl 1 rfl) ?_
        refine lv_istore_n (lv' := [(3, .int x10), (2, .int y0), (4, .int x10), (0, .int a), (1, .int b)]) hx hb dX10_divisor_17 rfl hl (by decide) rfl (fun ls hl => ?_)
        refine lv_goto (tgt := 4) hx hb dX10_divisor_18 (by decide) ?_
        exact ih4 y0 x10 ls (by omega) (by omega) (by omega) (by rw [t10, gcd_step]; exact h4_2) (lv_sub hl [3, 4, 1, 0] rfl)
  exact K4 _ a b ls (Nat.lt_succ_self _) (by omega) (by omega) rfl (lv_sub hl [2, 3, 1, 0] rfl)
def rm_X10_cells : Room := { frames := 0, cells := 0, slots := 0, locals := 0 }
set_option maxHeartbeats 4000000 in
set_option maxRecDepth 100000 in
theorem c_X10_cells (l : Launch) (E : Ev) (A : Nat → Prop) (am : Nat → Nat) (vm : Vf) (hH : MdH vm) : Met l yX10_cells wsX10_cells rm_X10_cells (RdP E A [.ref (am 0)] (mdL E am vm)) (vp_Si (fun r => r.toInt = (vm 0 0).toInt * (vm 1 0).toInt ∧ 0 ≤ r.toInt ∧ r.toInt ≤ 24)) 0 0 (fun _ => False) := by
  refine Met.ofW (cc := cX10_cells) (maxL := 1) (ret := (some .int)) (by decide) rfl ?_
  intro p e s m args below meth c s₁ B hml hv
  obtain ⟨rfl, hE, hP⟩ := hv
  have hx := B.exec
  have hb := B.bytes
  have hr := B.returns
  have hts := atoms_spec (ws := wsX10_cells) B.pre
  have hown : s.vm.findClass RX10 = some m.cls := findClass_of_methodNamed B.named
  have hlocks := B.notSynchronized
  have hK := hE.1
  have in_X10 : ∀ w ∈ u_ws RX10 TX10 79, w ∈ wsX10_cells := fun w h => List.mem_cons_of_mem _ (List.mem_append_right _ h)
  have lk0 := hts (.fieldLink RX10 159 "TidedGroundModel" "wide" "I") (List.mem_of_getElem? (i := 1) rfl)
  have lk1 := hts (.fieldLink RX10 162 "TidedGroundModel" "deep" "I") (List.mem_of_getElem? (i := 2) rfl)
  have hl := lv_entry ([.ref (am 0)]) (n := 1) (Nat.le_of_ble_eq_true rfl)
  rw [lg_entry_eq]
  generalize (lg_sl ([.ref (am 0)]) ++ List.replicate (1 - (lg_sl ([.ref (am 0)])).length) Slot.unset).toArray = ls at hl ⊢
  have hl : lv_has ls 1 [(0, .ref (am 0))] := hl
  refine W_abs (fun Q hQ => ?_)
  obtain ⟨hmG, hmC, hmZ, hmM, hmA, hmS, hmT⟩ := id hH
  obtain ⟨hG1, hG2, hG3⟩ := id hmG
  obtain ⟨hC1, hC2, hC3, hC4, hC5, hC6⟩ := id hmC
  obtain ⟨hM1, hM2, hM3, hM4⟩ := id hmM
  obtain ⟨hA1, hA2, hA3, hA4, hA5⟩ := id hmA
  obtain ⟨hS1, hS2, hS3, hS4, hS5, hS6⟩ := id hmS
  obtain ⟨hT1, hT2, hT3, hT4, hT5⟩ := id hmT
  refine lv_aload_n hx hb dX10_cells_0 rfl (lv_at hl 0 rfl) ?_
  refine va_get (D := eD E) (ci := 10) (v := .int (vm 0 0)) (C := RX10) (T := TX10) (N := 79) hx hb hts in_X10 hown hK hP 0 rfl rfl 0 (by decide) lk0 (fun _ h9 => h9) rfl dX10_cells_1 ?_
  refine lv_aload_n hx hb dX10_cells_4 rfl (lv_at hl 0 rfl) ?_
  refine va_get (D := eD E) (ci := 10) (v := .int (vm 1 0)) (C := RX10) (T := TX10) (N := 79) hx hb hts in_X10 hown hK hP 0 rfl rfl 1 (by decide) lk1 (fun _ h9 => h9) rfl dX10_cells_5 ?_
  refine lv_imul hx hb dX10_cells_8 ?_
  refine lv_topi (fun x8 e8 => ?_)
  have t8 := i_mul66 e8 hG1 hG2
  subst hQ
  exact W.iret (v := x8) hx hb hr (fun t ht hW => ⟨x8, rfl, (by omega), ht⟩) (fun q h => absurd h List.not_mem_nil) dX10_cells_9
def rm_X10_isCell : Room := { frames := 1, cells := 0, slots := 0, locals := 25 }
set_option maxHeartbeats 4000000 in
set_option maxRecDepth 100000 in
theorem c_X10_isCell (l : Launch) (E : Ev) (A : Nat → Prop) (am : Nat → Nat) (vm : Vf) (x : Int32) (y : Int32) (hH : MdH vm) : Met l yX10_isCell wsX10_isCell rm_X10_isCell (RdP E A [.ref (am 0), .int x, .int y] (mdL E am vm)) (vp_Si (fun r => (r.toInt = 1 ∧ (0 ≤ x.toInt ∧ x.toInt < (vm 0 0).toInt) ∧ (0 ≤ y.toInt ∧ y.toInt < (vm 1 0).toInt)) ∨ (r.toInt = 0 ∧ (x.toInt < 0 ∨ (vm 0 0).toInt ≤ x.toInt ∨ y.toInt < 0 ∨ (vm 1 0).toInt ≤ y.toInt)))) 0 0 (fun _ => False) := by
  refine Met.ofW (cc := cX10_isCell) (maxL := 3) (ret := (some .boolean)) (by decide) rfl ?_
  intro p e s m args below meth c s₁ B hml hv
  obtain ⟨rfl, hE, hP⟩ := hv
  have hx := B.exec
  have hb := B.bytes
  have hr := B.returns
  have hts := atoms_spec (ws := wsX10_isCell) B.pre
  have hown : s.vm.findClass RX10 = some m.cls := findClass_of_methodNamed B.named
  have hlocks := B.notSynchronized
  have hK := hE.1
  have in_X10 : ∀ w ∈ u_ws RX10 TX10 79, w ∈ wsX10_isCell := fun w h => List.mem_cons_of_mem _ (List.mem_append_right _ h)
  have lk0 := hts (.fieldLink RX10 159 "TidedGroundModel" "wide" "I") (List.mem_of_getElem? (i := 1) rfl)
  have lk1 := hts (.fieldLink RX10 162 "TidedGroundModel" "deep" "I") (List.mem_of_getElem? (i := 2) rfl)
  have n_0 : (0 : Int32).toInt = 0 := by decide
  have n_1 : (1 : Int32).toInt = 1 := by decide
  have hl := lv_entry ([.ref (am 0), .int x, .int y]) (n := 3) (Nat.le_of_ble_eq_true rfl)
  rw [lg_entry_eq]
  generalize (lg_sl ([.ref (am 0), .int x, .int y]) ++ List.replicate (3 - (lg_sl ([.ref (am 0), .int x, .int y])).length) Slot.unset).toArray = ls at hl ⊢
  have hl : lv_has ls 3 [(0, .ref (am 0)), (1, .int x), (2, .int y)] := hl
  refine W_abs (fun Q hQ => ?_)
  obtain ⟨hmG, hmC, hmZ, hmM, hmA, hmS, hmT⟩ := id hH
  obtain ⟨hG1, hG2, hG3⟩ := id hmG
  obtain ⟨hC1, hC2, hC3, hC4, hC5, hC6⟩ := id hmC
  obtain ⟨hM1, hM2, hM3, hM4⟩ := id hmM
  obtain ⟨hA1, hA2, hA3, hA4, hA5⟩ := id hmA
  obtain ⟨hS1, hS2, hS3, hS4, hS5, hS6⟩ := id hmS
  obtain ⟨hT1, hT2, hT3, hT4, hT5⟩ := id hmT
  refine lv_iload_n hx hb dX10_isCell_0 rfl (lv_at hl 1 rfl) ?_
  refine lv_i2l hx hb dX10_isCell_1 rfl ?_
  refine lv_lconst (v := 0) hx hb dX10_isCell_2 (by decide) ?_
  refine lv_aload_n hx hb dX10_isCell_3 rfl (lv_at hl 0 rfl) ?_
  refine va_get (D := eD E) (ci := 10) (v := .int (vm 0 0)) (C := RX10) (T := TX10) (N := 79) hx hb hts in_X10 hown hK hP 0 rfl rfl 0 (by decide) lk0 (fun _ h9 => h9) rfl dX10_isCell_4 ?_
  refine lv_iconst (v := 1) hx hb dX10_isCell_7 (by decide) ?_
  refine lv_isub hx hb dX10_isCell_8 ?_
  refine lv_topi (fun x8 e8 => ?_)
  have t8 := i_sub e8 (by omega)
  refine lv_i2l hx hb dX10_isCell_9 rfl ?_
  have lt10_0 : (x.toInt64).toInt = x.toInt := Int32.toInt_toInt64 _
  have lt10_1 : (0 : Int64).toInt = 0 := by decide
  have lt10_2 : (x8.toInt64).toInt = x8.toInt := Int32.toInt_toInt64 _
  refine rd_S (As := [.long x.toInt64, .long 0, .long x8.toInt64]) (rest := []) ⟨hx, hb, hml, hown, hts⟩ (c_X10_in l E A x.toInt64 0 x8.toInt64) (va_cwS 3 hts gX10_isCell_X10_in rfl rfl rfl (by decide +kernel) ⟨Nat.le_of_ble_eq_true rfl, Nat.le_of_ble_eq_true rfl⟩) hE (hP.sub (ws' := []) [] rfl) rfl hl.1 rfl (Nat.le_of_ble_eq_true rfl) dX10_isCell_10 ⟨Nat.zero_le _, Nat.zero_le _⟩ (fun r10 h10 => ?_)
  refine lv_if_eq (tgt := 36) hx hb dX10_isCell_13 (by decide) (fun c13 => ?_) (fun c13 => ?_)
  · have c13_ := i_eq c13
    replace h10 := or_n h10 c13_
    refine lv_iconst (v := 0) hx hb dX10_isCell_36 (by decide) ?_
    subst hQ
    exact W.zret (v := 0) hx hb hr rfl (fun t ht hW => ⟨0, rfl, (by omega), ht⟩) (fun q h => absurd h List.not_mem_nil) dX10_isCell_37
  · have c13_ := i_ne c13
    replace h10 := or_y h10 c13_
    clear c13_
    refine lv_iload_n hx hb dX10_isCell_16 rfl (lv_at hl 2 rfl) ?_
    refine lv_i2l hx hb dX10_isCell_17 rfl ?_
    refine lv_lconst (v := 0) hx hb dX10_isCell_18 (by decide) ?_
    refine lv_aload_n hx hb dX10_isCell_19 rfl (lv_at hl 0 rfl) ?_
    refine va_get (D := eD E) (ci := 10) (v := .int (vm 1 0)) (C := RX10) (T := TX10) (N := 79) hx hb hts in_X10 hown hK hP 0 rfl rfl 1 (by decide) lk1 (fun _ h9 => h9) rfl dX10_isCell_20 ?_
    refine lv_iconst (v := 1) hx hb dX10_isCell_23 (by decide) ?_
    refine lv_isub hx hb dX10_isCell_24 ?_
    refine lv_topi (fun x24 e24 => ?_)
    have t24 := i_sub e24 (by omega)
    refine lv_i2l hx hb dX10_isCell_25 rfl ?_
    have lt26_0 : (y.toInt64).toInt = y.toInt := Int32.toInt_toInt64 _
    have lt26_1 : (0 : Int64).toInt = 0 := by decide
    have lt26_2 : (x24.toInt64).toInt = x24.toInt := Int32.toInt_toInt64 _
    refine rd_S (As := [.long y.toInt64, .long 0, .long x24.toInt64]) (rest := []) ⟨hx, hb, hml, hown, hts⟩ (c_X10_in l E A y.toInt64 0 x24.toInt64) (va_cwS 3 hts gX10_isCell_X10_in rfl rfl rfl (by decide +kernel) ⟨Nat.le_of_ble_eq_true rfl, Nat.le_of_ble_eq_true rfl⟩) hE (hP.sub (ws' := []) [] rfl) rfl hl.1 rfl (Nat.le_of_ble_eq_true rfl) dX10_isCell_26 ⟨Nat.zero_le _, Nat.zero_le _⟩ (fun r26 h26 => ?_)
    refine lv_if_eq (tgt := 36) hx hb dX10_isCell_29 (by decide) (fun c29 => ?_) (fun c29 => ?_)
    · have c29_ := i_eq c29
      replace h26 := or_n h26 c29_
      refine lv_iconst (v := 0) hx hb dX10_isCell_36 (by decide) ?_
      subst hQ
      exact W.zret (v := 0) hx hb hr rfl (fun t ht hW => ⟨0, rfl, (by omega), ht⟩) (fun q h => absurd h List.not_mem_nil) dX10_isCell_37
    · have c29_ := i_ne c29
      replace h26 := or_y h26 c29_
      clear c29_
      refine lv_iconst (v := 1) hx hb dX10_isCell_32 (by decide) ?_
      refine lv_goto (tgt := 37) hx hb dX10_isCell_33 (by decide) ?_
      subst hQ
      exact W.zret (v := 1) hx hb hr rfl (fun t ht hW => ⟨1, rfl, (by omega), ht⟩) (fun q h => absurd h List.not_mem_nil) dX10_isCell_37
def rm_X10_ofPair : Room := { frames := 2, cells := 0, slots := 0, locals := 47 }
set_option maxHeartbeats 4000000 in
set_option maxRecDepth 100000 in
theorem c_X10_ofPair (l : Launch) (E : Ev) (A : Nat → Prop) (am : Nat → Nat) (vm : Vf) (x : Int32) (hH : MdH vm) : Met l yX10_ofPair wsX10_ofPair rm_X10_ofPair (RdP E A [.ref (am 0), .int x] (mdL E am vm)) (vp_Si (fun r => (r.toInt = -1 ∨ ((0 ≤ r.toInt ∧ r.toInt ≤ 23) ∧ 1 ≤ (vm 0 0).toInt)) ∧ (r = mOP vm x))) 0 0 (fun _ => False) := by
  refine Met.ofW (cc := cX10_ofPair) (maxL := 2) (ret := (some .int)) (by decide) rfl ?_
  intro p e s m args below meth c s₁ B hml hv
  obtain ⟨rfl, hE, hP⟩ := hv
  have hx := B.exec
  have hb := B.bytes
  have hr := B.returns
  have hts := atoms_spec (ws := wsX10_ofPair) B.pre
  have hown : s.vm.findClass RX10 = some m.cls := findClass_of_methodNamed B.named
  have hlocks := B.notSynchronized
  have hK := hE.1
  have in_X10 : ∀ w ∈ u_ws RX10 TX10 79, w ∈ wsX10_ofPair := fun w h => List.mem_cons_of_mem _ (List.mem_append_right _ h)
  have lk0 := hts (.fieldLink RX10 159 "TidedGroundModel" "wide" "I") (List.mem_of_getElem? (i := 1) rfl)
  have n_m1 : ((-1) : Int32).toInt = -1 := by decide
  have n_0 : (0 : Int32).toInt = 0 := by decide
  have n_10 : (10 : Int32).toInt = 10 := by decide
  have hl := lv_entry ([.ref (am 0), .int x]) (n := 2) (Nat.le_of_ble_eq_true rfl)
  rw [lg_entry_eq]
  generalize (lg_sl ([.ref (am 0), .int x]) ++ List.replicate (2 - (lg_sl ([.ref (am 0), .int x])).length) Slot.unset).toArray = ls at hl ⊢
  have hl : lv_has ls 2 [(0, .ref (am 0)), (1, .int x)] := hl
  refine W_abs (fun Q hQ => ?_)
  obtain ⟨hmG, hmC, hmZ, hmM, hmA, hmS, hmT⟩ := id hH
  obtain ⟨hG1, hG2, hG3⟩ := id hmG
  obtain ⟨hC1, hC2, hC3, hC4, hC5, hC6⟩ := id hmC
  obtain ⟨hM1, hM2, hM3, hM4⟩ := id hmM
  obtain ⟨hA1, hA2, hA3, hA4, hA5⟩ := id hmA
  obtain ⟨hS1, hS2, hS3, hS4, hS5, hS6⟩ := id hmS
  obtain ⟨hT1, hT2, hT3, hT4, hT5⟩ := id hmT
  refine lv_iload_n hx hb dX10_ofPair_0 rfl (lv_at hl 1 rfl) ?_
  refine lv_if_lt (tgt := 36) hx hb dX10_ofPair_1 (by decide) (fun c1 => ?_) (fun c1 => ?_)
  · have c1_ := i_lt c1
    have hng1 : x.toInt < 0 := by omega
    refine lv_iconst (v := (-1)) hx hb dX10_ofPair_36 (by decide) ?_
    subst hQ
    exact W.iret (v := (-1)) hx hb hr (fun t ht hW => ⟨(-1), rfl, ⟨(by omega), (by first | exact op_neg hng1 n_m1 | exact op_eq hmG hps1 e8 e12 (Or.inl ⟨n_m1, hno16⟩) | exact op_eq hmG hps1 e8 e12 (Or.inr ⟨by rw [← h26t]; omega, hye16⟩))⟩, ht⟩) (fun q h => absurd h List.not_mem_nil) dX10_ofPair_37
  · have c1_ := i_nlt c1
    have hps1 : 0 ≤ x.toInt := by omega
    have rgx := i_rng x
    refine lv_aload_n hx hb dX10_ofPair_4 rfl (lv_at hl 0 rfl) ?_
    refine lv_iload_n hx hb dX10_ofPair_5 rfl (lv_at hl 1 rfl) ?_
    refine lv_bipush (v := 10) hx hb dX10_ofPair_6 (by decide) ?_
    refine lv_idiv hx hb dX10_ofPair_8 (by decide) ?_
    refine lv_topi (fun x8 e8 => ?_)
    have t8 := i_div e8 (by omega) (by omega)
    rw [n_10] at t8
    refine lv_iload_n hx hb dX10_ofPair_9 rfl (lv_at hl 1 rfl) ?_
    refine lv_bipush (v := 10) hx hb dX10_ofPair_10 (by decide) ?_
    refine lv_irem hx hb dX10_ofPair_12 (by decide) ?_
    refine lv_topi (fun x12 e12 => ?_)
    have t12 := i_rem e12 (by omega) (by omega)
    rw [n_10] at t12
    refine rd_V (As := [.int x8, .int x12]) (rest := []) (C := RX10) (ci := 10) ⟨hx, hb, hml, hown, hts⟩ (c_X10_isCell l E A am vm x8 x12 hH) (cwV 2 hts gX10_ofPair_X10_isCell rfl rfl rfl (by decide +kernel) ⟨Nat.le_of_ble_eq_true rfl, Nat.le_of_ble_eq_true rfl⟩) hE (hP.sub (ws' := mdL E am vm) [0, 1, 2, 3, 4, 5, 6, 7, 8, 9, 10, 11, 12, 13, 14, 15, 16, 17, 18, 19, 20, 21, 22, 23, 24, 25, 26, 27, 28, 29, 30, 31, 32, 33, 34, 35, 36, 37, 38, 39, 40, 41, 42, 43, 44, 45] rfl) rfl rfl rfl rfl hl.1 rfl (Nat.le_of_ble_eq_true rfl) dX10_ofPair_13 ⟨Nat.zero_le _, Nat.zero_le _⟩ (fun r13 h13 => ?_)
    refine lv_if_eq (tgt := 36) hx hb dX10_ofPair_16 (by decide) (fun c16 => ?_) (fun c16 => ?_)
    · have c16_ := i_eq c16
      replace h13 := or_n h13 c16_
      have hno16 : x8.toInt < 0 ∨ (vm 0 0).toInt ≤ x8.toInt ∨ x12.toInt < 0 ∨ (vm 1 0).toInt ≤ x12.toInt := by omega
      refine lv_iconst (v := (-1)) hx hb dX10_ofPair_36 (by decide) ?_
      subst hQ
      exact W.iret (v := (-1)) hx hb hr (fun t ht hW => ⟨(-1), rfl, ⟨(by omega), (by first | exact op_neg hng1 n_m1 | exact op_eq hmG hps1 e8 e12 (Or.inl ⟨n_m1, hno16⟩) | exact op_eq hmG hps1 e8 e12 (Or.inr ⟨by rw [← h26t]; omega, hye16⟩))⟩, ht⟩) (fun q h => absurd h List.not_mem_nil) dX10_ofPair_37
    · have c16_ := i_ne c16
      replace h13 := or_y h13 c16_
      clear c16_
      have hye16 : (0 ≤ x8.toInt ∧ x8.toInt < (vm 0 0).toInt) ∧ 0 ≤ x12.toInt ∧ x12.toInt < (vm 1 0).toInt := by omega
      have sv19_x8 : 0 ≤ x8.toInt ∧ x8.toInt ≤ 5 := by omega
      have sv19_x12 : 0 ≤ x12.toInt ∧ x12.toInt ≤ 5 := by omega
      refine lv_aload_n hx hb dX10_ofPair_19 rfl (lv_at hl 0 rfl) ?_
      refine va_get (D := eD E) (ci := 10) (v := .int (vm 0 0)) (C := RX10) (T := TX10) (N := 79) hx hb hts in_X10 hown hK hP 0 rfl rfl 0 (by decide) lk0 (fun _ h9 => h9) rfl dX10_ofPair_20 ?_
      refine lv_iload_n hx hb dX10_ofPair_23 rfl (lv_at hl 1 rfl) ?_
      refine lv_bipush (v := 10) hx hb dX10_ofPair_24 (by decide) ?_
      refine lv_irem hx hb dX10_ofPair_26 (by decide) ?_
      refine lv_topi (fun x26 e26 => ?_)
      have t26 := i_rem e26 (by omega) (by omega)
      rw [n_10] at t26
      have h26 : x26 = x12 := by rw [e26, e12]
      have h26t : x26.toInt = x12.toInt := by rw [h26]
      refine lv_imul hx hb dX10_ofPair_27 ?_
      refine lv_topi (fun x27 e27 => ?_)
      have qm27 := mcell_lt hG1 hG3 (x := x8) (y := x26) (by omega) (by omega) (by omega) (by omega)
      have t27 := i_mul e27 (by omega)
      refine lv_iload_n hx hb dX10_ofPair_28 rfl (lv_at hl 1 rfl) ?_
      refine lv_bipush (v := 10) hx hb dX10_ofPair_29 (by decide) ?_
      refine lv_idiv hx hb dX10_ofPair_31 (by decide) ?_
      refine lv_topi (fun x31 e31 => ?_)
      have t31 := i_div e31 (by omega) (by omega)
      rw [n_10] at t31
      have h31 : x31 = x8 := by rw [e31, e8]
      have h31t : x31.toInt = x8.toInt := by rw [h31]
      refine lv_iadd hx hb dX10_ofPair_32 ?_
      refine lv_topi (fun x32 e32 => ?_)
      have t32 := i_add e32 (by omega)
      refine lv_goto (tgt := 37) hx hb dX10_ofPair_33 (by decide) ?_
      subst hQ
      exact W.iret (v := x32) hx hb hr (fun t ht hW => ⟨x32, rfl, ⟨(by omega), (by first | exact op_neg hng1 n_m1 | exact op_eq hmG hps1 e8 e12 (Or.inl ⟨n_m1, hno16⟩) | exact op_eq hmG hps1 e8 e12 (Or.inr ⟨by rw [← h26t]; omega, hye16⟩))⟩, ht⟩) (fun q h => absurd h List.not_mem_nil) dX10_ofPair_37
def rm_X10_pairOf : Room := { frames := 0, cells := 0, slots := 0, locals := 0 }
set_option maxHeartbeats 4000000 in
set_option maxRecDepth 100000 in
theorem c_X10_pairOf (l : Launch) (E : Ev) (A : Nat → Prop) (am : Nat → Nat) (vm : Vf) (x : Int32) (hH : MdH vm) (hw : 1 ≤ (vm 0 0).toInt) (hx : 0 ≤ x.toInt ∧ x.toInt ≤ 23) : Met l yX10_pairOf wsX10_pairOf rm_X10_pairOf (RdP E A [.ref (am 0), .int x] (mdL E am vm)) (vp_Si (fun r => (True) ∧ (r = mPair vm x))) 0 0 (fun _ => False) := by
  refine Met.ofW (cc := cX10_pairOf) (maxL := 2) (ret := (some .int)) (by decide) rfl ?_
  intro p e s m args below meth c s₁ B hml hv
  obtain ⟨rfl, hE, hP⟩ := hv
  have hx := B.exec
  have hb := B.bytes
  have hr := B.returns
  have hts := atoms_spec (ws := wsX10_pairOf) B.pre
  have hown : s.vm.findClass RX10 = some m.cls := findClass_of_methodNamed B.named
  have hlocks := B.notSynchronized
  have hK := hE.1
  have in_X10 : ∀ w ∈ u_ws RX10 TX10 79, w ∈ wsX10_pairOf := fun w h => List.mem_cons_of_mem _ (List.mem_append_right _ h)
  have lk0 := hts (.fieldLink RX10 159 "TidedGroundModel" "wide" "I") (List.mem_of_getElem? (i := 1) rfl)
  have n_10 : (10 : Int32).toInt = 10 := by decide
  have hl := lv_entry ([.ref (am 0), .int x]) (n := 2) (Nat.le_of_ble_eq_true rfl)
  rw [lg_entry_eq]
  generalize (lg_sl ([.ref (am 0), .int x]) ++ List.replicate (2 - (lg_sl ([.ref (am 0), .int x])).length) Slot.unset).toArray = ls at hl ⊢
  have hl : lv_has ls 2 [(0, .ref (am 0)), (1, .int x)] := hl
  refine W_abs (fun Q hQ => ?_)
  obtain ⟨hmG, hmC, hmZ, hmM, hmA, hmS, hmT⟩ := id hH
  obtain ⟨hG1, hG2, hG3⟩ := id hmG
  obtain ⟨hC1, hC2, hC3, hC4, hC5, hC6⟩ := id hmC
  obtain ⟨hM1, hM2, hM3, hM4⟩ := id hmM
  obtain ⟨hA1, hA2, hA3, hA4, hA5⟩ := id hmA
  obtain ⟨hS1, hS2, hS3, hS4, hS5, hS6⟩ := id hmS
  obtain ⟨hT1, hT2, hT3, hT4, hT5⟩ := id hmT
  refine lv_bipush (v := 10) hx hb dX10_pairOf_0 (by decide) ?_
  refine lv_iload_n hx hb dX10_pairOf_2 rfl (lv_at hl 1 rfl) ?_
  refine lv_aload_n hx hb dX10_pairOf_3 rfl (lv_at hl 0 rfl) ?_
  refine va_get (D := eD E) (ci := 10) (v := .int (vm 0 0)) (C := RX10) (T := TX10) (N := 79) hx hb hts in_X10 hown hK hP 0 rfl rfl 0 (by decide) lk0 (fun _ h9 => h9) rfl dX10_pairOf_4 ?_
  refine lv_irem hx hb dX10_pairOf_7 (i_ne0 (by omega)) ?_
  refine lv_topi (fun x7 e7 => ?_)
  refine lv_imul hx hb dX10_pairOf_8 ?_
  refine lv_topi (fun x8 e8 => ?_)
  refine lv_iload_n hx hb dX10_pairOf_9 rfl (lv_at hl 1 rfl) ?_
  refine lv_aload_n hx hb dX10_pairOf_10 rfl (lv_at hl 0 rfl) ?_
  refine va_get (D := eD E) (ci := 10) (v := .int (vm 0 0)) (C := RX10) (T := TX10) (N := 79) hx hb hts in_X10 hown hK hP 0 rfl rfl 0 (by decide) lk0 (fun _ h9 => h9) rfl dX10_pairOf_11 ?_
  refine lv_idiv hx hb dX10_pairOf_14 (i_ne0 (by omega)) ?_
  refine lv_topi (fun x14 e14 => ?_)
  refine lv_iadd hx hb dX10_pairOf_15 ?_
  refine lv_topi (fun x15 e15 => ?_)
  subst hQ
  exact W.iret (v := x15) hx hb hr (fun t ht hW => ⟨x15, rfl, ⟨trivial, (by unfold mPair; rw [e15, e8, e7, e14])⟩, ht⟩) (fun q h => absurd h List.not_mem_nil) dX10_pairOf_16
def rm_X10_fault : Room := { frames := 0, cells := 0, slots := 0, locals := 0 }
set_option maxHeartbeats 4000000 in
set_option maxRecDepth 100000 in
theorem c_X10_fault (l : Launch) (E : Ev) (A : Nat → Prop) (am : Nat → Nat) (vm : Vf) (hH : MdH vm) : Met l yX10_fault wsX10_fault rm_X10_fault (RdP E A [.ref (am 0)] (mdL E am vm)) (vp_Si (fun r => (True) ∧ (r = vm 33 0))) 0 0 (fun _ => False) := by
  refine Met.ofW (cc := cX10_fault) (maxL := 1) (ret := (some .int)) (by decide) rfl ?_
  intro p e s m args below meth c s₁ B hml hv
  obtain ⟨rfl, hE, hP⟩ := hv
  have hx := B.exec
  have hb := B.bytes
  have hr := B.returns
  have hts := atoms_spec (ws := wsX10_fault) B.pre
  have hown : s.vm.findClass RX10 = some m.cls := findClass_of_methodNamed B.named
  have hlocks := B.notSynchronized
  have hK := hE.1
  have in_X10 : ∀ w ∈ u_ws RX10 TX10 79, w ∈ wsX10_fault := fun w h => List.mem_cons_of_mem _ (List.mem_append_right _ h)
  have lk0 := hts (.fieldLink RX10 74 "TidedGroundModel" "faultPlace" "I") (List.mem_of_getElem? (i := 1) rfl)
  have hl := lv_entry ([.ref (am 0)]) (n := 1) (Nat.le_of_ble_eq_true rfl)
  rw [lg_entry_eq]
  generalize (lg_sl ([.ref (am 0)]) ++ List.replicate (1 - (lg_sl ([.ref (am 0)])).length) Slot.unset).toArray = ls at hl ⊢
  have hl : lv_has ls 1 [(0, .ref (am 0))] := hl
  refine W_abs (fun Q hQ => ?_)
  obtain ⟨hmG, hmC, hmZ, hmM, hmA, hmS, hmT⟩ := id hH
  obtain ⟨hG1, hG2, hG3⟩ := id hmG
  obtain ⟨hC1, hC2, hC3, hC4, hC5, hC6⟩ := id hmC
  obtain ⟨hM1, hM2, hM3, hM4⟩ := id hmM
  obtain ⟨hA1, hA2, hA3, hA4, hA5⟩ := id hmA
  obtain ⟨hS1, hS2, hS3, hS4, hS5, hS6⟩ := id hmS
  obtain ⟨hT1, hT2, hT3, hT4, hT5⟩ := id hmT
  refine lv_aload_n hx hb dX10_fault_0 rfl (lv_at hl 0 rfl) ?_
  refine va_get (D := eD E) (ci := 10) (v := .int (vm 33 0)) (C := RX10) (T := TX10) (N := 79) hx hb hts in_X10 hown hK hP 0 rfl rfl 33 (by decide) lk0 (fun _ h9 => h9) rfl dX10_fault_1 ?_
  subst hQ
  exact W.iret (v := (vm 33 0)) hx hb hr (fun t ht hW => ⟨(vm 33 0), rfl, ⟨trivial, rfl⟩, ht⟩) (fun q h => absurd h List.not_mem_nil) dX10_fault_4
def rm_X10_partOf : Room := { frames := 0, cells := 0, slots := 0, locals := 0 }
set_option maxHeartbeats 4000000 in
set_option maxRecDepth 100000 in
theorem c_X10_partOf (l : Launch) (E : Ev) (A : Nat → Prop) (am : Nat → Nat) (vm : Vf) (k : Int32) (cell : Int32) (step : Int32) (hH : MdH vm) (hw : 1 ≤ (vm 0 0).toInt) (hk : 0 ≤ k.toInt ∧ k.toInt < (vm 4 0).toInt) (hcell : 0 ≤ cell.toInt ∧ cell.toInt ≤ 23) (hstep : 0 ≤ step.toInt ∧ step.toInt ≤ 2000000) : Met l yX10_partOf wsX10_partOf rm_X10_partOf (RdP E A [.ref (am 0), .int k, .int cell, .int step] (mdL E am vm)) (vp_Si (fun r => r = mPart vm k cell step ∧ -9 ≤ r.toInt ∧ r.toInt ≤ 9)) 0 0 (fun _ => False) := by
  refine Met.ofW (cc := cX10_partOf) (maxL := 4) (ret := (some .int)) (by decide) rfl ?_
  intro p e s m args below meth c s₁ B hml hv
  obtain ⟨rfl, hE, hP⟩ := hv
  have hx := B.exec
  have hb := B.bytes
  have hr := B.returns
  have hts := atoms_spec (ws := wsX10_partOf) B.pre
  have hown : s.vm.findClass RX10 = some m.cls := findClass_of_methodNamed B.named
  have hlocks := B.notSynchronized
  have hK := hE.1
  have in_X10 : ∀ w ∈ u_ws RX10 TX10 79, w ∈ wsX10_partOf := fun w h => List.mem_cons_of_mem _ (List.mem_append_right _ h)
  have lk0 := hts (.fieldLink RX10 125 "TidedGroundModel" "away" "I") (List.mem_of_getElem? (i := 1) rfl)
  have lk1 := hts (.fieldLink RX10 25 "TidedGroundModel" "parts" "[I") (List.mem_of_getElem? (i := 2) rfl)
  have lk2 := hts (.fieldLink RX10 59 "TidedGroundModel" "shift" "[I") (List.mem_of_getElem? (i := 3) rfl)
  have lk3 := hts (.fieldLink RX10 19 "TidedGroundModel" "lateX" "[I") (List.mem_of_getElem? (i := 4) rfl)
  have lk4 := hts (.fieldLink RX10 159 "TidedGroundModel" "wide" "I") (List.mem_of_getElem? (i := 5) rfl)
  have lk5 := hts (.fieldLink RX10 22 "TidedGroundModel" "lateY" "[I") (List.mem_of_getElem? (i := 6) rfl)
  have lk6 := hts (.fieldLink RX10 16 "TidedGroundModel" "many" "[I") (List.mem_of_getElem? (i := 7) rfl)
  have n_0 : (0 : Int32).toInt = 0 := by decide
  have n_9 : (9 : Int32).toInt = 9 := by decide
  have hl := lv_entry ([.ref (am 0), .int k, .int cell, .int step]) (n := 4) (Nat.le_of_ble_eq_true rfl)
  rw [lg_entry_eq]
  generalize (lg_sl ([.ref (am 0), .int k, .int cell, .int step]) ++ List.replicate (4 - (lg_sl ([.ref (am 0), .int k, .int cell, .int step])).length) Slot.unset).toArray = ls at hl ⊢
  have hl : lv_has ls 4 [(0, .ref (am 0)), (1, .int k), (2, .int cell), (3, .int step)] := hl
  refine W_abs (fun Q hQ => ?_)
  obtain ⟨hmG, hmC, hmZ, hmM, hmA, hmS, hmT⟩ := id hH
  obtain ⟨hG1, hG2, hG3⟩ := id hmG
  obtain ⟨hC1, hC2, hC3, hC4, hC5, hC6⟩ := id hmC
  obtain ⟨hM1, hM2, hM3, hM4⟩ := id hmM
  obtain ⟨hA1, hA2, hA3, hA4, hA5⟩ := id hmA
  obtain ⟨hS1, hS2, hS3, hS4, hS5, hS6⟩ := id hmS
  obtain ⟨hT1, hT2, hT3, hT4, hT5⟩ := id hmT
  have hmk := (hM2.resolve_left (by omega)) k.toNatClampNeg (i_natlt (by omega) (by decide))
  have hlk := hM3 k.toNatClampNeg (by rw [i_nat (by omega)]; omega)
  refine lv_iload_n hx hb dX10_partOf_0 rfl (lv_at hl 1 rfl) ?_
  refine lv_aload_n hx hb dX10_partOf_1 rfl (lv_at hl 0 rfl) ?_
  refine va_get (D := eD E) (ci := 10) (v := .int (vm 62 0)) (C := RX10) (T := TX10) (N := 79) hx hb hts in_X10 hown hK hP 0 rfl rfl 62 (by decide) lk0 (fun _ h9 => h9) rfl dX10_partOf_2 ?_
  refine lv_icmp_ne (tgt := 12) hx hb dX10_partOf_5 (by decide) (fun c5 => ?_) (fun c5 => ?_)
  · have c5_ := i_ne c5
    refine lv_aload_n hx hb dX10_partOf_12 rfl (lv_at hl 0 rfl) ?_
    refine va_get (D := eD E) (ci := 10) (v := .ref (am 8)) (C := RX10) (T := TX10) (N := 79) hx hb hts in_X10 hown hK hP 0 rfl rfl 8 (by decide) lk1 (fun _ h9 => h9) rfl dX10_partOf_13 ?_
    refine lv_bipush (v := 9) hx hb dX10_partOf_16 (by decide) ?_
    refine lv_iload_n hx hb dX10_partOf_18 rfl (lv_at hl 1 rfl) ?_
    refine lv_imul hx hb dX10_partOf_19 ?_
    refine lv_topi (fun x19 e19 => ?_)
    have t19 := i_mul e19 (by rw [n_9]; omega)
    rw [n_9] at t19
    refine lv_iload_n hx hb dX10_partOf_20 rfl (lv_at hl 3 rfl) ?_
    refine lv_aload_n hx hb dX10_partOf_21 rfl (lv_at hl 0 rfl) ?_
    refine va_get (D := eD E) (ci := 10) (v := .ref (am 24)) (C := RX10) (T := TX10) (N := 79) hx hb hts in_X10 hown hK hP 0 rfl rfl 24 (by decide) lk2 (fun _ h9 => h9) rfl dX10_partOf_22 ?_
    refine lv_iload_n hx hb dX10_partOf_25 rfl (lv_at hl 1 rfl) ?_
    refine va_iald hx hb hK hP 16 0 rfl rfl (n := 3) (f := (vm 24)) (i_in (by omega) (by omega)) dX10_partOf_26 ?_
    refine lv_topi (fun x26 e26 => ?_)
    have b26 := hS2 k.toNatClampNeg (i_natlt (by omega) (by decide))
    rw [← e26] at b26
    refine lv_iadd hx hb dX10_partOf_27 ?_
    refine lv_topi (fun x27 e27 => ?_)
    have t27 := i_add e27 (by omega)
    refine lv_aload_n hx hb dX10_partOf_28 rfl (lv_at hl 0 rfl) ?_
    refine va_get (D := eD E) (ci := 10) (v := .ref (am 6)) (C := RX10) (T := TX10) (N := 79) hx hb hts in_X10 hown hK hP 0 rfl rfl 6 (by decide) lk3 (fun _ h9 => h9) rfl dX10_partOf_29 ?_
    refine lv_iload_n hx hb dX10_partOf_32 rfl (lv_at hl 1 rfl) ?_
    refine va_iald hx hb hK hP 4 0 rfl rfl (n := 3) (f := (vm 6)) (i_in (by omega) (by omega)) dX10_partOf_33 ?_
    refine lv_topi (fun x33 e33 => ?_)
    have b33 := hlk.1
    rw [← e33] at b33
    refine lv_iload_n hx hb dX10_partOf_34 rfl (lv_at hl 2 rfl) ?_
    refine lv_aload_n hx hb dX10_partOf_35 rfl (lv_at hl 0 rfl) ?_
    refine va_get (D := eD E) (ci := 10) (v := .int (vm 0 0)) (C := RX10) (T := TX10) (N := 79) hx hb hts in_X10 hown hK hP 0 rfl rfl 0 (by decide) lk4 (fun _ h9 => h9) rfl dX10_partOf_36 ?_
    refine lv_irem hx hb dX10_partOf_39 (i_ne0 (by omega)) ?_
    refine lv_topi (fun x39 e39 => ?_)
    have t39 := i_rem e39 (by omega) (by omega)
    have sv40_x33 : 0 ≤ x33.toInt ∧ x33.toInt ≤ 8 := by omega
    refine lv_imul hx hb dX10_partOf_40 ?_
    refine lv_topi (fun x40 e40 => ?_)
    have t40 := i_mulc 24 e40 (by omega) (by omega) (by omega) (by omega) (by omega)
    refine lv_iadd hx hb dX10_partOf_41 ?_
    refine lv_topi (fun x41 e41 => ?_)
    have t41 := i_add e41 (by omega)
    refine lv_aload_n hx hb dX10_partOf_42 rfl (lv_at hl 0 rfl) ?_
    refine va_get (D := eD E) (ci := 10) (v := .ref (am 7)) (C := RX10) (T := TX10) (N := 79) hx hb hts in_X10 hown hK hP 0 rfl rfl 7 (by decide) lk5 (fun _ h9 => h9) rfl dX10_partOf_43 ?_
    refine lv_iload_n hx hb dX10_partOf_46 rfl (lv_at hl 1 rfl) ?_
    refine va_iald hx hb hK hP 5 0 rfl rfl (n := 3) (f := (vm 7)) (i_in (by omega) (by omega)) dX10_partOf_47 ?_
    refine lv_topi (fun x47 e47 => ?_)
    have b47 := hlk.2
    rw [← e47] at b47
    refine lv_iload_n hx hb dX10_partOf_48 rfl (lv_at hl 2 rfl) ?_
    refine lv_aload_n hx hb dX10_partOf_49 rfl (lv_at hl 0 rfl) ?_
    refine va_get (D := eD E) (ci := 10) (v := .int (vm 0 0)) (C := RX10) (T := TX10) (N := 79) hx hb hts in_X10 hown hK hP 0 rfl rfl 0 (by decide) lk4 (fun _ h9 => h9) rfl dX10_partOf_50 ?_
    refine lv_idiv hx hb dX10_partOf_53 (i_ne0 (by omega)) ?_
    refine lv_topi (fun x53 e53 => ?_)
    have t53 := i_div e53 (by omega) (by omega)
    have sv54_x47 : 0 ≤ x47.toInt ∧ x47.toInt ≤ 8 := by omega
    refine lv_imul hx hb dX10_partOf_54 ?_
    refine lv_topi (fun x54 e54 => ?_)
    have t54 := i_mulc 24 e54 (by omega) (by omega) (by omega) (by omega) (by omega)
    refine lv_iadd hx hb dX10_partOf_55 ?_
    refine lv_topi (fun x55 e55 => ?_)
    have t55 := i_add e55 (by omega)
    refine lv_aload_n hx hb dX10_partOf_56 rfl (lv_at hl 0 rfl) ?_
    refine va_get (D := eD E) (ci := 10) (v := .ref (am 5)) (C := RX10) (T := TX10) (N := 79) hx hb hts in_X10 hown hK hP 0 rfl rfl 5 (by decide) lk6 (fun _ h9 => h9) rfl dX10_partOf_57 ?_
    refine lv_iload_n hx hb dX10_partOf_60 rfl (lv_at hl 1 rfl) ?_
    refine va_iald hx hb hK hP 3 0 rfl rfl (n := 3) (f := (vm 5)) (i_in (by omega) (by omega)) dX10_partOf_61 ?_
    refine lv_topi (fun x61 e61 => ?_)
    have b61 := hM1 k.toNatClampNeg (i_natlt (by omega) (by decide))
    rw [← e61] at b61
    rw [← e61] at hmk
    have sv62_x61 : 1 ≤ x61.toInt ∧ x61.toInt ≤ 9 := by omega
    refine lv_irem hx hb dX10_partOf_62 (i_ne0 (by omega)) ?_
    refine lv_topi (fun x62 e62 => ?_)
    have t62 := i_rem e62 (by omega) (by omega)
    refine lv_iadd hx hb dX10_partOf_63 ?_
    refine lv_topi (fun x63 e63 => ?_)
    have t63 := i_add e63 (by omega)
    refine va_iald hx hb hK hP 6 0 rfl rfl (n := 27) (f := (vm 8)) (i_in (by omega) (by omega)) dX10_partOf_64 ?_
    refine lv_topi (fun x64 e64 => ?_)
    have b64 := hM4 x63.toNatClampNeg (i_natlt (by omega) (by decide))
    rw [← e64] at b64
    subst hQ
    exact W.iret (v := x64) hx hb hr (fun t ht hW => ⟨x64, rfl, (by refine ⟨?_, by omega, by omega⟩; first | (unfold mPart; rw [if_pos c5]) | (unfold mPart; rw [if_neg c5, e64, e63, e62, e61, e55, e54, e53, e47, e41, e40, e39, e33, e27, e26, e19])), ht⟩) (fun q h => absurd h List.not_mem_nil) dX10_partOf_65
  · have c5_ := i_eq c5
    refine lv_iconst (v := 0) hx hb dX10_partOf_8 (by decide) ?_
    refine lv_goto (tgt := 65) hx hb dX10_partOf_9 (by decide) ?_
    subst hQ
    exact W.iret (v := 0) hx hb hr (fun t ht hW => ⟨0, rfl, (by refine ⟨?_, by omega, by omega⟩; first | (unfold mPart; rw [if_pos c5]) | (unfold mPart; rw [if_neg c5, e64, e63, e62, e61, e55, e54, e53, e47, e41, e40, e39, e33, e27, e26, e19])), ht⟩) (fun q h => absurd h List.not_mem_nil) dX10_partOf_65
def rm_X10_pullAt : Room := { frames := 1, cells := 0, slots := 0, locals := 23 }
set_option maxHeartbeats 4000000 in
set_option maxRecDepth 100000 in
theorem c_X10_pullAt (l : Launch) (E : Ev) (A : Nat → Prop) (am : Nat → Nat) (vm : Vf) (cell : Int32) (step : Int32) (hH : MdH vm) (hw : 1 ≤ (vm 0 0).toInt) (hcell : 0 ≤ cell.toInt ∧ cell.toInt ≤ 23) (hstep : 0 ≤ step.toInt ∧ step.toInt ≤ 2000000) : Met l yX10_pullAt wsX10_pullAt rm_X10_pullAt (RdP E A [.ref (am 0), .int cell, .int step] (mdL E am vm)) (vp_Si (fun r => r = mPull vm cell step ∧ -27 ≤ r.toInt ∧ r.toInt ≤ 27)) 0 0 (fun _ => False) := by
  refine Met.ofW (cc := cX10_pullAt) (maxL := 5) (ret := (some .int)) (by decide) rfl ?_
  intro p e s m args below meth c s₁ B hml hv
  obtain ⟨rfl, hE, hP⟩ := hv
  have hx := B.exec
  have hb := B.bytes
  have hr := B.returns
  have hts := atoms_spec (ws := wsX10_pullAt) B.pre
  have hown : s.vm.findClass RX10 = some m.cls := findClass_of_methodNamed B.named
  have hlocks := B.notSynchronized
  have hK := hE.1
  have in_X10 : ∀ w ∈ u_ws RX10 TX10 79, w ∈ wsX10_pullAt := fun w h => List.mem_cons_of_mem _ (List.mem_append_right _ h)
  have lk0 := hts (.fieldLink RX10 267 "TidedGroundModel" "moons" "I") (List.mem_of_getElem? (i := 1) rfl)
  have n_0 : (0 : Int32).toInt = 0 := by decide
  have n_1 : (1 : Int32).toInt = 1 := by decide
  have hl := lv_entry ([.ref (am 0), .int cell, .int step]) (n := 5) (Nat.le_of_ble_eq_true rfl)
  rw [lg_entry_eq]
  generalize (lg_sl ([.ref (am 0), .int cell, .int step]) ++ List.replicate (5 - (lg_sl ([.ref (am 0), .int cell, .int step])).length) Slot.unset).toArray = ls at hl ⊢
  have hl : lv_has ls 5 [(0, .ref (am 0)), (1, .int cell), (2, .int step)] := hl
  refine W_abs (fun Q hQ => ?_)
  obtain ⟨hmG, hmC, hmZ, hmM, hmA, hmS, hmT⟩ := id hH
  obtain ⟨hG1, hG2, hG3⟩ := id hmG
  obtain ⟨hC1, hC2, hC3, hC4, hC5, hC6⟩ := id hmC
  obtain ⟨hM1, hM2, hM3, hM4⟩ := id hmM
  obtain ⟨hA1, hA2, hA3, hA4, hA5⟩ := id hmA
  obtain ⟨hS1, hS2, hS3, hS4, hS5, hS6⟩ := id hmS
  obtain ⟨hT1, hT2, hT3, hT4, hT5⟩ := id hmT
  refine lv_iconst (v := 0) hx hb dX10_pullAt_0 (by decide) ?_
  refine lv_istore_n (lv' := [(3, .int 0), (0, .ref (am 0)), (1, .int cell), (2, .int step)]) hx hb dX10_pullAt_1 rfl hl (by decide) rfl (fun ls hl => ?_)
  refine lv_iconst (v := 0) hx hb dX10_pullAt_2 (by decide) ?_
  refine lv_istore (lv' := [(4, .int 0), (3, .int 0), (0, .ref (am 0)), (1, .int cell), (2, .int step)]) hx hb dX10_pullAt_3 hl (by decide) rfl (fun ls hl => ?_)
  have K5 : ∀ (μ : Nat) (sum : Int32) (i : Int32) (ls : Array Slot), (3 - i.toInt).toNat < μ → (0 ≤ i.toInt ∧ i.toInt ≤ (vm 4 0).toInt) → (sum = mPullN vm cell step i.toNatClampNeg) → (-9 * i.toInt ≤ sum.toInt ∧ sum.toInt ≤ 9 * i.toInt) → lv_has ls 5 [(0, .ref (am 0)), (1, .int cell), (2, .int step), (3, .int sum), (4, .int i)] → W p l e (headSpec wsX10_pullAt rm_X10_pullAt).room s m ([.ref (am 0), .int cell, .int step] : List Value).toArray below meth c s.heap [] 0 0 Q (F0 m 5 ls []) := by
    intro μ
    induction μ with
    | zero =>
      intro sum i ls hμ5
      exact absurd hμ5 (Nat.not_lt_zero _)
    | succ μ ih5 =>
      intro sum i ls hμ5 h5_0 h5_1 h5_2 hl
      refine lv_iload hx hb dX10_pullAt_5 (lv_at hl 4 rfl) ?_
      refine lv_aload_n hx hb dX10_pullAt_7 rfl (lv_at hl 0 rfl) ?_
      refine va_get (D := eD E) (ci := 10) (v := .int (vm 4 0)) (C := RX10) (T := TX10) (N := 79) hx hb hts in_X10 hown hK hP 0 rfl rfl 4 (by decide) lk0 (fun _ h9 => h9) rfl dX10_pullAt_8 ?_
      refine lv_icmp_ge (tgt := 31) hx hb dX10_pullAt_11 (by decide) (fun c11 => ?_) (fun c11 => ?_)
      · have c11_ := i_le c11
        refine lv_iload_n hx hb dX10_pullAt_31 rfl (lv_at hl 3 rfl) ?_
        subst hQ
        exact W.iret (v := sum) hx hb hr (fun t ht hW => ⟨sum, rfl, ⟨(by unfold mPull; rw [h5_1, show i = vm 4 0 from i_eqr (by omega)]), by omega, by omega⟩, ht⟩) (fun q h => absurd h List.not_mem_nil) dX10_pullAt_32
      · have c11_ := i_nle c11
        refine lv_iload_n hx hb dX10_pullAt_14 rfl (lv_at hl 3 rfl) ?_
        refine lv_aload_n hx hb dX10_pullAt_15 rfl (lv_at hl 0 rfl) ?_
        refine lv_iload hx hb dX10_pullAt_16 (lv_at hl 4 rfl) ?_
        refine lv_iload_n hx hb dX10_pullAt_18 rfl (lv_at hl 1 rfl) ?_
        refine lv_iload_n hx hb dX10_pullAt_19 rfl (lv_at hl 2 rfl) ?_
        refine rd_V (As := [.int i, .int cell, .int step]) (rest := [.int sum]) (C := RX10) (ci := 10) ⟨hx, hb, hml, hown, hts⟩ (c_X10_partOf l E A am vm i cell step hH (by omega) (by omega) (by omega) (by omega)) (cwV 3 hts gX10_pullAt_X10_partOf rfl rfl rfl (by decide +kernel) ⟨Nat.le_of_ble_eq_true rfl, Nat.le_of_ble_eq_true rfl⟩) hE (hP.sub (ws' := mdL E am vm) [0, 1, 2, 3, 4, 5, 6, 7, 8, 9, 10, 11, 12, 13, 14, 15, 16, 17, 18, 19, 20, 21, 22, 23, 24, 25, 26, 27, 28, 29, 30, 31, 32, 33, 34, 35, 36, 37, 38, 39, 40, 41, 42, 43, 44, 45] rfl) rfl rfl rfl rfl hl.1 rfl (Nat.le_of_ble_eq_true rfl) dX10_pullAt_20 ⟨Nat.zero_le _, Nat.zero_le _⟩ (fun r20 h20 => ?_)
        refine lv_iadd hx hb dX10_pullAt_23 ?_
        refine lv_topi (fun x23 e23 => ?_)
        have t23 := i_add e23 (by omega)
        refine lv_istore_n (lv' := [(3, .int x23), (0, .ref (am 0)), (1, .int cell), (2, .int step), (4, .int i)]) hx hb dX10_pullAt_24 rfl hl (by decide) rfl (fun ls hl => ?_)
        obtain ⟨x25, e25⟩ : ∃ y : Int32, y = i + 1 := ⟨_, rfl⟩
        refine lv_iinc (v := x25) (lv' := [(4, .int x25), (3, .int x23), (0, .ref (am 0)), (1, .int cell), (2, .int step)]) hx hb dX10_pullAt_25 hl (k := 4) rfl (by rw [e25]; rfl) (by decide) rfl (fun ls hl => ?_)
        have t25 := i_add e25 (by omega)
        refine lv_goto (tgt := 5) hx hb dX10_pullAt_28 (by decide) ?_
        exact ih5 x23 x25 ls (by omega) (by omega) (mPull_next h5_1 h5_0.1 (by omega) h20.1 e23) (by omega) (lv_sub hl [2, 3, 4, 1, 0] rfl)
  exact K5 _ 0 0 ls (Nat.lt_succ_self _) (by omega) rfl (by omega) (lv_sub hl [2, 3, 4, 1, 0] rfl)
def rm_X10_stiffOf : Room := { frames := 0, cells := 0, slots := 0, locals := 0 }
set_option maxHeartbeats 4000000 in
set_option maxRecDepth 100000 in
theorem c_X10_stiffOf (l : Launch) (E : Ev) (A : Nat → Prop) (am : Nat → Nat) (vm : Vf) (cell : Int32) (hH : MdH vm) (hw : 1 ≤ (vm 0 0).toInt) (hcell : 0 ≤ cell.toInt ∧ cell.toInt ≤ 23) : Met l yX10_stiffOf wsX10_stiffOf rm_X10_stiffOf (RdP E A [.ref (am 0), .int cell] (mdL E am vm)) (vp_Si (fun r => r = mStiff vm cell ∧ 0 ≤ r.toInt ∧ r.toInt ≤ 9)) 0 0 (fun _ => False) := by
  refine Met.ofW (cc := cX10_stiffOf) (maxL := 3) (ret := (some .int)) (by decide) rfl ?_
  intro p e s m args below meth c s₁ B hml hv
  obtain ⟨rfl, hE, hP⟩ := hv
  have hx := B.exec
  have hb := B.bytes
  have hr := B.returns
  have hts := atoms_spec (ws := wsX10_stiffOf) B.pre
  have hown : s.vm.findClass RX10 = some m.cls := findClass_of_methodNamed B.named
  have hlocks := B.notSynchronized
  have hK := hE.1
  have in_X10 : ∀ w ∈ u_ws RX10 TX10 79, w ∈ wsX10_stiffOf := fun w h => List.mem_cons_of_mem _ (List.mem_append_right _ h)
  have lk0 := hts (.fieldLink RX10 13 "TidedGroundModel" "soft" "[I") (List.mem_of_getElem? (i := 1) rfl)
  have lk1 := hts (.fieldLink RX10 62 "TidedGroundModel" "load" "[I") (List.mem_of_getElem? (i := 2) rfl)
  have n_0 : (0 : Int32).toInt = 0 := by decide
  have n_10 : (10 : Int32).toInt = 10 := by decide
  have hl := lv_entry ([.ref (am 0), .int cell]) (n := 3) (Nat.le_of_ble_eq_true rfl)
  rw [lg_entry_eq]
  generalize (lg_sl ([.ref (am 0), .int cell]) ++ List.replicate (3 - (lg_sl ([.ref (am 0), .int cell])).length) Slot.unset).toArray = ls at hl ⊢
  have hl : lv_has ls 3 [(0, .ref (am 0)), (1, .int cell)] := hl
  refine W_abs (fun Q hQ => ?_)
  obtain ⟨hmG, hmC, hmZ, hmM, hmA, hmS, hmT⟩ := id hH
  obtain ⟨hG1, hG2, hG3⟩ := id hmG
  obtain ⟨hC1, hC2, hC3, hC4, hC5, hC6⟩ := id hmC
  obtain ⟨hM1, hM2, hM3, hM4⟩ := id hmM
  obtain ⟨hA1, hA2, hA3, hA4, hA5⟩ := id hmA
  obtain ⟨hS1, hS2, hS3, hS4, hS5, hS6⟩ := id hmS
  obtain ⟨hT1, hT2, hT3, hT4, hT5⟩ := id hmT
  have hbs := hA4.resolve_left (by omega)
  refine lv_aload_n hx hb dX10_stiffOf_0 rfl (lv_at hl 0 rfl) ?_
  refine va_get (D := eD E) (ci := 10) (v := .ref (am 3)) (C := RX10) (T := TX10) (N := 79) hx hb hts in_X10 hown hK hP 0 rfl rfl 3 (by decide) lk0 (fun _ h9 => h9) rfl dX10_stiffOf_1 ?_
  refine lv_iload_n hx hb dX10_stiffOf_4 rfl (lv_at hl 1 rfl) ?_
  refine va_iald hx hb hK hP 2 0 rfl rfl (n := 24) (f := (vm 3)) (i_in (by omega) (by omega)) dX10_stiffOf_5 ?_
  refine lv_topi (fun x5 e5 => ?_)
  have b5 := hbs.2 cell.toNatClampNeg (i_natlt (by omega) (by decide))
  rw [← e5] at b5
  refine lv_aload_n hx hb dX10_stiffOf_6 rfl (lv_at hl 0 rfl) ?_
  refine va_get (D := eD E) (ci := 10) (v := .ref (am 25)) (C := RX10) (T := TX10) (N := 79) hx hb hts in_X10 hown hK hP 0 rfl rfl 25 (by decide) lk1 (fun _ h9 => h9) rfl dX10_stiffOf_7 ?_
  refine lv_iload_n hx hb dX10_stiffOf_10 rfl (lv_at hl 1 rfl) ?_
  refine va_iald hx hb hK hP 17 0 rfl rfl (n := 24) (f := (vm 25)) (i_in (by omega) (by omega)) dX10_stiffOf_11 ?_
  refine lv_topi (fun x11 e11 => ?_)
  have b11 := hS3 cell.toNatClampNeg (i_natlt (by omega) (by decide))
  rw [← e11] at b11
  refine lv_bipush (v := 10) hx hb dX10_stiffOf_12 (by decide) ?_
  refine lv_idiv hx hb dX10_stiffOf_14 (by decide) ?_
  refine lv_topi (fun x14 e14 => ?_)
  have t14 := i_div e14 (by omega) (by omega)
  rw [n_10] at t14
  refine lv_isub hx hb dX10_stiffOf_15 ?_
  refine lv_topi (fun x15 e15 => ?_)
  have t15 := i_sub e15 (by omega)
  refine lv_istore_n (lv' := [(2, .int x15), (0, .ref (am 0)), (1, .int cell)]) hx hb dX10_stiffOf_16 rfl hl (by decide) rfl (fun ls hl => ?_)
  refine lv_iload_n hx hb dX10_stiffOf_17 rfl (lv_at hl 0 rfl) ?_
  refine lv_if_ge (tgt := 25) hx hb dX10_stiffOf_18 (by decide) (fun c18 => ?_) (fun c18 => ?_)
  · have c18_ := i_le c18
    refine lv_iload_n hx hb dX10_stiffOf_25 rfl (lv_at hl 0 rfl) ?_
    subst hQ
    exact W.iret (v := x15) hx hb hr (fun t ht hW => ⟨x15, rfl, (by refine ⟨?_, by omega, by omega⟩; have q : x15 = vm 3 cell.toNatClampNeg - vm 25 cell.toNatClampNeg / 10 := (by rw [e15, e14, e11, e5]); unfold mStiff; rw [← q]; first | rw [if_neg (Int32.not_lt.mpr c18)] | rw [if_pos (Int32.not_le.mp c18)]), ht⟩) (fun q h => absurd h List.not_mem_nil) dX10_stiffOf_26
  · have c18_ := i_nle c18
    refine lv_iconst (v := 0) hx hb dX10_stiffOf_21 (by decide) ?_
    refine lv_goto (tgt := 26) hx hb dX10_stiffOf_22 (by decide) ?_
    subst hQ
    exact W.iret (v := 0) hx hb hr (fun t ht hW => ⟨0, rfl, (by refine ⟨?_, by omega, by omega⟩; have q : x15 = vm 3 cell.toNatClampNeg - vm 25 cell.toNatClampNeg / 10 := (by rw [e15, e14, e11, e5]); unfold mStiff; rw [← q]; first | rw [if_neg (Int32.not_lt.mpr c18)] | rw [if_pos (Int32.not_le.mp c18)]), ht⟩) (fun q h => absurd h List.not_mem_nil) dX10_stiffOf_26
def rm_X10_heightAt : Room := { frames := 2, cells := 0, slots := 0, locals := 47 }
set_option maxHeartbeats 4000000 in
set_option maxRecDepth 100000 in
theorem c_X10_heightAt (l : Launch) (E : Ev) (A : Nat → Prop) (am : Nat → Nat) (vm : Vf) (cell : Int32) (step : Int32) (hH : MdH vm) (hw : 1 ≤ (vm 0 0).toInt) (hcell : 0 ≤ cell.toInt ∧ cell.toInt ≤ 23) (hstep : 0 ≤ step.toInt ∧ step.toInt ≤ 2000000) : Met l yX10_heightAt wsX10_heightAt rm_X10_heightAt (RdP E A [.ref (am 0), .int cell, .int step] (mdL E am vm)) (vp_Si (fun r => r = mH vm cell step ∧ -243 ≤ r.toInt ∧ r.toInt ≤ 342)) 0 0 (fun _ => False) := by
  refine Met.ofW (cc := cX10_heightAt) (maxL := 3) (ret := (some .int)) (by decide) rfl ?_
  intro p e s m args below meth c s₁ B hml hv
  obtain ⟨rfl, hE, hP⟩ := hv
  have hx := B.exec
  have hb := B.bytes
  have hr := B.returns
  have hts := atoms_spec (ws := wsX10_heightAt) B.pre
  have hown : s.vm.findClass RX10 = some m.cls := findClass_of_methodNamed B.named
  have hlocks := B.notSynchronized
  have hK := hE.1
  have in_X10 : ∀ w ∈ u_ws RX10 TX10 79, w ∈ wsX10_heightAt := fun w h => List.mem_cons_of_mem _ (List.mem_append_right _ h)
  have lk0 := hts (.fieldLink RX10 7 "TidedGroundModel" "base" "[I") (List.mem_of_getElem? (i := 1) rfl)
  have hl := lv_entry ([.ref (am 0), .int cell, .int step]) (n := 3) (Nat.le_of_ble_eq_true rfl)
  rw [lg_entry_eq]
  generalize (lg_sl ([.ref (am 0), .int cell, .int step]) ++ List.replicate (3 - (lg_sl ([.ref (am 0), .int cell, .int step])).length) Slot.unset).toArray = ls at hl ⊢
  have hl : lv_has ls 3 [(0, .ref (am 0)), (1, .int cell), (2, .int step)] := hl
  refine W_abs (fun Q hQ => ?_)
  obtain ⟨hmG, hmC, hmZ, hmM, hmA, hmS, hmT⟩ := id hH
  obtain ⟨hG1, hG2, hG3⟩ := id hmG
  obtain ⟨hC1, hC2, hC3, hC4, hC5, hC6⟩ := id hmC
  obtain ⟨hM1, hM2, hM3, hM4⟩ := id hmM
  obtain ⟨hA1, hA2, hA3, hA4, hA5⟩ := id hmA
  obtain ⟨hS1, hS2, hS3, hS4, hS5, hS6⟩ := id hmS
  obtain ⟨hT1, hT2, hT3, hT4, hT5⟩ := id hmT
  have hbs := hA4.resolve_left (by omega)
  refine lv_aload_n hx hb dX10_heightAt_0 rfl (lv_at hl 0 rfl) ?_
  refine va_get (D := eD E) (ci := 10) (v := .ref (am 2)) (C := RX10) (T := TX10) (N := 79) hx hb hts in_X10 hown hK hP 0 rfl rfl 2 (by decide) lk0 (fun _ h9 => h9) rfl dX10_heightAt_1 ?_
  refine lv_iload_n hx hb dX10_heightAt_4 rfl (lv_at hl 1 rfl) ?_
  refine va_iald hx hb hK hP 1 0 rfl rfl (n := 24) (f := (vm 2)) (i_in (by omega) (by omega)) dX10_heightAt_5 ?_
  refine lv_topi (fun x5 e5 => ?_)
  have b5 := hbs.1 cell.toNatClampNeg (i_natlt (by omega) (by decide))
  rw [← e5] at b5
  refine lv_aload_n hx hb dX10_heightAt_6 rfl (lv_at hl 0 rfl) ?_
  refine lv_iload_n hx hb dX10_heightAt_7 rfl (lv_at hl 1 rfl) ?_
  refine rd_V (As := [.int cell]) (rest := [.int x5]) (C := RX10) (ci := 10) ⟨hx, hb, hml, hown, hts⟩ (c_X10_stiffOf l E A am vm cell hH (by omega) (by omega)) (cwV 1 hts gX10_heightAt_X10_stiffOf rfl rfl rfl (by decide +kernel) ⟨Nat.le_of_ble_eq_true rfl, Nat.le_of_ble_eq_true rfl⟩) hE (hP.sub (ws' := mdL E am vm) [0, 1, 2, 3, 4, 5, 6, 7, 8, 9, 10, 11, 12, 13, 14, 15, 16, 17, 18, 19, 20, 21, 22, 23, 24, 25, 26, 27, 28, 29, 30, 31, 32, 33, 34, 35, 36, 37, 38, 39, 40, 41, 42, 43, 44, 45] rfl) rfl rfl rfl rfl hl.1 rfl (Nat.le_of_ble_eq_true rfl) dX10_heightAt_8 ⟨Nat.zero_le _, Nat.zero_le _⟩ (fun r8 h8 => ?_)
  refine lv_aload_n hx hb dX10_heightAt_11 rfl (lv_at hl 0 rfl) ?_
  refine lv_iload_n hx hb dX10_heightAt_12 rfl (lv_at hl 1 rfl) ?_
  refine lv_iload_n hx hb dX10_heightAt_13 rfl (lv_at hl 2 rfl) ?_
  refine rd_V (As := [.int cell, .int step]) (rest := [.int r8, .int x5]) (C := RX10) (ci := 10) ⟨hx, hb, hml, hown, hts⟩ (c_X10_pullAt l E A am vm cell step hH (by omega) (by omega) (by omega)) (cwV 2 hts gX10_heightAt_X10_pullAt rfl rfl rfl (by decide +kernel) ⟨Nat.le_of_ble_eq_true rfl, Nat.le_of_ble_eq_true rfl⟩) hE (hP.sub (ws' := mdL E am vm) [0, 1, 2, 3, 4, 5, 6, 7, 8, 9, 10, 11, 12, 13, 14, 15, 16, 17, 18, 19, 20, 21, 22, 23, 24, 25, 26, 27, 28, 29, 30, 31, 32, 33, 34, 35, 36, 37, 38, 39, 40, 41, 42, 43, 44, 45] rfl) rfl rfl rfl rfl hl.1 rfl (Nat.le_of_ble_eq_true rfl) dX10_heightAt_14 ⟨Nat.zero_le _, Nat.zero_le _⟩ (fun r14 h14 => ?_)
  refine lv_imul hx hb dX10_heightAt_17 ?_
  refine lv_topi (fun x17 e17 => ?_)
  have t17 := i_mulr e17 (by omega) (by omega)
  refine lv_iadd hx hb dX10_heightAt_18 ?_
  refine lv_topi (fun x18 e18 => ?_)
  have t18 := i_add e18 (by omega)
  subst hQ
  exact W.iret (v := x18) hx hb hr (fun t ht hW => ⟨x18, rfl, ⟨(by unfold mH; rw [e18, e17, e5, h8.1, h14.1]), by omega, by omega⟩, ht⟩) (fun q h => absurd h List.not_mem_nil) dX10_heightAt_19
def rm_X10_beside : Room := { frames := 2, cells := 0, slots := 0, locals := 47 }
set_option maxHeartbeats 4000000 in
set_option maxRecDepth 100000 in
theorem c_X10_beside (l : Launch) (E : Ev) (A : Nat → Prop) (am : Nat → Nat) (vm : Vf) (cell : Int32) (way : Int32) (hH : MdH vm) (hw : 1 ≤ (vm 0 0).toInt) (hcell : 0 ≤ cell.toInt ∧ cell.toInt ≤ 23) : Met l yX10_beside wsX10_beside rm_X10_beside (RdP E A [.ref (am 0), .int cell, .int way] (mdL E am vm)) (vp_Si (fun r => r = mBes vm cell way ∧ (r.toInt = -1 ∨ (0 ≤ r.toInt ∧ r.toInt ≤ 23)))) 0 0 (fun _ => False) := by
  refine Met.ofW (cc := cX10_beside) (maxL := 5) (ret := (some .int)) (by decide) rfl ?_
  intro p e s m args below meth c s₁ B hml hv
  obtain ⟨rfl, hE, hP⟩ := hv
  have hx := B.exec
  have hb := B.bytes
  have hr := B.returns
  have hts := atoms_spec (ws := wsX10_beside) B.pre
  have hown : s.vm.findClass RX10 = some m.cls := findClass_of_methodNamed B.named
  have hlocks := B.notSynchronized
  have hK := hE.1
  have in_X10 : ∀ w ∈ u_ws RX10 TX10 79, w ∈ wsX10_beside := fun w h => List.mem_cons_of_mem _ (List.mem_append_right _ h)
  have lk0 := hts (.fieldLink RX10 159 "TidedGroundModel" "wide" "I") (List.mem_of_getElem? (i := 1) rfl)
  have n_m1 : ((-1) : Int32).toInt = -1 := by decide
  have n_0 : (0 : Int32).toInt = 0 := by decide
  have n_1 : (1 : Int32).toInt = 1 := by decide
  have n_2 : (2 : Int32).toInt = 2 := by decide
  have n_3 : (3 : Int32).toInt = 3 := by decide
  have n_4 : (4 : Int32).toInt = 4 := by decide
  have hl := lv_entry ([.ref (am 0), .int cell, .int way]) (n := 5) (Nat.le_of_ble_eq_true rfl)
  rw [lg_entry_eq]
  generalize (lg_sl ([.ref (am 0), .int cell, .int way]) ++ List.replicate (5 - (lg_sl ([.ref (am 0), .int cell, .int way])).length) Slot.unset).toArray = ls at hl ⊢
  have hl : lv_has ls 5 [(0, .ref (am 0)), (1, .int cell), (2, .int way)] := hl
  refine W_abs (fun Q hQ => ?_)
  obtain ⟨hmG, hmC, hmZ, hmM, hmA, hmS, hmT⟩ := id hH
  obtain ⟨hG1, hG2, hG3⟩ := id hmG
  obtain ⟨hC1, hC2, hC3, hC4, hC5, hC6⟩ := id hmC
  obtain ⟨hM1, hM2, hM3, hM4⟩ := id hmM
  obtain ⟨hA1, hA2, hA3, hA4, hA5⟩ := id hmA
  obtain ⟨hS1, hS2, hS3, hS4, hS5, hS6⟩ := id hmS
  obtain ⟨hT1, hT2, hT3, hT4, hT5⟩ := id hmT
  refine lv_iload_n hx hb dX10_beside_0 rfl (lv_at hl 1 rfl) ?_
  refine lv_aload_n hx hb dX10_beside_1 rfl (lv_at hl 0 rfl) ?_
  refine va_get (D := eD E) (ci := 10) (v := .int (vm 0 0)) (C := RX10) (T := TX10) (N := 79) hx hb hts in_X10 hown hK hP 0 rfl rfl 0 (by decide) lk0 (fun _ h9 => h9) rfl dX10_beside_2 ?_
  refine lv_irem hx hb dX10_beside_5 (i_ne0 (by omega)) ?_
  refine lv_topi (fun x5 e5 => ?_)
  refine lv_iload_n hx hb dX10_beside_6 rfl (lv_at hl 2 rfl) ?_
  refine lv_iconst (v := 2) hx hb dX10_beside_7 (by decide) ?_
  have K25 : ∀  (dx : Int32) (ls : Array Slot), (dx = mDx way) → (-1 ≤ dx.toInt ∧ dx.toInt ≤ 1) → lv_has ls 5 [(0, .ref (am 0)), (1, .int cell), (2, .int way)] → W p l e (headSpec wsX10_beside rm_X10_beside).room s m ([.ref (am 0), .int cell, .int way] : List Value).toArray below meth c s.heap [] 0 0 Q (F0 m 25 ls [.int dx, .int x5]) := by
    intro dx ls h25_0 h25_1 hl
    refine lv_iadd hx hb dX10_beside_25 ?_
    refine lv_topi (fun x25 e25 => ?_)
    refine lv_istore_n (lv' := [(3, .int x25), (0, .ref (am 0)), (1, .int cell), (2, .int way)]) hx hb dX10_beside_26 rfl hl (by decide) rfl (fun ls hl => ?_)
    refine lv_iload_n hx hb dX10_beside_27 rfl (lv_at hl 2 rfl) ?_
    refine lv_aload_n hx hb dX10_beside_28 rfl (lv_at hl 1 rfl) ?_
    refine va_get (D := eD E) (ci := 10) (v := .int (vm 0 0)) (C := RX10) (T := TX10) (N := 79) hx hb hts in_X10 hown hK hP 0 rfl rfl 0 (by decide) lk0 (fun _ h9 => h9) rfl dX10_beside_29 ?_
    refine lv_idiv hx hb dX10_beside_32 (i_ne0 (by omega)) ?_
    refine lv_topi (fun x32 e32 => ?_)
    refine lv_iload_n hx hb dX10_beside_33 rfl (lv_at hl 3 rfl) ?_
    refine lv_iconst (v := 3) hx hb dX10_beside_34 (by decide) ?_
    have K52 : ∀  (dy : Int32) (ls : Array Slot), (dy = mDy way) → (-1 ≤ dy.toInt ∧ dy.toInt ≤ 1) → lv_has ls 5 [(0, .ref (am 0)), (1, .int cell), (2, .int way), (3, .int x25)] → W p l e (headSpec wsX10_beside rm_X10_beside).room s m ([.ref (am 0), .int cell, .int way] : List Value).toArray below meth c s.heap [] 0 0 Q (F0 m 52 ls [.int dy, .int x32]) := by
      intro dy ls h52_0 h52_1 hl
      refine lv_iadd hx hb dX10_beside_52 ?_
      refine lv_topi (fun x52 e52 => ?_)
      refine lv_istore (lv' := [(4, .int x52), (0, .ref (am 0)), (1, .int cell), (2, .int way), (3, .int x25)]) hx hb dX10_beside_53 hl (by decide) rfl (fun ls hl => ?_)
      refine lv_aload_n hx hb dX10_beside_55 rfl (lv_at hl 1 rfl) ?_
      refine lv_iload_n hx hb dX10_beside_56 rfl (lv_at hl 4 rfl) ?_
      refine lv_iload hx hb dX10_beside_57 (lv_at hl 0 rfl) ?_
      refine rd_V (As := [.int x25, .int x52]) (rest := []) (C := RX10) (ci := 10) ⟨hx, hb, hml, hown, hts⟩ (c_X10_isCell l E A am vm x25 x52 hH) (cwV 2 hts gX10_beside_X10_isCell rfl rfl rfl (by decide +kernel) ⟨Nat.le_of_ble_eq_true rfl, Nat.le_of_ble_eq_true rfl⟩) hE (hP.sub (ws' := mdL E am vm) [0, 1, 2, 3, 4, 5, 6, 7, 8, 9, 10, 11, 12, 13, 14, 15, 16, 17, 18, 19, 20, 21, 22, 23, 24, 25, 26, 27, 28, 29, 30, 31, 32, 33, 34, 35, 36, 37, 38, 39, 40, 41, 42, 43, 44, 45] rfl) rfl rfl rfl rfl hl.1 rfl (Nat.le_of_ble_eq_true rfl) dX10_beside_59 ⟨Nat.zero_le _, Nat.zero_le _⟩ (fun r59 h59 => ?_)
      refine lv_if_eq (tgt := 77) hx hb dX10_beside_62 (by decide) (fun c62 => ?_) (fun c62 => ?_)
      · have c62_ := i_eq c62
        replace h59 := or_n h59 c62_
        refine lv_iconst (v := (-1)) hx hb dX10_beside_77 (by decide) ?_
        subst hQ
        exact W.iret (v := (-1)) hx hb hr (fun t ht hW => ⟨(-1), rfl, (by refine ⟨?_, by omega⟩; have hxx : x25 = (cell - cell / vm 0 0 * vm 0 0) + mDx way := (by rw [e25, e5, h25_0]); have hyy : x52 = cell / vm 0 0 + mDy way := (by rw [e52, e32, h52_0]); unfold mBes; rw [← hxx, ← hyy]; first | rw [if_pos ⟨⟨by omega, by omega⟩, by omega, by omega⟩, e73, e71] | rw [if_neg (fun q => by obtain ⟨⟨q1, q2⟩, q3, q4⟩ := q; omega)]), ht⟩) (fun q h => absurd h List.not_mem_nil) dX10_beside_78
      · have c62_ := i_ne c62
        replace h59 := or_y h59 c62_
        clear c62_
        have sv65_x25 : 0 ≤ x25.toInt ∧ x25.toInt ≤ 5 := by omega
        have sv65_x52 : 0 ≤ x52.toInt ∧ x52.toInt ≤ 5 := by omega
        refine lv_aload_n hx hb dX10_beside_65 rfl (lv_at hl 1 rfl) ?_
        refine va_get (D := eD E) (ci := 10) (v := .int (vm 0 0)) (C := RX10) (T := TX10) (N := 79) hx hb hts in_X10 hown hK hP 0 rfl rfl 0 (by decide) lk0 (fun _ h9 => h9) rfl dX10_beside_66 ?_
        refine lv_iload hx hb dX10_beside_69 (lv_at hl 0 rfl) ?_
        refine lv_imul hx hb dX10_beside_71 ?_
        refine lv_topi (fun x71 e71 => ?_)
        have qm71 := mcell_lt hG1 hG3 (x := x25) (y := x52) (by omega) (by omega) (by omega) (by omega)
        have t71 := i_mul e71 (by omega)
        refine lv_iload_n hx hb dX10_beside_72 rfl (lv_at hl 4 rfl) ?_
        refine lv_iadd hx hb dX10_beside_73 ?_
        refine lv_topi (fun x73 e73 => ?_)
        have t73 := i_add e73 (by omega)
        refine lv_goto (tgt := 78) hx hb dX10_beside_74 (by decide) ?_
        subst hQ
        exact W.iret (v := x73) hx hb hr (fun t ht hW => ⟨x73, rfl, (by refine ⟨?_, by omega⟩; have hxx : x25 = (cell - cell / vm 0 0 * vm 0 0) + mDx way := (by rw [e25, e5, h25_0]); have hyy : x52 = cell / vm 0 0 + mDy way := (by rw [e52, e32, h52_0]); unfold mBes; rw [← hxx, ← hyy]; first | rw [if_pos ⟨⟨by omega, by omega⟩, by omega, by omega⟩, e73, e71] | rw [if_neg (fun q => by obtain ⟨⟨q1, q2⟩, q3, q4⟩ := q; omega)]), ht⟩) (fun q h => absurd h List.not_mem_nil) dX10_beside_78
    refine lv_icmp_ne (tgt := 42) hx hb dX10_beside_35 (by decide) (fun c35 => ?_) (fun c35 => ?_)
    · have c35_ := i_ne c35
      refine lv_iload_n hx hb dX10_beside_42 rfl (lv_at hl 3 rfl) ?_
      refine lv_iconst (v := 1) hx hb dX10_beside_43 (by decide) ?_
      refine lv_icmp_ne (tgt := 51) hx hb dX10_beside_44 (by decide) (fun c44 => ?_) (fun c44 => ?_)
      · have c44_ := i_ne c44
        refine lv_iconst (v := 0) hx hb dX10_beside_51 (by decide) ?_
        exact K52 0 ls (by unfold mDy; first | rw [if_pos c35] | rw [if_neg c35, if_pos c44] | rw [if_neg c35, if_neg c44]) (by decide) (lv_sub hl [1, 2, 3, 0] rfl)
      · have c44_ := i_eq c44
        refine lv_iconst (v := (-1)) hx hb dX10_beside_47 (by decide) ?_
        refine lv_goto (tgt := 52) hx hb dX10_beside_48 (by decide) ?_
        exact K52 (-1) ls (by unfold mDy; first | rw [if_pos c35] | rw [if_neg c35, if_pos c44] | rw [if_neg c35, if_neg c44]) (by decide) (lv_sub hl [1, 2, 3, 0] rfl)
    · have c35_ := i_eq c35
      refine lv_iconst (v := 1) hx hb dX10_beside_38 (by decide) ?_
      refine lv_goto (tgt := 52) hx hb dX10_beside_39 (by decide) ?_
      exact K52 1 ls (by unfold mDy; first | rw [if_pos c35] | rw [if_neg c35, if_pos c44] | rw [if_neg c35, if_neg c44]) (by decide) (lv_sub hl [1, 2, 3, 0] rfl)
  refine lv_icmp_ne (tgt := 15) hx hb dX10_beside_8 (by decide) (fun c8 => ?_) (fun c8 => ?_)
  · have c8_ := i_ne c8
    refine lv_iload_n hx hb dX10_beside_15 rfl (lv_at hl 2 rfl) ?_
    refine lv_iconst (v := 4) hx hb dX10_beside_16 (by decide) ?_
    refine lv_icmp_ne (tgt := 24) hx hb dX10_beside_17 (by decide) (fun c17 => ?_) (fun c17 => ?_)
    · have c17_ := i_ne c17
      refine lv_iconst (v := 0) hx hb dX10_beside_24 (by decide) ?_
      exact K25 0 ls (by unfold mDx; first | rw [if_pos c8] | rw [if_neg c8, if_pos c17] | rw [if_neg c8, if_neg c17]) (by decide) (lv_sub hl [0, 1, 2] rfl)
    · have c17_ := i_eq c17
      refine lv_iconst (v := (-1)) hx hb dX10_beside_20 (by decide) ?_
      refine lv_goto (tgt := 25) hx hb dX10_beside_21 (by decide) ?_
      exact K25 (-1) ls (by unfold mDx; first | rw [if_pos c8] | rw [if_neg c8, if_pos c17] | rw [if_neg c8, if_neg c17]) (by decide) (lv_sub hl [0, 1, 2] rfl)
  · have c8_ := i_eq c8
    refine lv_iconst (v := 1) hx hb dX10_beside_11 (by decide) ?_
    refine lv_goto (tgt := 25) hx hb dX10_beside_12 (by decide) ?_
    exact K25 1 ls (by unfold mDx; first | rw [if_pos c8] | rw [if_neg c8, if_pos c17] | rw [if_neg c8, if_neg c17]) (by decide) (lv_sub hl [0, 1, 2] rfl)
def rm_X10_leanAt : Room := { frames := 3, cells := 0, slots := 0, locals := 71 }
set_option maxHeartbeats 4000000 in
set_option maxRecDepth 100000 in
theorem c_X10_leanAt (l : Launch) (E : Ev) (A : Nat → Prop) (am : Nat → Nat) (vm : Vf) (cell : Int32) (step : Int32) (hH : MdH vm) (hw : 1 ≤ (vm 0 0).toInt) (hcell : 0 ≤ cell.toInt ∧ cell.toInt ≤ 23) (hstep : 0 ≤ step.toInt ∧ step.toInt ≤ 2000000) : Met l yX10_leanAt wsX10_leanAt rm_X10_leanAt (RdP E A [.ref (am 0), .int cell, .int step] (mdL E am vm)) (vp_Si (fun r => (True) ∧ (r = mLean vm cell step))) 0 0 (fun _ => False) := by
  refine Met.ofW (cc := cX10_leanAt) (maxL := 7) (ret := (some .int)) (by decide) rfl ?_
  intro p e s m args below meth c s₁ B hml hv
  obtain ⟨rfl, hE, hP⟩ := hv
  have hx := B.exec
  have hb := B.bytes
  have hr := B.returns
  have hts := atoms_spec (ws := wsX10_leanAt) B.pre
  have hown : s.vm.findClass RX10 = some m.cls := findClass_of_methodNamed B.named
  have hlocks := B.notSynchronized
  have hK := hE.1
  have n_0 : (0 : Int32).toInt = 0 := by decide
  have n_1 : (1 : Int32).toInt = 1 := by decide
  have n_5 : (5 : Int32).toInt = 5 := by decide
  have hl := lv_entry ([.ref (am 0), .int cell, .int step]) (n := 7) (Nat.le_of_ble_eq_true rfl)
  rw [lg_entry_eq]
  generalize (lg_sl ([.ref (am 0), .int cell, .int step]) ++ List.replicate (7 - (lg_sl ([.ref (am 0), .int cell, .int step])).length) Slot.unset).toArray = ls at hl ⊢
  have hl : lv_has ls 7 [(0, .ref (am 0)), (1, .int cell), (2, .int step)] := hl
  refine W_abs (fun Q hQ => ?_)
  obtain ⟨hmG, hmC, hmZ, hmM, hmA, hmS, hmT⟩ := id hH
  obtain ⟨hG1, hG2, hG3⟩ := id hmG
  obtain ⟨hC1, hC2, hC3, hC4, hC5, hC6⟩ := id hmC
  obtain ⟨hM1, hM2, hM3, hM4⟩ := id hmM
  obtain ⟨hA1, hA2, hA3, hA4, hA5⟩ := id hmA
  obtain ⟨hS1, hS2, hS3, hS4, hS5, hS6⟩ := id hmS
  obtain ⟨hT1, hT2, hT3, hT4, hT5⟩ := id hmT
  refine lv_iconst (v := 0) hx hb dX10_leanAt_0 (by decide) ?_
  refine lv_istore_n (lv' := [(3, .int 0), (0, .ref (am 0)), (1, .int cell), (2, .int step)]) hx hb dX10_leanAt_1 rfl hl (by decide) rfl (fun ls hl => ?_)
  refine lv_iconst (v := 1) hx hb dX10_leanAt_2 (by decide) ?_
  refine lv_istore (lv' := [(4, .int 1), (3, .int 0), (0, .ref (am 0)), (1, .int cell), (2, .int step)]) hx hb dX10_leanAt_3 hl (by decide) rfl (fun ls hl => ?_)
  have K5 : ∀ (μ : Nat) (mo : Int32) (way : Int32) (ls : Array Slot), (5 - way.toInt).toNat < μ → (0 ≤ way.toInt ∧ way.toInt ≤ 5) → (mo = mLeanN vm cell step (way.toInt - 1).toNat) → (1 ≤ way.toInt) → lv_has ls 7 [(0, .ref (am 0)), (1, .int cell), (2, .int step), (3, .int mo), (4, .int way)] → W p l e (headSpec wsX10_leanAt rm_X10_leanAt).room s m ([.ref (am 0), .int cell, .int step] : List Value).toArray below meth c s.heap [] 0 0 Q (F0 m 5 ls []) := by
    intro μ
    induction μ with
    | zero =>
      intro mo way ls hμ5
      exact absurd hμ5 (Nat.not_lt_zero _)
    | succ μ ih5 =>
      intro mo way ls hμ5 h5_0 h5_1 h5_2 hl
      have hx5_0 := h5_1
      clear h5_1
      have hx5_1 := h5_2
      clear h5_2
      refine lv_iload hx hb dX10_leanAt_5 (lv_at hl 4 rfl) ?_
      refine lv_iconst (v := 5) hx hb dX10_leanAt_7 (by decide) ?_
      refine lv_icmp_ge (tgt := 79) hx hb dX10_leanAt_8 (by decide) (fun c8 => ?_) (fun c8 => ?_)
      · have c8_ := i_le c8
        refine lv_iload_n hx hb dX10_leanAt_79 rfl (lv_at hl 3 rfl) ?_
        subst hQ
        exact W.iret (v := mo) hx hb hr (fun t ht hW => ⟨mo, rfl, ⟨trivial, (by have q := hx5_0; rw [show (way.toInt - 1).toNat = 4 by omega] at q; exact q)⟩, ht⟩) (fun q h => absurd h List.not_mem_nil) dX10_leanAt_80
      · have c8_ := i_nle c8
        refine lv_aload_n hx hb dX10_leanAt_11 rfl (lv_at hl 0 rfl) ?_
        refine lv_iload_n hx hb dX10_leanAt_12 rfl (lv_at hl 1 rfl) ?_
        refine lv_iload hx hb dX10_leanAt_13 (lv_at hl 4 rfl) ?_
        refine rd_V (As := [.int cell, .int way]) (rest := []) (C := RX10) (ci := 10) ⟨hx, hb, hml, hown, hts⟩ (c_X10_beside l E A am vm cell way hH (by omega) (by omega)) (cwV 2 hts gX10_leanAt_X10_beside rfl rfl rfl (by decide +kernel) ⟨Nat.le_of_ble_eq_true rfl, Nat.le_of_ble_eq_true rfl⟩) hE (hP.sub (ws' := mdL E am vm) [0, 1, 2, 3, 4, 5, 6, 7, 8, 9, 10, 11, 12, 13, 14, 15, 16, 17, 18, 19, 20, 21, 22, 23, 24, 25, 26, 27, 28, 29, 30, 31, 32, 33, 34, 35, 36, 37, 38, 39, 40, 41, 42, 43, 44, 45] rfl) rfl rfl rfl rfl hl.1 rfl (Nat.le_of_ble_eq_true rfl) dX10_leanAt_15 ⟨Nat.zero_le _, Nat.zero_le _⟩ (fun r15 h15 => ?_)
        refine lv_istore (lv' := [(5, .int r15), (0, .ref (am 0)), (1, .int cell), (2, .int step), (3, .int mo), (4, .int way)]) hx hb dX10_leanAt_18 hl (by decide) rfl (fun ls hl => ?_)
        refine lv_iload hx hb dX10_leanAt_20 (lv_at hl 0 rfl) ?_
        have K43 : ∀  (d1 : Int32) (ls : Array Slot), (d1 = mDif vm cell step way) → lv_has ls 7 [(0, .ref (am 0)), (1, .int cell), (2, .int step), (3, .int mo), (4, .int way), (5, .int r15)] → W p l e (headSpec wsX10_leanAt rm_X10_leanAt).room s m ([.ref (am 0), .int cell, .int step] : List Value).toArray below meth c s.heap [] 0 0 Q (F0 m 43 ls [.int d1]) := by
          intro d1 ls h43_0 hl
          have hx43_0 := h43_0
          clear h43_0
          refine lv_istore (lv' := [(6, .int d1), (0, .ref (am 0)), (1, .int cell), (2, .int step), (3, .int mo), (4, .int way), (5, .int r15)]) hx hb dX10_leanAt_43 hl (by decide) rfl (fun ls hl => ?_)
          refine lv_iload hx hb dX10_leanAt_45 (lv_at hl 0 rfl) ?_
          have K58 : ∀  (d2 : Int32) (ls : Array Slot), (d2 = mAbs d1) → lv_has ls 7 [(0, .ref (am 0)), (1, .int cell), (2, .int step), (3, .int mo), (4, .int way), (5, .int r15), (6, .int d1)] → W p l e (headSpec wsX10_leanAt rm_X10_leanAt).room s m ([.ref (am 0), .int cell, .int step] : List Value).toArray below meth c s.heap [] 0 0 Q (F0 m 58 ls [.int d2]) := by
            intro d2 ls h58_0 hl
            have hx58_0 := h58_0
            clear h58_0
            refine lv_istore (lv' := [(6, .int d2), (0, .ref (am 0)), (1, .int cell), (2, .int step), (3, .int mo), (4, .int way), (5, .int r15)]) hx hb dX10_leanAt_58 hl (by decide) rfl (fun ls hl => ?_)
            refine lv_iload hx hb dX10_leanAt_60 (lv_at hl 0 rfl) ?_
            refine lv_iload_n hx hb dX10_leanAt_62 rfl (lv_at hl 4 rfl) ?_
            have K72 : ∀  (d3 : Int32) (ls : Array Slot), (d3 = mMx mo d2) → lv_has ls 7 [(0, .ref (am 0)), (1, .int cell), (2, .int step), (3, .int mo), (4, .int way), (5, .int r15), (6, .int d2)] → W p l e (headSpec wsX10_leanAt rm_X10_leanAt).room s m ([.ref (am 0), .int cell, .int step] : List Value).toArray below meth c s.heap [] 0 0 Q (F0 m 72 ls [.int d3]) := by
              intro d3 ls h72_0 hl
              have hx72_0 := h72_0
              clear h72_0
              refine lv_istore_n (lv' := [(3, .int d3), (0, .ref (am 0)), (1, .int cell), (2, .int step), (4, .int way), (5, .int r15), (6, .int d2)]) hx hb dX10_leanAt_72 rfl hl (by decide) rfl (fun ls hl => ?_)
              obtain ⟨x73, e73⟩ : ∃ y : Int32, y = way + 1 := ⟨_, rfl⟩
              refine lv_iinc (v := x73) (lv' := [(4, .int x73), (3, .int d3), (0, .ref (am 0)), (1, .int cell), (2, .int step), (5, .int r15), (6, .int d2)]) hx hb dX10_leanAt_73 hl (k := 4) rfl (by rw [e73]; rfl) (by decide) rfl (fun ls hl => ?_)
              have t73 := i_add e73 (by omega)
              refine lv_goto (tgt := 5) hx hb dX10_leanAt_76 (by decide) ?_
              exact ih5 d3 x73 ls (by omega) (by omega) (lean_m hx5_0 (by omega) (by omega) (by rw [hx72_0, hx58_0, hx43_0])) (by omega) (lv_sub hl [2, 3, 4, 1, 0] rfl)
            refine lv_icmp_le (tgt := 71) hx hb dX10_leanAt_63 (by decide) (fun c63 => ?_) (fun c63 => ?_)
            · have c63_ := i_le c63
              refine lv_iload_n hx hb dX10_leanAt_71 rfl (lv_at hl 4 rfl) ?_
              exact K72 mo ls (by unfold mMx; first | rw [if_neg (Int32.not_lt.mpr c63)] | rw [if_pos (Int32.not_le.mp c63)]) (lv_sub hl [1, 2, 3, 4, 5, 6, 0] rfl)
            · have c63_ := i_nle c63
              refine lv_iload hx hb dX10_leanAt_66 (lv_at hl 0 rfl) ?_
              refine lv_goto (tgt := 72) hx hb dX10_leanAt_68 (by decide) ?_
              exact K72 d2 ls (by unfold mMx; first | rw [if_neg (Int32.not_lt.mpr c63)] | rw [if_pos (Int32.not_le.mp c63)]) (lv_sub hl [1, 2, 3, 4, 5, 6, 0] rfl)
          refine lv_if_ge (tgt := 56) hx hb dX10_leanAt_47 (by decide) (fun c47 => ?_) (fun c47 => ?_)
          · have c47_ := i_le c47
            refine lv_iload hx hb dX10_leanAt_56 (lv_at hl 0 rfl) ?_
            exact K58 d1 ls (by unfold mAbs; first | rw [if_neg (Int32.not_lt.mpr c47)] | rw [if_pos (Int32.not_le.mp c47), e52]) (lv_sub hl [1, 2, 3, 4, 5, 6, 0] rfl)
          · have c47_ := i_nle c47
            refine lv_iload hx hb dX10_leanAt_50 (lv_at hl 0 rfl) ?_
            refine lv_ineg hx hb dX10_leanAt_52 ?_
            refine lv_topi (fun x52 e52 => ?_)
            refine lv_goto (tgt := 58) hx hb dX10_leanAt_53 (by decide) ?_
            exact K58 x52 ls (by unfold mAbs; first | rw [if_neg (Int32.not_lt.mpr c47)] | rw [if_pos (Int32.not_le.mp c47), e52]) (lv_sub hl [1, 2, 3, 4, 5, 6, 0] rfl)
        refine lv_if_ge (tgt := 29) hx hb dX10_leanAt_22 (by decide) (fun c22 => ?_) (fun c22 => ?_)
        · have c22_ := i_le c22
          have hpo22 : ¬ r15.toInt < 0 := by omega
          refine lv_aload_n hx hb dX10_leanAt_29 rfl (lv_at hl 1 rfl) ?_
          refine lv_iload hx hb dX10_leanAt_30 (lv_at hl 0 rfl) ?_
          refine lv_iload_n hx hb dX10_leanAt_32 rfl (lv_at hl 3 rfl) ?_
          refine rd_V (As := [.int r15, .int step]) (rest := []) (C := RX10) (ci := 10) ⟨hx, hb, hml, hown, hts⟩ (c_X10_heightAt l E A am vm r15 step hH (by omega) (by omega) (by omega)) (cwV 2 hts gX10_leanAt_X10_heightAt rfl rfl rfl (by decide +kernel) ⟨Nat.le_of_ble_eq_true rfl, Nat.le_of_ble_eq_true rfl⟩) hE (hP.sub (ws' := mdL E am vm) [0, 1, 2, 3, 4, 5, 6, 7, 8, 9, 10, 11, 12, 13, 14, 15, 16, 17, 18, 19, 20, 21, 22, 23, 24, 25, 26, 27, 28, 29, 30, 31, 32, 33, 34, 35, 36, 37, 38, 39, 40, 41, 42, 43, 44, 45] rfl) rfl rfl rfl rfl hl.1 rfl (Nat.le_of_ble_eq_true rfl) dX10_leanAt_33 ⟨Nat.zero_le _, Nat.zero_le _⟩ (fun r33 h33 => ?_)
          refine lv_aload_n hx hb dX10_leanAt_36 rfl (lv_at hl 1 rfl) ?_
          refine lv_iload_n hx hb dX10_leanAt_37 rfl (lv_at hl 2 rfl) ?_
          refine lv_iload_n hx hb dX10_leanAt_38 rfl (lv_at hl 3 rfl) ?_
          refine rd_V (As := [.int cell, .int step]) (rest := [.int r33]) (C := RX10) (ci := 10) ⟨hx, hb, hml, hown, hts⟩ (c_X10_heightAt l E A am vm cell step hH (by omega) (by omega) (by omega)) (cwV 2 hts gX10_leanAt_X10_heightAt rfl rfl rfl (by decide +kernel) ⟨Nat.le_of_ble_eq_true rfl, Nat.le_of_ble_eq_true rfl⟩) hE (hP.sub (ws' := mdL E am vm) [0, 1, 2, 3, 4, 5, 6, 7, 8, 9, 10, 11, 12, 13, 14, 15, 16, 17, 18, 19, 20, 21, 22, 23, 24, 25, 26, 27, 28, 29, 30, 31, 32, 33, 34, 35, 36, 37, 38, 39, 40, 41, 42, 43, 44, 45] rfl) rfl rfl rfl rfl hl.1 rfl (Nat.le_of_ble_eq_true rfl) dX10_leanAt_39 ⟨Nat.zero_le _, Nat.zero_le _⟩ (fun r39 h39 => ?_)
          refine lv_isub hx hb dX10_leanAt_42 ?_
          refine lv_topi (fun x42 e42 => ?_)
          exact K43 x42 ls (by unfold mDif; rw [← h15.1]; first | rw [if_pos hne22] | rw [if_neg hpo22, e42, h33.1, h39.1]) (lv_sub hl [1, 2, 3, 4, 5, 0] rfl)
        · have c22_ := i_nle c22
          have hne22 : r15.toInt < 0 := by omega
          refine lv_iconst (v := 0) hx hb dX10_leanAt_25 (by decide) ?_
          refine lv_goto (tgt := 43) hx hb dX10_leanAt_26 (by decide) ?_
          exact K43 0 ls (by unfold mDif; rw [← h15.1]; first | rw [if_pos hne22] | rw [if_neg hpo22, e42, h33.1, h39.1]) (lv_sub hl [1, 2, 3, 4, 5, 0] rfl)
  exact K5 _ 0 1 ls (Nat.lt_succ_self _) (by omega) (by rw [n_1]; rfl) (by omega) (lv_sub hl [2, 3, 4, 1, 0] rfl)
def rm_X10_isOpen : Room := { frames := 2, cells := 0, slots := 0, locals := 47 }
set_option maxHeartbeats 4000000 in
set_option maxRecDepth 100000 in
theorem c_X10_isOpen (l : Launch) (E : Ev) (A : Nat → Prop) (am : Nat → Nat) (vm : Vf) (h : Int32) (step : Int32) (hH : MdH vm) (hw : 1 ≤ (vm 0 0).toInt) (hh : 0 ≤ h.toInt ∧ h.toInt ≤ 5) (hstep : 0 ≤ step.toInt ∧ step.toInt ≤ 2000000) : Met l yX10_isOpen wsX10_isOpen rm_X10_isOpen (RdP E A [.ref (am 0), .int h, .int step] (mdL E am vm)) (vp_Si (fun r => r = mOpen vm h step ∧ (r.toInt = 0 ∨ r.toInt = 1))) 0 0 (fun _ => False) := by
  refine Met.ofW (cc := cX10_isOpen) (maxL := 3) (ret := (some .boolean)) (by decide) rfl ?_
  intro p e s m args below meth c s₁ B hml hv
  obtain ⟨rfl, hE, hP⟩ := hv
  have hx := B.exec
  have hb := B.bytes
  have hr := B.returns
  have hts := atoms_spec (ws := wsX10_isOpen) B.pre
  have hown : s.vm.findClass RX10 = some m.cls := findClass_of_methodNamed B.named
  have hlocks := B.notSynchronized
  have hK := hE.1
  have in_X10 : ∀ w ∈ u_ws RX10 TX10 79, w ∈ wsX10_isOpen := fun w h => List.mem_cons_of_mem _ (List.mem_append_right _ h)
  have lk0 := hts (.fieldLink RX10 34 "TidedGroundModel" "crackAt" "[I") (List.mem_of_getElem? (i := 1) rfl)
  have lk1 := hts (.fieldLink RX10 40 "TidedGroundModel" "crackOpen" "[I") (List.mem_of_getElem? (i := 2) rfl)
  have n_0 : (0 : Int32).toInt = 0 := by decide
  have n_1 : (1 : Int32).toInt = 1 := by decide
  have hl := lv_entry ([.ref (am 0), .int h, .int step]) (n := 3) (Nat.le_of_ble_eq_true rfl)
  rw [lg_entry_eq]
  generalize (lg_sl ([.ref (am 0), .int h, .int step]) ++ List.replicate (3 - (lg_sl ([.ref (am 0), .int h, .int step])).length) Slot.unset).toArray = ls at hl ⊢
  have hl : lv_has ls 3 [(0, .ref (am 0)), (1, .int h), (2, .int step)] := hl
  refine W_abs (fun Q hQ => ?_)
  obtain ⟨hmG, hmC, hmZ, hmM, hmA, hmS, hmT⟩ := id hH
  obtain ⟨hG1, hG2, hG3⟩ := id hmG
  obtain ⟨hC1, hC2, hC3, hC4, hC5, hC6⟩ := id hmC
  obtain ⟨hM1, hM2, hM3, hM4⟩ := id hmM
  obtain ⟨hA1, hA2, hA3, hA4, hA5⟩ := id hmA
  obtain ⟨hS1, hS2, hS3, hS4, hS5, hS6⟩ := id hmS
  obtain ⟨hT1, hT2, hT3, hT4, hT5⟩ := id hmT
  refine lv_aload_n hx hb dX10_isOpen_0 rfl (lv_at hl 0 rfl) ?_
  refine lv_aload_n hx hb dX10_isOpen_1 rfl (lv_at hl 0 rfl) ?_
  refine va_get (D := eD E) (ci := 10) (v := .ref (am 13)) (C := RX10) (T := TX10) (N := 79) hx hb hts in_X10 hown hK hP 0 rfl rfl 13 (by decide) lk0 (fun _ h9 => h9) rfl dX10_isOpen_2 ?_
  refine lv_iload_n hx hb dX10_isOpen_5 rfl (lv_at hl 1 rfl) ?_
  refine va_iald hx hb hK hP 9 0 rfl rfl (n := 6) (f := (vm 13)) (i_in (by omega) (by omega)) dX10_isOpen_6 ?_
  refine lv_topi (fun x6 e6 => ?_)
  have b6 := hA2 h.toNatClampNeg (i_natlt (by omega) (by decide))
  rw [← e6] at b6
  refine lv_iload_n hx hb dX10_isOpen_7 rfl (lv_at hl 2 rfl) ?_
  refine rd_V (As := [.int x6, .int step]) (rest := []) (C := RX10) (ci := 10) ⟨hx, hb, hml, hown, hts⟩ (c_X10_pullAt l E A am vm x6 step hH (by omega) (by omega) (by omega)) (cwV 2 hts gX10_isOpen_X10_pullAt rfl rfl rfl (by decide +kernel) ⟨Nat.le_of_ble_eq_true rfl, Nat.le_of_ble_eq_true rfl⟩) hE (hP.sub (ws' := mdL E am vm) [0, 1, 2, 3, 4, 5, 6, 7, 8, 9, 10, 11, 12, 13, 14, 15, 16, 17, 18, 19, 20, 21, 22, 23, 24, 25, 26, 27, 28, 29, 30, 31, 32, 33, 34, 35, 36, 37, 38, 39, 40, 41, 42, 43, 44, 45] rfl) rfl rfl rfl rfl hl.1 rfl (Nat.le_of_ble_eq_true rfl) dX10_isOpen_8 ⟨Nat.zero_le _, Nat.zero_le _⟩ (fun r8 h8 => ?_)
  refine lv_aload_n hx hb dX10_isOpen_11 rfl (lv_at hl 0 rfl) ?_
  refine va_get (D := eD E) (ci := 10) (v := .ref (am 15)) (C := RX10) (T := TX10) (N := 79) hx hb hts in_X10 hown hK hP 0 rfl rfl 15 (by decide) lk1 (fun _ h9 => h9) rfl dX10_isOpen_12 ?_
  refine lv_iload_n hx hb dX10_isOpen_15 rfl (lv_at hl 1 rfl) ?_
  refine va_iald hx hb hK hP 11 0 rfl rfl (n := 6) (f := (vm 15)) (i_in (by omega) (by omega)) dX10_isOpen_16 ?_
  refine lv_topi (fun x16 e16 => ?_)
  refine lv_icmp_le (tgt := 24) hx hb dX10_isOpen_17 (by decide) (fun c17 => ?_) (fun c17 => ?_)
  · have c17_ := i_le c17
    refine lv_iconst (v := 0) hx hb dX10_isOpen_24 (by decide) ?_
    subst hQ
    exact W.zret (v := 0) hx hb hr rfl (fun t ht hW => ⟨0, rfl, ⟨(by unfold mOpen; rw [← e6, ← h8.1, ← e16]; first | rw [if_pos c17] | rw [if_neg c17]), by omega⟩, ht⟩) (fun q h => absurd h List.not_mem_nil) dX10_isOpen_25
  · have c17_ := i_nle c17
    refine lv_iconst (v := 1) hx hb dX10_isOpen_20 (by decide) ?_
    refine lv_goto (tgt := 25) hx hb dX10_isOpen_21 (by decide) ?_
    subst hQ
    exact W.zret (v := 1) hx hb hr rfl (fun t ht hW => ⟨1, rfl, ⟨(by unfold mOpen; rw [← e6, ← h8.1, ← e16]; first | rw [if_pos c17] | rw [if_neg c17]), by omega⟩, ht⟩) (fun q h => absurd h List.not_mem_nil) dX10_isOpen_25
def rm_X10_isBarred : Room := { frames := 3, cells := 0, slots := 0, locals := 71 }
set_option maxHeartbeats 4000000 in
set_option maxRecDepth 100000 in
theorem c_X10_isBarred (l : Launch) (E : Ev) (A : Nat → Prop) (am : Nat → Nat) (vm : Vf) (x : Int32) (y : Int32) (step : Int32) (hH : MdH vm) (hw : 1 ≤ (vm 0 0).toInt) (hstep : 0 ≤ step.toInt ∧ step.toInt ≤ 2000000) : Met l yX10_isBarred wsX10_isBarred rm_X10_isBarred (RdP E A [.ref (am 0), .int x, .int y, .int step] (mdL E am vm)) (vp_Si (fun r => r = mBar vm x y step ∧ (r.toInt = 0 ∨ r.toInt = 1))) 0 0 (fun _ => False) := by
  refine Met.ofW (cc := cX10_isBarred) (maxL := 8) (ret := (some .boolean)) (by decide) rfl ?_
  intro p e s m args below meth c s₁ B hml hv
  obtain ⟨rfl, hE, hP⟩ := hv
  have hx := B.exec
  have hb := B.bytes
  have hr := B.returns
  have hts := atoms_spec (ws := wsX10_isBarred) B.pre
  have hown : s.vm.findClass RX10 = some m.cls := findClass_of_methodNamed B.named
  have hlocks := B.notSynchronized
  have hK := hE.1
  have in_X10 : ∀ w ∈ u_ws RX10 TX10 79, w ∈ wsX10_isBarred := fun w h => List.mem_cons_of_mem _ (List.mem_append_right _ h)
  have lk0 := hts (.fieldLink RX10 273 "TidedGroundModel" "cracks" "I") (List.mem_of_getElem? (i := 1) rfl)
  have lk1 := hts (.fieldLink RX10 34 "TidedGroundModel" "crackAt" "[I") (List.mem_of_getElem? (i := 2) rfl)
  have lk2 := hts (.fieldLink RX10 37 "TidedGroundModel" "crackWay" "[I") (List.mem_of_getElem? (i := 3) rfl)
  have n_0 : (0 : Int32).toInt = 0 := by decide
  have n_1 : (1 : Int32).toInt = 1 := by decide
  have n_2 : (2 : Int32).toInt = 2 := by decide
  have n_3 : (3 : Int32).toInt = 3 := by decide
  have hl := lv_entry ([.ref (am 0), .int x, .int y, .int step]) (n := 8) (Nat.le_of_ble_eq_true rfl)
  rw [lg_entry_eq]
  generalize (lg_sl ([.ref (am 0), .int x, .int y, .int step]) ++ List.replicate (8 - (lg_sl ([.ref (am 0), .int x, .int y, .int step])).length) Slot.unset).toArray = ls at hl ⊢
  have hl : lv_has ls 8 [(0, .ref (am 0)), (1, .int x), (2, .int y), (3, .int step)] := hl
  refine W_abs (fun Q hQ => ?_)
  obtain ⟨hmG, hmC, hmZ, hmM, hmA, hmS, hmT⟩ := id hH
  obtain ⟨hG1, hG2, hG3⟩ := id hmG
  obtain ⟨hC1, hC2, hC3, hC4, hC5, hC6⟩ := id hmC
  obtain ⟨hM1, hM2, hM3, hM4⟩ := id hmM
  obtain ⟨hA1, hA2, hA3, hA4, hA5⟩ := id hmA
  obtain ⟨hS1, hS2, hS3, hS4, hS5, hS6⟩ := id hmS
  obtain ⟨hT1, hT2, hT3, hT4, hT5⟩ := id hmT
  refine lv_iconst (v := 0) hx hb dX10_isBarred_0 (by decide) ?_
  refine lv_istore (lv' := [(4, .int 0), (0, .ref (am 0)), (1, .int x), (2, .int y), (3, .int step)]) hx hb dX10_isBarred_1 hl (by decide) rfl (fun ls hl => ?_)
  refine lv_iconst (v := 0) hx hb dX10_isBarred_3 (by decide) ?_
  refine lv_istore (lv' := [(5, .int 0), (4, .int 0), (0, .ref (am 0)), (1, .int x), (2, .int y), (3, .int step)]) hx hb dX10_isBarred_4 hl (by decide) rfl (fun ls hl => ?_)
  have K6 : ∀ (μ : Nat) (is : Int32) (i : Int32) (ls : Array Slot), (6 - i.toInt).toNat < μ → (0 ≤ i.toInt ∧ i.toInt ≤ (vm 12 0).toInt) → (is = mBarN vm x y step i.toNatClampNeg) → (is.toInt = 0 ∨ is.toInt = 1) → lv_has ls 8 [(0, .ref (am 0)), (1, .int x), (2, .int y), (3, .int step), (4, .int is), (5, .int i)] → W p l e (headSpec wsX10_isBarred rm_X10_isBarred).room s m ([.ref (am 0), .int x, .int y, .int step] : List Value).toArray below meth c s.heap [] 0 0 Q (F0 m 6 ls []) := by
    intro μ
    induction μ with
    | zero =>
      intro is i ls hμ6
      exact absurd hμ6 (Nat.not_lt_zero _)
    | succ μ ih6 =>
      intro is i ls hμ6 h6_0 h6_1 h6_2 hl
      refine lv_iload hx hb dX10_isBarred_6 (lv_at hl 5 rfl) ?_
      refine lv_aload_n hx hb dX10_isBarred_8 rfl (lv_at hl 0 rfl) ?_
      refine va_get (D := eD E) (ci := 10) (v := .int (vm 12 0)) (C := RX10) (T := TX10) (N := 79) hx hb hts in_X10 hown hK hP 0 rfl rfl 12 (by decide) lk0 (fun _ h9 => h9) rfl dX10_isBarred_9 ?_
      refine lv_icmp_ge (tgt := 117) hx hb dX10_isBarred_12 (by decide) (fun c12 => ?_) (fun c12 => ?_)
      · have c12_ := i_le c12
        refine lv_iload hx hb dX10_isBarred_117 (lv_at hl 4 rfl) ?_
        subst hQ
        exact W.zret (v := is) hx hb hr (nar_b (by omega)) (fun t ht hW => ⟨is, rfl, ⟨(by unfold mBar; rw [h6_1, show i = vm 12 0 from i_eqr (by omega)]), by omega⟩, ht⟩) (fun q h => absurd h List.not_mem_nil) dX10_isBarred_119
      · have c12_ := i_nle c12
        refine lv_aload_n hx hb dX10_isBarred_15 rfl (lv_at hl 0 rfl) ?_
        refine lv_aload_n hx hb dX10_isBarred_16 rfl (lv_at hl 0 rfl) ?_
        refine va_get (D := eD E) (ci := 10) (v := .ref (am 13)) (C := RX10) (T := TX10) (N := 79) hx hb hts in_X10 hown hK hP 0 rfl rfl 13 (by decide) lk1 (fun _ h9 => h9) rfl dX10_isBarred_17 ?_
        refine lv_iload hx hb dX10_isBarred_20 (lv_at hl 5 rfl) ?_
        refine va_iald hx hb hK hP 9 0 rfl rfl (n := 6) (f := (vm 13)) (i_in (by omega) (by omega)) dX10_isBarred_22 ?_
        refine lv_topi (fun x22 e22 => ?_)
        have b22 := hA2 i.toNatClampNeg (i_natlt (by omega) (by decide))
        rw [← e22] at b22
        refine lv_aload_n hx hb dX10_isBarred_23 rfl (lv_at hl 0 rfl) ?_
        refine va_get (D := eD E) (ci := 10) (v := .ref (am 14)) (C := RX10) (T := TX10) (N := 79) hx hb hts in_X10 hown hK hP 0 rfl rfl 14 (by decide) lk2 (fun _ h9 => h9) rfl dX10_isBarred_24 ?_
        refine lv_iload hx hb dX10_isBarred_27 (lv_at hl 5 rfl) ?_
        refine va_iald hx hb hK hP 10 0 rfl rfl (n := 6) (f := (vm 14)) (i_in (by omega) (by omega)) dX10_isBarred_29 ?_
        refine lv_topi (fun x29 e29 => ?_)
        have K38 : ∀  (wz : Int32) (ls : Array Slot), (wz = if vm 14 i.toNatClampNeg = 0 then 2 else 3) → lv_has ls 8 [(0, .ref (am 0)), (1, .int x), (2, .int y), (3, .int step), (4, .int is), (5, .int i)] → W p l e (headSpec wsX10_isBarred rm_X10_isBarred).room s m ([.ref (am 0), .int x, .int y, .int step] : List Value).toArray below meth c s.heap [] 0 0 Q (F0 m 38 ls [.int wz, .int x22, .ref (am 0)]) := by
          intro wz ls h38_0 hl
          refine rd_V (As := [.int x22, .int wz]) (rest := []) (C := RX10) (ci := 10) ⟨hx, hb, hml, hown, hts⟩ (c_X10_beside l E A am vm x22 wz hH (by omega) (by omega)) (cwV 2 hts gX10_isBarred_X10_beside rfl rfl rfl (by decide +kernel) ⟨Nat.le_of_ble_eq_true rfl, Nat.le_of_ble_eq_true rfl⟩) hE (hP.sub (ws' := mdL E am vm) [0, 1, 2, 3, 4, 5, 6, 7, 8, 9, 10, 11, 12, 13, 14, 15, 16, 17, 18, 19, 20, 21, 22, 23, 24, 25, 26, 27, 28, 29, 30, 31, 32, 33, 34, 35, 36, 37, 38, 39, 40, 41, 42, 43, 44, 45] rfl) rfl rfl rfl rfl hl.1 rfl (Nat.le_of_ble_eq_true rfl) dX10_isBarred_38 ⟨Nat.zero_le _, Nat.zero_le _⟩ (fun r38 h38 => ?_)
          have ho : r38 = mOth vm i.toNatClampNeg := (by unfold mOth; rw [← e22, ← h38_0]; exact h38.1)
          refine lv_istore (lv' := [(6, .int r38), (0, .ref (am 0)), (1, .int x), (2, .int y), (3, .int step), (4, .int is), (5, .int i)]) hx hb dX10_isBarred_41 hl (by decide) rfl (fun ls hl => ?_)
          refine lv_aload_n hx hb dX10_isBarred_43 rfl (lv_at hl 1 rfl) ?_
          refine va_get (D := eD E) (ci := 10) (v := .ref (am 13)) (C := RX10) (T := TX10) (N := 79) hx hb hts in_X10 hown hK hP 0 rfl rfl 13 (by decide) lk1 (fun _ h9 => h9) rfl dX10_isBarred_44 ?_
          refine lv_iload hx hb dX10_isBarred_47 (lv_at hl 6 rfl) ?_
          refine va_iald hx hb hK hP 9 0 rfl rfl (n := 6) (f := (vm 13)) (i_in (by omega) (by omega)) dX10_isBarred_49 ?_
          refine lv_topi (fun x49 e49 => ?_)
          have b49 := hA2 i.toNatClampNeg (i_natlt (by omega) (by decide))
          rw [← e49] at b49
          refine lv_iload_n hx hb dX10_isBarred_50 rfl (lv_at hl 2 rfl) ?_
          have K82 : ∀  (bt : Int32) (ls : Array Slot), (bt = mBet vm x y i.toNatClampNeg) → lv_has ls 8 [(0, .ref (am 0)), (1, .int x), (2, .int y), (3, .int step), (4, .int is), (5, .int i), (6, .int r38)] → W p l e (headSpec wsX10_isBarred rm_X10_isBarred).room s m ([.ref (am 0), .int x, .int y, .int step] : List Value).toArray below meth c s.heap [] 0 0 Q (F0 m 82 ls [.int bt]) := by
            intro bt ls h82_0 hl
            refine lv_istore (lv' := [(7, .int bt), (0, .ref (am 0)), (1, .int x), (2, .int y), (3, .int step), (4, .int is), (5, .int i), (6, .int r38)]) hx hb dX10_isBarred_82 hl (by decide) rfl (fun ls hl => ?_)
            refine lv_iload hx hb dX10_isBarred_84 (lv_at hl 5 rfl) ?_
            have K109 : ∀  (is2 : Int32) (ls : Array Slot), (is2 = mBarN vm x y step (i.toNatClampNeg + 1)) → (is2.toInt = 0 ∨ is2.toInt = 1) → lv_has ls 8 [(0, .ref (am 0)), (1, .int x), (2, .int y), (3, .int step), (4, .int is), (5, .int i), (6, .int r38), (7, .int bt)] → W p l e (headSpec wsX10_isBarred rm_X10_isBarred).room s m ([.ref (am 0), .int x, .int y, .int step] : List Value).toArray below meth c s.heap [] 0 0 Q (F0 m 109 ls [.int is2]) := by
              intro is2 ls h109_0 h109_1 hl
              refine lv_istore (lv' := [(4, .int is2), (0, .ref (am 0)), (1, .int x), (2, .int y), (3, .int step), (5, .int i), (6, .int r38), (7, .int bt)]) hx hb dX10_isBarred_109 hl (by decide) rfl (fun ls hl => ?_)
              obtain ⟨x111, e111⟩ : ∃ y : Int32, y = i + 1 := ⟨_, rfl⟩
              refine lv_iinc (v := x111) (lv' := [(5, .int x111), (4, .int is2), (0, .ref (am 0)), (1, .int x), (2, .int y), (3, .int step), (6, .int r38), (7, .int bt)]) hx hb dX10_isBarred_111 hl (k := 5) rfl (by rw [e111]; rfl) (by decide) rfl (fun ls hl => ?_)
              have t111 := i_add e111 (by omega)
              refine lv_goto (tgt := 6) hx hb dX10_isBarred_114 (by decide) ?_
              exact ih6 is2 x111 ls (by omega) (by omega) (by rw [i_nat1 h6_0.1 (by omega)]; exact h109_0) (by omega) (lv_sub hl [2, 3, 4, 5, 1, 0] rfl)
            refine lv_if_ne (tgt := 104) hx hb dX10_isBarred_86 (by decide) (fun c86 => ?_) (fun c86 => ?_)
            · have c86_ := i_ne c86
              refine lv_iconst (v := 1) hx hb dX10_isBarred_104 (by decide) ?_
              refine lv_goto (tgt := 109) hx hb dX10_isBarred_105 (by decide) ?_
              exact K109 1 ls (by rw [mBarN_s, ← h6_1, ← h82_0]; first | rw [if_pos c86] | rw [if_neg (show ¬ (is ≠ 0) from not_not_intro c86), if_neg (show ¬ (bt ≠ 0) from not_not_intro c91)] | rw [if_neg (show ¬ (is ≠ 0) from not_not_intro c86), if_pos c91, i_ofN h6_0.1, ← h98.1, if_neg (show ¬ (r98 ≠ 0) from not_not_intro c101)] | rw [if_neg (show ¬ (is ≠ 0) from not_not_intro c86), if_pos c91, i_ofN h6_0.1, ← h98.1, if_pos c101]) (Or.inr (by decide)) (lv_sub hl [1, 2, 3, 4, 5, 6, 7, 0] rfl)
            · have c86_ := i_eq c86
              refine lv_iload hx hb dX10_isBarred_89 (lv_at hl 0 rfl) ?_
              refine lv_if_eq (tgt := 108) hx hb dX10_isBarred_91 (by decide) (fun c91 => ?_) (fun c91 => ?_)
              · have c91_ := i_eq c91
                refine lv_iconst (v := 0) hx hb dX10_isBarred_108 (by decide) ?_
                exact K109 0 ls (by rw [mBarN_s, ← h6_1, ← h82_0]; first | rw [if_pos c86] | rw [if_neg (show ¬ (is ≠ 0) from not_not_intro c86), if_neg (show ¬ (bt ≠ 0) from not_not_intro c91)] | rw [if_neg (show ¬ (is ≠ 0) from not_not_intro c86), if_pos c91, i_ofN h6_0.1, ← h98.1, if_neg (show ¬ (r98 ≠ 0) from not_not_intro c101)] | rw [if_neg (show ¬ (is ≠ 0) from not_not_intro c86), if_pos c91, i_ofN h6_0.1, ← h98.1, if_pos c101]) (Or.inl (by decide)) (lv_sub hl [1, 2, 3, 4, 5, 6, 7, 0] rfl)
              · have c91_ := i_ne c91
                refine lv_aload_n hx hb dX10_isBarred_94 rfl (lv_at hl 1 rfl) ?_
                refine lv_iload hx hb dX10_isBarred_95 (lv_at hl 6 rfl) ?_
                refine lv_iload_n hx hb dX10_isBarred_97 rfl (lv_at hl 4 rfl) ?_
                refine rd_V (As := [.int i, .int step]) (rest := []) (C := RX10) (ci := 10) ⟨hx, hb, hml, hown, hts⟩ (c_X10_isOpen l E A am vm i step hH (by omega) (by omega) (by omega)) (cwV 2 hts gX10_isBarred_X10_isOpen rfl rfl rfl (by decide +kernel) ⟨Nat.le_of_ble_eq_true rfl, Nat.le_of_ble_eq_true rfl⟩) hE (hP.sub (ws' := mdL E am vm) [0, 1, 2, 3, 4, 5, 6, 7, 8, 9, 10, 11, 12, 13, 14, 15, 16, 17, 18, 19, 20, 21, 22, 23, 24, 25, 26, 27, 28, 29, 30, 31, 32, 33, 34, 35, 36, 37, 38, 39, 40, 41, 42, 43, 44, 45] rfl) rfl rfl rfl rfl hl.1 rfl (Nat.le_of_ble_eq_true rfl) dX10_isBarred_98 ⟨Nat.zero_le _, Nat.zero_le _⟩ (fun r98 h98 => ?_)
                refine lv_if_eq (tgt := 108) hx hb dX10_isBarred_101 (by decide) (fun c101 => ?_) (fun c101 => ?_)
                · have c101_ := i_eq c101
                  refine lv_iconst (v := 0) hx hb dX10_isBarred_108 (by decide) ?_
                  exact K109 0 ls (by rw [mBarN_s, ← h6_1, ← h82_0]; first | rw [if_pos c86] | rw [if_neg (show ¬ (is ≠ 0) from not_not_intro c86), if_neg (show ¬ (bt ≠ 0) from not_not_intro c91)] | rw [if_neg (show ¬ (is ≠ 0) from not_not_intro c86), if_pos c91, i_ofN h6_0.1, ← h98.1, if_neg (show ¬ (r98 ≠ 0) from not_not_intro c101)] | rw [if_neg (show ¬ (is ≠ 0) from not_not_intro c86), if_pos c91, i_ofN h6_0.1, ← h98.1, if_pos c101]) (Or.inl (by decide)) (lv_sub hl [1, 2, 3, 4, 5, 6, 7, 0] rfl)
                · have c101_ := i_ne c101
                  refine lv_iconst (v := 1) hx hb dX10_isBarred_104 (by decide) ?_
                  refine lv_goto (tgt := 109) hx hb dX10_isBarred_105 (by decide) ?_
                  exact K109 1 ls (by rw [mBarN_s, ← h6_1, ← h82_0]; first | rw [if_pos c86] | rw [if_neg (show ¬ (is ≠ 0) from not_not_intro c86), if_neg (show ¬ (bt ≠ 0) from not_not_intro c91)] | rw [if_neg (show ¬ (is ≠ 0) from not_not_intro c86), if_pos c91, i_ofN h6_0.1, ← h98.1, if_neg (show ¬ (r98 ≠ 0) from not_not_intro c101)] | rw [if_neg (show ¬ (is ≠ 0) from not_not_intro c86), if_pos c91, i_ofN h6_0.1, ← h98.1, if_pos c101]) (Or.inr (by decide)) (lv_sub hl [1, 2, 3, 4, 5, 6, 7, 0] rfl)
          refine lv_icmp_ne (tgt := 60) hx hb dX10_isBarred_51 (by decide) (fun c51 => ?_) (fun c51 => ?_)
          · have c51_ := i_ne c51
            refine lv_aload_n hx hb dX10_isBarred_60 rfl (lv_at hl 1 rfl) ?_
            refine va_get (D := eD E) (ci := 10) (v := .ref (am 13)) (C := RX10) (T := TX10) (N := 79) hx hb hts in_X10 hown hK hP 0 rfl rfl 13 (by decide) lk1 (fun _ h9 => h9) rfl dX10_isBarred_61 ?_
            refine lv_iload hx hb dX10_isBarred_64 (lv_at hl 6 rfl) ?_
            refine va_iald hx hb hK hP 9 0 rfl rfl (n := 6) (f := (vm 13)) (i_in (by omega) (by omega)) dX10_isBarred_66 ?_
            refine lv_topi (fun x66 e66 => ?_)
            have b66 := hA2 i.toNatClampNeg (i_natlt (by omega) (by decide))
            rw [← e66] at b66
            refine lv_iload_n hx hb dX10_isBarred_67 rfl (lv_at hl 3 rfl) ?_
            refine lv_icmp_ne (tgt := 81) hx hb dX10_isBarred_68 (by decide) (fun c68 => ?_) (fun c68 => ?_)
            · have c68_ := i_ne c68
              rw [show x66 = x49 from (by rw [e66, e49])] at c68
              refine lv_iconst (v := 0) hx hb dX10_isBarred_81 (by decide) ?_
              exact K82 0 ls (by unfold mBet mB2; rw [← e49, ← ho]; first | rw [if_pos c51, if_pos c57] | rw [if_pos c51, if_neg c57, if_neg c68] | rw [if_pos c51, if_neg c57, if_pos c68, if_neg c74] | rw [if_pos c51, if_neg c57, if_pos c68, if_pos c74] | rw [if_neg c51, if_neg c68] | rw [if_neg c51, if_pos c68, if_neg c74] | rw [if_neg c51, if_pos c68, if_pos c74]) (lv_sub hl [1, 2, 3, 4, 5, 6, 0] rfl)
            · have c68_ := i_eq c68
              rw [show x66 = x49 from (by rw [e66, e49])] at c68
              refine lv_iload hx hb dX10_isBarred_71 (lv_at hl 0 rfl) ?_
              refine lv_iload_n hx hb dX10_isBarred_73 rfl (lv_at hl 2 rfl) ?_
              refine lv_icmp_ne (tgt := 81) hx hb dX10_isBarred_74 (by decide) (fun c74 => ?_) (fun c74 => ?_)
              · have c74_ := i_ne c74
                refine lv_iconst (v := 0) hx hb dX10_isBarred_81 (by decide) ?_
                exact K82 0 ls (by unfold mBet mB2; rw [← e49, ← ho]; first | rw [if_pos c51, if_pos c57] | rw [if_pos c51, if_neg c57, if_neg c68] | rw [if_pos c51, if_neg c57, if_pos c68, if_neg c74] | rw [if_pos c51, if_neg c57, if_pos c68, if_pos c74] | rw [if_neg c51, if_neg c68] | rw [if_neg c51, if_pos c68, if_neg c74] | rw [if_neg c51, if_pos c68, if_pos c74]) (lv_sub hl [1, 2, 3, 4, 5, 6, 0] rfl)
              · have c74_ := i_eq c74
                refine lv_iconst (v := 1) hx hb dX10_isBarred_77 (by decide) ?_
                refine lv_goto (tgt := 82) hx hb dX10_isBarred_78 (by decide) ?_
                exact K82 1 ls (by unfold mBet mB2; rw [← e49, ← ho]; first | rw [if_pos c51, if_pos c57] | rw [if_pos c51, if_neg c57, if_neg c68] | rw [if_pos c51, if_neg c57, if_pos c68, if_neg c74] | rw [if_pos c51, if_neg c57, if_pos c68, if_pos c74] | rw [if_neg c51, if_neg c68] | rw [if_neg c51, if_pos c68, if_neg c74] | rw [if_neg c51, if_pos c68, if_pos c74]) (lv_sub hl [1, 2, 3, 4, 5, 6, 0] rfl)
          · have c51_ := i_eq c51
            refine lv_iload hx hb dX10_isBarred_54 (lv_at hl 0 rfl) ?_
            refine lv_iload_n hx hb dX10_isBarred_56 rfl (lv_at hl 3 rfl) ?_
            refine lv_icmp_eq (tgt := 77) hx hb dX10_isBarred_57 (by decide) (fun c57 => ?_) (fun c57 => ?_)
            · have c57_ := i_eq c57
              refine lv_iconst (v := 1) hx hb dX10_isBarred_77 (by decide) ?_
              refine lv_goto (tgt := 82) hx hb dX10_isBarred_78 (by decide) ?_
              exact K82 1 ls (by unfold mBet mB2; rw [← e49, ← ho]; first | rw [if_pos c51, if_pos c57] | rw [if_pos c51, if_neg c57, if_neg c68] | rw [if_pos c51, if_neg c57, if_pos c68, if_neg c74] | rw [if_pos c51, if_neg c57, if_pos c68, if_pos c74] | rw [if_neg c51, if_neg c68] | rw [if_neg c51, if_pos c68, if_neg c74] | rw [if_neg c51, if_pos c68, if_pos c74]) (lv_sub hl [1, 2, 3, 4, 5, 6, 0] rfl)
            · have c57_ := i_ne c57
              refine lv_aload_n hx hb dX10_isBarred_60 rfl (lv_at hl 1 rfl) ?_
              refine va_get (D := eD E) (ci := 10) (v := .ref (am 13)) (C := RX10) (T := TX10) (N := 79) hx hb hts in_X10 hown hK hP 0 rfl rfl 13 (by decide) lk1 (fun _ h9 => h9) rfl dX10_isBarred_61 ?_
              refine lv_iload hx hb dX10_isBarred_64 (lv_at hl 6 rfl) ?_
              refine va_iald hx hb hK hP 9 0 rfl rfl (n := 6) (f := (vm 13)) (i_in (by omega) (by omega)) dX10_isBarred_66 ?_
              refine lv_topi (fun x66 e66 => ?_)
              have b66 := hA2 i.toNatClampNeg (i_natlt (by omega) (by decide))
              rw [← e66] at b66
              refine lv_iload_n hx hb dX10_isBarred_67 rfl (lv_at hl 3 rfl) ?_
              refine lv_icmp_ne (tgt := 81) hx hb dX10_isBarred_68 (by decide) (fun c68 => ?_) (fun c68 => ?_)
              · have c68_ := i_ne c68
                rw [show x66 = x49 from (by rw [e66, e49])] at c68
                refine lv_iconst (v := 0) hx hb dX10_isBarred_81 (by decide) ?_
                exact K82 0 ls (by unfold mBet mB2; rw [← e49, ← ho]; first | rw [if_pos c51, if_pos c57] | rw [if_pos c51, if_neg c57, if_neg c68] | rw [if_pos c51, if_neg c57, if_pos c68, if_neg c74] | rw [if_pos c51, if_neg c57, if_pos c68, if_pos c74] | rw [if_neg c51, if_neg c68] | rw [if_neg c51, if_pos c68, if_neg c74] | rw [if_neg c51, if_pos c68, if_pos c74]) (lv_sub hl [1, 2, 3, 4, 5, 6, 0] rfl)
              · have c68_ := i_eq c68
                rw [show x66 = x49 from (by rw [e66, e49])] at c68
                refine lv_iload hx hb dX10_isBarred_71 (lv_at hl 0 rfl) ?_
                refine lv_iload_n hx hb dX10_isBarred_73 rfl (lv_at hl 2 rfl) ?_
                refine lv_icmp_ne (tgt := 81) hx hb dX10_isBarred_74 (by decide) (fun c74 => ?_) (fun c74 => ?_)
                · have c74_ := i_ne c74
                  refine lv_iconst (v := 0) hx hb dX10_isBarred_81 (by decide) ?_
                  exact K82 0 ls (by unfold mBet mB2; rw [← e49, ← ho]; first | rw [if_pos c51, if_pos c57] | rw [if_pos c51, if_neg c57, if_neg c68] | rw [if_pos c51, if_neg c57, if_pos c68, if_neg c74] | rw [if_pos c51, if_neg c57, if_pos c68, if_pos c74] | rw [if_neg c51, if_neg c68] | rw [if_neg c51, if_pos c68, if_neg c74] | rw [if_neg c51, if_pos c68, if_pos c74]) (lv_sub hl [1, 2, 3, 4, 5, 6, 0] rfl)
                · have c74_ := i_eq c74
                  refine lv_iconst (v := 1) hx hb dX10_isBarred_77 (by decide) ?_
                  refine lv_goto (tgt := 82) hx hb dX10_isBarred_78 (by decide) ?_
                  exact K82 1 ls (by unfold mBet mB2; rw [← e49, ← ho]; first | rw [if_pos c51, if_pos c57] | rw [if_pos c51, if_neg c57, if_neg c68] | rw [if_pos c51, if_neg c57, if_pos c68, if_neg c74] | rw [if_pos c51, if_neg c57, if_pos c68, if_pos c74] | rw [if_neg c51, if_neg c68] | rw [if_neg c51, if_pos c68, if_neg c74] | rw [if_neg c51, if_pos c68, if_pos c74]) (lv_sub hl [1, 2, 3, 4, 5, 6, 0] rfl)
        refine lv_if_ne (tgt := 37) hx hb dX10_isBarred_30 (by decide) (fun c30 => ?_) (fun c30 => ?_)
        · have c30_ := i_ne c30
          refine lv_iconst (v := 3) hx hb dX10_isBarred_37 (by decide) ?_
          exact K38 3 ls (by rw [← e29]; first | rw [if_pos c30] | rw [if_neg c30]) (lv_sub hl [0, 1, 2, 3, 4, 5] rfl)
        · have c30_ := i_eq c30
          refine lv_iconst (v := 2) hx hb dX10_isBarred_33 (by decide) ?_
          refine lv_goto (tgt := 38) hx hb dX10_isBarred_34 (by decide) ?_
          exact K38 2 ls (by rw [← e29]; first | rw [if_pos c30] | rw [if_neg c30]) (lv_sub hl [0, 1, 2, 3, 4, 5] rfl)
  exact K6 _ 0 0 ls (Nat.lt_succ_self _) (by omega) rfl (Or.inl (by decide)) (lv_sub hl [2, 3, 4, 5, 1, 0] rfl)
def rm_X10_slopeAt : Room := { frames := 3, cells := 0, slots := 0, locals := 69 }
set_option maxHeartbeats 4000000 in
set_option maxRecDepth 100000 in
theorem c_X10_slopeAt (l : Launch) (E : Ev) (A : Nat → Prop) (am : Nat → Nat) (vm : Vf) (x : Int32) (y : Int32) (step : Int32) (hH : MdH vm) (hw : 1 ≤ (vm 0 0).toInt) (hx : 0 ≤ x.toInt ∧ x.toInt ≤ 23) (hy : 0 ≤ y.toInt ∧ y.toInt ≤ 23) (hstep : 0 ≤ step.toInt ∧ step.toInt ≤ 2000000) : Met l yX10_slopeAt wsX10_slopeAt rm_X10_slopeAt (RdP E A [.ref (am 0), .int x, .int y, .int step] (mdL E am vm)) (vp_Si (fun r => r = mH vm y step - mH vm x step)) 0 0 (fun _ => False) := by
  refine Met.ofW (cc := cX10_slopeAt) (maxL := 4) (ret := (some .int)) (by decide) rfl ?_
  intro p e s m args below meth c s₁ B hml hv
  obtain ⟨rfl, hE, hP⟩ := hv
  have hx := B.exec
  have hb := B.bytes
  have hr := B.returns
  have hts := atoms_spec (ws := wsX10_slopeAt) B.pre
  have hown : s.vm.findClass RX10 = some m.cls := findClass_of_methodNamed B.named
  have hlocks := B.notSynchronized
  have hK := hE.1
  have hl := lv_entry ([.ref (am 0), .int x, .int y, .int step]) (n := 4) (Nat.le_of_ble_eq_true rfl)
  rw [lg_entry_eq]
  generalize (lg_sl ([.ref (am 0), .int x, .int y, .int step]) ++ List.replicate (4 - (lg_sl ([.ref (am 0), .int x, .int y, .int step])).length) Slot.unset).toArray = ls at hl ⊢
  have hl : lv_has ls 4 [(0, .ref (am 0)), (1, .int x), (2, .int y), (3, .int step)] := hl
  refine W_abs (fun Q hQ => ?_)
  obtain ⟨hmG, hmC, hmZ, hmM, hmA, hmS, hmT⟩ := id hH
  obtain ⟨hG1, hG2, hG3⟩ := id hmG
  obtain ⟨hC1, hC2, hC3, hC4, hC5, hC6⟩ := id hmC
  obtain ⟨hM1, hM2, hM3, hM4⟩ := id hmM
  obtain ⟨hA1, hA2, hA3, hA4, hA5⟩ := id hmA
  obtain ⟨hS1, hS2, hS3, hS4, hS5, hS6⟩ := id hmS
  obtain ⟨hT1, hT2, hT3, hT4, hT5⟩ := id hmT
  refine lv_aload_n hx hb dX10_slopeAt_0 rfl (lv_at hl 0 rfl) ?_
  refine lv_iload_n hx hb dX10_slopeAt_1 rfl (lv_at hl 2 rfl) ?_
  refine lv_iload_n hx hb dX10_slopeAt_2 rfl (lv_at hl 3 rfl) ?_
  refine rd_V (As := [.int y, .int step]) (rest := []) (C := RX10) (ci := 10) ⟨hx, hb, hml, hown, hts⟩ (c_X10_heightAt l E A am vm y step hH (by omega) (by omega) (by omega)) (cwV 2 hts gX10_slopeAt_X10_heightAt rfl rfl rfl (by decide +kernel) ⟨Nat.le_of_ble_eq_true rfl, Nat.le_of_ble_eq_true rfl⟩) hE (hP.sub (ws' := mdL E am vm) [0, 1, 2, 3, 4, 5, 6, 7, 8, 9, 10, 11, 12, 13, 14, 15, 16, 17, 18, 19, 20, 21, 22, 23, 24, 25, 26, 27, 28, 29, 30, 31, 32, 33, 34, 35, 36, 37, 38, 39, 40, 41, 42, 43, 44, 45] rfl) rfl rfl rfl rfl hl.1 rfl (Nat.le_of_ble_eq_true rfl) dX10_slopeAt_3 ⟨Nat.zero_le _, Nat.zero_le _⟩ (fun r3 h3 => ?_)
  refine lv_aload_n hx hb dX10_slopeAt_6 rfl (lv_at hl 0 rfl) ?_
  refine lv_iload_n hx hb dX10_slopeAt_7 rfl (lv_at hl 1 rfl) ?_
  refine lv_iload_n hx hb dX10_slopeAt_8 rfl (lv_at hl 3 rfl) ?_
  refine rd_V (As := [.int x, .int step]) (rest := [.int r3]) (C := RX10) (ci := 10) ⟨hx, hb, hml, hown, hts⟩ (c_X10_heightAt l E A am vm x step hH (by omega) (by omega) (by omega)) (cwV 2 hts gX10_slopeAt_X10_heightAt rfl rfl rfl (by decide +kernel) ⟨Nat.le_of_ble_eq_true rfl, Nat.le_of_ble_eq_true rfl⟩) hE (hP.sub (ws' := mdL E am vm) [0, 1, 2, 3, 4, 5, 6, 7, 8, 9, 10, 11, 12, 13, 14, 15, 16, 17, 18, 19, 20, 21, 22, 23, 24, 25, 26, 27, 28, 29, 30, 31, 32, 33, 34, 35, 36, 37, 38, 39, 40, 41, 42, 43, 44, 45] rfl) rfl rfl rfl rfl hl.1 rfl (Nat.le_of_ble_eq_true rfl) dX10_slopeAt_9 ⟨Nat.zero_le _, Nat.zero_le _⟩ (fun r9 h9 => ?_)
  refine lv_isub hx hb dX10_slopeAt_12 ?_
  refine lv_topi (fun x12 e12 => ?_)
  have t12 := i_sub e12 (by omega)
  subst hQ
  exact W.iret (v := x12) hx hb hr (fun t ht hW => ⟨x12, rfl, (by rw [e12, h3.1, h9.1]), ht⟩) (fun q h => absurd h List.not_mem_nil) dX10_slopeAt_13
def rm_X10_goes : Room := { frames := 4, cells := 0, slots := 0, locals := 98 }
set_option maxHeartbeats 4000000 in
set_option maxRecDepth 100000 in
theorem c_X10_goes (l : Launch) (E : Ev) (A : Nat → Prop) (am : Nat → Nat) (vm : Vf) (cell : Int32) (way : Int32) (step : Int32) (hH : MdH vm) (hw : 1 ≤ (vm 0 0).toInt) (hcell : 0 ≤ cell.toInt ∧ cell.toInt ≤ 23) (hstep : 0 ≤ step.toInt ∧ step.toInt ≤ 2000000) : Met l yX10_goes wsX10_goes rm_X10_goes (RdP E A [.ref (am 0), .int cell, .int way, .int step] (mdL E am vm)) (vp_Si (fun r => r = mGo vm cell way step ∧ (r.toInt = -1 ∨ (0 ≤ r.toInt ∧ r.toInt ≤ 23)))) 0 0 (fun _ => False) := by
  refine Met.ofW (cc := cX10_goes) (maxL := 5) (ret := (some .int)) (by decide) rfl ?_
  intro p e s m args below meth c s₁ B hml hv
  obtain ⟨rfl, hE, hP⟩ := hv
  have hx := B.exec
  have hb := B.bytes
  have hr := B.returns
  have hts := atoms_spec (ws := wsX10_goes) B.pre
  have hown : s.vm.findClass RX10 = some m.cls := findClass_of_methodNamed B.named
  have hlocks := B.notSynchronized
  have hK := hE.1
  have in_X10 : ∀ w ∈ u_ws RX10 TX10 79, w ∈ wsX10_goes := fun w h => List.mem_cons_of_mem _ (List.mem_append_right _ h)
  have lk0 := hts (.fieldLink RX10 68 "TidedGroundModel" "steep" "I") (List.mem_of_getElem? (i := 1) rfl)
  have n_m1 : ((-1) : Int32).toInt = -1 := by decide
  have n_0 : (0 : Int32).toInt = 0 := by decide
  have hl := lv_entry ([.ref (am 0), .int cell, .int way, .int step]) (n := 5) (Nat.le_of_ble_eq_true rfl)
  rw [lg_entry_eq]
  generalize (lg_sl ([.ref (am 0), .int cell, .int way, .int step]) ++ List.replicate (5 - (lg_sl ([.ref (am 0), .int cell, .int way, .int step])).length) Slot.unset).toArray = ls at hl ⊢
  have hl : lv_has ls 5 [(0, .ref (am 0)), (1, .int cell), (2, .int way), (3, .int step)] := hl
  refine W_abs (fun Q hQ => ?_)
  obtain ⟨hmG, hmC, hmZ, hmM, hmA, hmS, hmT⟩ := id hH
  obtain ⟨hG1, hG2, hG3⟩ := id hmG
  obtain ⟨hC1, hC2, hC3, hC4, hC5, hC6⟩ := id hmC
  obtain ⟨hM1, hM2, hM3, hM4⟩ := id hmM
  obtain ⟨hA1, hA2, hA3, hA4, hA5⟩ := id hmA
  obtain ⟨hS1, hS2, hS3, hS4, hS5, hS6⟩ := id hmS
  obtain ⟨hT1, hT2, hT3, hT4, hT5⟩ := id hmT
  refine lv_iload_n hx hb dX10_goes_0 rfl (lv_at hl 2 rfl) ?_
  have K14 : ∀  (to : Int32) (ls : Array Slot), (to = if way = 0 then cell else mBes vm cell way) → (to.toInt = -1 ∨ (0 ≤ to.toInt ∧ to.toInt ≤ 23)) → lv_has ls 5 [(0, .ref (am 0)), (1, .int cell), (2, .int way), (3, .int step)] → W p l e (headSpec wsX10_goes rm_X10_goes).room s m ([.ref (am 0), .int cell, .int way, .int step] : List Value).toArray below meth c s.heap [] 0 0 Q (F0 m 14 ls [.int to]) := by
    intro to ls h14_0 h14_1 hl
    refine lv_istore (lv' := [(4, .int to), (0, .ref (am 0)), (1, .int cell), (2, .int way), (3, .int step)]) hx hb dX10_goes_14 hl (by decide) rfl (fun ls hl => ?_)
    refine lv_iload_n hx hb dX10_goes_16 rfl (lv_at hl 3 rfl) ?_
    refine lv_if_eq (tgt := 25) hx hb dX10_goes_17 (by decide) (fun c17 => ?_) (fun c17 => ?_)
    · have c17_ := i_eq c17
      refine lv_iload hx hb dX10_goes_25 (lv_at hl 0 rfl) ?_
      subst hQ
      exact W.iret (v := to) hx hb hr (fun t ht hW => ⟨to, rfl, (by refine ⟨?_, by omega⟩; unfold mGo; first | (rw [if_pos c17] at h14_0 ⊢; exact h14_0) | (rw [if_neg c17] at h14_0 ⊢; rw [← h14_0]; first | rw [if_pos (show to.toInt < 0 by omega)] | (rw [if_neg (show ¬ to.toInt < 0 by omega)]; first | rw [if_pos hgo] | rw [if_neg hgo]))), ht⟩) (fun q h => absurd h List.not_mem_nil) dX10_goes_27
    · have c17_ := i_ne c17
      refine lv_iload hx hb dX10_goes_20 (lv_at hl 0 rfl) ?_
      refine lv_if_ge (tgt := 28) hx hb dX10_goes_22 (by decide) (fun c22 => ?_) (fun c22 => ?_)
      · have c22_ := i_le c22
        refine lv_aload_n hx hb dX10_goes_28 rfl (lv_at hl 1 rfl) ?_
        refine lv_iload_n hx hb dX10_goes_29 rfl (lv_at hl 2 rfl) ?_
        refine lv_iload hx hb dX10_goes_30 (lv_at hl 0 rfl) ?_
        refine lv_iload_n hx hb dX10_goes_32 rfl (lv_at hl 4 rfl) ?_
        refine rd_V (As := [.int cell, .int to, .int step]) (rest := []) (C := RX10) (ci := 10) ⟨hx, hb, hml, hown, hts⟩ (c_X10_isBarred l E A am vm cell to step hH (by omega) (by omega)) (cwV 3 hts gX10_goes_X10_isBarred rfl rfl rfl (by decide +kernel) ⟨Nat.le_of_ble_eq_true rfl, Nat.le_of_ble_eq_true rfl⟩) hE (hP.sub (ws' := mdL E am vm) [0, 1, 2, 3, 4, 5, 6, 7, 8, 9, 10, 11, 12, 13, 14, 15, 16, 17, 18, 19, 20, 21, 22, 23, 24, 25, 26, 27, 28, 29, 30, 31, 32, 33, 34, 35, 36, 37, 38, 39, 40, 41, 42, 43, 44, 45] rfl) rfl rfl rfl rfl hl.1 rfl (Nat.le_of_ble_eq_true rfl) dX10_goes_33 ⟨Nat.zero_le _, Nat.zero_le _⟩ (fun r33 h33 => ?_)
        refine lv_if_ne (tgt := 54) hx hb dX10_goes_36 (by decide) (fun c36 => ?_) (fun c36 => ?_)
        · have c36_ := i_ne c36
          have hgo : mBar vm cell to step ≠ 0 ∨ vm 29 0 < mH vm to step - mH vm cell step := Or.inl (by rw [← h33.1]; exact c36)
          refine lv_iconst (v := (-1)) hx hb dX10_goes_54 (by decide) ?_
          refine lv_goto (tgt := 60) hx hb dX10_goes_55 (by decide) ?_
          subst hQ
          exact W.iret (v := (-1)) hx hb hr (fun t ht hW => ⟨(-1), rfl, (by refine ⟨?_, by omega⟩; unfold mGo; first | (rw [if_pos c17] at h14_0 ⊢; exact h14_0) | (rw [if_neg c17] at h14_0 ⊢; rw [← h14_0]; first | rw [if_pos (show to.toInt < 0 by omega)] | (rw [if_neg (show ¬ to.toInt < 0 by omega)]; first | rw [if_pos hgo] | rw [if_neg hgo]))), ht⟩) (fun q h => absurd h List.not_mem_nil) dX10_goes_60
        · have c36_ := i_eq c36
          refine lv_aload_n hx hb dX10_goes_39 rfl (lv_at hl 1 rfl) ?_
          refine lv_iload_n hx hb dX10_goes_40 rfl (lv_at hl 2 rfl) ?_
          refine lv_iload hx hb dX10_goes_41 (lv_at hl 0 rfl) ?_
          refine lv_iload_n hx hb dX10_goes_43 rfl (lv_at hl 4 rfl) ?_
          refine rd_V (As := [.int cell, .int to, .int step]) (rest := []) (C := RX10) (ci := 10) ⟨hx, hb, hml, hown, hts⟩ (c_X10_slopeAt l E A am vm cell to step hH (by omega) (by omega) (by omega) (by omega)) (cwV 3 hts gX10_goes_X10_slopeAt rfl rfl rfl (by decide +kernel) ⟨Nat.le_of_ble_eq_true rfl, Nat.le_of_ble_eq_true rfl⟩) hE (hP.sub (ws' := mdL E am vm) [0, 1, 2, 3, 4, 5, 6, 7, 8, 9, 10, 11, 12, 13, 14, 15, 16, 17, 18, 19, 20, 21, 22, 23, 24, 25, 26, 27, 28, 29, 30, 31, 32, 33, 34, 35, 36, 37, 38, 39, 40, 41, 42, 43, 44, 45] rfl) rfl rfl rfl rfl hl.1 rfl (Nat.le_of_ble_eq_true rfl) dX10_goes_44 ⟨Nat.zero_le _, Nat.zero_le _⟩ (fun r44 h44 => ?_)
          refine lv_aload_n hx hb dX10_goes_47 rfl (lv_at hl 1 rfl) ?_
          refine va_get (D := eD E) (ci := 10) (v := .int (vm 29 0)) (C := RX10) (T := TX10) (N := 79) hx hb hts in_X10 hown hK hP 0 rfl rfl 29 (by decide) lk0 (fun _ h9 => h9) rfl dX10_goes_48 ?_
          refine lv_icmp_le (tgt := 58) hx hb dX10_goes_51 (by decide) (fun c51 => ?_) (fun c51 => ?_)
          · have c51_ := i_le c51
            have hgo : ¬ (mBar vm cell to step ≠ 0 ∨ vm 29 0 < mH vm to step - mH vm cell step) := fun q => q.elim (fun z => z (h33.1.symm.trans c36)) (fun z => Int32.not_lt.mpr (h44 ▸ c51) z)
            refine lv_iload hx hb dX10_goes_58 (lv_at hl 0 rfl) ?_
            subst hQ
            exact W.iret (v := to) hx hb hr (fun t ht hW => ⟨to, rfl, (by refine ⟨?_, by omega⟩; unfold mGo; first | (rw [if_pos c17] at h14_0 ⊢; exact h14_0) | (rw [if_neg c17] at h14_0 ⊢; rw [← h14_0]; first | rw [if_pos (show to.toInt < 0 by omega)] | (rw [if_neg (show ¬ to.toInt < 0 by omega)]; first | rw [if_pos hgo] | rw [if_neg hgo]))), ht⟩) (fun q h => absurd h List.not_mem_nil) dX10_goes_60
          · have c51_ := i_nle c51
            have hgo : mBar vm cell to step ≠ 0 ∨ vm 29 0 < mH vm to step - mH vm cell step := Or.inr (by rw [← h44]; exact Int32.not_le.mp c51)
            refine lv_iconst (v := (-1)) hx hb dX10_goes_54 (by decide) ?_
            refine lv_goto (tgt := 60) hx hb dX10_goes_55 (by decide) ?_
            subst hQ
            exact W.iret (v := (-1)) hx hb hr (fun t ht hW => ⟨(-1), rfl, (by refine ⟨?_, by omega⟩; unfold mGo; first | (rw [if_pos c17] at h14_0 ⊢; exact h14_0) | (rw [if_neg c17] at h14_0 ⊢; rw [← h14_0]; first | rw [if_pos (show to.toInt < 0 by omega)] | (rw [if_neg (show ¬ to.toInt < 0 by omega)]; first | rw [if_pos hgo] | rw [if_neg hgo]))), ht⟩) (fun q h => absurd h List.not_mem_nil) dX10_goes_60
      · have c22_ := i_nle c22
        refine lv_iload hx hb dX10_goes_25 (lv_at hl 0 rfl) ?_
        subst hQ
        exact W.iret (v := to) hx hb hr (fun t ht hW => ⟨to, rfl, (by refine ⟨?_, by omega⟩; unfold mGo; first | (rw [if_pos c17] at h14_0 ⊢; exact h14_0) | (rw [if_neg c17] at h14_0 ⊢; rw [← h14_0]; first | rw [if_pos (show to.toInt < 0 by omega)] | (rw [if_neg (show ¬ to.toInt < 0 by omega)]; first | rw [if_pos hgo] | rw [if_neg hgo]))), ht⟩) (fun q h => absurd h List.not_mem_nil) dX10_goes_27
  refine lv_if_ne (tgt := 8) hx hb dX10_goes_1 (by decide) (fun c1 => ?_) (fun c1 => ?_)
  · have c1_ := i_ne c1
    refine lv_aload_n hx hb dX10_goes_8 rfl (lv_at hl 0 rfl) ?_
    refine lv_iload_n hx hb dX10_goes_9 rfl (lv_at hl 1 rfl) ?_
    refine lv_iload_n hx hb dX10_goes_10 rfl (lv_at hl 2 rfl) ?_
    refine rd_V (As := [.int cell, .int way]) (rest := []) (C := RX10) (ci := 10) ⟨hx, hb, hml, hown, hts⟩ (c_X10_beside l E A am vm cell way hH (by omega) (by omega)) (cwV 2 hts gX10_goes_X10_beside rfl rfl rfl (by decide +kernel) ⟨Nat.le_of_ble_eq_true rfl, Nat.le_of_ble_eq_true rfl⟩) hE (hP.sub (ws' := mdL E am vm) [0, 1, 2, 3, 4, 5, 6, 7, 8, 9, 10, 11, 12, 13, 14, 15, 16, 17, 18, 19, 20, 21, 22, 23, 24, 25, 26, 27, 28, 29, 30, 31, 32, 33, 34, 35, 36, 37, 38, 39, 40, 41, 42, 43, 44, 45] rfl) rfl rfl rfl rfl hl.1 rfl (Nat.le_of_ble_eq_true rfl) dX10_goes_11 ⟨Nat.zero_le _, Nat.zero_le _⟩ (fun r11 h11 => ?_)
    exact K14 r11 ls (by first | rw [if_neg c1]; exact h11.1 | rw [if_pos c1]) (by omega) (lv_sub hl [0, 1, 2, 3] rfl)
  · have c1_ := i_eq c1
    refine lv_iload_n hx hb dX10_goes_4 rfl (lv_at hl 1 rfl) ?_
    refine lv_goto (tgt := 14) hx hb dX10_goes_5 (by decide) ?_
    exact K14 cell ls (by first | rw [if_neg c1]; exact h11.1 | rw [if_pos c1]) (by omega) (lv_sub hl [0, 1, 2, 3] rfl)
def rm_X10_costOf : Room := { frames := 4, cells := 0, slots := 0, locals := 92 }
set_option maxHeartbeats 4000000 in
set_option maxRecDepth 100000 in
theorem c_X10_costOf (l : Launch) (E : Ev) (A : Nat → Prop) (am : Nat → Nat) (vm : Vf) (x : Int32) (y : Int32) (step : Int32) (hH : MdH vm) (hw : 1 ≤ (vm 0 0).toInt) (hx : 0 ≤ x.toInt ∧ x.toInt ≤ 23) (hy : 0 ≤ y.toInt ∧ y.toInt ≤ 23) (hstep : 0 ≤ step.toInt ∧ step.toInt ≤ 2000000) : Met l yX10_costOf wsX10_costOf rm_X10_costOf (RdP E A [.ref (am 0), .int x, .int y, .int step] (mdL E am vm)) (vp_Si (fun r => r = mCost vm x y step ∧ 0 ≤ r.toInt)) 0 0 (fun _ => False) := by
  refine Met.ofW (cc := cX10_costOf) (maxL := 5) (ret := (some .int)) (by decide) rfl ?_
  intro p e s m args below meth c s₁ B hml hv
  obtain ⟨rfl, hE, hP⟩ := hv
  have hx := B.exec
  have hb := B.bytes
  have hr := B.returns
  have hts := atoms_spec (ws := wsX10_costOf) B.pre
  have hown : s.vm.findClass RX10 = some m.cls := findClass_of_methodNamed B.named
  have hlocks := B.notSynchronized
  have hK := hE.1
  have n_0 : (0 : Int32).toInt = 0 := by decide
  have hl := lv_entry ([.ref (am 0), .int x, .int y, .int step]) (n := 5) (Nat.le_of_ble_eq_true rfl)
  rw [lg_entry_eq]
  generalize (lg_sl ([.ref (am 0), .int x, .int y, .int step]) ++ List.replicate (5 - (lg_sl ([.ref (am 0), .int x, .int y, .int step])).length) Slot.unset).toArray = ls at hl ⊢
  have hl : lv_has ls 5 [(0, .ref (am 0)), (1, .int x), (2, .int y), (3, .int step)] := hl
  refine W_abs (fun Q hQ => ?_)
  obtain ⟨hmG, hmC, hmZ, hmM, hmA, hmS, hmT⟩ := id hH
  obtain ⟨hG1, hG2, hG3⟩ := id hmG
  obtain ⟨hC1, hC2, hC3, hC4, hC5, hC6⟩ := id hmC
  obtain ⟨hM1, hM2, hM3, hM4⟩ := id hmM
  obtain ⟨hA1, hA2, hA3, hA4, hA5⟩ := id hmA
  obtain ⟨hS1, hS2, hS3, hS4, hS5, hS6⟩ := id hmS
  obtain ⟨hT1, hT2, hT3, hT4, hT5⟩ := id hmT
  refine lv_iload_n hx hb dX10_costOf_0 rfl (lv_at hl 1 rfl) ?_
  refine lv_iload_n hx hb dX10_costOf_1 rfl (lv_at hl 2 rfl) ?_
  have K16 : ∀  (sl : Int32) (ls : Array Slot), (sl = mSl vm x y step) → lv_has ls 5 [(0, .ref (am 0)), (1, .int x), (2, .int y), (3, .int step)] → W p l e (headSpec wsX10_costOf rm_X10_costOf).room s m ([.ref (am 0), .int x, .int y, .int step] : List Value).toArray below meth c s.heap [] 0 0 Q (F0 m 16 ls [.int sl]) := by
    intro sl ls h16_0 hl
    refine lv_istore (lv' := [(4, .int sl), (0, .ref (am 0)), (1, .int x), (2, .int y), (3, .int step)]) hx hb dX10_costOf_16 hl (by decide) rfl (fun ls hl => ?_)
    refine lv_iload hx hb dX10_costOf_18 (lv_at hl 0 rfl) ?_
    refine lv_if_ge (tgt := 27) hx hb dX10_costOf_20 (by decide) (fun c20 => ?_) (fun c20 => ?_)
    · have c20_ := i_le c20
      refine lv_iload hx hb dX10_costOf_27 (lv_at hl 0 rfl) ?_
      subst hQ
      exact W.iret (v := sl) hx hb hr (fun t ht hW => ⟨sl, rfl, (by refine ⟨?_, by omega⟩; unfold mCost; rw [← h16_0]; first | rw [if_neg (Int32.not_lt.mpr c20)] | rw [if_pos (Int32.not_le.mp c20)]), ht⟩) (fun q h => absurd h List.not_mem_nil) dX10_costOf_29
    · have c20_ := i_nle c20
      refine lv_iconst (v := 0) hx hb dX10_costOf_23 (by decide) ?_
      refine lv_goto (tgt := 29) hx hb dX10_costOf_24 (by decide) ?_
      subst hQ
      exact W.iret (v := 0) hx hb hr (fun t ht hW => ⟨0, rfl, (by refine ⟨?_, by omega⟩; unfold mCost; rw [← h16_0]; first | rw [if_neg (Int32.not_lt.mpr c20)] | rw [if_pos (Int32.not_le.mp c20)]), ht⟩) (fun q h => absurd h List.not_mem_nil) dX10_costOf_29
  refine lv_icmp_ne (tgt := 9) hx hb dX10_costOf_2 (by decide) (fun c2 => ?_) (fun c2 => ?_)
  · have c2_ := i_ne c2
    refine lv_aload_n hx hb dX10_costOf_9 rfl (lv_at hl 0 rfl) ?_
    refine lv_iload_n hx hb dX10_costOf_10 rfl (lv_at hl 1 rfl) ?_
    refine lv_iload_n hx hb dX10_costOf_11 rfl (lv_at hl 2 rfl) ?_
    refine lv_iload_n hx hb dX10_costOf_12 rfl (lv_at hl 3 rfl) ?_
    refine rd_V (As := [.int x, .int y, .int step]) (rest := []) (C := RX10) (ci := 10) ⟨hx, hb, hml, hown, hts⟩ (c_X10_slopeAt l E A am vm x y step hH (by omega) (by omega) (by omega) (by omega)) (cwV 3 hts gX10_costOf_X10_slopeAt rfl rfl rfl (by decide +kernel) ⟨Nat.le_of_ble_eq_true rfl, Nat.le_of_ble_eq_true rfl⟩) hE (hP.sub (ws' := mdL E am vm) [0, 1, 2, 3, 4, 5, 6, 7, 8, 9, 10, 11, 12, 13, 14, 15, 16, 17, 18, 19, 20, 21, 22, 23, 24, 25, 26, 27, 28, 29, 30, 31, 32, 33, 34, 35, 36, 37, 38, 39, 40, 41, 42, 43, 44, 45] rfl) rfl rfl rfl rfl hl.1 rfl (Nat.le_of_ble_eq_true rfl) dX10_costOf_13 ⟨Nat.zero_le _, Nat.zero_le _⟩ (fun r13 h13 => ?_)
    exact K16 r13 ls (by unfold mSl; first | (rw [if_neg c2]; exact h13) | rw [if_pos c2]) (lv_sub hl [0, 1, 2, 3] rfl)
  · have c2_ := i_eq c2
    refine lv_iconst (v := 0) hx hb dX10_costOf_5 (by decide) ?_
    refine lv_goto (tgt := 16) hx hb dX10_costOf_6 (by decide) ?_
    exact K16 0 ls (by unfold mSl; first | (rw [if_neg c2]; exact h13) | rw [if_pos c2]) (lv_sub hl [0, 1, 2, 3] rfl)
