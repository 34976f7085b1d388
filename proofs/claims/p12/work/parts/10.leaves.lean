def rm_X9_isOff : Room := { frames := 0, cells := 0, slots := 0, locals := 0 }
set_option maxHeartbeats 4000000 in
set_option maxRecDepth 100000 in
theorem c_X9_isOff (l : Launch) (E : Ev) (A : Nat → Prop) (x : Int32) (lo : Int32) (hi : Int32) : Met l yX9_isOff wsX9_isOff rm_X9_isOff (RdP E A [.int x, .int lo, .int hi] ([])) (vp_Si (fun r => (r.toInt = 1 ∧ (x.toInt < lo.toInt ∨ hi.toInt < x.toInt)) ∨ (r.toInt = 0 ∧ lo.toInt ≤ x.toInt ∧ x.toInt ≤ hi.toInt))) 0 0 (fun _ => False) := by
  refine Met.ofW (cc := cX9_isOff) (maxL := 3) (ret := (some .boolean)) (by decide) rfl ?_
  intro p e s m args below meth c s₁ B hml hv
  obtain ⟨rfl, hE, hP⟩ := hv
  have hx := B.exec
  have hb := B.bytes
  have hr := B.returns
  have hts := atoms_spec (ws := wsX9_isOff) B.pre
  have hown : s.vm.findClass RX9 = some m.cls := findClass_of_methodNamed B.named
  have hlocks := B.notSynchronized
  have hK := hE.1
  have n_0 : (0 : Int32).toInt = 0 := by decide
  have n_1 : (1 : Int32).toInt = 1 := by decide
  have hl := lv_entry ([.int x, .int lo, .int hi]) (n := 3) (Nat.le_of_ble_eq_true rfl)
  rw [lg_entry_eq]
  generalize (lg_sl ([.int x, .int lo, .int hi]) ++ List.replicate (3 - (lg_sl ([.int x, .int lo, .int hi])).length) Slot.unset).toArray = ls at hl ⊢
  have hl : lv_has ls 3 [(0, .int x), (1, .int lo), (2, .int hi)] := hl
  refine W_abs (fun Q hQ => ?_)
  refine lv_iload_n hx hb dX9_isOff_0 rfl (lv_at hl 0 rfl) ?_
  refine lv_iload_n hx hb dX9_isOff_1 rfl (lv_at hl 1 rfl) ?_
  refine lv_icmp_lt (tgt := 10) hx hb dX9_isOff_2 (by decide) (fun c2 => ?_) (fun c2 => ?_)
  · have c2_ := i_lt c2
    refine lv_iconst (v := 1) hx hb dX9_isOff_10 (by decide) ?_
    refine lv_goto (tgt := 15) hx hb dX9_isOff_11 (by decide) ?_
    subst hQ
    exact W.zret (v := 1) hx hb hr rfl (fun t ht hW => ⟨1, rfl, (by omega), ht⟩) (fun q h => absurd h List.not_mem_nil) dX9_isOff_15
  · have c2_ := i_nlt c2
    refine lv_iload_n hx hb dX9_isOff_5 rfl (lv_at hl 0 rfl) ?_
    refine lv_iload_n hx hb dX9_isOff_6 rfl (lv_at hl 2 rfl) ?_
    refine lv_icmp_le (tgt := 14) hx hb dX9_isOff_7 (by decide) (fun c7 => ?_) (fun c7 => ?_)
    · have c7_ := i_le c7
      refine lv_iconst (v := 0) hx hb dX9_isOff_14 (by decide) ?_
      subst hQ
      exact W.zret (v := 0) hx hb hr rfl (fun t ht hW => ⟨0, rfl, (by omega), ht⟩) (fun q h => absurd h List.not_mem_nil) dX9_isOff_15
    · have c7_ := i_nle c7
      refine lv_iconst (v := 1) hx hb dX9_isOff_10 (by decide) ?_
      refine lv_goto (tgt := 15) hx hb dX9_isOff_11 (by decide) ?_
      subst hQ
      exact W.zret (v := 1) hx hb hr rfl (fun t ht hW => ⟨1, rfl, (by omega), ht⟩) (fun q h => absurd h List.not_mem_nil) dX9_isOff_15
def rm_X9_isNoStep : Room := { frames := 1, cells := 0, slots := 0, locals := 22 }
set_option maxHeartbeats 4000000 in
set_option maxRecDepth 100000 in
theorem c_X9_isNoStep (l : Launch) (E : Ev) (A : Nat → Prop) (x : Int32) : Met l yX9_isNoStep wsX9_isNoStep rm_X9_isNoStep (RdP E A [.int x] ([])) (vp_Si (fun r => (r.toInt = 1 ∧ (x.toInt < 0 ∨ 900000 < x.toInt)) ∨ (r.toInt = 0 ∧ 0 ≤ x.toInt ∧ x.toInt ≤ 900000))) 0 0 (fun _ => False) := by
  refine Met.ofW (cc := cX9_isNoStep) (maxL := 1) (ret := (some .boolean)) (by decide) rfl ?_
  intro p e s m args below meth c s₁ B hml hv
  obtain ⟨rfl, hE, hP⟩ := hv
  have hx := B.exec
  have hb := B.bytes
  have hr := B.returns
  have hts := atoms_spec (ws := wsX9_isNoStep) B.pre
  have hown : s.vm.findClass RX9 = some m.cls := findClass_of_methodNamed B.named
  have hlocks := B.notSynchronized
  have hK := hE.1
  have lk0 := hts (.constant RX9 232 900000) (List.mem_of_getElem? (i := 1) rfl)
  have n_0 : (0 : Int32).toInt = 0 := by decide
  have n_900000 : (900000 : Int32).toInt = 900000 := by decide
  have hl := lv_entry ([.int x]) (n := 1) (Nat.le_of_ble_eq_true rfl)
  rw [lg_entry_eq]
  generalize (lg_sl ([.int x]) ++ List.replicate (1 - (lg_sl ([.int x])).length) Slot.unset).toArray = ls at hl ⊢
  have hl : lv_has ls 1 [(0, .int x)] := hl
  refine W_abs (fun Q hQ => ?_)
  refine lv_iload_n hx hb dX9_isNoStep_0 rfl (lv_at hl 0 rfl) ?_
  refine lv_iconst (v := 0) hx hb dX9_isNoStep_1 (by decide) ?_
  refine lv_ldc hx hb hown lk0 dX9_isNoStep_2 ?_
  refine rd_S (As := [.int x, .int 0, .int 900000]) (rest := []) ⟨hx, hb, hml, hown, hts⟩ (c_X9_isOff l E A x 0 900000) (va_cwS 3 hts gX9_isNoStep_X9_isOff rfl rfl rfl (by decide +kernel) ⟨Nat.le_of_ble_eq_true rfl, Nat.le_of_ble_eq_true rfl⟩) hE (hP.sub (ws' := []) [] rfl) rfl hl.1 rfl (Nat.le_of_ble_eq_true rfl) dX9_isNoStep_4 ⟨Nat.zero_le _, Nat.zero_le _⟩ (fun r4 h4 => ?_)
  subst hQ
  exact W.zret (v := r4) hx hb hr (nar_b (by omega)) (fun t ht hW => ⟨r4, rfl, (by omega), ht⟩) (fun q h => absurd h List.not_mem_nil) dX9_isNoStep_7
def rm_X9_isNoWay : Room := { frames := 1, cells := 0, slots := 0, locals := 22 }
set_option maxHeartbeats 4000000 in
set_option maxRecDepth 100000 in
theorem c_X9_isNoWay (l : Launch) (E : Ev) (A : Nat → Prop) (x : Int32) : Met l yX9_isNoWay wsX9_isNoWay rm_X9_isNoWay (RdP E A [.int x] ([])) (vp_Si (fun r => (r.toInt = 1 ∧ (x.toInt < 0 ∨ 4 < x.toInt)) ∨ (r.toInt = 0 ∧ 0 ≤ x.toInt ∧ x.toInt ≤ 4))) 0 0 (fun _ => False) := by
  refine Met.ofW (cc := cX9_isNoWay) (maxL := 1) (ret := (some .boolean)) (by decide) rfl ?_
  intro p e s m args below meth c s₁ B hml hv
  obtain ⟨rfl, hE, hP⟩ := hv
  have hx := B.exec
  have hb := B.bytes
  have hr := B.returns
  have hts := atoms_spec (ws := wsX9_isNoWay) B.pre
  have hown : s.vm.findClass RX9 = some m.cls := findClass_of_methodNamed B.named
  have hlocks := B.notSynchronized
  have hK := hE.1
  have n_0 : (0 : Int32).toInt = 0 := by decide
  have n_4 : (4 : Int32).toInt = 4 := by decide
  have hl := lv_entry ([.int x]) (n := 1) (Nat.le_of_ble_eq_true rfl)
  rw [lg_entry_eq]
  generalize (lg_sl ([.int x]) ++ List.replicate (1 - (lg_sl ([.int x])).length) Slot.unset).toArray = ls at hl ⊢
  have hl : lv_has ls 1 [(0, .int x)] := hl
  refine W_abs (fun Q hQ => ?_)
  refine lv_iload_n hx hb dX9_isNoWay_0 rfl (lv_at hl 0 rfl) ?_
  refine lv_iconst (v := 0) hx hb dX9_isNoWay_1 (by decide) ?_
  refine lv_iconst (v := 4) hx hb dX9_isNoWay_2 (by decide) ?_
  refine rd_S (As := [.int x, .int 0, .int 4]) (rest := []) ⟨hx, hb, hml, hown, hts⟩ (c_X9_isOff l E A x 0 4) (va_cwS 3 hts gX9_isNoWay_X9_isOff rfl rfl rfl (by decide +kernel) ⟨Nat.le_of_ble_eq_true rfl, Nat.le_of_ble_eq_true rfl⟩) hE (hP.sub (ws' := []) [] rfl) rfl hl.1 rfl (Nat.le_of_ble_eq_true rfl) dX9_isNoWay_3 ⟨Nat.zero_le _, Nat.zero_le _⟩ (fun r3 h3 => ?_)
  subst hQ
  exact W.zret (v := r3) hx hb hr (nar_b (by omega)) (fun t ht hW => ⟨r3, rfl, (by omega), ht⟩) (fun q h => absurd h List.not_mem_nil) dX9_isNoWay_6
def rm_X9_leftOver : Room := { frames := 0, cells := 0, slots := 0, locals := 0 }
set_option maxHeartbeats 4000000 in
set_option maxRecDepth 100000 in
theorem c_X9_leftOver (l : Launch) (E : Ev) (A : Nat → Prop) (x : Int32) (n : Int32) (hx : 0 ≤ x.toInt ∧ x.toInt ≤ 2147483647) : Met l yX9_leftOver wsX9_leftOver rm_X9_leftOver (RdP E A [.int x, .int n] ([])) (vp_Si (fun r => (0 ≤ r.toInt ∧ (r.toInt = 0 ∨ r.toInt < n.toInt) ∧ r.toInt ≤ x.toInt) ∧ (1 ≤ n.toInt → r.toInt = x.toInt % n.toInt))) 0 0 (fun _ => False) := by
  refine Met.ofW (cc := cX9_leftOver) (maxL := 2) (ret := (some .int)) (by decide) rfl ?_
  intro p e s m args below meth c s₁ B hml hv
  obtain ⟨rfl, hE, hP⟩ := hv
  have hx := B.exec
  have hb := B.bytes
  have hr := B.returns
  have hts := atoms_spec (ws := wsX9_leftOver) B.pre
  have hown : s.vm.findClass RX9 = some m.cls := findClass_of_methodNamed B.named
  have hlocks := B.notSynchronized
  have hK := hE.1
  have n_0 : (0 : Int32).toInt = 0 := by decide
  have n_1 : (1 : Int32).toInt = 1 := by decide
  have hl := lv_entry ([.int x, .int n]) (n := 2) (Nat.le_of_ble_eq_true rfl)
  rw [lg_entry_eq]
  generalize (lg_sl ([.int x, .int n]) ++ List.replicate (2 - (lg_sl ([.int x, .int n])).length) Slot.unset).toArray = ls at hl ⊢
  have hl : lv_has ls 2 [(0, .int x), (1, .int n)] := hl
  refine W_abs (fun Q hQ => ?_)
  refine lv_iload_n hx hb dX9_leftOver_0 rfl (lv_at hl 1 rfl) ?_
  refine lv_iconst (v := 1) hx hb dX9_leftOver_1 (by decide) ?_
  refine lv_icmp_ge (tgt := 9) hx hb dX9_leftOver_2 (by decide) (fun c2 => ?_) (fun c2 => ?_)
  · have c2_ := i_le c2
    refine lv_iload_n hx hb dX9_leftOver_9 rfl (lv_at hl 0 rfl) ?_
    refine lv_iload_n hx hb dX9_leftOver_10 rfl (lv_at hl 1 rfl) ?_
    refine lv_irem hx hb dX9_leftOver_11 (i_ne0 (by omega)) ?_
    refine lv_topi (fun x11 e11 => ?_)
    have t11 := i_rem e11 (by omega) (by omega)
    subst hQ
    exact W.iret (v := x11) hx hb hr (fun t ht hW => ⟨x11, rfl, ⟨(by omega), (fun q => by first | exact t11.1 | (exfalso; omega))⟩, ht⟩) (fun q h => absurd h List.not_mem_nil) dX9_leftOver_12
  · have c2_ := i_nle c2
    refine lv_iconst (v := 0) hx hb dX9_leftOver_5 (by decide) ?_
    refine lv_goto (tgt := 12) hx hb dX9_leftOver_6 (by decide) ?_
    subst hQ
    exact W.iret (v := 0) hx hb hr (fun t ht hW => ⟨0, rfl, ⟨(by omega), (fun q => by first | exact t11.1 | (exfalso; omega))⟩, ht⟩) (fun q h => absurd h List.not_mem_nil) dX9_leftOver_12
def rm_X9_greatestDivisor : Room := { frames := 1, cells := 0, slots := 0, locals := 21 }
set_option maxHeartbeats 4000000 in
set_option maxRecDepth 100000 in
theorem c_X9_greatestDivisor (l : Launch) (E : Ev) (A : Nat → Prop) (a : Int32) (b : Int32) : Met l yX9_greatestDivisor wsX9_greatestDivisor rm_X9_greatestDivisor (RdP E A [.int a, .int b] ([])) (vp_Si (fun r => (True) ∧ ((-100000 ≤ a.toInt ∧ a.toInt ≤ 100000) → (0 ≤ b.toInt ∧ b.toInt ≤ 60) → r.toInt = (Int.gcd a.toInt b.toInt : Int)))) 0 0 (fun _ => False) := by
  refine Met.ofW (cc := cX9_greatestDivisor) (maxL := 6) (ret := (some .int)) (by decide) rfl ?_
  intro p e s m args below meth c s₁ B hml hv
  obtain ⟨rfl, hE, hP⟩ := hv
  have hx := B.exec
  have hb := B.bytes
  have hr := B.returns
  have hts := atoms_spec (ws := wsX9_greatestDivisor) B.pre
  have hown : s.vm.findClass RX9 = some m.cls := findClass_of_methodNamed B.named
  have hlocks := B.notSynchronized
  have hK := hE.1
  have lk0 := hts (.methodLink RX9 329 Lib.Math.abs.name) (List.mem_of_getElem? (i := 1) rfl)
  have lk1 := hts (.static Lib.Math.abs.name) (List.mem_of_getElem? (i := 2) rfl)
  have lk2 := hts (.initialized "java/lang/Math") (List.mem_of_getElem? (i := 3) rfl)
  have lk3 := hts (.code Lib.Math.abs.name Lib.Math.abs.code 1 (some .int)) (List.mem_of_getElem? (i := 4) rfl)
  have n_0 : (0 : Int32).toInt = 0 := by decide
  have n_1 : (1 : Int32).toInt = 1 := by decide
  have n_64 : (64 : Int32).toInt = 64 := by decide
  have hl := lv_entry ([.int a, .int b]) (n := 6) (Nat.le_of_ble_eq_true rfl)
  rw [lg_entry_eq]
  generalize (lg_sl ([.int a, .int b]) ++ List.replicate (6 - (lg_sl ([.int a, .int b])).length) Slot.unset).toArray = ls at hl ⊢
  have hl : lv_has ls 6 [(0, .int a), (1, .int b)] := hl
  refine W_abs (fun Q hQ => ?_)
  refine lv_iload_n hx hb dX9_greatestDivisor_0 rfl (lv_at hl 0 rfl) ?_
  refine va_mabs hx hb (hml.trans hl.1.symm) hown lk0 lk1 lk2 lk3 (Nat.le_of_ble_eq_true rfl) (Nat.le_of_ble_eq_true rfl) (Nat.zero_le _) (Nat.zero_le _) dX9_greatestDivisor_1 ?_
  refine lv_topi (fun x1 e1 => ?_)
  refine lv_istore_n (lv' := [(2, .int x1), (0, .int a), (1, .int b)]) hx hb dX9_greatestDivisor_4 rfl hl (by decide) rfl (fun ls hl => ?_)
  refine lv_iload_n hx hb dX9_greatestDivisor_5 rfl (lv_at hl 2 rfl) ?_
  refine va_mabs hx hb (hml.trans hl.1.symm) hown lk0 lk1 lk2 lk3 (Nat.le_of_ble_eq_true rfl) (Nat.le_of_ble_eq_true rfl) (Nat.zero_le _) (Nat.zero_le _) dX9_greatestDivisor_6 ?_
  refine lv_topi (fun x6 e6 => ?_)
  refine lv_istore_n (lv' := [(3, .int x6), (2, .int x1), (0, .int a), (1, .int b)]) hx hb dX9_greatestDivisor_9 rfl hl (by decide) rfl (fun ls hl => ?_)
  refine lv_iconst (v := 0) hx hb dX9_greatestDivisor_10 (by decide) ?_
  refine lv_istore (lv' := [(4, .int 0), (3, .int x6), (2, .int x1), (0, .int a), (1, .int b)]) hx hb dX9_greatestDivisor_11 hl (by decide) rfl (fun ls hl => ?_)
  have K13 : ∀ (μ : Nat) (hi : Int32) (lo : Int32) (i : Int32) (ls : Array Slot), (64 - i.toInt).toNat < μ → (0 ≤ i.toInt ∧ i.toInt ≤ 64) → ((-100000 ≤ a.toInt ∧ a.toInt ≤ 100000) → (0 ≤ b.toInt ∧ b.toInt ≤ 60) → gdI a.toInt b.toInt hi.toInt lo.toInt i.toInt) → lv_has ls 6 [(0, .int a), (1, .int b), (2, .int hi), (3, .int lo), (4, .int i)] → W p l e (headSpec wsX9_greatestDivisor rm_X9_greatestDivisor).room s m ([.int a, .int b] : List Value).toArray below meth c s.heap [] 0 0 Q (F0 m 13 ls []) := by
    intro μ
    induction μ with
    | zero =>
      intro hi lo i ls hμ13
      exact absurd hμ13 (Nat.not_lt_zero _)
    | succ μ ih13 =>
      intro hi lo i ls hμ13 h13_0 h13_1 hl
      have hx13_0 := h13_1
      clear h13_1
      refine lv_iload hx hb dX9_greatestDivisor_13 (lv_at hl 4 rfl) ?_
      refine lv_bipush (v := 64) hx hb dX9_greatestDivisor_15 (by decide) ?_
      refine lv_icmp_ge (tgt := 40) hx hb dX9_greatestDivisor_17 (by decide) (fun c17 => ?_) (fun c17 => ?_)
      · have c17_ := i_le c17
        refine lv_iload_n hx hb dX9_greatestDivisor_40 rfl (lv_at hl 2 rfl) ?_
        subst hQ
        exact W.iret (v := hi) hx hb hr (fun t ht hW => ⟨hi, rfl, ⟨trivial, (fun ha hb => gd_out (hx13_0 ha hb) (by omega))⟩, ht⟩) (fun q h => absurd h List.not_mem_nil) dX9_greatestDivisor_41
      · have c17_ := i_nle c17
        refine lv_iload_n hx hb dX9_greatestDivisor_20 rfl (lv_at hl 3 rfl) ?_
        refine lv_if_eq (tgt := 40) hx hb dX9_greatestDivisor_21 (by decide) (fun c21 => ?_) (fun c21 => ?_)
        · have c21_ := i_eq c21
          refine lv_iload_n hx hb dX9_greatestDivisor_40 rfl (lv_at hl 2 rfl) ?_
          subst hQ
          exact W.iret (v := hi) hx hb hr (fun t ht hW => ⟨hi, rfl, ⟨trivial, (fun ha hb => gd_out (hx13_0 ha hb) (by omega))⟩, ht⟩) (fun q h => absurd h List.not_mem_nil) dX9_greatestDivisor_41
        · have c21_ := i_ne c21
          refine lv_iload_n hx hb dX9_greatestDivisor_24 rfl (lv_at hl 2 rfl) ?_
          refine lv_iload_n hx hb dX9_greatestDivisor_25 rfl (lv_at hl 3 rfl) ?_
          refine lv_irem hx hb dX9_greatestDivisor_26 c21 ?_
          refine lv_topi (fun x26 e26 => ?_)
          refine lv_istore (lv' := [(5, .int x26), (0, .int a), (1, .int b), (2, .int hi), (3, .int lo), (4, .int i)]) hx hb dX9_greatestDivisor_27 hl (by decide) rfl (fun ls hl => ?_)
          refine lv_iload_n hx hb dX9_greatestDivisor_29 rfl (lv_at hl 4 rfl) ?_
          refine lv_istore_n (lv' := [(2, .int lo), (5, .int x26), (0, .int a), (1, .int b), (3, .int lo), (4, .int i)]) hx hb dX9_greatestDivisor_30 rfl hl (by decide) rfl (fun ls hl => ?_)
          refine lv_iload hx hb dX9_greatestDivisor_31 (lv_at hl 1 rfl) ?_
          refine lv_istore_n (lv' := [(3, .int x26), (2, .int lo), (5, .int x26), (0, .int a), (1, .int b), (4, .int i)]) hx hb dX9_greatestDivisor_33 rfl hl (by decide) rfl (fun ls hl => ?_)
          obtain ⟨x34, e34⟩ : ∃ y : Int32, y = i + 1 := ⟨_, rfl⟩
          refine lv_iinc (v := x34) (lv' := [(4, .int x34), (3, .int x26), (2, .int lo), (5, .int x26), (0, .int a), (1, .int b)]) hx hb dX9_greatestDivisor_34 hl (k := 5) rfl (by rw [e34]; rfl) (by decide) rfl (fun ls hl => ?_)
          have t34 := i_add e34 (by omega)
          refine lv_goto (tgt := 13) hx hb dX9_greatestDivisor_37 (by decide) ?_
          exact ih13 lo x26 x34 ls (by omega) (by omega) (fun ha hb => gd_next (hx13_0 ha hb) (by omega) e26 (by omega) (by omega)) (lv_sub hl [4, 5, 2, 1, 0] rfl)
  exact K13 _ x1 x6 0 ls (Nat.lt_succ_self _) (by omega) (fun ha hb => gd_in ha hb e1 e6) (lv_sub hl [3, 4, 2, 1, 0] rfl)
def rm_X0_placeAt : Room := { frames := 0, cells := 0, slots := 0, locals := 0 }
set_option maxHeartbeats 4000000 in
set_option maxRecDepth 100000 in
theorem c_X0_placeAt (l : Launch) (E : Ev) (A : Nat → Prop) (q : Nat) (qr : Nat) (qa : Nat) (m0 : Int32) (m1 : Int32) (m2 : Int32) (mr : Nat → Int32) (ma : Nat → Int32) (cell : Int32) (step : Int32) (hm : moonI m0 mr ma) (hcell : 0 ≤ cell.toInt ∧ cell.toInt ≤ 23) (hstep : 0 ≤ step.toInt ∧ step.toInt ≤ 2000000) : Met l yX0_placeAt wsX0_placeAt rm_X0_placeAt (RdP E A [.ref q, .int cell, .int step] (moonL E q qr qa m0 m1 m2 mr ma)) (vp_Si (fun r => (0 ≤ r.toInt ∧ r.toInt ≤ 8) ∧ (r.toInt = (step.toInt + (ma cell.toNatClampNeg).toInt) % m0.toInt))) 0 0 (fun _ => False) := by
  refine Met.ofW (cc := cX0_placeAt) (maxL := 3) (ret := (some .int)) (by decide) rfl ?_
  intro p e s m args below meth c s₁ B hml hv
  obtain ⟨rfl, hE, hP⟩ := hv
  have hx := B.exec
  have hb := B.bytes
  have hr := B.returns
  have hts := atoms_spec (ws := wsX0_placeAt) B.pre
  have hown : s.vm.findClass RX0 = some m.cls := findClass_of_methodNamed B.named
  have hlocks := B.notSynchronized
  have hK := hE.1
  have in_X0 : ∀ w ∈ u_ws RX0 TX0 5, w ∈ wsX0_placeAt := fun w h => List.mem_cons_of_mem _ (List.mem_append_right _ h)
  have lk0 := hts (.fieldLink RX0 18 "TidedGround$Moon" "size" "I") (List.mem_of_getElem? (i := 1) rfl)
  have lk1 := hts (.fieldLink RX0 15 "TidedGround$Moon" "ahead" "[I") (List.mem_of_getElem? (i := 2) rfl)
  have n_0 : (0 : Int32).toInt = 0 := by decide
  have n_1 : (1 : Int32).toInt = 1 := by decide
  have hl := lv_entry ([.ref q, .int cell, .int step]) (n := 3) (Nat.le_of_ble_eq_true rfl)
  rw [lg_entry_eq]
  generalize (lg_sl ([.ref q, .int cell, .int step]) ++ List.replicate (3 - (lg_sl ([.ref q, .int cell, .int step])).length) Slot.unset).toArray = ls at hl ⊢
  have hl : lv_has ls 3 [(0, .ref q), (1, .int cell), (2, .int step)] := hl
  refine W_abs (fun Q hQ => ?_)
  obtain ⟨hm0, hmr, hma⟩ := hm
  refine lv_aload_n hx hb dX0_placeAt_0 rfl (lv_at hl 0 rfl) ?_
  refine va_get (D := eD E) (ci := 0) (v := .int m0) (C := RX0) (T := TX0) (N := 5) hx hb hts in_X0 hown hK hP 0 rfl rfl 0 (by decide) lk0 (fun _ h9 => h9) rfl dX0_placeAt_1 ?_
  refine lv_iconst (v := 1) hx hb dX0_placeAt_4 (by decide) ?_
  refine lv_icmp_ge (tgt := 12) hx hb dX0_placeAt_5 (by decide) (fun c5 => ?_) (fun q => ?_)
  rotate_left
  · exact absurd (i_nle q) (by omega)
  have c5_ := i_le c5
  refine lv_iload_n hx hb dX0_placeAt_12 rfl (lv_at hl 2 rfl) ?_
  refine lv_aload_n hx hb dX0_placeAt_13 rfl (lv_at hl 0 rfl) ?_
  refine va_get (D := eD E) (ci := 0) (v := .ref qa) (C := RX0) (T := TX0) (N := 5) hx hb hts in_X0 hown hK hP 0 rfl rfl 4 (by decide) lk1 (fun _ h9 => h9) rfl dX0_placeAt_14 ?_
  refine lv_iload_n hx hb dX0_placeAt_17 rfl (lv_at hl 1 rfl) ?_
  refine va_iald hx hb hK hP 2 0 rfl rfl (n := 24) (f := ma) (i_in (by omega) (by omega)) dX0_placeAt_18 ?_
  refine lv_topi (fun x18 e18 => ?_)
  have b18 := hma cell.toNatClampNeg (i_natlt (by omega) (by decide))
  rw [← e18] at b18
  refine lv_iadd hx hb dX0_placeAt_19 ?_
  refine lv_topi (fun x19 e19 => ?_)
  have t19 := i_add e19 (by omega)
  refine lv_aload_n hx hb dX0_placeAt_20 rfl (lv_at hl 0 rfl) ?_
  refine va_get (D := eD E) (ci := 0) (v := .int m0) (C := RX0) (T := TX0) (N := 5) hx hb hts in_X0 hown hK hP 0 rfl rfl 0 (by decide) lk0 (fun _ h9 => h9) rfl dX0_placeAt_21 ?_
  refine lv_irem hx hb dX0_placeAt_24 (i_ne0 (by omega)) ?_
  refine lv_topi (fun x24 e24 => ?_)
  have t24 := i_rem e24 (by omega) (by omega)
  subst hQ
  exact W.iret (v := x24) hx hb hr (fun t ht hW => ⟨x24, rfl, ⟨(by omega), (by rw [t24.1, t19, e18])⟩, ht⟩) (fun q h => absurd h List.not_mem_nil) dX0_placeAt_25
def rm_X0_partAt : Room := { frames := 0, cells := 0, slots := 0, locals := 0 }
set_option maxHeartbeats 4000000 in
set_option maxRecDepth 100000 in
theorem c_X0_partAt (l : Launch) (E : Ev) (A : Nat → Prop) (q : Nat) (qr : Nat) (qa : Nat) (m0 : Int32) (m1 : Int32) (m2 : Int32) (mr : Nat → Int32) (ma : Nat → Int32) (cell : Int32) (step : Int32) (shift : Int32) (hm : moonI m0 mr ma) (hcell : 0 ≤ cell.toInt ∧ cell.toInt ≤ 23) (hstep : 0 ≤ step.toInt ∧ step.toInt ≤ 2000000) (hshift : 0 ≤ shift.toInt ∧ shift.toInt ≤ 9) : Met l yX0_partAt wsX0_partAt rm_X0_partAt (RdP E A [.ref q, .int cell, .int step, .int shift] (moonL E q qr qa m0 m1 m2 mr ma)) (vp_Si (fun r => (-9 ≤ r.toInt ∧ r.toInt ≤ 9) ∧ (r = mr ((step.toInt + (ma cell.toNatClampNeg).toInt) % m0.toInt + shift.toInt).toNat))) 0 0 (fun _ => False) := by
  refine Met.ofW (cc := cX0_partAt) (maxL := 4) (ret := (some .int)) (by decide) rfl ?_
  intro p e s m args below meth c s₁ B hml hv
  obtain ⟨rfl, hE, hP⟩ := hv
  have hx := B.exec
  have hb := B.bytes
  have hr := B.returns
  have hts := atoms_spec (ws := wsX0_partAt) B.pre
  have hown : s.vm.findClass RX0 = some m.cls := findClass_of_methodNamed B.named
  have hlocks := B.notSynchronized
  have hK := hE.1
  have in_X0 : ∀ w ∈ u_ws RX0 TX0 5, w ∈ wsX0_partAt := fun w h => List.mem_cons_of_mem _ (List.mem_append_right _ h)
  have lk0 := hts (.fieldLink RX0 18 "TidedGround$Moon" "size" "I") (List.mem_of_getElem? (i := 1) rfl)
  have lk1 := hts (.fieldLink RX0 9 "TidedGround$Moon" "row" "[I") (List.mem_of_getElem? (i := 2) rfl)
  have lk2 := hts (.fieldLink RX0 15 "TidedGround$Moon" "ahead" "[I") (List.mem_of_getElem? (i := 3) rfl)
  have n_0 : (0 : Int32).toInt = 0 := by decide
  have n_1 : (1 : Int32).toInt = 1 := by decide
  have hl := lv_entry ([.ref q, .int cell, .int step, .int shift]) (n := 4) (Nat.le_of_ble_eq_true rfl)
  rw [lg_entry_eq]
  generalize (lg_sl ([.ref q, .int cell, .int step, .int shift]) ++ List.replicate (4 - (lg_sl ([.ref q, .int cell, .int step, .int shift])).length) Slot.unset).toArray = ls at hl ⊢
  have hl : lv_has ls 4 [(0, .ref q), (1, .int cell), (2, .int step), (3, .int shift)] := hl
  refine W_abs (fun Q hQ => ?_)
  obtain ⟨hm0, hmr, hma⟩ := hm
  refine lv_aload_n hx hb dX0_partAt_0 rfl (lv_at hl 0 rfl) ?_
  refine va_get (D := eD E) (ci := 0) (v := .int m0) (C := RX0) (T := TX0) (N := 5) hx hb hts in_X0 hown hK hP 0 rfl rfl 0 (by decide) lk0 (fun _ h9 => h9) rfl dX0_partAt_1 ?_
  refine lv_iconst (v := 1) hx hb dX0_partAt_4 (by decide) ?_
  refine lv_icmp_ge (tgt := 12) hx hb dX0_partAt_5 (by decide) (fun c5 => ?_) (fun q => ?_)
  rotate_left
  · exact absurd (i_nle q) (by omega)
  have c5_ := i_le c5
  refine lv_aload_n hx hb dX0_partAt_12 rfl (lv_at hl 0 rfl) ?_
  refine va_get (D := eD E) (ci := 0) (v := .ref qr) (C := RX0) (T := TX0) (N := 5) hx hb hts in_X0 hown hK hP 0 rfl rfl 3 (by decide) lk1 (fun _ h9 => h9) rfl dX0_partAt_13 ?_
  refine lv_iload_n hx hb dX0_partAt_16 rfl (lv_at hl 2 rfl) ?_
  refine lv_aload_n hx hb dX0_partAt_17 rfl (lv_at hl 0 rfl) ?_
  refine va_get (D := eD E) (ci := 0) (v := .ref qa) (C := RX0) (T := TX0) (N := 5) hx hb hts in_X0 hown hK hP 0 rfl rfl 4 (by decide) lk2 (fun _ h9 => h9) rfl dX0_partAt_18 ?_
  refine lv_iload_n hx hb dX0_partAt_21 rfl (lv_at hl 1 rfl) ?_
  refine va_iald hx hb hK hP 2 0 rfl rfl (n := 24) (f := ma) (i_in (by omega) (by omega)) dX0_partAt_22 ?_
  refine lv_topi (fun x22 e22 => ?_)
  have b22 := hma cell.toNatClampNeg (i_natlt (by omega) (by decide))
  rw [← e22] at b22
  refine lv_iadd hx hb dX0_partAt_23 ?_
  refine lv_topi (fun x23 e23 => ?_)
  have t23 := i_add e23 (by omega)
  refine lv_aload_n hx hb dX0_partAt_24 rfl (lv_at hl 0 rfl) ?_
  refine va_get (D := eD E) (ci := 0) (v := .int m0) (C := RX0) (T := TX0) (N := 5) hx hb hts in_X0 hown hK hP 0 rfl rfl 0 (by decide) lk0 (fun _ h9 => h9) rfl dX0_partAt_25 ?_
  refine lv_irem hx hb dX0_partAt_28 (i_ne0 (by omega)) ?_
  refine lv_topi (fun x28 e28 => ?_)
  have t28 := i_rem e28 (by omega) (by omega)
  refine lv_iload_n hx hb dX0_partAt_29 rfl (lv_at hl 3 rfl) ?_
  refine lv_iadd hx hb dX0_partAt_30 ?_
  refine lv_topi (fun x30 e30 => ?_)
  have t30 := i_add e30 (by omega)
  refine va_iald hx hb hK hP 1 0 rfl rfl (n := 18) (f := mr) (i_in (by omega) (by omega)) dX0_partAt_31 ?_
  refine lv_topi (fun x31 e31 => ?_)
  have b31 := hmr x30.toNatClampNeg (i_natlt (by omega) (by decide))
  rw [← e31] at b31
  subst hQ
  exact W.iret (v := x31) hx hb hr (fun t ht hW => ⟨x31, rfl, ⟨(by omega), (by rw [e31]; congr 1; show x30.toInt.toNat = _; rw [t30, t28.1, t23, e22])⟩, ht⟩) (fun q h => absurd h List.not_mem_nil) dX0_partAt_32
def rm_X5_has : Room := { frames := 0, cells := 0, slots := 0, locals := 0 }
set_option maxHeartbeats 4000000 in
set_option maxRecDepth 100000 in
theorem c_X5_has (l : Launch) (E : Ev) (A : Nat → Prop) (q : Nat) (q1 : Nat) (q2 : Nat) (q3 : Nat) (n : Int32) (f1 : Nat → Int32) (f2 : Nat → Int32) (f3 : Nat → Int32) (i : Int32) : Met l yX5_has wsX5_has rm_X5_has (RdP E A [.ref q, .int i] (sitesL E q q1 q2 q3 n f1 f2 f3)) (vp_Si (fun r => (r.toInt = 1 ∧ 0 ≤ i.toInt ∧ i.toInt < n.toInt) ∨ (r.toInt = 0 ∧ (i.toInt < 0 ∨ n.toInt ≤ i.toInt)))) 0 0 (fun _ => False) := by
  refine Met.ofW (cc := cX5_has) (maxL := 2) (ret := (some .boolean)) (by decide) rfl ?_
  intro p e s m args below meth c s₁ B hml hv
  obtain ⟨rfl, hE, hP⟩ := hv
  have hx := B.exec
  have hb := B.bytes
  have hr := B.returns
  have hts := atoms_spec (ws := wsX5_has) B.pre
  have hown : s.vm.findClass RX5 = some m.cls := findClass_of_methodNamed B.named
  have hlocks := B.notSynchronized
  have hK := hE.1
  have in_X5 : ∀ w ∈ u_ws RX5 TX5 4, w ∈ wsX5_has := fun w h => List.mem_cons_of_mem _ (List.mem_append_right _ h)
  have lk0 := hts (.fieldLink RX5 21 "TidedGround$Sites" "count" "I") (List.mem_of_getElem? (i := 1) rfl)
  have n_0 : (0 : Int32).toInt = 0 := by decide
  have n_1 : (1 : Int32).toInt = 1 := by decide
  have hl := lv_entry ([.ref q, .int i]) (n := 2) (Nat.le_of_ble_eq_true rfl)
  rw [lg_entry_eq]
  generalize (lg_sl ([.ref q, .int i]) ++ List.replicate (2 - (lg_sl ([.ref q, .int i])).length) Slot.unset).toArray = ls at hl ⊢
  have hl : lv_has ls 2 [(0, .ref q), (1, .int i)] := hl
  refine W_abs (fun Q hQ => ?_)
  refine lv_iload_n hx hb dX5_has_0 rfl (lv_at hl 1 rfl) ?_
  refine lv_if_lt (tgt := 16) hx hb dX5_has_1 (by decide) (fun c1 => ?_) (fun c1 => ?_)
  · have c1_ := i_lt c1
    refine lv_iconst (v := 0) hx hb dX5_has_16 (by decide) ?_
    subst hQ
    exact W.zret (v := 0) hx hb hr rfl (fun t ht hW => ⟨0, rfl, (by omega), ht⟩) (fun q h => absurd h List.not_mem_nil) dX5_has_17
  · have c1_ := i_nlt c1
    refine lv_iload_n hx hb dX5_has_4 rfl (lv_at hl 1 rfl) ?_
    refine lv_aload_n hx hb dX5_has_5 rfl (lv_at hl 0 rfl) ?_
    refine va_get (D := eD E) (ci := 5) (v := .int n) (C := RX5) (T := TX5) (N := 4) hx hb hts in_X5 hown hK hP 0 rfl rfl 0 (by decide) lk0 (fun _ h9 => h9) rfl dX5_has_6 ?_
    refine lv_icmp_ge (tgt := 16) hx hb dX5_has_9 (by decide) (fun c9 => ?_) (fun c9 => ?_)
    · have c9_ := i_le c9
      refine lv_iconst (v := 0) hx hb dX5_has_16 (by decide) ?_
      subst hQ
      exact W.zret (v := 0) hx hb hr rfl (fun t ht hW => ⟨0, rfl, (by omega), ht⟩) (fun q h => absurd h List.not_mem_nil) dX5_has_17
    · have c9_ := i_nle c9
      refine lv_iconst (v := 1) hx hb dX5_has_12 (by decide) ?_
      refine lv_goto (tgt := 17) hx hb dX5_has_13 (by decide) ?_
      subst hQ
      exact W.zret (v := 1) hx hb hr rfl (fun t ht hW => ⟨1, rfl, (by omega), ht⟩) (fun q h => absurd h List.not_mem_nil) dX5_has_17
def rm_X5_stands : Room := { frames := 0, cells := 0, slots := 0, locals := 0 }
set_option maxHeartbeats 4000000 in
set_option maxRecDepth 100000 in
theorem c_X5_stands (l : Launch) (E : Ev) (A : Nat → Prop) (q : Nat) (q1 : Nat) (q2 : Nat) (q3 : Nat) (n : Int32) (f1 : Nat → Int32) (f2 : Nat → Int32) (f3 : Nat → Int32) (x : Int32) (hn : 0 ≤ n.toInt ∧ n.toInt ≤ 6) : Met l yX5_stands wsX5_stands rm_X5_stands (RdP E A [.ref q, .int x] (sitesL E q q1 q2 q3 n f1 f2 f3)) (vp_Si (fun r => ((r.toInt = 0 ∨ r.toInt = 1)) ∧ ((r.toInt = 1 ∧ anyE (fI f1) x.toInt n.toInt.toNat = true) ∨ (r.toInt = 0 ∧ anyE (fI f1) x.toInt n.toInt.toNat = false)))) 0 0 (fun _ => False) := by
  refine Met.ofW (cc := cX5_stands) (maxL := 3) (ret := (some .boolean)) (by decide) rfl ?_
  intro p e s m args below meth c s₁ B hml hv
  obtain ⟨rfl, hE, hP⟩ := hv
  have hx := B.exec
  have hb := B.bytes
  have hr := B.returns
  have hts := atoms_spec (ws := wsX5_stands) B.pre
  have hown : s.vm.findClass RX5 = some m.cls := findClass_of_methodNamed B.named
  have hlocks := B.notSynchronized
  have hK := hE.1
  have in_X5 : ∀ w ∈ u_ws RX5 TX5 4, w ∈ wsX5_stands := fun w h => List.mem_cons_of_mem _ (List.mem_append_right _ h)
  have lk0 := hts (.fieldLink RX5 21 "TidedGround$Sites" "count" "I") (List.mem_of_getElem? (i := 1) rfl)
  have lk1 := hts (.fieldLink RX5 9 "TidedGround$Sites" "cell" "[I") (List.mem_of_getElem? (i := 2) rfl)
  have n_0 : (0 : Int32).toInt = 0 := by decide
  have n_1 : (1 : Int32).toInt = 1 := by decide
  have hl := lv_entry ([.ref q, .int x]) (n := 3) (Nat.le_of_ble_eq_true rfl)
  rw [lg_entry_eq]
  generalize (lg_sl ([.ref q, .int x]) ++ List.replicate (3 - (lg_sl ([.ref q, .int x])).length) Slot.unset).toArray = ls at hl ⊢
  have hl : lv_has ls 3 [(0, .ref q), (1, .int x)] := hl
  refine W_abs (fun Q hQ => ?_)
  refine lv_iconst (v := 0) hx hb dX5_stands_0 (by decide) ?_
  refine lv_istore_n (lv' := [(2, .int 0), (0, .ref q), (1, .int x)]) hx hb dX5_stands_1 rfl hl (by decide) rfl (fun ls hl => ?_)
  have K2 : ∀ (μ : Nat) (i : Int32) (ls : Array Slot), (6 - i.toInt).toNat < μ → (0 ≤ i.toInt ∧ i.toInt ≤ 6) → (anyE (fI f1) x.toInt i.toInt.toNat = false) → (i.toInt ≤ n.toInt) → lv_has ls 3 [(0, .ref q), (1, .int x), (2, .int i)] → W p l e (headSpec wsX5_stands rm_X5_stands).room s m ([.ref q, .int x] : List Value).toArray below meth c s.heap [] 0 0 Q (F0 m 2 ls []) := by
    intro μ
    induction μ with
    | zero =>
      intro i ls hμ2
      exact absurd hμ2 (Nat.not_lt_zero _)
    | succ μ ih2 =>
      intro i ls hμ2 h2_0 h2_1 h2_2 hl
      have hx2_0 := h2_1
      clear h2_1
      have hx2_1 := h2_2
      clear h2_2
      refine lv_iload_n hx hb dX5_stands_2 rfl (lv_at hl 2 rfl) ?_
      refine lv_aload_n hx hb dX5_stands_3 rfl (lv_at hl 0 rfl) ?_
      refine va_get (D := eD E) (ci := 5) (v := .int n) (C := RX5) (T := TX5) (N := 4) hx hb hts in_X5 hown hK hP 0 rfl rfl 0 (by decide) lk0 (fun _ h9 => h9) rfl dX5_stands_4 ?_
      refine lv_icmp_ge (tgt := 28) hx hb dX5_stands_7 (by decide) (fun c7 => ?_) (fun c7 => ?_)
      · have c7_ := i_le c7
        refine lv_iconst (v := 0) hx hb dX5_stands_28 (by decide) ?_
        subst hQ
        exact W.zret (v := 0) hx hb hr rfl (fun t ht hW => ⟨0, rfl, ⟨(by omega), (Or.inr ⟨n_0, by rw [show n.toInt.toNat = i.toInt.toNat by omega]; exact hx2_0⟩)⟩, ht⟩) (fun q h => absurd h List.not_mem_nil) dX5_stands_29
      · have c7_ := i_nle c7
        refine lv_aload_n hx hb dX5_stands_10 rfl (lv_at hl 0 rfl) ?_
        refine va_get (D := eD E) (ci := 5) (v := .ref q1) (C := RX5) (T := TX5) (N := 4) hx hb hts in_X5 hown hK hP 0 rfl rfl 1 (by decide) lk1 (fun _ h9 => h9) rfl dX5_stands_11 ?_
        refine lv_iload_n hx hb dX5_stands_14 rfl (lv_at hl 2 rfl) ?_
        refine va_iald hx hb hK hP 1 0 rfl rfl (n := 6) (f := f1) (i_in (by omega) (by omega)) dX5_stands_15 ?_
        refine lv_topi (fun x15 e15 => ?_)
        have tx15 : fI f1 i.toInt.toNat = x15.toInt := by rw [e15]; rfl
        refine lv_iload_n hx hb dX5_stands_16 rfl (lv_at hl 1 rfl) ?_
        refine lv_icmp_ne (tgt := 22) hx hb dX5_stands_17 (by decide) (fun c17 => ?_) (fun c17 => ?_)
        · have c17_ := i_ne c17
          obtain ⟨x22, e22⟩ : ∃ y : Int32, y = i + 1 := ⟨_, rfl⟩
          refine lv_iinc (v := x22) (lv' := [(2, .int x22), (0, .ref q), (1, .int x)]) hx hb dX5_stands_22 hl (k := 2) rfl (by rw [e22]; rfl) (by decide) rfl (fun ls hl => ?_)
          have t22 := i_add e22 (by omega)
          refine lv_goto (tgt := 2) hx hb dX5_stands_25 (by decide) ?_
          exact ih2 x22 ls (by omega) (by omega) (any_no hx2_0 (by omega) (by omega) (by rw [tx15]; omega)) (by omega) (lv_sub hl [1, 2, 0] rfl)
        · have c17_ := i_eq c17
          refine lv_iconst (v := 1) hx hb dX5_stands_20 (by decide) ?_
          subst hQ
          exact W.zret (v := 1) hx hb hr rfl (fun t ht hW => ⟨1, rfl, ⟨(by omega), (Or.inl ⟨n_1, any_yes (i := i.toInt) (by omega) (by omega) (by rw [tx15]; omega)⟩)⟩, ht⟩) (fun q h => absurd h List.not_mem_nil) dX5_stands_21
  exact K2 _ 0 ls (Nat.lt_succ_self _) (by omega) (by rw [n_0]; rfl) (by omega) (lv_sub hl [1, 2, 0] rfl)
def rm_X5_find : Room := { frames := 0, cells := 0, slots := 0, locals := 0 }
set_option maxHeartbeats 4000000 in
set_option maxRecDepth 100000 in
theorem c_X5_find (l : Launch) (E : Ev) (A : Nat → Prop) (q : Nat) (q1 : Nat) (q2 : Nat) (q3 : Nat) (n : Int32) (f1 : Nat → Int32) (f2 : Nat → Int32) (f3 : Nat → Int32) (x : Int32) (y : Int32) (hn : 0 ≤ n.toInt ∧ n.toInt ≤ 6) : Met l yX5_find wsX5_find rm_X5_find (RdP E A [.ref q, .int x, .int y] (sitesL E q q1 q2 q3 n f1 f2 f3)) (vp_Si (fun r => (r.toInt = -1 ∨ (0 ≤ r.toInt ∧ r.toInt < n.toInt)) ∧ (((r.toInt = -1 ∧ anyE2 (fI f1) (fI f2) x.toInt y.toInt n.toInt.toNat = false) ∨ (0 ≤ r.toInt ∧ anyE2 (fI f1) (fI f2) x.toInt y.toInt n.toInt.toNat = true)) ∧ (0 ≤ r.toInt → r.toInt < n.toInt ∧ (f1 r.toNatClampNeg).toInt = x.toInt ∧ (f2 r.toNatClampNeg).toInt = y.toInt)))) 0 0 (fun _ => False) := by
  refine Met.ofW (cc := cX5_find) (maxL := 4) (ret := (some .int)) (by decide) rfl ?_
  intro p e s m args below meth c s₁ B hml hv
  obtain ⟨rfl, hE, hP⟩ := hv
  have hx := B.exec
  have hb := B.bytes
  have hr := B.returns
  have hts := atoms_spec (ws := wsX5_find) B.pre
  have hown : s.vm.findClass RX5 = some m.cls := findClass_of_methodNamed B.named
  have hlocks := B.notSynchronized
  have hK := hE.1
  have in_X5 : ∀ w ∈ u_ws RX5 TX5 4, w ∈ wsX5_find := fun w h => List.mem_cons_of_mem _ (List.mem_append_right _ h)
  have lk0 := hts (.fieldLink RX5 21 "TidedGround$Sites" "count" "I") (List.mem_of_getElem? (i := 1) rfl)
  have lk1 := hts (.fieldLink RX5 9 "TidedGround$Sites" "cell" "[I") (List.mem_of_getElem? (i := 2) rfl)
  have lk2 := hts (.fieldLink RX5 15 "TidedGround$Sites" "first" "[I") (List.mem_of_getElem? (i := 3) rfl)
  have n_m1 : ((-1) : Int32).toInt = -1 := by decide
  have n_0 : (0 : Int32).toInt = 0 := by decide
  have n_1 : (1 : Int32).toInt = 1 := by decide
  have hl := lv_entry ([.ref q, .int x, .int y]) (n := 4) (Nat.le_of_ble_eq_true rfl)
  rw [lg_entry_eq]
  generalize (lg_sl ([.ref q, .int x, .int y]) ++ List.replicate (4 - (lg_sl ([.ref q, .int x, .int y])).length) Slot.unset).toArray = ls at hl ⊢
  have hl : lv_has ls 4 [(0, .ref q), (1, .int x), (2, .int y)] := hl
  refine W_abs (fun Q hQ => ?_)
  refine lv_iconst (v := 0) hx hb dX5_find_0 (by decide) ?_
  refine lv_istore_n (lv' := [(3, .int 0), (0, .ref q), (1, .int x), (2, .int y)]) hx hb dX5_find_1 rfl hl (by decide) rfl (fun ls hl => ?_)
  have K2 : ∀ (μ : Nat) (i : Int32) (ls : Array Slot), (6 - i.toInt).toNat < μ → (0 ≤ i.toInt ∧ i.toInt ≤ 6) → (anyE2 (fI f1) (fI f2) x.toInt y.toInt i.toInt.toNat = false) → (i.toInt ≤ n.toInt) → lv_has ls 4 [(0, .ref q), (1, .int x), (2, .int y), (3, .int i)] → W p l e (headSpec wsX5_find rm_X5_find).room s m ([.ref q, .int x, .int y] : List Value).toArray below meth c s.heap [] 0 0 Q (F0 m 2 ls []) := by
    intro μ
    induction μ with
    | zero =>
      intro i ls hμ2
      exact absurd hμ2 (Nat.not_lt_zero _)
    | succ μ ih2 =>
      intro i ls hμ2 h2_0 h2_1 h2_2 hl
      have hx2_0 := h2_1
      clear h2_1
      have hx2_1 := h2_2
      clear h2_2
      refine lv_iload_n hx hb dX5_find_2 rfl (lv_at hl 3 rfl) ?_
      refine lv_aload_n hx hb dX5_find_3 rfl (lv_at hl 0 rfl) ?_
      refine va_get (D := eD E) (ci := 5) (v := .int n) (C := RX5) (T := TX5) (N := 4) hx hb hts in_X5 hown hK hP 0 rfl rfl 0 (by decide) lk0 (fun _ h9 => h9) rfl dX5_find_4 ?_
      refine lv_icmp_ge (tgt := 38) hx hb dX5_find_7 (by decide) (fun c7 => ?_) (fun c7 => ?_)
      · have c7_ := i_le c7
        refine lv_iconst (v := (-1)) hx hb dX5_find_38 (by decide) ?_
        subst hQ
        exact W.iret (v := (-1)) hx hb hr (fun t ht hW => ⟨(-1), rfl, ⟨(by omega), ⟨(Or.inl ⟨by omega, by rw [show n.toInt.toNat = i.toInt.toNat by omega]; exact hx2_0⟩), (fun q => absurd q (by omega))⟩⟩, ht⟩) (fun q h => absurd h List.not_mem_nil) dX5_find_39
      · have c7_ := i_nle c7
        refine lv_aload_n hx hb dX5_find_10 rfl (lv_at hl 0 rfl) ?_
        refine va_get (D := eD E) (ci := 5) (v := .ref q1) (C := RX5) (T := TX5) (N := 4) hx hb hts in_X5 hown hK hP 0 rfl rfl 1 (by decide) lk1 (fun _ h9 => h9) rfl dX5_find_11 ?_
        refine lv_iload_n hx hb dX5_find_14 rfl (lv_at hl 3 rfl) ?_
        refine va_iald hx hb hK hP 1 0 rfl rfl (n := 6) (f := f1) (i_in (by omega) (by omega)) dX5_find_15 ?_
        refine lv_topi (fun x15 e15 => ?_)
        have tx15 : fI f1 i.toInt.toNat = x15.toInt := by rw [e15]; rfl
        refine lv_iload_n hx hb dX5_find_16 rfl (lv_at hl 1 rfl) ?_
        refine lv_icmp_ne (tgt := 32) hx hb dX5_find_17 (by decide) (fun c17 => ?_) (fun c17 => ?_)
        · have c17_ := i_ne c17
          obtain ⟨x32, e32⟩ : ∃ y : Int32, y = i + 1 := ⟨_, rfl⟩
          refine lv_iinc (v := x32) (lv' := [(3, .int x32), (0, .ref q), (1, .int x), (2, .int y)]) hx hb dX5_find_32 hl (k := 3) rfl (by rw [e32]; rfl) (by decide) rfl (fun ls hl => ?_)
          have t32 := i_add e32 (by omega)
          refine lv_goto (tgt := 2) hx hb dX5_find_35 (by decide) ?_
          exact ih2 x32 ls (by omega) (by omega) (any2_no hx2_0 (by omega) (by omega) (by first | (rw [tx15, tx25]; omega) | (rw [tx15]; omega))) (by omega) (lv_sub hl [1, 2, 3, 0] rfl)
        · have c17_ := i_eq c17
          refine lv_aload_n hx hb dX5_find_20 rfl (lv_at hl 0 rfl) ?_
          refine va_get (D := eD E) (ci := 5) (v := .ref q2) (C := RX5) (T := TX5) (N := 4) hx hb hts in_X5 hown hK hP 0 rfl rfl 2 (by decide) lk2 (fun _ h9 => h9) rfl dX5_find_21 ?_
          refine lv_iload_n hx hb dX5_find_24 rfl (lv_at hl 3 rfl) ?_
          refine va_iald hx hb hK hP 2 0 rfl rfl (n := 6) (f := f2) (i_in (by omega) (by omega)) dX5_find_25 ?_
          refine lv_topi (fun x25 e25 => ?_)
          have tx25 : fI f2 i.toInt.toNat = x25.toInt := by rw [e25]; rfl
          refine lv_iload_n hx hb dX5_find_26 rfl (lv_at hl 2 rfl) ?_
          refine lv_icmp_ne (tgt := 32) hx hb dX5_find_27 (by decide) (fun c27 => ?_) (fun c27 => ?_)
          · have c27_ := i_ne c27
            obtain ⟨x32, e32⟩ : ∃ y : Int32, y = i + 1 := ⟨_, rfl⟩
            refine lv_iinc (v := x32) (lv' := [(3, .int x32), (0, .ref q), (1, .int x), (2, .int y)]) hx hb dX5_find_32 hl (k := 3) rfl (by rw [e32]; rfl) (by decide) rfl (fun ls hl => ?_)
            have t32 := i_add e32 (by omega)
            refine lv_goto (tgt := 2) hx hb dX5_find_35 (by decide) ?_
            exact ih2 x32 ls (by omega) (by omega) (any2_no hx2_0 (by omega) (by omega) (by first | (rw [tx15, tx25]; omega) | (rw [tx15]; omega))) (by omega) (lv_sub hl [1, 2, 3, 0] rfl)
          · have c27_ := i_eq c27
            refine lv_iload_n hx hb dX5_find_30 rfl (lv_at hl 3 rfl) ?_
            subst hQ
            exact W.iret (v := i) hx hb hr (fun t ht hW => ⟨i, rfl, ⟨(by omega), ⟨(Or.inr ⟨by omega, any2_yes (i := i.toInt) (by omega) (by omega) (by rw [tx15, tx25]; omega)⟩), (fun _ => ⟨by omega, by rw [← e15]; omega, by rw [← e25]; omega⟩)⟩⟩, ht⟩) (fun q h => absurd h List.not_mem_nil) dX5_find_31
  exact K2 _ 0 ls (Nat.lt_succ_self _) (by omega) (by rw [n_0]; rfl) (by omega) (lv_sub hl [1, 2, 3, 0] rfl)
def rm_X1_cellAt : Room := { frames := 0, cells := 0, slots := 0, locals := 0 }
set_option maxHeartbeats 4000000 in
set_option maxRecDepth 100000 in
theorem c_X1_cellAt (l : Launch) (E : Ev) (A : Nat → Prop) (ap : Nat → Nat) (vp : Vf) (x : Int32) (y : Int32) (hI : PlanI vp) : Met l yX1_cellAt wsX1_cellAt rm_X1_cellAt (RdP E A [.ref (ap 0), .int x, .int y] (planL E ap vp)) (vp_Si (fun r => (r.toInt = -1 ∨ (0 ≤ r.toInt ∧ r.toInt < (vp 2 0).toInt ∧ r.toInt ≤ 23)) ∧ ((r.toInt = -1 ∧ (x.toInt < 0 ∨ (vp 0 0).toInt ≤ x.toInt ∨ y.toInt < 0 ∨ (vp 1 0).toInt ≤ y.toInt)) ∨ (r.toInt = (vp 0 0).toInt * y.toInt + x.toInt ∧ (0 ≤ x.toInt ∧ x.toInt < (vp 0 0).toInt) ∧ 0 ≤ y.toInt ∧ y.toInt < (vp 1 0).toInt)))) 0 0 (fun _ => False) := by
  refine Met.ofW (cc := cX1_cellAt) (maxL := 4) (ret := (some .int)) (by decide) rfl ?_
  intro p e s m args below meth c s₁ B hml hv
  obtain ⟨rfl, hE, hP⟩ := hv
  have hx := B.exec
  have hb := B.bytes
  have hr := B.returns
  have hts := atoms_spec (ws := wsX1_cellAt) B.pre
  have hown : s.vm.findClass RX1 = some m.cls := findClass_of_methodNamed B.named
  have hlocks := B.notSynchronized
  have hK := hE.1
  have in_X1 : ∀ w ∈ u_ws RX1 TX1 11, w ∈ wsX1_cellAt := fun w h => List.mem_cons_of_mem _ (List.mem_append_right _ h)
  have lk0 := hts (.fieldLink RX1 44 "TidedGround$Plan" "width" "I") (List.mem_of_getElem? (i := 1) rfl)
  have lk1 := hts (.fieldLink RX1 48 "TidedGround$Plan" "depth" "I") (List.mem_of_getElem? (i := 2) rfl)
  have n_m1 : ((-1) : Int32).toInt = -1 := by decide
  have n_0 : (0 : Int32).toInt = 0 := by decide
  have n_1 : (1 : Int32).toInt = 1 := by decide
  have hl := lv_entry ([.ref (ap 0), .int x, .int y]) (n := 4) (Nat.le_of_ble_eq_true rfl)
  rw [lg_entry_eq]
  generalize (lg_sl ([.ref (ap 0), .int x, .int y]) ++ List.replicate (4 - (lg_sl ([.ref (ap 0), .int x, .int y])).length) Slot.unset).toArray = ls at hl ⊢
  have hl : lv_has ls 4 [(0, .ref (ap 0)), (1, .int x), (2, .int y)] := hl
  refine W_abs (fun Q hQ => ?_)
  obtain ⟨hg, hmc, hm0, hm1, hm2, hs0, hs1, hs2, hs3⟩ := id hI
  obtain ⟨hg1, hg2, hg3, hg4⟩ := id hg
  have hz0 := hm0.1
  have hz1 := hm1.1
  have hz2 := hm2.1
  have hc0 := hs0.1
  have hc1 := hs1.1
  have hc2 := hs2.1
  have hc3 := hs3.1
  refine lv_iload_n hx hb dX1_cellAt_0 rfl (lv_at hl 1 rfl) ?_
  refine lv_if_lt (tgt := 28) hx hb dX1_cellAt_1 (by decide) (fun c1 => ?_) (fun c1 => ?_)
  · have c1_ := i_lt c1
    refine lv_iconst (v := 0) hx hb dX1_cellAt_28 (by decide) ?_
    refine lv_istore_n (lv' := [(3, .int 0), (0, .ref (ap 0)), (1, .int x), (2, .int y)]) hx hb dX1_cellAt_29 rfl hl (by decide) rfl (fun ls hl => ?_)
    refine lv_iload_n hx hb dX1_cellAt_30 rfl (lv_at hl 0 rfl) ?_
    refine lv_if_eq (tgt := 45) hx hb dX1_cellAt_31 (by decide) (fun _ => ?_) (fun q => absurd q (by decide))
    refine lv_iconst (v := (-1)) hx hb dX1_cellAt_45 (by decide) ?_
    subst hQ
    exact W.iret (v := (-1)) hx hb hr (fun t ht hW => ⟨(-1), rfl, ⟨(by omega), (by first | exact Or.inl ⟨by omega, by omega⟩ | exact Or.inr ⟨by rw [Int.mul_comm]; omega, by omega, by omega⟩)⟩, ht⟩) (fun q h => absurd h List.not_mem_nil) dX1_cellAt_46
  · have c1_ := i_nlt c1
    refine lv_iload_n hx hb dX1_cellAt_4 rfl (lv_at hl 1 rfl) ?_
    refine lv_aload_n hx hb dX1_cellAt_5 rfl (lv_at hl 0 rfl) ?_
    refine va_get (D := eD E) (ci := 1) (v := .int (vp 0 0)) (C := RX1) (T := TX1) (N := 11) hx hb hts in_X1 hown hK hP 0 rfl rfl 0 (by decide) lk0 (fun _ h9 => h9) rfl dX1_cellAt_6 ?_
    refine lv_icmp_ge (tgt := 28) hx hb dX1_cellAt_9 (by decide) (fun c9 => ?_) (fun c9 => ?_)
    · have c9_ := i_le c9
      refine lv_iconst (v := 0) hx hb dX1_cellAt_28 (by decide) ?_
      refine lv_istore_n (lv' := [(3, .int 0), (0, .ref (ap 0)), (1, .int x), (2, .int y)]) hx hb dX1_cellAt_29 rfl hl (by decide) rfl (fun ls hl => ?_)
      refine lv_iload_n hx hb dX1_cellAt_30 rfl (lv_at hl 0 rfl) ?_
      refine lv_if_eq (tgt := 45) hx hb dX1_cellAt_31 (by decide) (fun _ => ?_) (fun q => absurd q (by decide))
      refine lv_iconst (v := (-1)) hx hb dX1_cellAt_45 (by decide) ?_
      subst hQ
      exact W.iret (v := (-1)) hx hb hr (fun t ht hW => ⟨(-1), rfl, ⟨(by omega), (by first | exact Or.inl ⟨by omega, by omega⟩ | exact Or.inr ⟨by rw [Int.mul_comm]; omega, by omega, by omega⟩)⟩, ht⟩) (fun q h => absurd h List.not_mem_nil) dX1_cellAt_46
    · have c9_ := i_nle c9
      refine lv_iload_n hx hb dX1_cellAt_12 rfl (lv_at hl 2 rfl) ?_
      refine lv_if_lt (tgt := 28) hx hb dX1_cellAt_13 (by decide) (fun c13 => ?_) (fun c13 => ?_)
      · have c13_ := i_lt c13
        refine lv_iconst (v := 0) hx hb dX1_cellAt_28 (by decide) ?_
        refine lv_istore_n (lv' := [(3, .int 0), (0, .ref (ap 0)), (1, .int x), (2, .int y)]) hx hb dX1_cellAt_29 rfl hl (by decide) rfl (fun ls hl => ?_)
        refine lv_iload_n hx hb dX1_cellAt_30 rfl (lv_at hl 0 rfl) ?_
        refine lv_if_eq (tgt := 45) hx hb dX1_cellAt_31 (by decide) (fun _ => ?_) (fun q => absurd q (by decide))
        refine lv_iconst (v := (-1)) hx hb dX1_cellAt_45 (by decide) ?_
        subst hQ
        exact W.iret (v := (-1)) hx hb hr (fun t ht hW => ⟨(-1), rfl, ⟨(by omega), (by first | exact Or.inl ⟨by omega, by omega⟩ | exact Or.inr ⟨by rw [Int.mul_comm]; omega, by omega, by omega⟩)⟩, ht⟩) (fun q h => absurd h List.not_mem_nil) dX1_cellAt_46
      · have c13_ := i_nlt c13
        refine lv_iload_n hx hb dX1_cellAt_16 rfl (lv_at hl 2 rfl) ?_
        refine lv_aload_n hx hb dX1_cellAt_17 rfl (lv_at hl 0 rfl) ?_
        refine va_get (D := eD E) (ci := 1) (v := .int (vp 1 0)) (C := RX1) (T := TX1) (N := 11) hx hb hts in_X1 hown hK hP 0 rfl rfl 1 (by decide) lk1 (fun _ h9 => h9) rfl dX1_cellAt_18 ?_
        refine lv_icmp_ge (tgt := 28) hx hb dX1_cellAt_21 (by decide) (fun c21 => ?_) (fun c21 => ?_)
        · have c21_ := i_le c21
          refine lv_iconst (v := 0) hx hb dX1_cellAt_28 (by decide) ?_
          refine lv_istore_n (lv' := [(3, .int 0), (0, .ref (ap 0)), (1, .int x), (2, .int y)]) hx hb dX1_cellAt_29 rfl hl (by decide) rfl (fun ls hl => ?_)
          refine lv_iload_n hx hb dX1_cellAt_30 rfl (lv_at hl 0 rfl) ?_
          refine lv_if_eq (tgt := 45) hx hb dX1_cellAt_31 (by decide) (fun _ => ?_) (fun q => absurd q (by decide))
          refine lv_iconst (v := (-1)) hx hb dX1_cellAt_45 (by decide) ?_
          subst hQ
          exact W.iret (v := (-1)) hx hb hr (fun t ht hW => ⟨(-1), rfl, ⟨(by omega), (by first | exact Or.inl ⟨by omega, by omega⟩ | exact Or.inr ⟨by rw [Int.mul_comm]; omega, by omega, by omega⟩)⟩, ht⟩) (fun q h => absurd h List.not_mem_nil) dX1_cellAt_46
        · have c21_ := i_nle c21
          refine lv_iconst (v := 1) hx hb dX1_cellAt_24 (by decide) ?_
          refine lv_goto (tgt := 29) hx hb dX1_cellAt_25 (by decide) ?_
          refine lv_istore_n (lv' := [(3, .int 1), (0, .ref (ap 0)), (1, .int x), (2, .int y)]) hx hb dX1_cellAt_29 rfl hl (by decide) rfl (fun ls hl => ?_)
          refine lv_iload_n hx hb dX1_cellAt_30 rfl (lv_at hl 0 rfl) ?_
          refine lv_if_eq (tgt := 45) hx hb dX1_cellAt_31 (by decide) (fun q => absurd q (by decide)) (fun _ => ?_)
          refine lv_iload_n hx hb dX1_cellAt_34 rfl (lv_at hl 3 rfl) ?_
          refine lv_aload_n hx hb dX1_cellAt_35 rfl (lv_at hl 1 rfl) ?_
          refine va_get (D := eD E) (ci := 1) (v := .int (vp 0 0)) (C := RX1) (T := TX1) (N := 11) hx hb hts in_X1 hown hK hP 0 rfl rfl 0 (by decide) lk0 (fun _ h9 => h9) rfl dX1_cellAt_36 ?_
          refine lv_imul hx hb dX1_cellAt_39 ?_
          refine lv_topi (fun x39 e39 => ?_)
          have q39 := cell_lt hg (x := x) (y := y) (by omega) (by omega) (by omega) (by omega)
          have t39 := i_mul e39 (by omega)
          refine lv_iload_n hx hb dX1_cellAt_40 rfl (lv_at hl 2 rfl) ?_
          refine lv_iadd hx hb dX1_cellAt_41 ?_
          refine lv_topi (fun x41 e41 => ?_)
          have t41 := i_add e41 (by omega)
          refine lv_goto (tgt := 46) hx hb dX1_cellAt_42 (by decide) ?_
          subst hQ
          exact W.iret (v := x41) hx hb hr (fun t ht hW => ⟨x41, rfl, ⟨(by omega), (by first | exact Or.inl ⟨by omega, by omega⟩ | exact Or.inr ⟨by rw [Int.mul_comm]; omega, by omega, by omega⟩)⟩, ht⟩) (fun q h => absurd h List.not_mem_nil) dX1_cellAt_46
def rm_X1_cellOfPair : Room := { frames := 1, cells := 0, slots := 0, locals := 23 }
set_option maxHeartbeats 4000000 in
set_option maxRecDepth 100000 in
theorem c_X1_cellOfPair (l : Launch) (E : Ev) (A : Nat → Prop) (ap : Nat → Nat) (vp : Vf) (x : Int32) (hI : PlanI vp) : Met l yX1_cellOfPair wsX1_cellOfPair rm_X1_cellOfPair (RdP E A [.ref (ap 0), .int x] (planL E ap vp)) (vp_Si (fun r => (r.toInt = -1 ∨ (0 ≤ r.toInt ∧ r.toInt < (vp 2 0).toInt ∧ r.toInt ≤ 23)) ∧ (∀ vm : Vf, vp 0 0 = vm 0 0 → vp 1 0 = vm 1 0 → mdG vm → r = mOP vm x))) 0 0 (fun _ => False) := by
  refine Met.ofW (cc := cX1_cellOfPair) (maxL := 2) (ret := (some .int)) (by decide) rfl ?_
  intro p e s m args below meth c s₁ B hml hv
  obtain ⟨rfl, hE, hP⟩ := hv
  have hx := B.exec
  have hb := B.bytes
  have hr := B.returns
  have hts := atoms_spec (ws := wsX1_cellOfPair) B.pre
  have hown : s.vm.findClass RX1 = some m.cls := findClass_of_methodNamed B.named
  have hlocks := B.notSynchronized
  have hK := hE.1
  have n_m1 : ((-1) : Int32).toInt = -1 := by decide
  have n_0 : (0 : Int32).toInt = 0 := by decide
  have n_10 : (10 : Int32).toInt = 10 := by decide
  have hl := lv_entry ([.ref (ap 0), .int x]) (n := 2) (Nat.le_of_ble_eq_true rfl)
  rw [lg_entry_eq]
  generalize (lg_sl ([.ref (ap 0), .int x]) ++ List.replicate (2 - (lg_sl ([.ref (ap 0), .int x])).length) Slot.unset).toArray = ls at hl ⊢
  have hl : lv_has ls 2 [(0, .ref (ap 0)), (1, .int x)] := hl
  refine W_abs (fun Q hQ => ?_)
  obtain ⟨hg, hmc, hm0, hm1, hm2, hs0, hs1, hs2, hs3⟩ := id hI
  obtain ⟨hg1, hg2, hg3, hg4⟩ := id hg
  have hz0 := hm0.1
  have hz1 := hm1.1
  have hz2 := hm2.1
  have hc0 := hs0.1
  have hc1 := hs1.1
  have hc2 := hs2.1
  have hc3 := hs3.1
  refine lv_iload_n hx hb dX1_cellOfPair_0 rfl (lv_at hl 1 rfl) ?_
  refine lv_if_ge (tgt := 8) hx hb dX1_cellOfPair_1 (by decide) (fun c1 => ?_) (fun c1 => ?_)
  · have c1_ := i_le c1
    have hps1 : 0 ≤ x.toInt := by omega
    refine lv_aload_n hx hb dX1_cellOfPair_8 rfl (lv_at hl 0 rfl) ?_
    refine lv_iload_n hx hb dX1_cellOfPair_9 rfl (lv_at hl 1 rfl) ?_
    refine lv_bipush (v := 10) hx hb dX1_cellOfPair_10 (by decide) ?_
    refine lv_idiv hx hb dX1_cellOfPair_12 (by decide) ?_
    refine lv_topi (fun x12 e12 => ?_)
    have t12 := i_div e12 (by omega) (by omega)
    rw [n_10] at t12
    refine lv_iload_n hx hb dX1_cellOfPair_13 rfl (lv_at hl 1 rfl) ?_
    refine lv_bipush (v := 10) hx hb dX1_cellOfPair_14 (by decide) ?_
    refine lv_irem hx hb dX1_cellOfPair_16 (by decide) ?_
    refine lv_topi (fun x16 e16 => ?_)
    have t16 := i_rem e16 (by omega) (by omega)
    rw [n_10] at t16
    refine rd_V (As := [.int x12, .int x16]) (rest := []) (C := RX1) (ci := 1) ⟨hx, hb, hml, hown, hts⟩ (c_X1_cellAt l E A ap vp x12 x16 hI) (cwV 2 hts gX1_cellOfPair_X1_cellAt rfl rfl rfl (by decide +kernel) ⟨Nat.le_of_ble_eq_true rfl, Nat.le_of_ble_eq_true rfl⟩) hE (hP.sub (ws' := planL E ap vp) [0, 1, 2, 3, 4, 5, 6, 7, 8, 9, 10, 11, 12, 13, 14, 15, 16, 17, 18, 19, 20, 21, 22, 23, 24, 25, 26, 27, 28] rfl) rfl rfl rfl rfl hl.1 rfl (Nat.le_of_ble_eq_true rfl) dX1_cellOfPair_17 ⟨Nat.zero_le _, Nat.zero_le _⟩ (fun r17 h17 => ?_)
    have hf17 := h17.2
    replace h17 := h17.1
    subst hQ
    exact W.iret (v := r17) hx hb hr (fun t ht hW => ⟨r17, rfl, ⟨(by omega), (fun vm e0 e1 hG => by first | exact op_neg hng1 n_m1 | exact op_eq hG hps1 e12 e16 (by rw [← e0, ← e1]; exact hf17))⟩, ht⟩) (fun q h => absurd h List.not_mem_nil) dX1_cellOfPair_20
  · have c1_ := i_nle c1
    have hng1 : x.toInt < 0 := by omega
    refine lv_iconst (v := (-1)) hx hb dX1_cellOfPair_4 (by decide) ?_
    refine lv_goto (tgt := 20) hx hb dX1_cellOfPair_5 (by decide) ?_
    subst hQ
    exact W.iret (v := (-1)) hx hb hr (fun t ht hW => ⟨(-1), rfl, ⟨(by omega), (fun vm e0 e1 hG => by first | exact op_neg hng1 n_m1 | exact op_eq hG hps1 e12 e16 (by rw [← e0, ← e1]; exact hf17))⟩, ht⟩) (fun q h => absurd h List.not_mem_nil) dX1_cellOfPair_20
def rm_X1_pairOf : Room := { frames := 0, cells := 0, slots := 0, locals := 0 }
set_option maxHeartbeats 4000000 in
set_option maxRecDepth 100000 in
theorem c_X1_pairOf (l : Launch) (E : Ev) (A : Nat → Prop) (ap : Nat → Nat) (vp : Vf) (x : Int32) (hI : PlanI vp) (hx : 0 ≤ x.toInt ∧ x.toInt ≤ 23) : Met l yX1_pairOf wsX1_pairOf rm_X1_pairOf (RdP E A [.ref (ap 0), .int x] (planL E ap vp)) (vp_Si (fun r => (True) ∧ (((vp 0 0).toInt < 1 → r = 0) ∧ (1 ≤ (vp 0 0).toInt → r = (x - x / vp 0 0 * vp 0 0) * 10 + x / vp 0 0)))) 0 0 (fun _ => False) := by
  refine Met.ofW (cc := cX1_pairOf) (maxL := 2) (ret := (some .int)) (by decide) rfl ?_
  intro p e s m args below meth c s₁ B hml hv
  obtain ⟨rfl, hE, hP⟩ := hv
  have hx := B.exec
  have hb := B.bytes
  have hr := B.returns
  have hts := atoms_spec (ws := wsX1_pairOf) B.pre
  have hown : s.vm.findClass RX1 = some m.cls := findClass_of_methodNamed B.named
  have hlocks := B.notSynchronized
  have hK := hE.1
  have in_X1 : ∀ w ∈ u_ws RX1 TX1 11, w ∈ wsX1_pairOf := fun w h => List.mem_cons_of_mem _ (List.mem_append_right _ h)
  have lk0 := hts (.fieldLink RX1 44 "TidedGround$Plan" "width" "I") (List.mem_of_getElem? (i := 1) rfl)
  have n_0 : (0 : Int32).toInt = 0 := by decide
  have n_1 : (1 : Int32).toInt = 1 := by decide
  have n_10 : (10 : Int32).toInt = 10 := by decide
  have hl := lv_entry ([.ref (ap 0), .int x]) (n := 2) (Nat.le_of_ble_eq_true rfl)
  rw [lg_entry_eq]
  generalize (lg_sl ([.ref (ap 0), .int x]) ++ List.replicate (2 - (lg_sl ([.ref (ap 0), .int x])).length) Slot.unset).toArray = ls at hl ⊢
  have hl : lv_has ls 2 [(0, .ref (ap 0)), (1, .int x)] := hl
  refine W_abs (fun Q hQ => ?_)
  obtain ⟨hg, hmc, hm0, hm1, hm2, hs0, hs1, hs2, hs3⟩ := id hI
  obtain ⟨hg1, hg2, hg3, hg4⟩ := id hg
  have hz0 := hm0.1
  have hz1 := hm1.1
  have hz2 := hm2.1
  have hc0 := hs0.1
  have hc1 := hs1.1
  have hc2 := hs2.1
  have hc3 := hs3.1
  refine lv_aload_n hx hb dX1_pairOf_0 rfl (lv_at hl 0 rfl) ?_
  refine va_get (D := eD E) (ci := 1) (v := .int (vp 0 0)) (C := RX1) (T := TX1) (N := 11) hx hb hts in_X1 hown hK hP 0 rfl rfl 0 (by decide) lk0 (fun _ h9 => h9) rfl dX1_pairOf_1 ?_
  refine lv_iconst (v := 1) hx hb dX1_pairOf_4 (by decide) ?_
  refine lv_icmp_ge (tgt := 12) hx hb dX1_pairOf_5 (by decide) (fun c5 => ?_) (fun c5 => ?_)
  · have c5_ := i_le c5
    refine lv_iload_n hx hb dX1_pairOf_12 rfl (lv_at hl 1 rfl) ?_
    refine lv_aload_n hx hb dX1_pairOf_13 rfl (lv_at hl 0 rfl) ?_
    refine va_get (D := eD E) (ci := 1) (v := .int (vp 0 0)) (C := RX1) (T := TX1) (N := 11) hx hb hts in_X1 hown hK hP 0 rfl rfl 0 (by decide) lk0 (fun _ h9 => h9) rfl dX1_pairOf_14 ?_
    refine lv_irem hx hb dX1_pairOf_17 (i_ne0 (by omega)) ?_
    refine lv_topi (fun x17 e17 => ?_)
    have t17 := i_rem e17 (by omega) (by omega)
    refine lv_bipush (v := 10) hx hb dX1_pairOf_18 (by decide) ?_
    refine lv_imul hx hb dX1_pairOf_20 ?_
    refine lv_topi (fun x20 e20 => ?_)
    have t20 := i_mul e20 (by rw [n_10]; omega)
    rw [n_10] at t20
    refine lv_iload_n hx hb dX1_pairOf_21 rfl (lv_at hl 1 rfl) ?_
    refine lv_aload_n hx hb dX1_pairOf_22 rfl (lv_at hl 0 rfl) ?_
    refine va_get (D := eD E) (ci := 1) (v := .int (vp 0 0)) (C := RX1) (T := TX1) (N := 11) hx hb hts in_X1 hown hK hP 0 rfl rfl 0 (by decide) lk0 (fun _ h9 => h9) rfl dX1_pairOf_23 ?_
    refine lv_idiv hx hb dX1_pairOf_26 (i_ne0 (by omega)) ?_
    refine lv_topi (fun x26 e26 => ?_)
    have t26 := i_div e26 (by omega) (by omega)
    refine lv_iadd hx hb dX1_pairOf_27 ?_
    refine lv_topi (fun x27 e27 => ?_)
    have t27 := i_add e27 (by omega)
    subst hQ
    exact W.iret (v := x27) hx hb hr (fun t ht hW => ⟨x27, rfl, ⟨trivial, ⟨fun q => by first | rfl | (exfalso; omega), fun q => by first | rw [e27, e26, e20, e17] | (exfalso; omega)⟩⟩, ht⟩) (fun q h => absurd h List.not_mem_nil) dX1_pairOf_28
  · have c5_ := i_nle c5
    refine lv_iconst (v := 0) hx hb dX1_pairOf_8 (by decide) ?_
    refine lv_goto (tgt := 28) hx hb dX1_pairOf_9 (by decide) ?_
    subst hQ
    exact W.iret (v := 0) hx hb hr (fun t ht hW => ⟨0, rfl, ⟨trivial, ⟨fun q => by first | rfl | (exfalso; omega), fun q => by first | rw [e27, e26, e20, e17] | (exfalso; omega)⟩⟩, ht⟩) (fun q h => absurd h List.not_mem_nil) dX1_pairOf_28
def rm_X1_beside : Room := { frames := 1, cells := 0, slots := 0, locals := 23 }
set_option maxHeartbeats 4000000 in
set_option maxRecDepth 100000 in
theorem c_X1_beside (l : Launch) (E : Ev) (A : Nat → Prop) (ap : Nat → Nat) (vp : Vf) (x : Int32) (way : Int32) (hI : PlanI vp) (hx : 0 ≤ x.toInt ∧ x.toInt ≤ 23) : Met l yX1_beside wsX1_beside rm_X1_beside (RdP E A [.ref (ap 0), .int x, .int way] (planL E ap vp)) (vp_Si (fun r => (r.toInt = -1 ∨ (0 ≤ r.toInt ∧ r.toInt < (vp 2 0).toInt ∧ r.toInt ≤ 23)) ∧ ((1 ≤ (vp 0 0).toInt → x.toInt < (vp 0 0).toInt * (vp 1 0).toInt → (way.toInt = 2 → ((r.toInt = -1 ∧ x.toInt % (vp 0 0).toInt = (vp 0 0).toInt - 1) ∨ (0 ≤ r.toInt ∧ x.toInt % (vp 0 0).toInt ≠ (vp 0 0).toInt - 1))) ∧ (way.toInt = 3 → ((r.toInt = -1 ∧ x.toInt / (vp 0 0).toInt = (vp 1 0).toInt - 1) ∨ (0 ≤ r.toInt ∧ x.toInt / (vp 0 0).toInt ≠ (vp 1 0).toInt - 1)))) ∧ (∀ vm : Vf, vp 0 0 = vm 0 0 → vp 1 0 = vm 1 0 → mdG vm → 1 ≤ (vp 0 0).toInt → (0 ≤ way.toInt ∧ way.toInt ≤ 4) → r = mBes vm x way)))) 0 0 (fun _ => False) := by
  refine Met.ofW (cc := cX1_beside) (maxL := 3) (ret := (some .int)) (by decide) rfl ?_
  intro p e s m args below meth c s₁ B hml hv
  obtain ⟨rfl, hE, hP⟩ := hv
  have hx := B.exec
  have hb := B.bytes
  have hr := B.returns
  have hts := atoms_spec (ws := wsX1_beside) B.pre
  have hown : s.vm.findClass RX1 = some m.cls := findClass_of_methodNamed B.named
  have hlocks := B.notSynchronized
  have hK := hE.1
  have in_X1 : ∀ w ∈ u_ws RX1 TX1 11, w ∈ wsX1_beside := fun w h => List.mem_cons_of_mem _ (List.mem_append_right _ h)
  have lk0 := hts (.fieldLink RX1 44 "TidedGround$Plan" "width" "I") (List.mem_of_getElem? (i := 1) rfl)
  have n_m1 : ((-1) : Int32).toInt = -1 := by decide
  have n_0 : (0 : Int32).toInt = 0 := by decide
  have n_1 : (1 : Int32).toInt = 1 := by decide
  have n_5 : (5 : Int32).toInt = 5 := by decide
  have hl := lv_entry ([.ref (ap 0), .int x, .int way]) (n := 3) (Nat.le_of_ble_eq_true rfl)
  rw [lg_entry_eq]
  generalize (lg_sl ([.ref (ap 0), .int x, .int way]) ++ List.replicate (3 - (lg_sl ([.ref (ap 0), .int x, .int way])).length) Slot.unset).toArray = ls at hl ⊢
  have hl : lv_has ls 3 [(0, .ref (ap 0)), (1, .int x), (2, .int way)] := hl
  refine W_abs (fun Q hQ => ?_)
  obtain ⟨hg, hmc, hm0, hm1, hm2, hs0, hs1, hs2, hs3⟩ := id hI
  obtain ⟨hg1, hg2, hg3, hg4⟩ := id hg
  have hz0 := hm0.1
  have hz1 := hm1.1
  have hz2 := hm2.1
  have hc0 := hs0.1
  have hc1 := hs1.1
  have hc2 := hs2.1
  have hc3 := hs3.1
  refine lv_aload_n hx hb dX1_beside_0 rfl (lv_at hl 0 rfl) ?_
  refine va_get (D := eD E) (ci := 1) (v := .int (vp 0 0)) (C := RX1) (T := TX1) (N := 11) hx hb hts in_X1 hown hK hP 0 rfl rfl 0 (by decide) lk0 (fun _ h9 => h9) rfl dX1_beside_1 ?_
  refine lv_iconst (v := 1) hx hb dX1_beside_4 (by decide) ?_
  refine lv_icmp_lt (tgt := 17) hx hb dX1_beside_5 (by decide) (fun c5 => ?_) (fun c5 => ?_)
  · have c5_ := i_lt c5
    refine lv_iconst (v := (-1)) hx hb dX1_beside_17 (by decide) ?_
    subst hQ
    exact W.iret (v := (-1)) hx hb hr (fun t ht hW => ⟨(-1), rfl, ⟨(by omega), ⟨(fun q1 q2 => ⟨fun q3 => absurd q1 (by omega), fun q3 => absurd q1 (by omega)⟩), (fun vm _ _ _ q1 q2 => by exfalso; omega)⟩⟩, ht⟩) (fun q h => absurd h List.not_mem_nil) dX1_beside_18
  · have c5_ := i_nlt c5
    refine lv_iload_n hx hb dX1_beside_8 rfl (lv_at hl 2 rfl) ?_
    refine lv_if_lt (tgt := 17) hx hb dX1_beside_9 (by decide) (fun c9 => ?_) (fun c9 => ?_)
    · have c9_ := i_lt c9
      refine lv_iconst (v := (-1)) hx hb dX1_beside_17 (by decide) ?_
      subst hQ
      exact W.iret (v := (-1)) hx hb hr (fun t ht hW => ⟨(-1), rfl, ⟨(by omega), ⟨(fun q1 q2 => ⟨fun q3 => absurd q1 (by omega), fun q3 => absurd q1 (by omega)⟩), (fun vm _ _ _ q1 q2 => by exfalso; omega)⟩⟩, ht⟩) (fun q h => absurd h List.not_mem_nil) dX1_beside_18
    · have c9_ := i_nlt c9
      refine lv_iload_n hx hb dX1_beside_12 rfl (lv_at hl 2 rfl) ?_
      refine lv_iconst (v := 5) hx hb dX1_beside_13 (by decide) ?_
      refine lv_icmp_lt (tgt := 19) hx hb dX1_beside_14 (by decide) (fun c14 => ?_) (fun c14 => ?_)
      · have c14_ := i_lt c14
        refine lv_aload_n hx hb dX1_beside_19 rfl (lv_at hl 0 rfl) ?_
        refine lv_iload_n hx hb dX1_beside_20 rfl (lv_at hl 1 rfl) ?_
        refine lv_aload_n hx hb dX1_beside_21 rfl (lv_at hl 0 rfl) ?_
        refine va_get (D := eD E) (ci := 1) (v := .int (vp 0 0)) (C := RX1) (T := TX1) (N := 11) hx hb hts in_X1 hown hK hP 0 rfl rfl 0 (by decide) lk0 (fun _ h9 => h9) rfl dX1_beside_22 ?_
        refine lv_irem hx hb dX1_beside_25 (i_ne0 (by omega)) ?_
        refine lv_topi (fun x25 e25 => ?_)
        have t25 := i_rem e25 (by omega) (by omega)
        refine va_getsN hx hb hE.2.1 va_S.rf hown (va_Nw.use rfl hE.2.2.2.2.2.1) (fun _ h9 => h9) dX1_beside_26 ?_
        refine lv_iload_n hx hb dX1_beside_29 rfl (lv_at hl 2 rfl) ?_
        refine va_ti (v := .int (wyX way.toNatClampNeg)) hx hb hE.2.2.2.1 va_S.rf (i_in (by omega) (by omega)) rfl dX1_beside_30 ?_
        refine lv_topi (fun x30 e30 => ?_)
        have b30 : -1 ≤ x30.toInt ∧ x30.toInt ≤ 1 := by rw [e30]; exact wyX_b _
        refine lv_iadd hx hb dX1_beside_31 ?_
        refine lv_topi (fun x31 e31 => ?_)
        have t31 := i_add e31 (by omega)
        refine lv_iload_n hx hb dX1_beside_32 rfl (lv_at hl 1 rfl) ?_
        refine lv_aload_n hx hb dX1_beside_33 rfl (lv_at hl 0 rfl) ?_
        refine va_get (D := eD E) (ci := 1) (v := .int (vp 0 0)) (C := RX1) (T := TX1) (N := 11) hx hb hts in_X1 hown hK hP 0 rfl rfl 0 (by decide) lk0 (fun _ h9 => h9) rfl dX1_beside_34 ?_
        refine lv_idiv hx hb dX1_beside_37 (i_ne0 (by omega)) ?_
        refine lv_topi (fun x37 e37 => ?_)
        have t37 := i_div e37 (by omega) (by omega)
        refine va_getsN hx hb hE.2.2.1 va_S.rf hown (va_Nw.use rfl hE.2.2.2.2.2.2.1) (fun _ h9 => h9) dX1_beside_38 ?_
        refine lv_iload_n hx hb dX1_beside_41 rfl (lv_at hl 2 rfl) ?_
        refine va_ti (v := .int (wyY way.toNatClampNeg)) hx hb hE.2.2.2.2.1 va_S.rf (i_in (by omega) (by omega)) rfl dX1_beside_42 ?_
        refine lv_topi (fun x42 e42 => ?_)
        have b42 : -1 ≤ x42.toInt ∧ x42.toInt ≤ 1 := by rw [e42]; exact wyY_b _
        refine lv_iadd hx hb dX1_beside_43 ?_
        refine lv_topi (fun x43 e43 => ?_)
        have t43 := i_add e43 (by omega)
        refine rd_V (As := [.int x31, .int x43]) (rest := []) (C := RX1) (ci := 1) ⟨hx, hb, hml, hown, hts⟩ (c_X1_cellAt l E A ap vp x31 x43 hI) (cwV 2 hts gX1_beside_X1_cellAt rfl rfl rfl (by decide +kernel) ⟨Nat.le_of_ble_eq_true rfl, Nat.le_of_ble_eq_true rfl⟩) hE (hP.sub (ws' := planL E ap vp) [0, 1, 2, 3, 4, 5, 6, 7, 8, 9, 10, 11, 12, 13, 14, 15, 16, 17, 18, 19, 20, 21, 22, 23, 24, 25, 26, 27, 28] rfl) rfl rfl rfl rfl hl.1 rfl (Nat.le_of_ble_eq_true rfl) dX1_beside_44 ⟨Nat.zero_le _, Nat.zero_le _⟩ (fun r44 h44 => ?_)
        have hf44 := h44.2
        replace h44 := h44.1
        subst hQ
        exact W.iret (v := r44) hx hb hr (fun t ht hW => ⟨r44, rfl, ⟨(by omega), ⟨(fun q1 q2 => bes_of hf44 q1 (by omega) q2 t25.1 t37.1 e30 e42 t31 t43), (fun vm e0 e1 hG q1 q2 => bes_eq (X := x31) (Y := x43) hG (by rw [e31, e25, e30, (way_d q2).1, e0]) (by rw [e43, e37, e42, (way_d q2).2, e0]) (by rw [← e0, ← e1]; exact hf44))⟩⟩, ht⟩) (fun q h => absurd h List.not_mem_nil) dX1_beside_47
      · have c14_ := i_nlt c14
        refine lv_iconst (v := (-1)) hx hb dX1_beside_17 (by decide) ?_
        subst hQ
        exact W.iret (v := (-1)) hx hb hr (fun t ht hW => ⟨(-1), rfl, ⟨(by omega), ⟨(fun q1 q2 => ⟨fun q3 => absurd q1 (by omega), fun q3 => absurd q1 (by omega)⟩), (fun vm _ _ _ q1 q2 => by exfalso; omega)⟩⟩, ht⟩) (fun q h => absurd h List.not_mem_nil) dX1_beside_18
def rm_X1_period : Room := { frames := 2, cells := 0, slots := 0, locals := 46 }
set_option maxHeartbeats 4000000 in
set_option maxRecDepth 100000 in
theorem c_X1_period (l : Launch) (E : Ev) (A : Nat → Prop) (ap : Nat → Nat) (vp : Vf) (hI : PlanI vp) : Met l yX1_period wsX1_period rm_X1_period (RdP E A [.ref (ap 0)] (planL E ap vp)) (vp_Si (fun r => (0 ≤ r.toInt ∧ r.toInt ≤ 729) ∧ (r.toInt = perI (fun j => (vp (20 + 10 * j) 0).toInt) (vp 5 0).toInt.toNat))) 0 0 (fun _ => False) := by
  refine Met.ofW (cc := cX1_period) (maxL := 5) (ret := (some .int)) (by decide) rfl ?_
  intro p e s m args below meth c s₁ B hml hv
  obtain ⟨rfl, hE, hP⟩ := hv
  have hx := B.exec
  have hb := B.bytes
  have hr := B.returns
  have hts := atoms_spec (ws := wsX1_period) B.pre
  have hown : s.vm.findClass RX1 = some m.cls := findClass_of_methodNamed B.named
  have hlocks := B.notSynchronized
  have hK := hE.1
  have in_X1 : ∀ w ∈ u_ws RX1 TX1 11, w ∈ wsX1_period := fun w h => List.mem_cons_of_mem _ (List.mem_append_left _ (List.mem_append_right _ h))
  have in_X0 : ∀ w ∈ u_ws RX0 TX0 5, w ∈ wsX1_period := fun w h => List.mem_cons_of_mem _ (List.mem_append_right _ h)
  have lk0 := hts (.fieldLink RX1 54 "TidedGround$Plan" "moonCount" "I") (List.mem_of_getElem? (i := 1) rfl)
  have lk1 := hts (.fieldLink RX1 20 "TidedGround$Plan" "moons" "[LTidedGround$Moon;") (List.mem_of_getElem? (i := 2) rfl)
  have lk2 := hts (.fieldLink RX1 71 "TidedGround$Moon" "size" "I") (List.mem_of_getElem? (i := 3) rfl)
  have lk3 := hts (.static yX9_greatestDivisor) (List.mem_of_getElem? (i := 4) rfl)
  have lk4 := hts (.initialized RX9) (List.mem_of_getElem? (i := 5) rfl)
  have n_0 : (0 : Int32).toInt = 0 := by decide
  have n_1 : (1 : Int32).toInt = 1 := by decide
  have n_2 : (2 : Int32).toInt = 2 := by decide
  have n_3 : (3 : Int32).toInt = 3 := by decide
  have hl := lv_entry ([.ref (ap 0)]) (n := 5) (Nat.le_of_ble_eq_true rfl)
  rw [lg_entry_eq]
  generalize (lg_sl ([.ref (ap 0)]) ++ List.replicate (5 - (lg_sl ([.ref (ap 0)])).length) Slot.unset).toArray = ls at hl ⊢
  have hl : lv_has ls 5 [(0, .ref (ap 0))] := hl
  refine W_abs (fun Q hQ => ?_)
  obtain ⟨hg, hmc, hm0, hm1, hm2, hs0, hs1, hs2, hs3⟩ := id hI
  obtain ⟨hg1, hg2, hg3, hg4⟩ := id hg
  have hz0 := hm0.1
  have hz1 := hm1.1
  have hz2 := hm2.1
  have hc0 := hs0.1
  have hc1 := hs1.1
  have hc2 := hs2.1
  have hc3 := hs3.1
  refine lv_iconst (v := 1) hx hb dX1_period_0 (by decide) ?_
  refine lv_istore_n (lv' := [(1, .int 1), (0, .ref (ap 0))]) hx hb dX1_period_1 rfl hl (by decide) rfl (fun ls hl => ?_)
  refine lv_iconst (v := 0) hx hb dX1_period_2 (by decide) ?_
  refine lv_istore_n (lv' := [(2, .int 0), (1, .int 1), (0, .ref (ap 0))]) hx hb dX1_period_3 rfl hl (by decide) rfl (fun ls hl => ?_)
  have K4 : ∀ (μ : Nat) (st : Int32) (i : Int32) (ls : Array Slot), (3 - i.toInt).toNat < μ → (0 ≤ i.toInt ∧ i.toInt ≤ 3) → (0 ≤ st.toInt ∧ ((i.toInt = 0 ∧ st.toInt ≤ 1) ∨ (i.toInt = 1 ∧ st.toInt ≤ 9) ∨ (i.toInt = 2 ∧ st.toInt ≤ 81) ∨ (i.toInt = 3 ∧ st.toInt ≤ 729))) → (st.toInt = perI (fun j => (vp (20 + 10 * j) 0).toInt) i.toInt.toNat) → (1 ≤ st.toInt) → (i.toInt ≤ (vp 5 0).toInt) → lv_has ls 5 [(0, .ref (ap 0)), (1, .int st), (2, .int i)] → W p l e (headSpec wsX1_period rm_X1_period).room s m ([.ref (ap 0)] : List Value).toArray below meth c s.heap [] 0 0 Q (F0 m 4 ls []) := by
    intro μ
    induction μ with
    | zero =>
      intro st i ls hμ4
      exact absurd hμ4 (Nat.not_lt_zero _)
    | succ μ ih4 =>
      intro st i ls hμ4 h4_0 h4_1 h4_2 h4_3 h4_4 hl
      have hx4_0 := h4_2
      clear h4_2
      have hx4_1 := h4_3
      clear h4_3
      have hx4_2 := h4_4
      clear h4_4
      refine lv_iload_n hx hb dX1_period_4 rfl (lv_at hl 2 rfl) ?_
      refine lv_aload_n hx hb dX1_period_5 rfl (lv_at hl 0 rfl) ?_
      refine va_get (D := eD E) (ci := 1) (v := .int (vp 5 0)) (C := RX1) (T := TX1) (N := 11) hx hb hts in_X1 hown hK hP 0 rfl rfl 5 (by decide) lk0 (fun _ h9 => h9) rfl dX1_period_6 ?_
      refine lv_icmp_ge (tgt := 52) hx hb dX1_period_9 (by decide) (fun c9 => ?_) (fun c9 => ?_)
      · have c9_ := i_le c9
        refine lv_iload_n hx hb dX1_period_52 rfl (lv_at hl 1 rfl) ?_
        subst hQ
        exact W.iret (v := st) hx hb hr (fun t ht hW => ⟨st, rfl, ⟨(by omega), (by rw [hx4_0, show i.toInt = (vp 5 0).toInt by omega])⟩, ht⟩) (fun q h => absurd h List.not_mem_nil) dX1_period_53
      · have c9_ := i_nle c9
        rcases (show i = 0 ∨ i = 1 ∨ i = 2 from i_c3 (by omega) (by omega)) with rfl | rfl | rfl
        · refine lv_aload_n hx hb dX1_period_12 rfl (lv_at hl 0 rfl) ?_
          refine va_get (D := eD E) (ci := 1) (v := .ref (ap 6)) (C := RX1) (T := TX1) (N := 11) hx hb hts in_X1 hown hK hP 0 rfl rfl 6 (by decide) lk1 (fun _ h9 => h9) rfl dX1_period_13 ?_
          refine lv_iload_n hx hb dX1_period_16 rfl (lv_at hl 2 rfl) ?_
          refine va_aldq hx hb hK hP 3 2 rfl rfl (i_in (by decide) (by decide)) dX1_period_17 ?_
          refine W.eq (g2 := F0 m 18 ls [.ref (ap 20)]) rfl ?_
          refine va_get (D := eD E) (ci := 0) (v := .int (vp 20 0)) (C := RX0) (T := TX0) (N := 5) hx hb hts in_X0 hown hK hP 4 rfl rfl 0 (by decide) lk2 (fun _ h9 => h9) rfl dX1_period_18 ?_
          refine lv_istore_n (lv' := [(3, .int (vp 20 0)), (0, .ref (ap 0)), (1, .int st), (2, .int 0)]) hx hb dX1_period_21 rfl hl (by decide) rfl (fun ls hl => ?_)
          refine lv_iload_n hx hb dX1_period_22 rfl (lv_at hl 2 rfl) ?_
          refine lv_iload_n hx hb dX1_period_23 rfl (lv_at hl 0 rfl) ?_
          refine rd_SN (As := [.int st, .int (vp 20 0)]) (rest := []) ⟨hx, hb, hml, hown, hts⟩ (c_X9_greatestDivisor l E A st (vp 20 0)) ⟨va_cnB 2 hts gX1_period_X9_greatestDivisor_n74 rfl rfl rfl (hE.2.2.2.2.2.2.2 _ (List.mem_of_getElem? (i := 4) rfl)) lk4 (by decide +kernel) ⟨Nat.le_of_ble_eq_true rfl, Nat.le_of_ble_eq_true rfl⟩, lk3, trivial⟩ hE (hP.sub (ws' := []) [] rfl) rfl hl.1 rfl (Nat.le_of_ble_eq_true rfl) dX1_period_24 ⟨Nat.zero_le _, Nat.zero_le _⟩ (fun r24 h24 => ?_)
          have hf24 := h24.2
          replace h24 := h24.1
          have hg24 := hf24 (by omega) (by omega)
          refine lv_istore (lv' := [(4, .int r24), (3, .int (vp 20 0)), (0, .ref (ap 0)), (1, .int st), (2, .int 0)]) hx hb dX1_period_27 hl (by decide) rfl (fun ls hl => ?_)
          refine lv_iload hx hb dX1_period_29 (lv_at hl 0 rfl) ?_
          refine lv_iconst (v := 1) hx hb dX1_period_31 (by decide) ?_
          refine lv_icmp_ge (tgt := 39) hx hb dX1_period_32 (by decide) (fun c32 => ?_) (fun c32 => ?_)
          · have c32_ := i_le c32
            refine lv_iload_n hx hb dX1_period_39 rfl (lv_at hl 3 rfl) ?_
            refine lv_iload hx hb dX1_period_40 (lv_at hl 0 rfl) ?_
            refine lv_idiv hx hb dX1_period_42 (i_ne0 (by omega)) ?_
            refine lv_topi (fun x42 e42 => ?_)
            have t42 := i_div e42 (by omega) (by omega)
            refine lv_iload_n hx hb dX1_period_43 rfl (lv_at hl 1 rfl) ?_
            refine lv_imul hx hb dX1_period_44 ?_
            refine lv_topi (fun x44 e44 => ?_)
            have t44 := i_mulc 9 e44 (by omega) (by omega) (by omega) (by omega) (by omega)
            refine lv_istore_n (lv' := [(1, .int x44), (4, .int r24), (3, .int (vp 20 0)), (0, .ref (ap 0)), (2, .int 0)]) hx hb dX1_period_45 rfl hl (by decide) rfl (fun ls hl => ?_)
            refine lv_iinc (v := 1) (lv' := [(2, .int 1), (1, .int x44), (4, .int r24), (3, .int (vp 20 0)), (0, .ref (ap 0))]) hx hb dX1_period_46 hl (k := 4) rfl (by decide) (by decide) rfl (fun ls hl => ?_)
            refine lv_goto (tgt := 4) hx hb dX1_period_49 (by decide) ?_
            exact ih4 x44 1 ls (by omega) (by omega) (by omega) (by have hst := hx4_0; rw [n_0] at hst; rw [n_1]; show x44.toInt = lcmS (perI (fun j => (vp (20 + 10 * j) 0).toInt) 0) (vp 20 0).toInt; rw [(lcm_step hg24 e42 e44 (by omega) (by omega)).1, hst]; rfl) (lcm_step hg24 e42 e44 (by omega) (by omega)).2 (by omega) (lv_sub hl [4, 1, 0] rfl)
          · have c32_ := i_nle c32
            refine lv_iload_n hx hb dX1_period_35 rfl (lv_at hl 3 rfl) ?_
            refine lv_goto (tgt := 45) hx hb dX1_period_36 (by decide) ?_
            refine lv_istore_n (lv' := [(1, .int st), (4, .int r24), (3, .int (vp 20 0)), (0, .ref (ap 0)), (2, .int 0)]) hx hb dX1_period_45 rfl hl (by decide) rfl (fun ls hl => ?_)
            refine lv_iinc (v := 1) (lv' := [(2, .int 1), (1, .int st), (4, .int r24), (3, .int (vp 20 0)), (0, .ref (ap 0))]) hx hb dX1_period_46 hl (k := 4) rfl (by decide) (by decide) rfl (fun ls hl => ?_)
            refine lv_goto (tgt := 4) hx hb dX1_period_49 (by decide) ?_
            exact ih4 st 1 ls (by omega) (by omega) (by omega) (by exfalso; have g := gcd_le (a := st.toInt) (b := (vp 20 0).toInt) hx4_1; omega) hx4_1 (by omega) (lv_sub hl [4, 1, 0] rfl)
        · refine lv_aload_n hx hb dX1_period_12 rfl (lv_at hl 0 rfl) ?_
          refine va_get (D := eD E) (ci := 1) (v := .ref (ap 6)) (C := RX1) (T := TX1) (N := 11) hx hb hts in_X1 hown hK hP 0 rfl rfl 6 (by decide) lk1 (fun _ h9 => h9) rfl dX1_period_13 ?_
          refine lv_iload_n hx hb dX1_period_16 rfl (lv_at hl 2 rfl) ?_
          refine va_aldq hx hb hK hP 3 2 rfl rfl (i_in (by decide) (by decide)) dX1_period_17 ?_
          refine W.eq (g2 := F0 m 18 ls [.ref (ap 30)]) rfl ?_
          refine va_get (D := eD E) (ci := 0) (v := .int (vp 30 0)) (C := RX0) (T := TX0) (N := 5) hx hb hts in_X0 hown hK hP 7 rfl rfl 0 (by decide) lk2 (fun _ h9 => h9) rfl dX1_period_18 ?_
          refine lv_istore_n (lv' := [(3, .int (vp 30 0)), (0, .ref (ap 0)), (1, .int st), (2, .int 1)]) hx hb dX1_period_21 rfl hl (by decide) rfl (fun ls hl => ?_)
          refine lv_iload_n hx hb dX1_period_22 rfl (lv_at hl 2 rfl) ?_
          refine lv_iload_n hx hb dX1_period_23 rfl (lv_at hl 0 rfl) ?_
          refine rd_SN (As := [.int st, .int (vp 30 0)]) (rest := []) ⟨hx, hb, hml, hown, hts⟩ (c_X9_greatestDivisor l E A st (vp 30 0)) ⟨va_cnB 2 hts gX1_period_X9_greatestDivisor_n74 rfl rfl rfl (hE.2.2.2.2.2.2.2 _ (List.mem_of_getElem? (i := 4) rfl)) lk4 (by decide +kernel) ⟨Nat.le_of_ble_eq_true rfl, Nat.le_of_ble_eq_true rfl⟩, lk3, trivial⟩ hE (hP.sub (ws' := []) [] rfl) rfl hl.1 rfl (Nat.le_of_ble_eq_true rfl) dX1_period_24 ⟨Nat.zero_le _, Nat.zero_le _⟩ (fun r24 h24 => ?_)
          have hf24 := h24.2
          replace h24 := h24.1
          have hg24 := hf24 (by omega) (by omega)
          refine lv_istore (lv' := [(4, .int r24), (3, .int (vp 30 0)), (0, .ref (ap 0)), (1, .int st), (2, .int 1)]) hx hb dX1_period_27 hl (by decide) rfl (fun ls hl => ?_)
          refine lv_iload hx hb dX1_period_29 (lv_at hl 0 rfl) ?_
          refine lv_iconst (v := 1) hx hb dX1_period_31 (by decide) ?_
          refine lv_icmp_ge (tgt := 39) hx hb dX1_period_32 (by decide) (fun c32 => ?_) (fun c32 => ?_)
          · have c32_ := i_le c32
            refine lv_iload_n hx hb dX1_period_39 rfl (lv_at hl 3 rfl) ?_
            refine lv_iload hx hb dX1_period_40 (lv_at hl 0 rfl) ?_
            refine lv_idiv hx hb dX1_period_42 (i_ne0 (by omega)) ?_
            refine lv_topi (fun x42 e42 => ?_)
            have t42 := i_div e42 (by omega) (by omega)
            refine lv_iload_n hx hb dX1_period_43 rfl (lv_at hl 1 rfl) ?_
            refine lv_imul hx hb dX1_period_44 ?_
            refine lv_topi (fun x44 e44 => ?_)
            have t44 := i_mulc 9 e44 (by omega) (by omega) (by omega) (by omega) (by omega)
            refine lv_istore_n (lv' := [(1, .int x44), (4, .int r24), (3, .int (vp 30 0)), (0, .ref (ap 0)), (2, .int 1)]) hx hb dX1_period_45 rfl hl (by decide) rfl (fun ls hl => ?_)
            refine lv_iinc (v := 2) (lv' := [(2, .int 2), (1, .int x44), (4, .int r24), (3, .int (vp 30 0)), (0, .ref (ap 0))]) hx hb dX1_period_46 hl (k := 4) rfl (by decide) (by decide) rfl (fun ls hl => ?_)
            refine lv_goto (tgt := 4) hx hb dX1_period_49 (by decide) ?_
            exact ih4 x44 2 ls (by omega) (by omega) (by omega) (by have hst := hx4_0; rw [n_1] at hst; rw [n_2]; show x44.toInt = lcmS (perI (fun j => (vp (20 + 10 * j) 0).toInt) 1) (vp 30 0).toInt; rw [(lcm_step hg24 e42 e44 (by omega) (by omega)).1, hst]; rfl) (lcm_step hg24 e42 e44 (by omega) (by omega)).2 (by omega) (lv_sub hl [4, 1, 0] rfl)
          · have c32_ := i_nle c32
            refine lv_iload_n hx hb dX1_period_35 rfl (lv_at hl 3 rfl) ?_
            refine lv_goto (tgt := 45) hx hb dX1_period_36 (by decide) ?_
            refine lv_istore_n (lv' := [(1, .int st), (4, .int r24), (3, .int (vp 30 0)), (0, .ref (ap 0)), (2, .int 1)]) hx hb dX1_period_45 rfl hl (by decide) rfl (fun ls hl => ?_)
            refine lv_iinc (v := 2) (lv' := [(2, .int 2), (1, .int st), (4, .int r24), (3, .int (vp 30 0)), (0, .ref (ap 0))]) hx hb dX1_period_46 hl (k := 4) rfl (by decide) (by decide) rfl (fun ls hl => ?_)
            refine lv_goto (tgt := 4) hx hb dX1_period_49 (by decide) ?_
            exact ih4 st 2 ls (by omega) (by omega) (by omega) (by exfalso; have g := gcd_le (a := st.toInt) (b := (vp 30 0).toInt) hx4_1; omega) hx4_1 (by omega) (lv_sub hl [4, 1, 0] rfl)
        · refine lv_aload_n hx hb dX1_period_12 rfl (lv_at hl 0 rfl) ?_
          refine va_get (D := eD E) (ci := 1) (v := .ref (ap 6)) (C := RX1) (T := TX1) (N := 11) hx hb hts in_X1 hown hK hP 0 rfl rfl 6 (by decide) lk1 (fun _ h9 => h9) rfl dX1_period_13 ?_
          refine lv_iload_n hx hb dX1_period_16 rfl (lv_at hl 2 rfl) ?_
          refine va_aldq hx hb hK hP 3 2 rfl rfl (i_in (by decide) (by decide)) dX1_period_17 ?_
          refine W.eq (g2 := F0 m 18 ls [.ref (ap 40)]) rfl ?_
          refine va_get (D := eD E) (ci := 0) (v := .int (vp 40 0)) (C := RX0) (T := TX0) (N := 5) hx hb hts in_X0 hown hK hP 10 rfl rfl 0 (by decide) lk2 (fun _ h9 => h9) rfl dX1_period_18 ?_
          refine lv_istore_n (lv' := [(3, .int (vp 40 0)), (0, .ref (ap 0)), (1, .int st), (2, .int 2)]) hx hb dX1_period_21 rfl hl (by decide) rfl (fun ls hl => ?_)
          refine lv_iload_n hx hb dX1_period_22 rfl (lv_at hl 2 rfl) ?_
          refine lv_iload_n hx hb dX1_period_23 rfl (lv_at hl 0 rfl) ?_
          refine rd_SN (As := [.int st, .int (vp 40 0)]) (rest := []) ⟨hx, hb, hml, hown, hts⟩ (c_X9_greatestDivisor l E A st (vp 40 0)) ⟨va_cnB 2 hts gX1_period_X9_greatestDivisor_n74 rfl rfl rfl (hE.2.2.2.2.2.2.2 _ (List.mem_of_getElem? (i := 4) rfl)) lk4 (by decide +kernel) ⟨Nat.le_of_ble_eq_true rfl, Nat.le_of_ble_eq_true rfl⟩, lk3, trivial⟩ hE (hP.sub (ws' := []) [] rfl) rfl hl.1 rfl (Nat.le_of_ble_eq_true rfl) dX1_period_24 ⟨Nat.zero_le _, Nat.zero_le _⟩ (fun r24 h24 => ?_)
          have hf24 := h24.2
          replace h24 := h24.1
          have hg24 := hf24 (by omega) (by omega)
          refine lv_istore (lv' := [(4, .int r24), (3, .int (vp 40 0)), (0, .ref (ap 0)), (1, .int st), (2, .int 2)]) hx hb dX1_period_27 hl (by decide) rfl (fun ls hl => ?_)
          refine lv_iload hx hb dX1_period_29 (lv_at hl 0 rfl) ?_
          refine lv_iconst (v := 1) hx hb dX1_period_31 (by decide) ?_
          refine lv_icmp_ge (tgt := 39) hx hb dX1_period_32 (by decide) (fun c32 => ?_) (fun c32 => ?_)
          · have c32_ := i_le c32
            refine lv_iload_n hx hb dX1_period_39 rfl (lv_at hl 3 rfl) ?_
            refine lv_iload hx hb dX1_period_40 (lv_at hl 0 rfl) ?_
            refine lv_idiv hx hb dX1_period_42 (i_ne0 (by omega)) ?_
            refine lv_topi (fun x42 e42 => ?_)
            have t42 := i_div e42 (by omega) (by omega)
            refine lv_iload_n hx hb dX1_period_43 rfl (lv_at hl 1 rfl) ?_
            refine lv_imul hx hb dX1_period_44 ?_
            refine lv_topi (fun x44 e44 => ?_)
            have t44 := i_mulc 9 e44 (by omega) (by omega) (by omega) (by omega) (by omega)
            refine lv_istore_n (lv' := [(1, .int x44), (4, .int r24), (3, .int (vp 40 0)), (0, .ref (ap 0)), (2, .int 2)]) hx hb dX1_period_45 rfl hl (by decide) rfl (fun ls hl => ?_)
            refine lv_iinc (v := 3) (lv' := [(2, .int 3), (1, .int x44), (4, .int r24), (3, .int (vp 40 0)), (0, .ref (ap 0))]) hx hb dX1_period_46 hl (k := 4) rfl (by decide) (by decide) rfl (fun ls hl => ?_)
            refine lv_goto (tgt := 4) hx hb dX1_period_49 (by decide) ?_
            exact ih4 x44 3 ls (by omega) (by omega) (by omega) (by have hst := hx4_0; rw [n_2] at hst; rw [n_3]; show x44.toInt = lcmS (perI (fun j => (vp (20 + 10 * j) 0).toInt) 2) (vp 40 0).toInt; rw [(lcm_step hg24 e42 e44 (by omega) (by omega)).1, hst]; rfl) (lcm_step hg24 e42 e44 (by omega) (by omega)).2 (by omega) (lv_sub hl [4, 1, 0] rfl)
          · have c32_ := i_nle c32
            refine lv_iload_n hx hb dX1_period_35 rfl (lv_at hl 3 rfl) ?_
            refine lv_goto (tgt := 45) hx hb dX1_period_36 (by decide) ?_
            refine lv_istore_n (lv' := [(1, .int st), (4, .int r24), (3, .int (vp 40 0)), (0, .ref (ap 0)), (2, .int 2)]) hx hb dX1_period_45 rfl hl (by decide) rfl (fun ls hl => ?_)
            refine lv_iinc (v := 3) (lv' := [(2, .int 3), (1, .int st), (4, .int r24), (3, .int (vp 40 0)), (0, .ref (ap 0))]) hx hb dX1_period_46 hl (k := 4) rfl (by decide) (by decide) rfl (fun ls hl => ?_)
            refine lv_goto (tgt := 4) hx hb dX1_period_49 (by decide) ?_
            exact ih4 st 3 ls (by omega) (by omega) (by omega) (by exfalso; have g := gcd_le (a := st.toInt) (b := (vp 40 0).toInt) hx4_1; omega) hx4_1 (by omega) (lv_sub hl [4, 1, 0] rfl)
  exact K4 _ 1 0 ls (Nat.lt_succ_self _) (by omega) (by omega) (by rw [n_1, n_0]; rfl) (by omega) (by omega) (lv_sub hl [2, 1, 0] rfl)
