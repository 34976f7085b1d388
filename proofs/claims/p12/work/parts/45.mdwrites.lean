def rm_X10_feed : Room := { frames := 1, cells := 0, slots := 0, locals := 25 }
set_option maxHeartbeats 4000000 in
set_option maxRecDepth 100000 in
theorem c_X10_feed (l : Launch) (E : Ev) (sz : Nat) (am : Nat → Nat) (vm : Vf) (x : Int32) (hMI : MdI vm) : Met l yX10_feed wsX10_feed rm_X10_feed (MtP E sz [.ref (am 0), .int x] (mdL E am vm)) (va_Qi (fun (r : Int32) (u : Vf) => ((MdI u ∧ ((r.toInt = -1000000002 ∧ (x.toInt < 0 ∨ 255 < x.toInt) ∧ (u 32 0).toInt = (vm 32 0).toInt) ∨ ((0 ≤ x.toInt ∧ x.toInt ≤ 255) ∧ ((r.toInt = -1000000004 ∧ 250 ≤ (vm 32 0).toInt ∧ (u 32 0).toInt = (vm 32 0).toInt) ∨ ((vm 32 0).toInt < 250 ∧ r.toInt = (vm 32 0).toInt + 1 ∧ (u 32 0).toInt = (vm 32 0).toInt + 1))))) ∧ fr [31, 32] vm u) ∧ (FeedR x (vm 31) (vm 32 0) (u 31) (u 32 0))) (MtB E (va_A (mdL E am vm) sz) (fun u => mdL E am u)) (va_A (mdL E am vm) sz)) 0 0 (va_A (mdL E am vm) sz) := by
  refine Met.ofW (cc := cX10_feed) (maxL := 2) (ret := (some .int)) (by decide) rfl ?_
  intro p e s m args below meth c s₁ B hml hv
  obtain ⟨rfl, hsz, hE, hP, hD0⟩ := hv
  subst hsz
  have hD := hD0.self (sz := s.heap.size)
  generalize hAe : va_A (mdL E am vm) s.heap.size = A at hD hE ⊢
  have hA : ∀ q : Nat, s.heap.size ≤ q → A q := fun q h => by rw [← hAe]; exact Or.inr h
  have hS : va_S A s.heap s.heap [] := va_S.rf
  have hx := B.exec
  have hb := B.bytes
  have hr := B.returns
  have hts := atoms_spec (ws := wsX10_feed) B.pre
  have hown : s.vm.findClass RX10 = some m.cls := findClass_of_methodNamed B.named
  have hlocks := B.notSynchronized
  have hK := hE.1
  have in_X10 : ∀ w ∈ u_ws RX10 TX10 79, w ∈ wsX10_feed := fun w h => List.mem_cons_of_mem _ (List.mem_append_right _ h)
  have lk0 := hts (.constantLong RX10 173 255) (List.mem_of_getElem? (i := 1) rfl)
  have lk1 := hts (.fieldLink RX10 176 "TidedGroundModel" "texted" "I") (List.mem_of_getElem? (i := 3) rfl)
  have lk2 := hts (.fieldLink RX10 71 "TidedGroundModel" "text" "[I") (List.mem_of_getElem? (i := 5) rfl)
  have lk3 := hts (.constant RX10 179 (-1000000004)) (List.mem_of_getElem? (i := 4) rfl)
  have lk4 := hts (.constant RX10 175 (-1000000002)) (List.mem_of_getElem? (i := 2) rfl)
  have n_m1000000004 : ((-1000000004) : Int32).toInt = -1000000004 := by decide
  have n_m1000000002 : ((-1000000002) : Int32).toInt = -1000000002 := by decide
  have n_0 : (0 : Int32).toInt = 0 := by decide
  have n_1 : (1 : Int32).toInt = 1 := by decide
  have n_250 : (250 : Int32).toInt = 250 := by decide
  have hl := lv_entry ([.ref (am 0), .int x]) (n := 2) (Nat.le_of_ble_eq_true rfl)
  rw [lg_entry_eq]
  generalize (lg_sl ([.ref (am 0), .int x]) ++ List.replicate (2 - (lg_sl ([.ref (am 0), .int x])).length) Slot.unset).toArray = ls at hl ⊢
  have hl : lv_has ls 2 [(0, .ref (am 0)), (1, .int x)] := hl
  refine W_abs (fun Q hQ => ?_)
  have hH := hMI.1
  obtain ⟨hmG, hmC, hmZ, hmM, hmA, hmS, hmT⟩ := id hH
  obtain ⟨hG1, hG2, hG3⟩ := id hmG
  obtain ⟨hC1, hC2, hC3, hC4, hC5, hC6⟩ := id hmC
  obtain ⟨hM1, hM2, hM3, hM4⟩ := id hmM
  obtain ⟨hA1, hA2, hA3, hA4, hA5⟩ := id hmA
  obtain ⟨hS1, hS2, hS3, hS4, hS5, hS6⟩ := id hmS
  obtain ⟨hT1, hT2, hT3, hT4, hT5⟩ := id hmT
  have hFz : fr [31, 32] vm vm := fr.rf
  refine lv_iload_n hx hb dX10_feed_0 rfl (lv_at hl 1 rfl) ?_
  refine lv_i2l hx hb dX10_feed_1 rfl ?_
  refine lv_lconst (v := 0) hx hb dX10_feed_2 (by decide) ?_
  refine lv_ldc2 hx hb hown lk0 dX10_feed_3 ?_
  have lt6_0 : (x.toInt64).toInt = x.toInt := Int32.toInt_toInt64 _
  have lt6_1 : (0 : Int64).toInt = 0 := by decide
  have lt6_2 : (255 : Int64).toInt = 255 := by decide
  refine rd_S (As := [.long x.toInt64, .long 0, .long 255]) (rest := []) ⟨hx, hb, hml, hown, hts⟩ (c_X10_in l E A x.toInt64 0 255) (va_cwS 3 hts gX10_feed_X10_in rfl rfl rfl (by decide +kernel) ⟨Nat.le_of_ble_eq_true rfl, Nat.le_of_ble_eq_true rfl⟩) (hE.kept hS.2.1) (hP.sub (ws' := []) [] rfl) rfl hl.1 rfl (Nat.le_of_ble_eq_true rfl) dX10_feed_6 ⟨Nat.zero_le _, Nat.zero_le _⟩ (fun r6 h6 => ?_)
  refine lv_if_ne (tgt := 15) hx hb dX10_feed_9 (by decide) (fun c9 => ?_) (fun c9 => ?_)
  · have c9_ := i_ne c9
    replace h6 := or_y h6 c9_
    clear c9_
    refine lv_aload_n hx hb dX10_feed_15 rfl (lv_at hl 0 rfl) ?_
    refine va_get (D := eD E) (ci := 10) (v := .int (vm 32 0)) (C := RX10) (T := TX10) (N := 79) hx hb hts in_X10 hown hK hP 0 rfl rfl 32 (by decide) lk1 (fun _ h9 => h9) rfl dX10_feed_16 ?_
    refine lv_sipush (v := 250) hx hb dX10_feed_19 (by decide) ?_
    refine lv_icmp_ne (tgt := 28) hx hb dX10_feed_22 (by decide) (fun c22 => ?_) (fun c22 => ?_)
    · have c22_ := i_ne c22
      refine lv_aload_n hx hb dX10_feed_28 rfl (lv_at hl 0 rfl) ?_
      refine va_get (D := eD E) (ci := 10) (v := .ref (am 31)) (C := RX10) (T := TX10) (N := 79) hx hb hts in_X10 hown hK hP 0 rfl rfl 31 (by decide) lk2 (fun _ h9 => h9) rfl dX10_feed_29 ?_
      refine lv_aload_n hx hb dX10_feed_32 rfl (lv_at hl 0 rfl) ?_
      refine va_get (D := eD E) (ci := 10) (v := .int (vm 32 0)) (C := RX10) (T := TX10) (N := 79) hx hb hts in_X10 hown hK hP 0 rfl rfl 32 (by decide) lk1 (fun _ h9 => h9) rfl dX10_feed_33 ?_
      refine lv_iload_n hx hb dX10_feed_36 rfl (lv_at hl 1 rfl) ?_
      refine va_iast hx hb hK hP hD hS 19 0 rfl rfl (n := 250) (f := (vm 31)) (i_in (by omega) (by omega)) dX10_feed_37 (fun H locs hP hD hS => ?_)
      replace hP : va_P (eD E) vwCl (mdL E am (up2 vm 31 ((vm 32 0).toNatClampNeg) x)) H := hP
      replace hD : va_D A (mdL E am (up2 vm 31 ((vm 32 0).toNatClampNeg) x)) := hD
      generalize hv37 : up2 vm 31 ((vm 32 0).toNatClampNeg) x = vm_37 at hP hD
      have hFz : fr [31, 32] vm vm_37 := by first | exact hFz | (rw [← hv37]; exact hFz.up (by decide))
      have hq37 : vm_37 32 0 = vm 32 0 := by rw [← hv37]; rfl
      refine lv_aload_n hx hb dX10_feed_38 rfl (lv_at hl 0 rfl) ?_
      refine lv_dup hx hb dX10_feed_39 rfl ?_
      refine va_get (D := eD E) (ci := 10) (v := .int (vm_37 32 0)) (C := RX10) (T := TX10) (N := 79) hx hb hts in_X10 hown hK hP 0 rfl rfl 32 (by decide) lk1 (fun _ h9 => h9) rfl dX10_feed_40 ?_
      refine lv_iconst (v := 1) hx hb dX10_feed_43 (by decide) ?_
      refine lv_iadd hx hb dX10_feed_44 ?_
      refine lv_topi (fun x44 e44 => ?_)
      have t44 := i_add e44 (by rw [hq37]; omega)
      rw [hq37] at t44
      refine va_put (D := eD E) (ci := 10) (v := .int x44) (ty := .int) (C := RX10) (T := TX10) (N := 79) hx hb hts in_X10 tyX10 tyX10_ok nmX10 hown hK hP hD hS 0 rfl rfl 32 (by decide) lk1 (fun _ h9 => h9) rfl (by decide +kernel) rfl rfl (Nat.le_of_ble_eq_true rfl) dX10_feed_45 (fun H locs hP hD hS => ?_)
      replace hP : va_P (eD E) vwCl (mdL E am (up2 vm_37 32 0 x44)) H := hP
      replace hD : va_D A (mdL E am (up2 vm_37 32 0 x44)) := hD
      generalize hv45 : up2 vm_37 32 0 x44 = vm_45 at hP hD
      have hFz : fr [31, 32] vm vm_45 := by first | exact hFz | (rw [← hv45]; exact hFz.up (by decide))
      have hq45 : vm_45 32 0 = x44 := by rw [← hv45]; rfl
      have hMn : MdI vm_45 := by rw [← hv45, ← hv37]; exact md_text hMI (by omega)
      refine lv_aload_n hx hb dX10_feed_48 rfl (lv_at hl 0 rfl) ?_
      refine va_get (D := eD E) (ci := 10) (v := .int (vm_45 32 0)) (C := RX10) (T := TX10) (N := 79) hx hb hts in_X10 hown hK hP 0 rfl rfl 32 (by decide) lk1 (fun _ h9 => h9) rfl dX10_feed_49 ?_
      subst hQ
      exact W.iret (v := (vm_45 32 0)) hx hb hr (fun t ht hW => ⟨⟨(vm_45 32 0), (vm_45), rfl, (show ((MdI vm_45 ∧ (((vm_45 32 0).toInt = -1000000002 ∧ (x.toInt < 0 ∨ 255 < x.toInt) ∧ (vm_45 32 0).toInt = (vm 32 0).toInt) ∨ ((0 ≤ x.toInt ∧ x.toInt ≤ 255) ∧ (((vm_45 32 0).toInt = -1000000004 ∧ 250 ≤ (vm 32 0).toInt ∧ (vm_45 32 0).toInt = (vm 32 0).toInt) ∨ ((vm 32 0).toInt < 250 ∧ (vm_45 32 0).toInt = (vm 32 0).toInt + 1 ∧ (vm_45 32 0).toInt = (vm 32 0).toInt + 1))))) ∧ fr [31, 32] vm vm_45) ∧ (FeedR x (vm 31) (vm 32 0) (vm_45 31) (vm_45 32 0)) from ⟨⟨⟨hMn, by rw [hq45]; omega⟩, hFz⟩, (Or.inr ⟨by omega, by omega, (by rw [← hv45, ← hv37]; rfl), by rw [hq45]; omega⟩)⟩), by rw [ht]; exact hP, hD⟩, hS.F ht⟩) hS.2.2 dX10_feed_52
    · have c22_ := i_eq c22
      refine lv_ldc hx hb hown lk3 dX10_feed_25 ?_
      subst hQ
      exact W.iret (v := (-1000000004)) hx hb hr (fun t ht hW => ⟨⟨(-1000000004), (vm), rfl, (show ((MdI vm ∧ ((((-1000000004) : Int32).toInt = -1000000002 ∧ (x.toInt < 0 ∨ 255 < x.toInt) ∧ (vm 32 0).toInt = (vm 32 0).toInt) ∨ ((0 ≤ x.toInt ∧ x.toInt ≤ 255) ∧ ((((-1000000004) : Int32).toInt = -1000000004 ∧ 250 ≤ (vm 32 0).toInt ∧ (vm 32 0).toInt = (vm 32 0).toInt) ∨ ((vm 32 0).toInt < 250 ∧ ((-1000000004) : Int32).toInt = (vm 32 0).toInt + 1 ∧ (vm 32 0).toInt = (vm 32 0).toInt + 1))))) ∧ fr [31, 32] vm vm) ∧ (FeedR x (vm 31) (vm 32 0) (vm 31) (vm 32 0)) from ⟨⟨⟨hMI, by omega⟩, hFz⟩, (Or.inl ⟨rfl, rfl, by omega⟩)⟩), by rw [ht]; exact hP, hD⟩, hS.F ht⟩) hS.2.2 dX10_feed_27
  · have c9_ := i_eq c9
    replace h6 := or_n h6 c9_
    refine lv_ldc hx hb hown lk4 dX10_feed_12 ?_
    subst hQ
    exact W.iret (v := (-1000000002)) hx hb hr (fun t ht hW => ⟨⟨(-1000000002), (vm), rfl, (show ((MdI vm ∧ ((((-1000000002) : Int32).toInt = -1000000002 ∧ (x.toInt < 0 ∨ 255 < x.toInt) ∧ (vm 32 0).toInt = (vm 32 0).toInt) ∨ ((0 ≤ x.toInt ∧ x.toInt ≤ 255) ∧ ((((-1000000002) : Int32).toInt = -1000000004 ∧ 250 ≤ (vm 32 0).toInt ∧ (vm 32 0).toInt = (vm 32 0).toInt) ∨ ((vm 32 0).toInt < 250 ∧ ((-1000000002) : Int32).toInt = (vm 32 0).toInt + 1 ∧ (vm 32 0).toInt = (vm 32 0).toInt + 1))))) ∧ fr [31, 32] vm vm) ∧ (FeedR x (vm 31) (vm 32 0) (vm 31) (vm 32 0)) from ⟨⟨⟨hMI, by omega⟩, hFz⟩, (Or.inl ⟨rfl, rfl, by omega⟩)⟩), by rw [ht]; exact hP, hD⟩, hS.F ht⟩) hS.2.2 dX10_feed_14
def rm_X10_pass : Room := { frames := 1, cells := 0, slots := 0, locals := 25 }
set_option maxHeartbeats 4000000 in
set_option maxRecDepth 100000 in
theorem c_X10_pass (l : Launch) (E : Ev) (sz : Nat) (am : Nat → Nat) (vm : Vf) (n : Int32) (hMI : MdI vm) : Met l yX10_pass wsX10_pass rm_X10_pass (MtP E sz [.ref (am 0), .int n] (mdL E am vm)) (va_Qi (fun (r : Int32) (u : Vf) => ((MdI u) ∧ fr [23] vm u) ∧ (PassP n (vm 23 0) r (u 23 0))) (MtB E (va_A (mdL E am vm) sz) (fun u => mdL E am u)) (va_A (mdL E am vm) sz)) 0 0 (va_A (mdL E am vm) sz) := by
  refine Met.ofW (cc := cX10_pass) (maxL := 2) (ret := (some .int)) (by decide) rfl ?_
  intro p e s m args below meth c s₁ B hml hv
  obtain ⟨rfl, hsz, hE, hP, hD0⟩ := hv
  subst hsz
  have hD := hD0.self (sz := s.heap.size)
  generalize hAe : va_A (mdL E am vm) s.heap.size = A at hD hE ⊢
  have hA : ∀ q : Nat, s.heap.size ≤ q → A q := fun q h => by rw [← hAe]; exact Or.inr h
  have hS : va_S A s.heap s.heap [] := va_S.rf
  have hx := B.exec
  have hb := B.bytes
  have hr := B.returns
  have hts := atoms_spec (ws := wsX10_pass) B.pre
  have hown : s.vm.findClass RX10 = some m.cls := findClass_of_methodNamed B.named
  have hlocks := B.notSynchronized
  have hK := hE.1
  have in_X10 : ∀ w ∈ u_ws RX10 TX10 79, w ∈ wsX10_pass := fun w h => List.mem_cons_of_mem _ (List.mem_append_right _ h)
  have lk0 := hts (.constantLong RX10 351 9999) (List.mem_of_getElem? (i := 1) rfl)
  have lk1 := hts (.fieldLink RX10 291 "TidedGroundModel" "step" "I") (List.mem_of_getElem? (i := 3) rfl)
  have lk2 := hts (.constant RX10 353 900000) (List.mem_of_getElem? (i := 4) rfl)
  have lk3 := hts (.constant RX10 179 (-1000000004)) (List.mem_of_getElem? (i := 5) rfl)
  have lk4 := hts (.constant RX10 175 (-1000000002)) (List.mem_of_getElem? (i := 2) rfl)
  have n_m1000000004 : ((-1000000004) : Int32).toInt = -1000000004 := by decide
  have n_m1000000002 : ((-1000000002) : Int32).toInt = -1000000002 := by decide
  have n_0 : (0 : Int32).toInt = 0 := by decide
  have n_900000 : (900000 : Int32).toInt = 900000 := by decide
  have hl := lv_entry ([.ref (am 0), .int n]) (n := 2) (Nat.le_of_ble_eq_true rfl)
  rw [lg_entry_eq]
  generalize (lg_sl ([.ref (am 0), .int n]) ++ List.replicate (2 - (lg_sl ([.ref (am 0), .int n])).length) Slot.unset).toArray = ls at hl ⊢
  have hl : lv_has ls 2 [(0, .ref (am 0)), (1, .int n)] := hl
  refine W_abs (fun Q hQ => ?_)
  have hH := hMI.1
  obtain ⟨hmG, hmC, hmZ, hmM, hmA, hmS, hmT⟩ := id hH
  obtain ⟨hG1, hG2, hG3⟩ := id hmG
  obtain ⟨hC1, hC2, hC3, hC4, hC5, hC6⟩ := id hmC
  obtain ⟨hM1, hM2, hM3, hM4⟩ := id hmM
  obtain ⟨hA1, hA2, hA3, hA4, hA5⟩ := id hmA
  obtain ⟨hS1, hS2, hS3, hS4, hS5, hS6⟩ := id hmS
  obtain ⟨hT1, hT2, hT3, hT4, hT5⟩ := id hmT
  have hFz : fr [23] vm vm := fr.rf
  refine lv_iload_n hx hb dX10_pass_0 rfl (lv_at hl 1 rfl) ?_
  refine lv_i2l hx hb dX10_pass_1 rfl ?_
  refine lv_lconst (v := 1) hx hb dX10_pass_2 (by decide) ?_
  refine lv_ldc2 hx hb hown lk0 dX10_pass_3 ?_
  have lt6_0 : (n.toInt64).toInt = n.toInt := Int32.toInt_toInt64 _
  have lt6_1 : (1 : Int64).toInt = 1 := by decide
  have lt6_2 : (9999 : Int64).toInt = 9999 := by decide
  refine rd_S (As := [.long n.toInt64, .long 1, .long 9999]) (rest := []) ⟨hx, hb, hml, hown, hts⟩ (c_X10_in l E A n.toInt64 1 9999) (va_cwS 3 hts gX10_pass_X10_in rfl rfl rfl (by decide +kernel) ⟨Nat.le_of_ble_eq_true rfl, Nat.le_of_ble_eq_true rfl⟩) (hE.kept hS.2.1) (hP.sub (ws' := []) [] rfl) rfl hl.1 rfl (Nat.le_of_ble_eq_true rfl) dX10_pass_6 ⟨Nat.zero_le _, Nat.zero_le _⟩ (fun r6 h6 => ?_)
  refine lv_if_ne (tgt := 15) hx hb dX10_pass_9 (by decide) (fun c9 => ?_) (fun c9 => ?_)
  · have c9_ := i_ne c9
    replace h6 := or_y h6 c9_
    clear c9_
    have sv15_n : 1 ≤ n.toInt ∧ n.toInt ≤ 9999 := by omega
    refine lv_aload_n hx hb dX10_pass_15 rfl (lv_at hl 0 rfl) ?_
    refine va_get (D := eD E) (ci := 10) (v := .int (vm 23 0)) (C := RX10) (T := TX10) (N := 79) hx hb hts in_X10 hown hK hP 0 rfl rfl 23 (by decide) lk1 (fun _ h9 => h9) rfl dX10_pass_16 ?_
    refine lv_iload_n hx hb dX10_pass_19 rfl (lv_at hl 1 rfl) ?_
    refine lv_iadd hx hb dX10_pass_20 ?_
    refine lv_topi (fun x20 e20 => ?_)
    have t20 := i_add e20 (by omega)
    refine lv_ldcw hx hb hown lk2 dX10_pass_21 ?_
    refine lv_icmp_le (tgt := 30) hx hb dX10_pass_24 (by decide) (fun c24 => ?_) (fun c24 => ?_)
    · have c24_ := i_le c24
      refine lv_aload_n hx hb dX10_pass_30 rfl (lv_at hl 0 rfl) ?_
      refine lv_dup hx hb dX10_pass_31 rfl ?_
      refine va_get (D := eD E) (ci := 10) (v := .int (vm 23 0)) (C := RX10) (T := TX10) (N := 79) hx hb hts in_X10 hown hK hP 0 rfl rfl 23 (by decide) lk1 (fun _ h9 => h9) rfl dX10_pass_32 ?_
      refine lv_iload_n hx hb dX10_pass_35 rfl (lv_at hl 1 rfl) ?_
      refine lv_iadd hx hb dX10_pass_36 ?_
      refine lv_topi (fun x36 e36 => ?_)
      have t36 := i_add e36 (by omega)
      refine va_put (D := eD E) (ci := 10) (v := .int x36) (ty := .int) (C := RX10) (T := TX10) (N := 79) hx hb hts in_X10 tyX10 tyX10_ok nmX10 hown hK hP hD hS 0 rfl rfl 23 (by decide) lk1 (fun _ h9 => h9) rfl (by decide +kernel) rfl rfl (Nat.le_of_ble_eq_true rfl) dX10_pass_37 (fun H locs hP hD hS => ?_)
      replace hP : va_P (eD E) vwCl (mdL E am (up2 vm 23 0 x36)) H := hP
      replace hD : va_D A (mdL E am (up2 vm 23 0 x36)) := hD
      generalize hv37 : up2 vm 23 0 x36 = vm_37 at hP hD
      have hFz : fr [23] vm vm_37 := by first | exact hFz | (rw [← hv37]; exact hFz.up (by decide))
      have hMI : MdI vm_37 := by rw [← hv37]; exact md_step hMI (by omega)
      refine lv_aload_n hx hb dX10_pass_40 rfl (lv_at hl 0 rfl) ?_
      refine va_get (D := eD E) (ci := 10) (v := .int (vm_37 23 0)) (C := RX10) (T := TX10) (N := 79) hx hb hts in_X10 hown hK hP 0 rfl rfl 23 (by decide) lk1 (fun _ h9 => h9) rfl dX10_pass_41 ?_
      subst hQ
      exact W.iret (v := (vm_37 23 0)) hx hb hr (fun t ht hW => ⟨⟨(vm_37 23 0), (vm_37), rfl, (show ((MdI vm_37) ∧ fr [23] vm vm_37) ∧ (PassP n (vm 23 0) (vm_37 23 0) (vm_37 23 0)) from ⟨⟨hMI, hFz⟩, (Or.inr ⟨by omega, Or.inr ⟨by omega, rfl, by rw [← hv37]; show x36.toInt = _; omega⟩⟩)⟩), by rw [ht]; exact hP, hD⟩, hS.F ht⟩) hS.2.2 dX10_pass_44
    · have c24_ := i_nle c24
      refine lv_ldc hx hb hown lk3 dX10_pass_27 ?_
      subst hQ
      exact W.iret (v := (-1000000004)) hx hb hr (fun t ht hW => ⟨⟨(-1000000004), (vm), rfl, (show ((MdI vm) ∧ fr [23] vm vm) ∧ (PassP n (vm 23 0) ((-1000000004) : Int32) (vm 23 0)) from ⟨⟨hMI, hFz⟩, (Or.inr ⟨by omega, Or.inl ⟨by omega, by omega, rfl⟩⟩)⟩), by rw [ht]; exact hP, hD⟩, hS.F ht⟩) hS.2.2 dX10_pass_29
  · have c9_ := i_eq c9
    replace h6 := or_n h6 c9_
    refine lv_ldc hx hb hown lk4 dX10_pass_12 ?_
    subst hQ
    exact W.iret (v := (-1000000002)) hx hb hr (fun t ht hW => ⟨⟨(-1000000002), (vm), rfl, (show ((MdI vm) ∧ fr [23] vm vm) ∧ (PassP n (vm 23 0) ((-1000000002) : Int32) (vm 23 0)) from ⟨⟨hMI, hFz⟩, (Or.inl ⟨by omega, by omega, rfl⟩)⟩), by rw [ht]; exact hP, hD⟩, hS.F ht⟩) hS.2.2 dX10_pass_14
def rm_X10_rollNow : Room := { frames := 5, cells := 0, slots := 0, locals := 116 }
set_option maxHeartbeats 4000000 in
set_option maxRecDepth 100000 in
theorem c_X10_rollNow (l : Launch) (E : Ev) (sz : Nat) (am : Nat → Nat) (vm : Vf) (to : Int32) (hMI : MdI vm) (hw : 1 ≤ (vm 0 0).toInt) (hto : 0 ≤ to.toInt ∧ to.toInt ≤ 23) (hst : (vm 23 0).toInt ≤ 899999) : Met l yX10_rollNow wsX10_rollNow rm_X10_rollNow (MtP E sz [.ref (am 0), .int to] (mdL E am vm)) (va_Qi (fun (r : Int32) (u : Vf) => ((MdI u ∧ (u 23 0).toInt = (vm 23 0).toInt + 1 ∧ u 0 0 = vm 0 0 ∧ u 1 0 = vm 1 0) ∧ fr [23, 27, 28] vm u) ∧ (r = mCost vm (vm 27 0) to (vm 23 0 + 1) ∧ u 23 0 = vm 23 0 + 1 ∧ u 27 0 = to ∧ u 28 0 = mHeld (vm 28 0 + r))) (MtB E (va_A (mdL E am vm) sz) (fun u => mdL E am u)) (va_A (mdL E am vm) sz)) 0 0 (va_A (mdL E am vm) sz) := by
  refine Met.ofW (cc := cX10_rollNow) (maxL := 3) (ret := (some .int)) (by decide) rfl ?_
  intro p e s m args below meth c s₁ B hml hv
  obtain ⟨rfl, hsz, hE, hP, hD0⟩ := hv
  subst hsz
  have hD := hD0.self (sz := s.heap.size)
  generalize hAe : va_A (mdL E am vm) s.heap.size = A at hD hE ⊢
  have hA : ∀ q : Nat, s.heap.size ≤ q → A q := fun q h => by rw [← hAe]; exact Or.inr h
  have hS : va_S A s.heap s.heap [] := va_S.rf
  have hx := B.exec
  have hb := B.bytes
  have hr := B.returns
  have hts := atoms_spec (ws := wsX10_rollNow) B.pre
  have hown : s.vm.findClass RX10 = some m.cls := findClass_of_methodNamed B.named
  have hlocks := B.notSynchronized
  have hK := hE.1
  have in_X10 : ∀ w ∈ u_ws RX10 TX10 79, w ∈ wsX10_rollNow := fun w h => List.mem_cons_of_mem _ (List.mem_append_right _ h)
  have lk0 := hts (.fieldLink RX10 291 "TidedGroundModel" "step" "I") (List.mem_of_getElem? (i := 1) rfl)
  have lk1 := hts (.fieldLink RX10 294 "TidedGroundModel" "cart" "I") (List.mem_of_getElem? (i := 2) rfl)
  have lk2 := hts (.fieldLink RX10 297 "TidedGroundModel" "pushed" "I") (List.mem_of_getElem? (i := 3) rfl)
  have n_1 : (1 : Int32).toInt = 1 := by decide
  have hl := lv_entry ([.ref (am 0), .int to]) (n := 3) (Nat.le_of_ble_eq_true rfl)
  rw [lg_entry_eq]
  generalize (lg_sl ([.ref (am 0), .int to]) ++ List.replicate (3 - (lg_sl ([.ref (am 0), .int to])).length) Slot.unset).toArray = ls at hl ⊢
  have hl : lv_has ls 3 [(0, .ref (am 0)), (1, .int to)] := hl
  refine W_abs (fun Q hQ => ?_)
  have hH := hMI.1
  obtain ⟨hmG, hmC, hmZ, hmM, hmA, hmS, hmT⟩ := id hH
  obtain ⟨hG1, hG2, hG3⟩ := id hmG
  obtain ⟨hC1, hC2, hC3, hC4, hC5, hC6⟩ := id hmC
  obtain ⟨hM1, hM2, hM3, hM4⟩ := id hmM
  obtain ⟨hA1, hA2, hA3, hA4, hA5⟩ := id hmA
  obtain ⟨hS1, hS2, hS3, hS4, hS5, hS6⟩ := id hmS
  obtain ⟨hT1, hT2, hT3, hT4, hT5⟩ := id hmT
  have hFz : fr [23, 27, 28] vm vm := fr.rf
  refine lv_aload_n hx hb dX10_rollNow_0 rfl (lv_at hl 0 rfl) ?_
  refine lv_dup hx hb dX10_rollNow_1 rfl ?_
  refine va_get (D := eD E) (ci := 10) (v := .int (vm 23 0)) (C := RX10) (T := TX10) (N := 79) hx hb hts in_X10 hown hK hP 0 rfl rfl 23 (by decide) lk0 (fun _ h9 => h9) rfl dX10_rollNow_2 ?_
  refine lv_iconst (v := 1) hx hb dX10_rollNow_5 (by decide) ?_
  refine lv_iadd hx hb dX10_rollNow_6 ?_
  refine lv_topi (fun x6 e6 => ?_)
  have t6 := i_add e6 (by omega)
  refine va_put (D := eD E) (ci := 10) (v := .int x6) (ty := .int) (C := RX10) (T := TX10) (N := 79) hx hb hts in_X10 tyX10 tyX10_ok nmX10 hown hK hP hD hS 0 rfl rfl 23 (by decide) lk0 (fun _ h9 => h9) rfl (by decide +kernel) rfl rfl (Nat.le_of_ble_eq_true rfl) dX10_rollNow_7 (fun H locs hP hD hS => ?_)
  replace hP : va_P (eD E) vwCl (mdL E am (up2 vm 23 0 x6)) H := hP
  replace hD : va_D A (mdL E am (up2 vm 23 0 x6)) := hD
  generalize hv7 : up2 vm 23 0 x6 = vm_7 at hP hD
  have hFz : fr [23, 27, 28] vm vm_7 := by first | exact hFz | (rw [← hv7]; exact hFz.up (by decide))
  have hMI : MdI vm_7 := by rw [← hv7]; exact md_step hMI (by omega)
  try clear hmZ
  try clear hM2
  try clear hA4
  have hH := hMI.1
  obtain ⟨hmG, hmC, hmZ, hmM, hmA, hmS, hmT⟩ := id hH
  obtain ⟨hG1, hG2, hG3⟩ := id hmG
  obtain ⟨hC1, hC2, hC3, hC4, hC5, hC6⟩ := id hmC
  obtain ⟨hM1, hM2, hM3, hM4⟩ := id hmM
  obtain ⟨hA1, hA2, hA3, hA4, hA5⟩ := id hmA
  obtain ⟨hS1, hS2, hS3, hS4, hS5, hS6⟩ := id hmS
  obtain ⟨hT1, hT2, hT3, hT4, hT5⟩ := id hmT
  have hq7 : (vm_7 23 0).toInt = x6.toInt := by rw [← hv7]; rfl
  have hw7 : (vm_7 0 0).toInt = (vm 0 0).toInt := by rw [← hv7]; rfl
  have hsp7 : sameP vm vm_7 := fun t h1 h2 h3 h4 => by rw [← hv7]; exact up2_ne h1
  have he7 : vm_7 23 0 = vm 23 0 + 1 ∧ vm_7 27 0 = vm 27 0 ∧ vm_7 28 0 = vm 28 0 := by rw [← hv7]; exact ⟨e6, rfl, rfl⟩
  refine lv_aload_n hx hb dX10_rollNow_10 rfl (lv_at hl 0 rfl) ?_
  refine lv_aload_n hx hb dX10_rollNow_11 rfl (lv_at hl 0 rfl) ?_
  refine va_get (D := eD E) (ci := 10) (v := .int (vm_7 27 0)) (C := RX10) (T := TX10) (N := 79) hx hb hts in_X10 hown hK hP 0 rfl rfl 27 (by decide) lk1 (fun _ h9 => h9) rfl dX10_rollNow_12 ?_
  refine lv_iload_n hx hb dX10_rollNow_15 rfl (lv_at hl 1 rfl) ?_
  refine lv_aload_n hx hb dX10_rollNow_16 rfl (lv_at hl 0 rfl) ?_
  refine va_get (D := eD E) (ci := 10) (v := .int (vm_7 23 0)) (C := RX10) (T := TX10) (N := 79) hx hb hts in_X10 hown hK hP 0 rfl rfl 23 (by decide) lk0 (fun _ h9 => h9) rfl dX10_rollNow_17 ?_
  refine rd_V (As := [.int (vm_7 27 0), .int to, .int (vm_7 23 0)]) (rest := []) (C := RX10) (ci := 10) ⟨hx, hb, hml, hown, hts⟩ (c_X10_costOf l E A am vm_7 (vm_7 27 0) to (vm_7 23 0) hH (by omega) (by omega) (by omega) (by omega)) (cwV 3 hts gX10_rollNow_X10_costOf rfl rfl rfl (by decide +kernel) ⟨Nat.le_of_ble_eq_true rfl, Nat.le_of_ble_eq_true rfl⟩) (hE.kept hS.2.1) (hP.sub (ws' := mdL E am vm_7) [0, 1, 2, 3, 4, 5, 6, 7, 8, 9, 10, 11, 12, 13, 14, 15, 16, 17, 18, 19, 20, 21, 22, 23, 24, 25, 26, 27, 28, 29, 30, 31, 32, 33, 34, 35, 36, 37, 38, 39, 40, 41, 42, 43, 44, 45] rfl) rfl rfl rfl rfl hl.1 rfl (Nat.le_of_ble_eq_true rfl) dX10_rollNow_20 ⟨Nat.zero_le _, Nat.zero_le _⟩ (fun r20 h20 => ?_)
  have hc20 : r20 = mCost vm (vm 27 0) to (vm 23 0 + 1) := by rw [h20.1, mCost_fr hsp7, he7.1, he7.2.1]
  refine lv_istore_n (lv' := [(2, .int r20), (0, .ref (am 0)), (1, .int to)]) hx hb dX10_rollNow_23 rfl hl (by decide) rfl (fun ls hl => ?_)
  refine lv_aload_n hx hb dX10_rollNow_24 rfl (lv_at hl 1 rfl) ?_
  refine lv_aload_n hx hb dX10_rollNow_25 rfl (lv_at hl 1 rfl) ?_
  refine va_get (D := eD E) (ci := 10) (v := .int (vm_7 28 0)) (C := RX10) (T := TX10) (N := 79) hx hb hts in_X10 hown hK hP 0 rfl rfl 28 (by decide) lk2 (fun _ h9 => h9) rfl dX10_rollNow_26 ?_
  refine lv_iload_n hx hb dX10_rollNow_29 rfl (lv_at hl 0 rfl) ?_
  refine lv_iadd hx hb dX10_rollNow_30 ?_
  refine lv_topi (fun x30 e30 => ?_)
  refine rd_S (As := [.int x30]) (rest := [.ref (am 0)]) ⟨hx, hb, hml, hown, hts⟩ (c_X10_held l E A x30) (va_cwS 1 hts gX10_rollNow_X10_held rfl rfl rfl (by decide +kernel) ⟨Nat.le_of_ble_eq_true rfl, Nat.le_of_ble_eq_true rfl⟩) (hE.kept hS.2.1) (hP.sub (ws' := []) [] rfl) rfl hl.1 rfl (Nat.le_of_ble_eq_true rfl) dX10_rollNow_31 ⟨Nat.zero_le _, Nat.zero_le _⟩ (fun r31 h31 => ?_)
  have hf31 := h31.2
  replace h31 := h31.1
  refine va_put (D := eD E) (ci := 10) (v := .int r31) (ty := .int) (C := RX10) (T := TX10) (N := 79) hx hb hts in_X10 tyX10 tyX10_ok nmX10 hown hK hP hD hS 0 rfl rfl 28 (by decide) lk2 (fun _ h9 => h9) rfl (by decide +kernel) rfl rfl (Nat.le_of_ble_eq_true rfl) dX10_rollNow_34 (fun H locs hP hD hS => ?_)
  replace hP : va_P (eD E) vwCl (mdL E am (up2 vm_7 28 0 r31)) H := hP
  replace hD : va_D A (mdL E am (up2 vm_7 28 0 r31)) := hD
  generalize hv34 : up2 vm_7 28 0 r31 = vm_34 at hP hD
  have hFz : fr [23, 27, 28] vm vm_34 := by first | exact hFz | (rw [← hv34]; exact hFz.up (by decide))
  refine lv_aload_n hx hb dX10_rollNow_37 rfl (lv_at hl 1 rfl) ?_
  refine lv_iload_n hx hb dX10_rollNow_38 rfl (lv_at hl 2 rfl) ?_
  refine va_put (D := eD E) (ci := 10) (v := .int to) (ty := .int) (C := RX10) (T := TX10) (N := 79) hx hb hts in_X10 tyX10 tyX10_ok nmX10 hown hK hP hD hS 0 rfl rfl 27 (by decide) lk1 (fun _ h9 => h9) rfl (by decide +kernel) rfl rfl (Nat.le_of_ble_eq_true rfl) dX10_rollNow_39 (fun H locs hP hD hS => ?_)
  replace hP : va_P (eD E) vwCl (mdL E am (up2 vm_34 27 0 to)) H := hP
  replace hD : va_D A (mdL E am (up2 vm_34 27 0 to)) := hD
  generalize hv39 : up2 vm_34 27 0 to = vm_39 at hP hD
  have hFz : fr [23, 27, 28] vm vm_39 := by first | exact hFz | (rw [← hv39]; exact hFz.up (by decide))
  refine lv_iload_n hx hb dX10_rollNow_42 rfl (lv_at hl 0 rfl) ?_
  subst hQ
  exact W.iret (v := r20) hx hb hr (fun t ht hW => ⟨⟨r20, (vm_39), rfl, (show ((MdI vm_39 ∧ (vm_39 23 0).toInt = (vm 23 0).toInt + 1 ∧ vm_39 0 0 = vm 0 0 ∧ vm_39 1 0 = vm 1 0) ∧ fr [23, 27, 28] vm vm_39) ∧ (r20 = mCost vm (vm 27 0) to (vm 23 0 + 1) ∧ vm_39 23 0 = vm 23 0 + 1 ∧ vm_39 27 0 = to ∧ vm_39 28 0 = mHeld (vm 28 0 + r20)) from ⟨⟨⟨(by rw [← hv39, ← hv34]; exact md_cart hMI (by omega)), (by rw [← hv39, ← hv34]; exact hq7.trans (by omega)), (by rw [← hv39, ← hv34, ← hv7]; rfl), (by rw [← hv39, ← hv34, ← hv7]; rfl)⟩, hFz⟩, ⟨hc20, by rw [← hv39, ← hv34]; exact he7.1, by rw [← hv39]; rfl, by rw [← hv39, ← hv34]; show r31 = _; rw [hf31, e30, he7.2.2]⟩⟩), by rw [ht]; exact hP, hD⟩, hS.F ht⟩) hS.2.2 dX10_rollNow_43
def rm_X10_roll : Room := { frames := 6, cells := 0, slots := 0, locals := 138 }
set_option maxHeartbeats 4000000 in
set_option maxRecDepth 100000 in
theorem c_X10_roll (l : Launch) (E : Ev) (sz : Nat) (am : Nat → Nat) (vm : Vf) (way : Int32) (hMI : MdI vm) : Met l yX10_roll wsX10_roll rm_X10_roll (MtP E sz [.ref (am 0), .int way] (mdL E am vm)) (va_Qi (fun (r : Int32) (u : Vf) => ((MdI u) ∧ fr [23, 27, 28] vm u) ∧ (RolP vm way r (vm 23 0) (vm 27 0) (vm 28 0) (u 23 0) (u 27 0) (u 28 0))) (MtB E (va_A (mdL E am vm) sz) (fun u => mdL E am u)) (va_A (mdL E am vm) sz)) 0 0 (va_A (mdL E am vm) sz) := by
  refine Met.ofW (cc := cX10_roll) (maxL := 3) (ret := (some .int)) (by decide) rfl ?_
  intro p e s m args below meth c s₁ B hml hv
  obtain ⟨rfl, hsz, hE, hP, hD0⟩ := hv
  subst hsz
  have hD := hD0.self (sz := s.heap.size)
  generalize hAe : va_A (mdL E am vm) s.heap.size = A at hD hE ⊢
  have hA : ∀ q : Nat, s.heap.size ≤ q → A q := fun q h => by rw [← hAe]; exact Or.inr h
  have hS : va_S A s.heap s.heap [] := va_S.rf
  have hx := B.exec
  have hb := B.bytes
  have hr := B.returns
  have hts := atoms_spec (ws := wsX10_roll) B.pre
  have hown : s.vm.findClass RX10 = some m.cls := findClass_of_methodNamed B.named
  have hlocks := B.notSynchronized
  have hK := hE.1
  have in_X10 : ∀ w ∈ u_ws RX10 TX10 79, w ∈ wsX10_roll := fun w h => List.mem_cons_of_mem _ (List.mem_append_right _ h)
  have lk0 := hts (.constantLong RX10 361 4) (List.mem_of_getElem? (i := 1) rfl)
  have lk1 := hts (.fieldLink RX10 159 "TidedGroundModel" "wide" "I") (List.mem_of_getElem? (i := 3) rfl)
  have lk2 := hts (.fieldLink RX10 291 "TidedGroundModel" "step" "I") (List.mem_of_getElem? (i := 5) rfl)
  have lk3 := hts (.constant RX10 353 900000) (List.mem_of_getElem? (i := 7) rfl)
  have lk4 := hts (.constant RX10 179 (-1000000004)) (List.mem_of_getElem? (i := 8) rfl)
  have lk5 := hts (.constant RX10 366 (-1000000003)) (List.mem_of_getElem? (i := 6) rfl)
  have lk6 := hts (.fieldLink RX10 294 "TidedGroundModel" "cart" "I") (List.mem_of_getElem? (i := 4) rfl)
  have lk7 := hts (.constant RX10 175 (-1000000002)) (List.mem_of_getElem? (i := 2) rfl)
  have n_m1000000004 : ((-1000000004) : Int32).toInt = -1000000004 := by decide
  have n_m1000000003 : ((-1000000003) : Int32).toInt = -1000000003 := by decide
  have n_m1000000002 : ((-1000000002) : Int32).toInt = -1000000002 := by decide
  have n_m1 : ((-1) : Int32).toInt = -1 := by decide
  have n_0 : (0 : Int32).toInt = 0 := by decide
  have n_1 : (1 : Int32).toInt = 1 := by decide
  have n_900000 : (900000 : Int32).toInt = 900000 := by decide
  have hl := lv_entry ([.ref (am 0), .int way]) (n := 3) (Nat.le_of_ble_eq_true rfl)
  rw [lg_entry_eq]
  generalize (lg_sl ([.ref (am 0), .int way]) ++ List.replicate (3 - (lg_sl ([.ref (am 0), .int way])).length) Slot.unset).toArray = ls at hl ⊢
  have hl : lv_has ls 3 [(0, .ref (am 0)), (1, .int way)] := hl
  refine W_abs (fun Q hQ => ?_)
  have hH := hMI.1
  obtain ⟨hmG, hmC, hmZ, hmM, hmA, hmS, hmT⟩ := id hH
  obtain ⟨hG1, hG2, hG3⟩ := id hmG
  obtain ⟨hC1, hC2, hC3, hC4, hC5, hC6⟩ := id hmC
  obtain ⟨hM1, hM2, hM3, hM4⟩ := id hmM
  obtain ⟨hA1, hA2, hA3, hA4, hA5⟩ := id hmA
  obtain ⟨hS1, hS2, hS3, hS4, hS5, hS6⟩ := id hmS
  obtain ⟨hT1, hT2, hT3, hT4, hT5⟩ := id hmT
  have hFz : fr [23, 27, 28] vm vm := fr.rf
  refine lv_iload_n hx hb dX10_roll_0 rfl (lv_at hl 1 rfl) ?_
  refine lv_i2l hx hb dX10_roll_1 rfl ?_
  refine lv_lconst (v := 0) hx hb dX10_roll_2 (by decide) ?_
  refine lv_ldc2 hx hb hown lk0 dX10_roll_3 ?_
  have lt6_0 : (way.toInt64).toInt = way.toInt := Int32.toInt_toInt64 _
  have lt6_1 : (0 : Int64).toInt = 0 := by decide
  have lt6_2 : (4 : Int64).toInt = 4 := by decide
  refine rd_S (As := [.long way.toInt64, .long 0, .long 4]) (rest := []) ⟨hx, hb, hml, hown, hts⟩ (c_X10_in l E A way.toInt64 0 4) (va_cwS 3 hts gX10_roll_X10_in rfl rfl rfl (by decide +kernel) ⟨Nat.le_of_ble_eq_true rfl, Nat.le_of_ble_eq_true rfl⟩) (hE.kept hS.2.1) (hP.sub (ws' := []) [] rfl) rfl hl.1 rfl (Nat.le_of_ble_eq_true rfl) dX10_roll_6 ⟨Nat.zero_le _, Nat.zero_le _⟩ (fun r6 h6 => ?_)
  refine lv_if_ne (tgt := 15) hx hb dX10_roll_9 (by decide) (fun c9 => ?_) (fun c9 => ?_)
  · have c9_ := i_ne c9
    replace h6 := or_y h6 c9_
    clear c9_
    refine lv_aload_n hx hb dX10_roll_15 rfl (lv_at hl 0 rfl) ?_
    refine va_get (D := eD E) (ci := 10) (v := .int (vm 0 0)) (C := RX10) (T := TX10) (N := 79) hx hb hts in_X10 hown hK hP 0 rfl rfl 0 (by decide) lk1 (fun _ h9 => h9) rfl dX10_roll_16 ?_
    have K41 : ∀  (to : Int32) (H : Heap) (locs : List Loc) (ls : Array Slot), va_P (eD E) vwCl (mdL E am vm) H → va_D A (mdL E am vm) → va_S A s.heap H locs → (to.toInt = -1 ∨ ((0 ≤ to.toInt ∧ to.toInt ≤ 23) ∧ 1 ≤ (vm 0 0).toInt)) → (((vm 0 0).toInt = 0 ∧ to.toInt = -1) ∨ ((vm 0 0).toInt ≠ 0 ∧ to = mGo vm (vm 27 0) way (vm 23 0 + 1))) → lv_has ls 3 [(0, .ref (am 0)), (1, .int way)] → W p l e (headSpec wsX10_roll rm_X10_roll).room s m ([.ref (am 0), .int way] : List Value).toArray below meth c H locs 0 0 Q (F0 m 41 ls [.int to]) := by
      intro to H locs ls hP hD hS h41_0 h41_1 hl
      have hx41_0 := h41_1
      clear h41_1
      refine lv_istore_n (lv' := [(2, .int to), (0, .ref (am 0)), (1, .int way)]) hx hb dX10_roll_41 rfl hl (by decide) rfl (fun ls hl => ?_)
      refine lv_iload_n hx hb dX10_roll_42 rfl (lv_at hl 0 rfl) ?_
      refine lv_if_ge (tgt := 50) hx hb dX10_roll_43 (by decide) (fun c43 => ?_) (fun c43 => ?_)
      · have c43_ := i_le c43
        refine lv_aload_n hx hb dX10_roll_50 rfl (lv_at hl 1 rfl) ?_
        refine va_get (D := eD E) (ci := 10) (v := .int (vm 23 0)) (C := RX10) (T := TX10) (N := 79) hx hb hts in_X10 hown hK hP 0 rfl rfl 23 (by decide) lk2 (fun _ h9 => h9) rfl dX10_roll_51 ?_
        refine lv_ldcw hx hb hown lk3 dX10_roll_54 ?_
        refine lv_icmp_ne (tgt := 65) hx hb dX10_roll_57 (by decide) (fun c57 => ?_) (fun c57 => ?_)
        · have c57_ := i_ne c57
          refine lv_aload_n hx hb dX10_roll_65 rfl (lv_at hl 1 rfl) ?_
          refine lv_iload_n hx hb dX10_roll_66 rfl (lv_at hl 0 rfl) ?_
          refine mt_Vi (w1 := fun (u : Vf) => mdL E am u) (wf := fun (u : Vf) => mdL E am u) (wr := []) (As := [.int to]) (rest := []) (C := RX10) (ci := 10) ⟨hx, hb, hml, hown, hts⟩ (c_X10_rollNow l E H.size am vm to hMI (by omega) (by omega) (by omega)) (cwV 1 hts gX10_roll_X10_rollNow rfl rfl rfl (by decide +kernel) ⟨Nat.le_of_ble_eq_true rfl, Nat.le_of_ble_eq_true rfl⟩) hE hS hA hP hD [0, 1, 2, 3, 4, 5, 6, 7, 8, 9, 10, 11, 12, 13, 14, 15, 16, 17, 18, 19, 20, 21, 22, 23, 24, 25, 26, 27, 28, 29, 30, 31, 32, 33, 34, 35, 36, 37, 38, 39, 40, 41, 42, 43, 44, 45] [] rfl rfl (by decide) (by decide) (by decide) [0, 1, 2, 3, 4, 5, 6, 7, 8, 9, 10, 11, 12, 13, 14, 15, 16, 17, 18, 19, 20, 21, 22, 23, 24, 25, 26, 27, 28, 29, 30, 31, 32, 33, 34, 35, 36, 37, 38, 39, 40, 41, 42, 43, 44, 45] (by decide) (fun u => rfl) rfl rfl rfl rfl hl.1 rfl (Nat.le_of_ble_eq_true rfl) dX10_roll_67 ⟨Nat.zero_le _, Nat.zero_le _⟩ (fun r67 u67 H locs h67 hP hD hS => ?_)
          generalize u67 = o67_vm at hP hD h67
          try dsimp only at h67
          have hf67 := h67.2
          replace h67 := h67.1
          have hFn67 := h67.2
          replace h67 := h67.1
          replace hP : va_P (eD E) vwCl (mdL E am o67_vm) H := hP
          replace hD : va_D A (mdL E am o67_vm) := hD
          have hFz : fr [23, 27, 28] vm o67_vm := by first | exact hFz | exact hFz.tr hFn67 (by decide) | (rw [← hv67]; repeat' (first | exact hFz | refine fr.up ?_ (by decide) | refine fr.up3 ?_ (by decide)))
          subst hQ
          exact W.iret (v := r67) hx hb hr (fun t ht hW => ⟨⟨r67, (o67_vm), rfl, (show ((MdI o67_vm) ∧ fr [23, 27, 28] vm o67_vm) ∧ (RolP vm way r67 (vm 23 0) (vm 27 0) (vm 28 0) (o67_vm 23 0) (o67_vm 27 0) (o67_vm 28 0)) from ⟨⟨h67.1, hFz⟩, (by have q := hx41_0.resolve_left (fun z => by omega); exact Or.inr ⟨by omega, Or.inr ⟨⟨q.1, by rw [← q.2]; omega⟩, Or.inr ⟨by omega, by rw [← q.2]; exact hf67.1, hf67.2.1, by rw [← q.2]; exact hf67.2.2.1, hf67.2.2.2⟩⟩⟩)⟩), by rw [ht]; exact hP, hD⟩, hS.F ht⟩) hS.2.2 dX10_roll_70
        · have c57_ := i_eq c57
          refine lv_ldc hx hb hown lk4 dX10_roll_60 ?_
          refine lv_goto (tgt := 70) hx hb dX10_roll_62 (by decide) ?_
          subst hQ
          exact W.iret (v := (-1000000004)) hx hb hr (fun t ht hW => ⟨⟨(-1000000004), (vm), rfl, (show ((MdI vm) ∧ fr [23, 27, 28] vm vm) ∧ (RolP vm way ((-1000000004) : Int32) (vm 23 0) (vm 27 0) (vm 28 0) (vm 23 0) (vm 27 0) (vm 28 0)) from ⟨⟨hMI, hFz⟩, (by have q := hx41_0.resolve_left (fun z => by omega); exact Or.inr ⟨by omega, Or.inr ⟨⟨q.1, by rw [← q.2]; omega⟩, Or.inl ⟨by omega, by omega, rfl, rfl, rfl⟩⟩⟩)⟩), by rw [ht]; exact hP, hD⟩, hS.F ht⟩) hS.2.2 dX10_roll_70
      · have c43_ := i_nle c43
        refine lv_ldcw hx hb hown lk5 dX10_roll_46 ?_
        subst hQ
        exact W.iret (v := (-1000000003)) hx hb hr (fun t ht hW => ⟨⟨(-1000000003), (vm), rfl, (show ((MdI vm) ∧ fr [23, 27, 28] vm vm) ∧ (RolP vm way ((-1000000003) : Int32) (vm 23 0) (vm 27 0) (vm 28 0) (vm 23 0) (vm 27 0) (vm 28 0)) from ⟨⟨hMI, hFz⟩, (Or.inr ⟨by omega, Or.inl ⟨by omega, hx41_0.imp (fun q => q.1) (fun q => by rw [← q.2]; omega), rfl, rfl, rfl⟩⟩)⟩), by rw [ht]; exact hP, hD⟩, hS.F ht⟩) hS.2.2 dX10_roll_49
    refine lv_if_ne (tgt := 26) hx hb dX10_roll_19 (by decide) (fun c19 => ?_) (fun c19 => ?_)
    · have c19_ := i_ne c19
      refine lv_aload_n hx hb dX10_roll_26 rfl (lv_at hl 0 rfl) ?_
      refine lv_aload_n hx hb dX10_roll_27 rfl (lv_at hl 0 rfl) ?_
      refine va_get (D := eD E) (ci := 10) (v := .int (vm 27 0)) (C := RX10) (T := TX10) (N := 79) hx hb hts in_X10 hown hK hP 0 rfl rfl 27 (by decide) lk6 (fun _ h9 => h9) rfl dX10_roll_28 ?_
      refine lv_iload_n hx hb dX10_roll_31 rfl (lv_at hl 1 rfl) ?_
      refine lv_aload_n hx hb dX10_roll_32 rfl (lv_at hl 0 rfl) ?_
      refine va_get (D := eD E) (ci := 10) (v := .int (vm 23 0)) (C := RX10) (T := TX10) (N := 79) hx hb hts in_X10 hown hK hP 0 rfl rfl 23 (by decide) lk2 (fun _ h9 => h9) rfl dX10_roll_33 ?_
      refine lv_iconst (v := 1) hx hb dX10_roll_36 (by decide) ?_
      refine lv_iadd hx hb dX10_roll_37 ?_
      refine lv_topi (fun x37 e37 => ?_)
      have t37 := i_add e37 (by omega)
      refine rd_V (As := [.int (vm 27 0), .int way, .int x37]) (rest := []) (C := RX10) (ci := 10) ⟨hx, hb, hml, hown, hts⟩ (c_X10_goes l E A am vm (vm 27 0) way x37 hH (by omega) (by omega) (by omega)) (cwV 3 hts gX10_roll_X10_goes rfl rfl rfl (by decide +kernel) ⟨Nat.le_of_ble_eq_true rfl, Nat.le_of_ble_eq_true rfl⟩) (hE.kept hS.2.1) (hP.sub (ws' := mdL E am vm) [0, 1, 2, 3, 4, 5, 6, 7, 8, 9, 10, 11, 12, 13, 14, 15, 16, 17, 18, 19, 20, 21, 22, 23, 24, 25, 26, 27, 28, 29, 30, 31, 32, 33, 34, 35, 36, 37, 38, 39, 40, 41, 42, 43, 44, 45] rfl) rfl rfl rfl rfl hl.1 rfl (Nat.le_of_ble_eq_true rfl) dX10_roll_38 ⟨Nat.zero_le _, Nat.zero_le _⟩ (fun r38 h38 => ?_)
      exact K41 r38 _ _ ls hP hD hS (by omega) (by first | exact Or.inr ⟨by omega, by rw [h38.1, e37]⟩ | exact Or.inl ⟨by omega, by omega⟩) (lv_sub hl [0, 1] rfl)
    · have c19_ := i_eq c19
      refine lv_iconst (v := (-1)) hx hb dX10_roll_22 (by decide) ?_
      refine lv_goto (tgt := 41) hx hb dX10_roll_23 (by decide) ?_
      exact K41 (-1) _ _ ls hP hD hS (by omega) (by first | exact Or.inr ⟨by omega, by rw [h38.1, e37]⟩ | exact Or.inl ⟨by omega, by omega⟩) (lv_sub hl [0, 1] rfl)
  · have c9_ := i_eq c9
    replace h6 := or_n h6 c9_
    refine lv_ldc hx hb hown lk7 dX10_roll_12 ?_
    subst hQ
    exact W.iret (v := (-1000000002)) hx hb hr (fun t ht hW => ⟨⟨(-1000000002), (vm), rfl, (show ((MdI vm) ∧ fr [23, 27, 28] vm vm) ∧ (RolP vm way ((-1000000002) : Int32) (vm 23 0) (vm 27 0) (vm 28 0) (vm 23 0) (vm 27 0) (vm 28 0)) from ⟨⟨hMI, hFz⟩, (Or.inl ⟨by omega, by omega, rfl, rfl, rfl⟩)⟩), by rw [ht]; exact hP, hD⟩, hS.F ht⟩) hS.2.2 dX10_roll_14
def rm_X10_steep : Room := { frames := 1, cells := 0, slots := 0, locals := 25 }
set_option maxHeartbeats 4000000 in
set_option maxRecDepth 100000 in
theorem c_X10_steep (l : Launch) (E : Ev) (sz : Nat) (am : Nat → Nat) (vm : Vf) (x : Int32) (hMI : MdI vm) : Met l yX10_steep wsX10_steep rm_X10_steep (MtP E sz [.ref (am 0), .int x] (mdL E am vm)) (va_Qi (fun (r : Int32) (u : Vf) => ((MdI u) ∧ fr [29] vm u) ∧ (SetP x 0 99 (vm 29 0) r (u 29 0))) (MtB E (va_A (mdL E am vm) sz) (fun u => mdL E am u)) (va_A (mdL E am vm) sz)) 0 0 (va_A (mdL E am vm) sz) := by
  refine Met.ofW (cc := cX10_steep) (maxL := 3) (ret := (some .int)) (by decide) rfl ?_
  intro p e s m args below meth c s₁ B hml hv
  obtain ⟨rfl, hsz, hE, hP, hD0⟩ := hv
  subst hsz
  have hD := hD0.self (sz := s.heap.size)
  generalize hAe : va_A (mdL E am vm) s.heap.size = A at hD hE ⊢
  have hA : ∀ q : Nat, s.heap.size ≤ q → A q := fun q h => by rw [← hAe]; exact Or.inr h
  have hS : va_S A s.heap s.heap [] := va_S.rf
  have hx := B.exec
  have hb := B.bytes
  have hr := B.returns
  have hts := atoms_spec (ws := wsX10_steep) B.pre
  have hown : s.vm.findClass RX10 = some m.cls := findClass_of_methodNamed B.named
  have hlocks := B.notSynchronized
  have hK := hE.1
  have in_X10 : ∀ w ∈ u_ws RX10 TX10 79, w ∈ wsX10_steep := fun w h => List.mem_cons_of_mem _ (List.mem_append_right _ h)
  have lk0 := hts (.constantLong RX10 370 99) (List.mem_of_getElem? (i := 1) rfl)
  have lk1 := hts (.fieldLink RX10 68 "TidedGroundModel" "steep" "I") (List.mem_of_getElem? (i := 3) rfl)
  have lk2 := hts (.constant RX10 175 (-1000000002)) (List.mem_of_getElem? (i := 2) rfl)
  have n_m1000000002 : ((-1000000002) : Int32).toInt = -1000000002 := by decide
  have n_0 : (0 : Int32).toInt = 0 := by decide
  have hl := lv_entry ([.ref (am 0), .int x]) (n := 3) (Nat.le_of_ble_eq_true rfl)
  rw [lg_entry_eq]
  generalize (lg_sl ([.ref (am 0), .int x]) ++ List.replicate (3 - (lg_sl ([.ref (am 0), .int x])).length) Slot.unset).toArray = ls at hl ⊢
  have hl : lv_has ls 3 [(0, .ref (am 0)), (1, .int x)] := hl
  refine W_abs (fun Q hQ => ?_)
  have hH := hMI.1
  obtain ⟨hmG, hmC, hmZ, hmM, hmA, hmS, hmT⟩ := id hH
  obtain ⟨hG1, hG2, hG3⟩ := id hmG
  obtain ⟨hC1, hC2, hC3, hC4, hC5, hC6⟩ := id hmC
  obtain ⟨hM1, hM2, hM3, hM4⟩ := id hmM
  obtain ⟨hA1, hA2, hA3, hA4, hA5⟩ := id hmA
  obtain ⟨hS1, hS2, hS3, hS4, hS5, hS6⟩ := id hmS
  obtain ⟨hT1, hT2, hT3, hT4, hT5⟩ := id hmT
  have hFz : fr [29] vm vm := fr.rf
  refine lv_iload_n hx hb dX10_steep_0 rfl (lv_at hl 1 rfl) ?_
  refine lv_i2l hx hb dX10_steep_1 rfl ?_
  refine lv_lconst (v := 0) hx hb dX10_steep_2 (by decide) ?_
  refine lv_ldc2 hx hb hown lk0 dX10_steep_3 ?_
  have lt6_0 : (x.toInt64).toInt = x.toInt := Int32.toInt_toInt64 _
  have lt6_1 : (0 : Int64).toInt = 0 := by decide
  have lt6_2 : (99 : Int64).toInt = 99 := by decide
  refine rd_S (As := [.long x.toInt64, .long 0, .long 99]) (rest := []) ⟨hx, hb, hml, hown, hts⟩ (c_X10_in l E A x.toInt64 0 99) (va_cwS 3 hts gX10_steep_X10_in rfl rfl rfl (by decide +kernel) ⟨Nat.le_of_ble_eq_true rfl, Nat.le_of_ble_eq_true rfl⟩) (hE.kept hS.2.1) (hP.sub (ws' := []) [] rfl) rfl hl.1 rfl (Nat.le_of_ble_eq_true rfl) dX10_steep_6 ⟨Nat.zero_le _, Nat.zero_le _⟩ (fun r6 h6 => ?_)
  refine lv_if_ne (tgt := 15) hx hb dX10_steep_9 (by decide) (fun c9 => ?_) (fun c9 => ?_)
  · have c9_ := i_ne c9
    replace h6 := or_y h6 c9_
    clear c9_
    refine lv_aload_n hx hb dX10_steep_15 rfl (lv_at hl 0 rfl) ?_
    refine va_get (D := eD E) (ci := 10) (v := .int (vm 29 0)) (C := RX10) (T := TX10) (N := 79) hx hb hts in_X10 hown hK hP 0 rfl rfl 29 (by decide) lk1 (fun _ h9 => h9) rfl dX10_steep_16 ?_
    refine lv_istore_n (lv' := [(2, .int (vm 29 0)), (0, .ref (am 0)), (1, .int x)]) hx hb dX10_steep_19 rfl hl (by decide) rfl (fun ls hl => ?_)
    refine lv_aload_n hx hb dX10_steep_20 rfl (lv_at hl 1 rfl) ?_
    refine lv_iload_n hx hb dX10_steep_21 rfl (lv_at hl 2 rfl) ?_
    refine va_put (D := eD E) (ci := 10) (v := .int x) (ty := .int) (C := RX10) (T := TX10) (N := 79) hx hb hts in_X10 tyX10 tyX10_ok nmX10 hown hK hP hD hS 0 rfl rfl 29 (by decide) lk1 (fun _ h9 => h9) rfl (by decide +kernel) rfl rfl (Nat.le_of_ble_eq_true rfl) dX10_steep_22 (fun H locs hP hD hS => ?_)
    replace hP : va_P (eD E) vwCl (mdL E am (up2 vm 29 0 x)) H := hP
    replace hD : va_D A (mdL E am (up2 vm 29 0 x)) := hD
    generalize hv22 : up2 vm 29 0 x = vm_22 at hP hD
    have hFz : fr [29] vm vm_22 := by first | exact hFz | (rw [← hv22]; exact hFz.up (by decide))
    refine lv_iload_n hx hb dX10_steep_25 rfl (lv_at hl 0 rfl) ?_
    subst hQ
    exact W.iret (v := (vm 29 0)) hx hb hr (fun t ht hW => ⟨⟨(vm 29 0), (vm_22), rfl, (show ((MdI vm_22) ∧ fr [29] vm vm_22) ∧ (SetP x 0 99 (vm 29 0) (vm 29 0) (vm_22 29 0)) from ⟨⟨(by rw [← hv22]; exact md_steep hMI (by omega)), hFz⟩, (Or.inr ⟨by omega, rfl, by rw [← hv22]; rfl⟩)⟩), by rw [ht]; exact hP, hD⟩, hS.F ht⟩) hS.2.2 dX10_steep_26
  · have c9_ := i_eq c9
    replace h6 := or_n h6 c9_
    refine lv_ldc hx hb hown lk2 dX10_steep_12 ?_
    subst hQ
    exact W.iret (v := (-1000000002)) hx hb hr (fun t ht hW => ⟨⟨(-1000000002), (vm), rfl, (show ((MdI vm) ∧ fr [29] vm vm) ∧ (SetP x 0 99 (vm 29 0) ((-1000000002) : Int32) (vm 29 0)) from ⟨⟨hMI, hFz⟩, (Or.inl ⟨by omega, by omega, rfl⟩)⟩), by rw [ht]; exact hP, hD⟩, hS.F ht⟩) hS.2.2 dX10_steep_14
def rm_X10_load : Room := { frames := 2, cells := 0, slots := 0, locals := 47 }
set_option maxHeartbeats 4000000 in
set_option maxRecDepth 100000 in
theorem c_X10_load (l : Launch) (E : Ev) (sz : Nat) (am : Nat → Nat) (vm : Vf) (x : Int32) (y : Int32) (z : Int32) (hMI : MdI vm) : Met l yX10_load wsX10_load rm_X10_load (MtP E sz [.ref (am 0), .int x, .int y, .int z] (mdL E am vm)) (va_Qi (fun (r : Int32) (u : Vf) => ((MdI u) ∧ fr [25] vm u) ∧ (LoadP x y z (vm 0 0) (vm 1 0) (vm 25) r (u 25))) (MtB E (va_A (mdL E am vm) sz) (fun u => mdL E am u)) (va_A (mdL E am vm) sz)) 0 0 (va_A (mdL E am vm) sz) := by
  refine Met.ofW (cc := cX10_load) (maxL := 5) (ret := (some .int)) (by decide) rfl ?_
  intro p e s m args below meth c s₁ B hml hv
  obtain ⟨rfl, hsz, hE, hP, hD0⟩ := hv
  subst hsz
  have hD := hD0.self (sz := s.heap.size)
  generalize hAe : va_A (mdL E am vm) s.heap.size = A at hD hE ⊢
  have hA : ∀ q : Nat, s.heap.size ≤ q → A q := fun q h => by rw [← hAe]; exact Or.inr h
  have hS : va_S A s.heap s.heap [] := va_S.rf
  have hx := B.exec
  have hb := B.bytes
  have hr := B.returns
  have hts := atoms_spec (ws := wsX10_load) B.pre
  have hown : s.vm.findClass RX10 = some m.cls := findClass_of_methodNamed B.named
  have hlocks := B.notSynchronized
  have hK := hE.1
  have in_X10 : ∀ w ∈ u_ws RX10 TX10 79, w ∈ wsX10_load := fun w h => List.mem_cons_of_mem _ (List.mem_append_right _ h)
  have lk0 := hts (.constantLong RX10 372 90) (List.mem_of_getElem? (i := 2) rfl)
  have lk1 := hts (.fieldLink RX10 62 "TidedGroundModel" "load" "[I") (List.mem_of_getElem? (i := 4) rfl)
  have lk2 := hts (.fieldLink RX10 159 "TidedGroundModel" "wide" "I") (List.mem_of_getElem? (i := 5) rfl)
  have lk3 := hts (.constant RX10 175 (-1000000002)) (List.mem_of_getElem? (i := 3) rfl)
  have lk4 := hts (.constant RX10 329 (-1000000001)) (List.mem_of_getElem? (i := 1) rfl)
  have n_m1000000002 : ((-1000000002) : Int32).toInt = -1000000002 := by decide
  have n_m1000000001 : ((-1000000001) : Int32).toInt = -1000000001 := by decide
  have n_0 : (0 : Int32).toInt = 0 := by decide
  have hl := lv_entry ([.ref (am 0), .int x, .int y, .int z]) (n := 5) (Nat.le_of_ble_eq_true rfl)
  rw [lg_entry_eq]
  generalize (lg_sl ([.ref (am 0), .int x, .int y, .int z]) ++ List.replicate (5 - (lg_sl ([.ref (am 0), .int x, .int y, .int z])).length) Slot.unset).toArray = ls at hl ⊢
  have hl : lv_has ls 5 [(0, .ref (am 0)), (1, .int x), (2, .int y), (3, .int z)] := hl
  refine W_abs (fun Q hQ => ?_)
  have hH := hMI.1
  obtain ⟨hmG, hmC, hmZ, hmM, hmA, hmS, hmT⟩ := id hH
  obtain ⟨hG1, hG2, hG3⟩ := id hmG
  obtain ⟨hC1, hC2, hC3, hC4, hC5, hC6⟩ := id hmC
  obtain ⟨hM1, hM2, hM3, hM4⟩ := id hmM
  obtain ⟨hA1, hA2, hA3, hA4, hA5⟩ := id hmA
  obtain ⟨hS1, hS2, hS3, hS4, hS5, hS6⟩ := id hmS
  obtain ⟨hT1, hT2, hT3, hT4, hT5⟩ := id hmT
  have hFz : fr [25] vm vm := fr.rf
  refine lv_aload_n hx hb dX10_load_0 rfl (lv_at hl 0 rfl) ?_
  refine lv_iload_n hx hb dX10_load_1 rfl (lv_at hl 1 rfl) ?_
  refine lv_iload_n hx hb dX10_load_2 rfl (lv_at hl 2 rfl) ?_
  refine rd_V (As := [.int x, .int y]) (rest := []) (C := RX10) (ci := 10) ⟨hx, hb, hml, hown, hts⟩ (c_X10_isCell l E A am vm x y hH) (cwV 2 hts gX10_load_X10_isCell rfl rfl rfl (by decide +kernel) ⟨Nat.le_of_ble_eq_true rfl, Nat.le_of_ble_eq_true rfl⟩) (hE.kept hS.2.1) (hP.sub (ws' := mdL E am vm) [0, 1, 2, 3, 4, 5, 6, 7, 8, 9, 10, 11, 12, 13, 14, 15, 16, 17, 18, 19, 20, 21, 22, 23, 24, 25, 26, 27, 28, 29, 30, 31, 32, 33, 34, 35, 36, 37, 38, 39, 40, 41, 42, 43, 44, 45] rfl) rfl rfl rfl rfl hl.1 rfl (Nat.le_of_ble_eq_true rfl) dX10_load_3 ⟨Nat.zero_le _, Nat.zero_le _⟩ (fun r3 h3 => ?_)
  refine lv_if_ne (tgt := 13) hx hb dX10_load_6 (by decide) (fun c6 => ?_) (fun c6 => ?_)
  · have c6_ := i_ne c6
    replace h3 := or_y h3 c6_
    clear c6_
    have sv13_x : 0 ≤ x.toInt ∧ x.toInt ≤ 5 := by omega
    have sv13_y : 0 ≤ y.toInt ∧ y.toInt ≤ 5 := by omega
    have hcel : inG x y (vm 0 0) (vm 1 0) := (by unfold inG; omega)
    refine lv_iload_n hx hb dX10_load_13 rfl (lv_at hl 3 rfl) ?_
    refine lv_i2l hx hb dX10_load_14 rfl ?_
    refine lv_lconst (v := 0) hx hb dX10_load_15 (by decide) ?_
    refine lv_ldc2 hx hb hown lk0 dX10_load_16 ?_
    have lt19_0 : (z.toInt64).toInt = z.toInt := Int32.toInt_toInt64 _
    have lt19_1 : (0 : Int64).toInt = 0 := by decide
    have lt19_2 : (90 : Int64).toInt = 90 := by decide
    refine rd_S (As := [.long z.toInt64, .long 0, .long 90]) (rest := []) ⟨hx, hb, hml, hown, hts⟩ (c_X10_in l E A z.toInt64 0 90) (va_cwS 3 hts gX10_load_X10_in rfl rfl rfl (by decide +kernel) ⟨Nat.le_of_ble_eq_true rfl, Nat.le_of_ble_eq_true rfl⟩) (hE.kept hS.2.1) (hP.sub (ws' := []) [] rfl) rfl hl.1 rfl (Nat.le_of_ble_eq_true rfl) dX10_load_19 ⟨Nat.zero_le _, Nat.zero_le _⟩ (fun r19 h19 => ?_)
    refine lv_if_ne (tgt := 28) hx hb dX10_load_22 (by decide) (fun c22 => ?_) (fun c22 => ?_)
    · have c22_ := i_ne c22
      replace h19 := or_y h19 c22_
      clear c22_
      refine lv_aload_n hx hb dX10_load_28 rfl (lv_at hl 0 rfl) ?_
      refine va_get (D := eD E) (ci := 10) (v := .ref (am 25)) (C := RX10) (T := TX10) (N := 79) hx hb hts in_X10 hown hK hP 0 rfl rfl 25 (by decide) lk1 (fun _ h9 => h9) rfl dX10_load_29 ?_
      refine lv_aload_n hx hb dX10_load_32 rfl (lv_at hl 0 rfl) ?_
      refine va_get (D := eD E) (ci := 10) (v := .int (vm 0 0)) (C := RX10) (T := TX10) (N := 79) hx hb hts in_X10 hown hK hP 0 rfl rfl 0 (by decide) lk2 (fun _ h9 => h9) rfl dX10_load_33 ?_
      refine lv_iload_n hx hb dX10_load_36 rfl (lv_at hl 2 rfl) ?_
      refine lv_imul hx hb dX10_load_37 ?_
      refine lv_topi (fun x37 e37 => ?_)
      have qm37 := mcell_lt hG1 hG3 (x := x) (y := y) (by omega) (by omega) (by omega) (by omega)
      have t37 := i_mul e37 (by omega)
      refine lv_iload_n hx hb dX10_load_38 rfl (lv_at hl 1 rfl) ?_
      refine lv_iadd hx hb dX10_load_39 ?_
      refine lv_topi (fun x39 e39 => ?_)
      have t39 := i_add e39 (by omega)
      refine va_iald hx hb hK hP 17 0 rfl rfl (n := 24) (f := (vm 25)) (i_in (by omega) (by omega)) dX10_load_40 ?_
      refine lv_topi (fun x40 e40 => ?_)
      have b40 := hS3 x39.toNatClampNeg (i_natlt (by omega) (by decide))
      rw [← e40] at b40
      refine lv_istore (lv' := [(4, .int x40), (0, .ref (am 0)), (1, .int x), (2, .int y), (3, .int z)]) hx hb dX10_load_41 hl (by decide) rfl (fun ls hl => ?_)
      refine lv_aload_n hx hb dX10_load_43 rfl (lv_at hl 1 rfl) ?_
      refine va_get (D := eD E) (ci := 10) (v := .ref (am 25)) (C := RX10) (T := TX10) (N := 79) hx hb hts in_X10 hown hK hP 0 rfl rfl 25 (by decide) lk1 (fun _ h9 => h9) rfl dX10_load_44 ?_
      refine lv_aload_n hx hb dX10_load_47 rfl (lv_at hl 1 rfl) ?_
      refine va_get (D := eD E) (ci := 10) (v := .int (vm 0 0)) (C := RX10) (T := TX10) (N := 79) hx hb hts in_X10 hown hK hP 0 rfl rfl 0 (by decide) lk2 (fun _ h9 => h9) rfl dX10_load_48 ?_
      refine lv_iload_n hx hb dX10_load_51 rfl (lv_at hl 3 rfl) ?_
      refine lv_imul hx hb dX10_load_52 ?_
      refine lv_topi (fun x52 e52 => ?_)
      have qm52 := mcell_lt hG1 hG3 (x := x) (y := y) (by omega) (by omega) (by omega) (by omega)
      have t52 := i_mul e52 (by omega)
      refine lv_iload_n hx hb dX10_load_53 rfl (lv_at hl 2 rfl) ?_
      refine lv_iadd hx hb dX10_load_54 ?_
      refine lv_topi (fun x54 e54 => ?_)
      have t54 := i_add e54 (by omega)
      refine lv_iload_n hx hb dX10_load_55 rfl (lv_at hl 4 rfl) ?_
      refine va_iast hx hb hK hP hD hS 17 0 rfl rfl (n := 24) (f := (vm 25)) (i_in (by omega) (by omega)) dX10_load_56 (fun H locs hP hD hS => ?_)
      replace hP : va_P (eD E) vwCl (mdL E am (up2 vm 25 x54.toNatClampNeg z)) H := hP
      replace hD : va_D A (mdL E am (up2 vm 25 x54.toNatClampNeg z)) := hD
      generalize hv56 : up2 vm 25 x54.toNatClampNeg z = vm_56 at hP hD
      have hFz : fr [25] vm vm_56 := by first | exact hFz | (rw [← hv56]; exact hFz.up (by decide))
      refine lv_iload hx hb dX10_load_57 (lv_at hl 0 rfl) ?_
      subst hQ
      exact W.iret (v := x40) hx hb hr (fun t ht hW => ⟨⟨x40, (vm_56), rfl, (show ((MdI vm_56) ∧ fr [25] vm vm_56) ∧ (LoadP x y z (vm 0 0) (vm 1 0) (vm 25) x40 (vm_56 25)) from ⟨⟨(by rw [← hv56]; exact md_load hMI (by omega)), hFz⟩, (by have n1 : x39.toNatClampNeg = ((vm 0 0).toInt * y.toInt + x.toInt).toNat := (by show x39.toInt.toNat = _; rw [t39, t37]); have n2 : x54.toNatClampNeg = ((vm 0 0).toInt * y.toInt + x.toInt).toNat := (by show x54.toInt.toNat = _; rw [t54, t52]); exact Or.inr ⟨hcel, Or.inr ⟨by omega, by rw [← n1]; exact e40, by rw [← n2, ← hv56]; rfl⟩⟩)⟩), by rw [ht]; exact hP, hD⟩, hS.F ht⟩) hS.2.2 dX10_load_59
    · have c22_ := i_eq c22
      replace h19 := or_n h19 c22_
      refine lv_ldc hx hb hown lk3 dX10_load_25 ?_
      subst hQ
      exact W.iret (v := (-1000000002)) hx hb hr (fun t ht hW => ⟨⟨(-1000000002), (vm), rfl, (show ((MdI vm) ∧ fr [25] vm vm) ∧ (LoadP x y z (vm 0 0) (vm 1 0) (vm 25) ((-1000000002) : Int32) (vm 25)) from ⟨⟨hMI, hFz⟩, (Or.inr ⟨hcel, Or.inl ⟨by omega, by omega, rfl⟩⟩)⟩), by rw [ht]; exact hP, hD⟩, hS.F ht⟩) hS.2.2 dX10_load_27
  · have c6_ := i_eq c6
    replace h3 := or_n h3 c6_
    refine lv_ldcw hx hb hown lk4 dX10_load_9 ?_
    subst hQ
    exact W.iret (v := (-1000000001)) hx hb hr (fun t ht hW => ⟨⟨(-1000000001), (vm), rfl, (show ((MdI vm) ∧ fr [25] vm vm) ∧ (LoadP x y z (vm 0 0) (vm 1 0) (vm 25) ((-1000000001) : Int32) (vm 25)) from ⟨⟨hMI, hFz⟩, (Or.inl ⟨by omega, (by unfold inG; omega), rfl⟩)⟩), by rw [ht]; exact hP, hD⟩, hS.F ht⟩) hS.2.2 dX10_load_12
def rm_X10_prop : Room := { frames := 1, cells := 0, slots := 0, locals := 25 }
set_option maxHeartbeats 4000000 in
set_option maxRecDepth 100000 in
theorem c_X10_prop (l : Launch) (E : Ev) (sz : Nat) (am : Nat → Nat) (vm : Vf) (h : Int32) (z : Int32) (hMI : MdI vm) : Met l yX10_prop wsX10_prop rm_X10_prop (MtP E sz [.ref (am 0), .int h, .int z] (mdL E am vm)) (va_Qi (fun (r : Int32) (u : Vf) => ((MdI u) ∧ fr [26] vm u) ∧ (PropP h z (vm 9 0) (vm 26) r (u 26))) (MtB E (va_A (mdL E am vm) sz) (fun u => mdL E am u)) (va_A (mdL E am vm) sz)) 0 0 (va_A (mdL E am vm) sz) := by
  refine Met.ofW (cc := cX10_prop) (maxL := 4) (ret := (some .int)) (by decide) rfl ?_
  intro p e s m args below meth c s₁ B hml hv
  obtain ⟨rfl, hsz, hE, hP, hD0⟩ := hv
  subst hsz
  have hD := hD0.self (sz := s.heap.size)
  generalize hAe : va_A (mdL E am vm) s.heap.size = A at hD hE ⊢
  have hA : ∀ q : Nat, s.heap.size ≤ q → A q := fun q h => by rw [← hAe]; exact Or.inr h
  have hS : va_S A s.heap s.heap [] := va_S.rf
  have hx := B.exec
  have hb := B.bytes
  have hr := B.returns
  have hts := atoms_spec (ws := wsX10_prop) B.pre
  have hown : s.vm.findClass RX10 = some m.cls := findClass_of_methodNamed B.named
  have hlocks := B.notSynchronized
  have hK := hE.1
  have in_X10 : ∀ w ∈ u_ws RX10 TX10 79, w ∈ wsX10_prop := fun w h => List.mem_cons_of_mem _ (List.mem_append_right _ h)
  have lk0 := hts (.fieldLink RX10 270 "TidedGroundModel" "houses" "I") (List.mem_of_getElem? (i := 1) rfl)
  have lk1 := hts (.constantLong RX10 374 999) (List.mem_of_getElem? (i := 3) rfl)
  have lk2 := hts (.fieldLink RX10 65 "TidedGroundModel" "props" "[I") (List.mem_of_getElem? (i := 5) rfl)
  have lk3 := hts (.constant RX10 175 (-1000000002)) (List.mem_of_getElem? (i := 4) rfl)
  have lk4 := hts (.constant RX10 329 (-1000000001)) (List.mem_of_getElem? (i := 2) rfl)
  have n_m1000000002 : ((-1000000002) : Int32).toInt = -1000000002 := by decide
  have n_m1000000001 : ((-1000000001) : Int32).toInt = -1000000001 := by decide
  have n_0 : (0 : Int32).toInt = 0 := by decide
  have n_1 : (1 : Int32).toInt = 1 := by decide
  have hl := lv_entry ([.ref (am 0), .int h, .int z]) (n := 4) (Nat.le_of_ble_eq_true rfl)
  rw [lg_entry_eq]
  generalize (lg_sl ([.ref (am 0), .int h, .int z]) ++ List.replicate (4 - (lg_sl ([.ref (am 0), .int h, .int z])).length) Slot.unset).toArray = ls at hl ⊢
  have hl : lv_has ls 4 [(0, .ref (am 0)), (1, .int h), (2, .int z)] := hl
  refine W_abs (fun Q hQ => ?_)
  have hH := hMI.1
  obtain ⟨hmG, hmC, hmZ, hmM, hmA, hmS, hmT⟩ := id hH
  obtain ⟨hG1, hG2, hG3⟩ := id hmG
  obtain ⟨hC1, hC2, hC3, hC4, hC5, hC6⟩ := id hmC
  obtain ⟨hM1, hM2, hM3, hM4⟩ := id hmM
  obtain ⟨hA1, hA2, hA3, hA4, hA5⟩ := id hmA
  obtain ⟨hS1, hS2, hS3, hS4, hS5, hS6⟩ := id hmS
  obtain ⟨hT1, hT2, hT3, hT4, hT5⟩ := id hmT
  have hFz : fr [26] vm vm := fr.rf
  refine lv_iload_n hx hb dX10_prop_0 rfl (lv_at hl 1 rfl) ?_
  refine lv_i2l hx hb dX10_prop_1 rfl ?_
  refine lv_lconst (v := 0) hx hb dX10_prop_2 (by decide) ?_
  refine lv_aload_n hx hb dX10_prop_3 rfl (lv_at hl 0 rfl) ?_
  refine va_get (D := eD E) (ci := 10) (v := .int (vm 9 0)) (C := RX10) (T := TX10) (N := 79) hx hb hts in_X10 hown hK hP 0 rfl rfl 9 (by decide) lk0 (fun _ h9 => h9) rfl dX10_prop_4 ?_
  refine lv_iconst (v := 1) hx hb dX10_prop_7 (by decide) ?_
  refine lv_isub hx hb dX10_prop_8 ?_
  refine lv_topi (fun x8 e8 => ?_)
  have t8 := i_sub e8 (by omega)
  refine lv_i2l hx hb dX10_prop_9 rfl ?_
  have lt10_0 : (h.toInt64).toInt = h.toInt := Int32.toInt_toInt64 _
  have lt10_1 : (0 : Int64).toInt = 0 := by decide
  have lt10_2 : (x8.toInt64).toInt = x8.toInt := Int32.toInt_toInt64 _
  refine rd_S (As := [.long h.toInt64, .long 0, .long x8.toInt64]) (rest := []) ⟨hx, hb, hml, hown, hts⟩ (c_X10_in l E A h.toInt64 0 x8.toInt64) (va_cwS 3 hts gX10_prop_X10_in rfl rfl rfl (by decide +kernel) ⟨Nat.le_of_ble_eq_true rfl, Nat.le_of_ble_eq_true rfl⟩) (hE.kept hS.2.1) (hP.sub (ws' := []) [] rfl) rfl hl.1 rfl (Nat.le_of_ble_eq_true rfl) dX10_prop_10 ⟨Nat.zero_le _, Nat.zero_le _⟩ (fun r10 h10 => ?_)
  refine lv_if_ne (tgt := 20) hx hb dX10_prop_13 (by decide) (fun c13 => ?_) (fun c13 => ?_)
  · have c13_ := i_ne c13
    replace h10 := or_y h10 c13_
    clear c13_
    have sv20_h : 0 ≤ h.toInt ∧ h.toInt ≤ 5 := by omega
    refine lv_iload_n hx hb dX10_prop_20 rfl (lv_at hl 2 rfl) ?_
    refine lv_i2l hx hb dX10_prop_21 rfl ?_
    refine lv_lconst (v := 0) hx hb dX10_prop_22 (by decide) ?_
    refine lv_ldc2 hx hb hown lk1 dX10_prop_23 ?_
    have lt26_0 : (z.toInt64).toInt = z.toInt := Int32.toInt_toInt64 _
    have lt26_1 : (0 : Int64).toInt = 0 := by decide
    have lt26_2 : (999 : Int64).toInt = 999 := by decide
    refine rd_S (As := [.long z.toInt64, .long 0, .long 999]) (rest := []) ⟨hx, hb, hml, hown, hts⟩ (c_X10_in l E A z.toInt64 0 999) (va_cwS 3 hts gX10_prop_X10_in rfl rfl rfl (by decide +kernel) ⟨Nat.le_of_ble_eq_true rfl, Nat.le_of_ble_eq_true rfl⟩) (hE.kept hS.2.1) (hP.sub (ws' := []) [] rfl) rfl hl.1 rfl (Nat.le_of_ble_eq_true rfl) dX10_prop_26 ⟨Nat.zero_le _, Nat.zero_le _⟩ (fun r26 h26 => ?_)
    refine lv_if_ne (tgt := 35) hx hb dX10_prop_29 (by decide) (fun c29 => ?_) (fun c29 => ?_)
    · have c29_ := i_ne c29
      replace h26 := or_y h26 c29_
      clear c29_
      refine lv_aload_n hx hb dX10_prop_35 rfl (lv_at hl 0 rfl) ?_
      refine va_get (D := eD E) (ci := 10) (v := .ref (am 26)) (C := RX10) (T := TX10) (N := 79) hx hb hts in_X10 hown hK hP 0 rfl rfl 26 (by decide) lk2 (fun _ h9 => h9) rfl dX10_prop_36 ?_
      refine lv_iload_n hx hb dX10_prop_39 rfl (lv_at hl 1 rfl) ?_
      refine va_iald hx hb hK hP 18 0 rfl rfl (n := 6) (f := (vm 26)) (i_in (by omega) (by omega)) dX10_prop_40 ?_
      refine lv_topi (fun x40 e40 => ?_)
      refine lv_istore_n (lv' := [(3, .int x40), (0, .ref (am 0)), (1, .int h), (2, .int z)]) hx hb dX10_prop_41 rfl hl (by decide) rfl (fun ls hl => ?_)
      refine lv_aload_n hx hb dX10_prop_42 rfl (lv_at hl 1 rfl) ?_
      refine va_get (D := eD E) (ci := 10) (v := .ref (am 26)) (C := RX10) (T := TX10) (N := 79) hx hb hts in_X10 hown hK hP 0 rfl rfl 26 (by decide) lk2 (fun _ h9 => h9) rfl dX10_prop_43 ?_
      refine lv_iload_n hx hb dX10_prop_46 rfl (lv_at hl 2 rfl) ?_
      refine lv_iload_n hx hb dX10_prop_47 rfl (lv_at hl 3 rfl) ?_
      refine va_iast hx hb hK hP hD hS 18 0 rfl rfl (n := 6) (f := (vm 26)) (i_in (by omega) (by omega)) dX10_prop_48 (fun H locs hP hD hS => ?_)
      replace hP : va_P (eD E) vwCl (mdL E am (up2 vm 26 h.toNatClampNeg z)) H := hP
      replace hD : va_D A (mdL E am (up2 vm 26 h.toNatClampNeg z)) := hD
      generalize hv48 : up2 vm 26 h.toNatClampNeg z = vm_48 at hP hD
      have hFz : fr [26] vm vm_48 := by first | exact hFz | (rw [← hv48]; exact hFz.up (by decide))
      refine lv_iload_n hx hb dX10_prop_49 rfl (lv_at hl 0 rfl) ?_
      subst hQ
      exact W.iret (v := x40) hx hb hr (fun t ht hW => ⟨⟨x40, (vm_48), rfl, (show ((MdI vm_48) ∧ fr [26] vm vm_48) ∧ (PropP h z (vm 9 0) (vm 26) x40 (vm_48 26)) from ⟨⟨(by rw [← hv48]; exact hMI), hFz⟩, (Or.inr ⟨by omega, Or.inr ⟨by omega, e40, by rw [← hv48]; rfl⟩⟩)⟩), by rw [ht]; exact hP, hD⟩, hS.F ht⟩) hS.2.2 dX10_prop_50
    · have c29_ := i_eq c29
      replace h26 := or_n h26 c29_
      refine lv_ldc hx hb hown lk3 dX10_prop_32 ?_
      subst hQ
      exact W.iret (v := (-1000000002)) hx hb hr (fun t ht hW => ⟨⟨(-1000000002), (vm), rfl, (show ((MdI vm) ∧ fr [26] vm vm) ∧ (PropP h z (vm 9 0) (vm 26) ((-1000000002) : Int32) (vm 26)) from ⟨⟨hMI, hFz⟩, (Or.inr ⟨by omega, Or.inl ⟨by omega, by omega, rfl⟩⟩)⟩), by rw [ht]; exact hP, hD⟩, hS.F ht⟩) hS.2.2 dX10_prop_34
  · have c13_ := i_eq c13
    replace h10 := or_n h10 c13_
    refine lv_ldcw hx hb hown lk4 dX10_prop_16 ?_
    subst hQ
    exact W.iret (v := (-1000000001)) hx hb hr (fun t ht hW => ⟨⟨(-1000000001), (vm), rfl, (show ((MdI vm) ∧ fr [26] vm vm) ∧ (PropP h z (vm 9 0) (vm 26) ((-1000000001) : Int32) (vm 26)) from ⟨⟨hMI, hFz⟩, (Or.inl ⟨by omega, by omega, rfl⟩)⟩), by rw [ht]; exact hP, hD⟩, hS.F ht⟩) hS.2.2 dX10_prop_19
def rm_X10_shift : Room := { frames := 1, cells := 0, slots := 0, locals := 25 }
set_option maxHeartbeats 4000000 in
set_option maxRecDepth 100000 in
theorem c_X10_shift (l : Launch) (E : Ev) (sz : Nat) (am : Nat → Nat) (vm : Vf) (i : Int32) (z : Int32) (hMI : MdI vm) : Met l yX10_shift wsX10_shift rm_X10_shift (MtP E sz [.ref (am 0), .int i, .int z] (mdL E am vm)) (va_Qi (fun (r : Int32) (u : Vf) => ((MdI u) ∧ fr [24] vm u) ∧ (ShiftP i z (vm 4 0) (vm 5) (vm 24) r (u 24))) (MtB E (va_A (mdL E am vm) sz) (fun u => mdL E am u)) (va_A (mdL E am vm) sz)) 0 0 (va_A (mdL E am vm) sz) := by
  refine Met.ofW (cc := cX10_shift) (maxL := 4) (ret := (some .int)) (by decide) rfl ?_
  intro p e s m args below meth c s₁ B hml hv
  obtain ⟨rfl, hsz, hE, hP, hD0⟩ := hv
  subst hsz
  have hD := hD0.self (sz := s.heap.size)
  generalize hAe : va_A (mdL E am vm) s.heap.size = A at hD hE ⊢
  have hA : ∀ q : Nat, s.heap.size ≤ q → A q := fun q h => by rw [← hAe]; exact Or.inr h
  have hS : va_S A s.heap s.heap [] := va_S.rf
  have hx := B.exec
  have hb := B.bytes
  have hr := B.returns
  have hts := atoms_spec (ws := wsX10_shift) B.pre
  have hown : s.vm.findClass RX10 = some m.cls := findClass_of_methodNamed B.named
  have hlocks := B.notSynchronized
  have hK := hE.1
  have in_X10 : ∀ w ∈ u_ws RX10 TX10 79, w ∈ wsX10_shift := fun w h => List.mem_cons_of_mem _ (List.mem_append_right _ h)
  have lk0 := hts (.fieldLink RX10 267 "TidedGroundModel" "moons" "I") (List.mem_of_getElem? (i := 1) rfl)
  have lk1 := hts (.constantLong RX10 374 999) (List.mem_of_getElem? (i := 3) rfl)
  have lk2 := hts (.fieldLink RX10 59 "TidedGroundModel" "shift" "[I") (List.mem_of_getElem? (i := 5) rfl)
  have lk3 := hts (.fieldLink RX10 16 "TidedGroundModel" "many" "[I") (List.mem_of_getElem? (i := 6) rfl)
  have lk4 := hts (.constant RX10 175 (-1000000002)) (List.mem_of_getElem? (i := 4) rfl)
  have lk5 := hts (.constant RX10 329 (-1000000001)) (List.mem_of_getElem? (i := 2) rfl)
  have n_m1000000002 : ((-1000000002) : Int32).toInt = -1000000002 := by decide
  have n_m1000000001 : ((-1000000001) : Int32).toInt = -1000000001 := by decide
  have n_0 : (0 : Int32).toInt = 0 := by decide
  have n_1 : (1 : Int32).toInt = 1 := by decide
  have hl := lv_entry ([.ref (am 0), .int i, .int z]) (n := 4) (Nat.le_of_ble_eq_true rfl)
  rw [lg_entry_eq]
  generalize (lg_sl ([.ref (am 0), .int i, .int z]) ++ List.replicate (4 - (lg_sl ([.ref (am 0), .int i, .int z])).length) Slot.unset).toArray = ls at hl ⊢
  have hl : lv_has ls 4 [(0, .ref (am 0)), (1, .int i), (2, .int z)] := hl
  refine W_abs (fun Q hQ => ?_)
  have hH := hMI.1
  obtain ⟨hmG, hmC, hmZ, hmM, hmA, hmS, hmT⟩ := id hH
  obtain ⟨hG1, hG2, hG3⟩ := id hmG
  obtain ⟨hC1, hC2, hC3, hC4, hC5, hC6⟩ := id hmC
  obtain ⟨hM1, hM2, hM3, hM4⟩ := id hmM
  obtain ⟨hA1, hA2, hA3, hA4, hA5⟩ := id hmA
  obtain ⟨hS1, hS2, hS3, hS4, hS5, hS6⟩ := id hmS
  obtain ⟨hT1, hT2, hT3, hT4, hT5⟩ := id hmT
  have hFz : fr [24] vm vm := fr.rf
  refine lv_iload_n hx hb dX10_shift_0 rfl (lv_at hl 1 rfl) ?_
  refine lv_i2l hx hb dX10_shift_1 rfl ?_
  refine lv_lconst (v := 0) hx hb dX10_shift_2 (by decide) ?_
  refine lv_aload_n hx hb dX10_shift_3 rfl (lv_at hl 0 rfl) ?_
  refine va_get (D := eD E) (ci := 10) (v := .int (vm 4 0)) (C := RX10) (T := TX10) (N := 79) hx hb hts in_X10 hown hK hP 0 rfl rfl 4 (by decide) lk0 (fun _ h9 => h9) rfl dX10_shift_4 ?_
  refine lv_iconst (v := 1) hx hb dX10_shift_7 (by decide) ?_
  refine lv_isub hx hb dX10_shift_8 ?_
  refine lv_topi (fun x8 e8 => ?_)
  have t8 := i_sub e8 (by omega)
  refine lv_i2l hx hb dX10_shift_9 rfl ?_
  have lt10_0 : (i.toInt64).toInt = i.toInt := Int32.toInt_toInt64 _
  have lt10_1 : (0 : Int64).toInt = 0 := by decide
  have lt10_2 : (x8.toInt64).toInt = x8.toInt := Int32.toInt_toInt64 _
  refine rd_S (As := [.long i.toInt64, .long 0, .long x8.toInt64]) (rest := []) ⟨hx, hb, hml, hown, hts⟩ (c_X10_in l E A i.toInt64 0 x8.toInt64) (va_cwS 3 hts gX10_shift_X10_in rfl rfl rfl (by decide +kernel) ⟨Nat.le_of_ble_eq_true rfl, Nat.le_of_ble_eq_true rfl⟩) (hE.kept hS.2.1) (hP.sub (ws' := []) [] rfl) rfl hl.1 rfl (Nat.le_of_ble_eq_true rfl) dX10_shift_10 ⟨Nat.zero_le _, Nat.zero_le _⟩ (fun r10 h10 => ?_)
  refine lv_if_ne (tgt := 20) hx hb dX10_shift_13 (by decide) (fun c13 => ?_) (fun c13 => ?_)
  · have c13_ := i_ne c13
    replace h10 := or_y h10 c13_
    clear c13_
    have sv20_i : 0 ≤ i.toInt ∧ i.toInt ≤ 2 := by omega
    refine lv_iload_n hx hb dX10_shift_20 rfl (lv_at hl 2 rfl) ?_
    refine lv_i2l hx hb dX10_shift_21 rfl ?_
    refine lv_lconst (v := 0) hx hb dX10_shift_22 (by decide) ?_
    refine lv_ldc2 hx hb hown lk1 dX10_shift_23 ?_
    have lt26_0 : (z.toInt64).toInt = z.toInt := Int32.toInt_toInt64 _
    have lt26_1 : (0 : Int64).toInt = 0 := by decide
    have lt26_2 : (999 : Int64).toInt = 999 := by decide
    refine rd_S (As := [.long z.toInt64, .long 0, .long 999]) (rest := []) ⟨hx, hb, hml, hown, hts⟩ (c_X10_in l E A z.toInt64 0 999) (va_cwS 3 hts gX10_shift_X10_in rfl rfl rfl (by decide +kernel) ⟨Nat.le_of_ble_eq_true rfl, Nat.le_of_ble_eq_true rfl⟩) (hE.kept hS.2.1) (hP.sub (ws' := []) [] rfl) rfl hl.1 rfl (Nat.le_of_ble_eq_true rfl) dX10_shift_26 ⟨Nat.zero_le _, Nat.zero_le _⟩ (fun r26 h26 => ?_)
    refine lv_if_ne (tgt := 35) hx hb dX10_shift_29 (by decide) (fun c29 => ?_) (fun c29 => ?_)
    · have c29_ := i_ne c29
      replace h26 := or_y h26 c29_
      clear c29_
      have sv35_z : 0 ≤ z.toInt ∧ z.toInt ≤ 999 := by omega
      refine lv_aload_n hx hb dX10_shift_35 rfl (lv_at hl 0 rfl) ?_
      refine va_get (D := eD E) (ci := 10) (v := .ref (am 24)) (C := RX10) (T := TX10) (N := 79) hx hb hts in_X10 hown hK hP 0 rfl rfl 24 (by decide) lk2 (fun _ h9 => h9) rfl dX10_shift_36 ?_
      refine lv_iload_n hx hb dX10_shift_39 rfl (lv_at hl 1 rfl) ?_
      refine va_iald hx hb hK hP 16 0 rfl rfl (n := 3) (f := (vm 24)) (i_in (by omega) (by omega)) dX10_shift_40 ?_
      refine lv_topi (fun x40 e40 => ?_)
      have b40 := hS2 i.toNatClampNeg (i_natlt (by omega) (by decide))
      rw [← e40] at b40
      refine lv_istore_n (lv' := [(3, .int x40), (0, .ref (am 0)), (1, .int i), (2, .int z)]) hx hb dX10_shift_41 rfl hl (by decide) rfl (fun ls hl => ?_)
      refine lv_aload_n hx hb dX10_shift_42 rfl (lv_at hl 1 rfl) ?_
      refine va_get (D := eD E) (ci := 10) (v := .ref (am 24)) (C := RX10) (T := TX10) (N := 79) hx hb hts in_X10 hown hK hP 0 rfl rfl 24 (by decide) lk2 (fun _ h9 => h9) rfl dX10_shift_43 ?_
      refine lv_iload_n hx hb dX10_shift_46 rfl (lv_at hl 2 rfl) ?_
      refine lv_iload_n hx hb dX10_shift_47 rfl (lv_at hl 3 rfl) ?_
      refine lv_aload_n hx hb dX10_shift_48 rfl (lv_at hl 1 rfl) ?_
      refine va_get (D := eD E) (ci := 10) (v := .ref (am 5)) (C := RX10) (T := TX10) (N := 79) hx hb hts in_X10 hown hK hP 0 rfl rfl 5 (by decide) lk3 (fun _ h9 => h9) rfl dX10_shift_49 ?_
      refine lv_iload_n hx hb dX10_shift_52 rfl (lv_at hl 2 rfl) ?_
      have hmk := (hM2.resolve_left (by omega)) i.toNatClampNeg (i_natlt (by omega) (by decide))
      refine va_iald hx hb hK hP 3 0 rfl rfl (n := 3) (f := (vm 5)) (i_in (by omega) (by omega)) dX10_shift_53 ?_
      refine lv_topi (fun x53 e53 => ?_)
      have b53 := hM1 i.toNatClampNeg (i_natlt (by omega) (by decide))
      rw [← e53] at b53
      rw [← e53] at hmk
      have sv54_x53 : 1 ≤ x53.toInt ∧ x53.toInt ≤ 9 := by omega
      refine lv_irem hx hb dX10_shift_54 (i_ne0 (by omega)) ?_
      refine lv_topi (fun x54 e54 => ?_)
      have t54 := i_rem e54 (by omega) (by omega)
      refine va_iast hx hb hK hP hD hS 16 0 rfl rfl (n := 3) (f := (vm 24)) (i_in (by omega) (by omega)) dX10_shift_55 (fun H locs hP hD hS => ?_)
      replace hP : va_P (eD E) vwCl (mdL E am (up2 vm 24 i.toNatClampNeg x54)) H := hP
      replace hD : va_D A (mdL E am (up2 vm 24 i.toNatClampNeg x54)) := hD
      generalize hv55 : up2 vm 24 i.toNatClampNeg x54 = vm_55 at hP hD
      have hFz : fr [24] vm vm_55 := by first | exact hFz | (rw [← hv55]; exact hFz.up (by decide))
      refine lv_iload_n hx hb dX10_shift_56 rfl (lv_at hl 0 rfl) ?_
      subst hQ
      exact W.iret (v := x40) hx hb hr (fun t ht hW => ⟨⟨x40, (vm_55), rfl, (show ((MdI vm_55) ∧ fr [24] vm vm_55) ∧ (ShiftP i z (vm 4 0) (vm 5) (vm 24) x40 (vm_55 24)) from ⟨⟨(by rw [← hv55]; exact md_shift hMI (by omega)), hFz⟩, (Or.inr ⟨by omega, Or.inr ⟨by omega, e40, x54, (by rw [t54.1, e53]), by rw [← hv55]; rfl⟩⟩)⟩), by rw [ht]; exact hP, hD⟩, hS.F ht⟩) hS.2.2 dX10_shift_57
    · have c29_ := i_eq c29
      replace h26 := or_n h26 c29_
      refine lv_ldc hx hb hown lk4 dX10_shift_32 ?_
      subst hQ
      exact W.iret (v := (-1000000002)) hx hb hr (fun t ht hW => ⟨⟨(-1000000002), (vm), rfl, (show ((MdI vm) ∧ fr [24] vm vm) ∧ (ShiftP i z (vm 4 0) (vm 5) (vm 24) ((-1000000002) : Int32) (vm 24)) from ⟨⟨hMI, hFz⟩, (Or.inr ⟨by omega, Or.inl ⟨by omega, by omega, rfl⟩⟩)⟩), by rw [ht]; exact hP, hD⟩, hS.F ht⟩) hS.2.2 dX10_shift_34
  · have c13_ := i_eq c13
    replace h10 := or_n h10 c13_
    refine lv_ldcw hx hb hown lk5 dX10_shift_16 ?_
    subst hQ
    exact W.iret (v := (-1000000001)) hx hb hr (fun t ht hW => ⟨⟨(-1000000001), (vm), rfl, (show ((MdI vm) ∧ fr [24] vm vm) ∧ (ShiftP i z (vm 4 0) (vm 5) (vm 24) ((-1000000001) : Int32) (vm 24)) from ⟨⟨hMI, hFz⟩, (Or.inl ⟨by omega, by omega, rfl⟩)⟩), by rw [ht]; exact hP, hD⟩, hS.F ht⟩) hS.2.2 dX10_shift_19
def rm_X10_write : Room := { frames := 1, cells := 0, slots := 0, locals := 25 }
set_option maxHeartbeats 4000000 in
set_option maxRecDepth 100000 in
theorem c_X10_write (l : Launch) (E : Ev) (sz : Nat) (am : Nat → Nat) (vm : Vf) (way : Int32) (hMI : MdI vm) : Met l yX10_write wsX10_write rm_X10_write (MtP E sz [.ref (am 0), .int way] (mdL E am vm)) (va_Qi (fun (r : Int32) (u : Vf) => ((MdI u) ∧ fr [75, 76] vm u) ∧ ((CntP (0 ≤ way.toInt ∧ way.toInt ≤ 4) 30 (vm 75 0) r (u 75 0)) ∧ (RowP r (vm 75 0) (vm 76) (u 76) way))) (MtB E (va_A (mdL E am vm) sz) (fun u => mdL E am u)) (va_A (mdL E am vm) sz)) 0 0 (va_A (mdL E am vm) sz) := by
  refine Met.ofW (cc := cX10_write) (maxL := 2) (ret := (some .int)) (by decide) rfl ?_
  intro p e s m args below meth c s₁ B hml hv
  obtain ⟨rfl, hsz, hE, hP, hD0⟩ := hv
  subst hsz
  have hD := hD0.self (sz := s.heap.size)
  generalize hAe : va_A (mdL E am vm) s.heap.size = A at hD hE ⊢
  have hA : ∀ q : Nat, s.heap.size ≤ q → A q := fun q h => by rw [← hAe]; exact Or.inr h
  have hS : va_S A s.heap s.heap [] := va_S.rf
  have hx := B.exec
  have hb := B.bytes
  have hr := B.returns
  have hts := atoms_spec (ws := wsX10_write) B.pre
  have hown : s.vm.findClass RX10 = some m.cls := findClass_of_methodNamed B.named
  have hlocks := B.notSynchronized
  have hK := hE.1
  have in_X10 : ∀ w ∈ u_ws RX10 TX10 79, w ∈ wsX10_write := fun w h => List.mem_cons_of_mem _ (List.mem_append_right _ h)
  have lk0 := hts (.constantLong RX10 361 4) (List.mem_of_getElem? (i := 1) rfl)
  have lk1 := hts (.fieldLink RX10 303 "TidedGroundModel" "booked" "I") (List.mem_of_getElem? (i := 3) rfl)
  have lk2 := hts (.fieldLink RX10 149 "TidedGroundModel" "book" "[I") (List.mem_of_getElem? (i := 5) rfl)
  have lk3 := hts (.constant RX10 179 (-1000000004)) (List.mem_of_getElem? (i := 4) rfl)
  have lk4 := hts (.constant RX10 175 (-1000000002)) (List.mem_of_getElem? (i := 2) rfl)
  have n_m1000000004 : ((-1000000004) : Int32).toInt = -1000000004 := by decide
  have n_m1000000002 : ((-1000000002) : Int32).toInt = -1000000002 := by decide
  have n_0 : (0 : Int32).toInt = 0 := by decide
  have n_1 : (1 : Int32).toInt = 1 := by decide
  have n_30 : (30 : Int32).toInt = 30 := by decide
  have hl := lv_entry ([.ref (am 0), .int way]) (n := 2) (Nat.le_of_ble_eq_true rfl)
  rw [lg_entry_eq]
  generalize (lg_sl ([.ref (am 0), .int way]) ++ List.replicate (2 - (lg_sl ([.ref (am 0), .int way])).length) Slot.unset).toArray = ls at hl ⊢
  have hl : lv_has ls 2 [(0, .ref (am 0)), (1, .int way)] := hl
  refine W_abs (fun Q hQ => ?_)
  have hH := hMI.1
  obtain ⟨hmG, hmC, hmZ, hmM, hmA, hmS, hmT⟩ := id hH
  obtain ⟨hG1, hG2, hG3⟩ := id hmG
  obtain ⟨hC1, hC2, hC3, hC4, hC5, hC6⟩ := id hmC
  obtain ⟨hM1, hM2, hM3, hM4⟩ := id hmM
  obtain ⟨hA1, hA2, hA3, hA4, hA5⟩ := id hmA
  obtain ⟨hS1, hS2, hS3, hS4, hS5, hS6⟩ := id hmS
  obtain ⟨hT1, hT2, hT3, hT4, hT5⟩ := id hmT
  have hFz : fr [75, 76] vm vm := fr.rf
  refine lv_iload_n hx hb dX10_write_0 rfl (lv_at hl 1 rfl) ?_
  refine lv_i2l hx hb dX10_write_1 rfl ?_
  refine lv_lconst (v := 0) hx hb dX10_write_2 (by decide) ?_
  refine lv_ldc2 hx hb hown lk0 dX10_write_3 ?_
  have lt6_0 : (way.toInt64).toInt = way.toInt := Int32.toInt_toInt64 _
  have lt6_1 : (0 : Int64).toInt = 0 := by decide
  have lt6_2 : (4 : Int64).toInt = 4 := by decide
  refine rd_S (As := [.long way.toInt64, .long 0, .long 4]) (rest := []) ⟨hx, hb, hml, hown, hts⟩ (c_X10_in l E A way.toInt64 0 4) (va_cwS 3 hts gX10_write_X10_in rfl rfl rfl (by decide +kernel) ⟨Nat.le_of_ble_eq_true rfl, Nat.le_of_ble_eq_true rfl⟩) (hE.kept hS.2.1) (hP.sub (ws' := []) [] rfl) rfl hl.1 rfl (Nat.le_of_ble_eq_true rfl) dX10_write_6 ⟨Nat.zero_le _, Nat.zero_le _⟩ (fun r6 h6 => ?_)
  refine lv_if_ne (tgt := 15) hx hb dX10_write_9 (by decide) (fun c9 => ?_) (fun c9 => ?_)
  · have c9_ := i_ne c9
    replace h6 := or_y h6 c9_
    clear c9_
    refine lv_aload_n hx hb dX10_write_15 rfl (lv_at hl 0 rfl) ?_
    refine va_get (D := eD E) (ci := 10) (v := .int (vm 75 0)) (C := RX10) (T := TX10) (N := 79) hx hb hts in_X10 hown hK hP 0 rfl rfl 75 (by decide) lk1 (fun _ h9 => h9) rfl dX10_write_16 ?_
    refine lv_bipush (v := 30) hx hb dX10_write_19 (by decide) ?_
    refine lv_icmp_ne (tgt := 27) hx hb dX10_write_21 (by decide) (fun c21 => ?_) (fun c21 => ?_)
    · have c21_ := i_ne c21
      refine lv_aload_n hx hb dX10_write_27 rfl (lv_at hl 0 rfl) ?_
      refine va_get (D := eD E) (ci := 10) (v := .ref (am 76)) (C := RX10) (T := TX10) (N := 79) hx hb hts in_X10 hown hK hP 0 rfl rfl 76 (by decide) lk2 (fun _ h9 => h9) rfl dX10_write_28 ?_
      refine lv_aload_n hx hb dX10_write_31 rfl (lv_at hl 0 rfl) ?_
      refine va_get (D := eD E) (ci := 10) (v := .int (vm 75 0)) (C := RX10) (T := TX10) (N := 79) hx hb hts in_X10 hown hK hP 0 rfl rfl 75 (by decide) lk1 (fun _ h9 => h9) rfl dX10_write_32 ?_
      refine lv_iload_n hx hb dX10_write_35 rfl (lv_at hl 1 rfl) ?_
      refine va_iast hx hb hK hP hD hS 43 0 rfl rfl (n := 30) (f := (vm 76)) (i_in (by omega) (by omega)) dX10_write_36 (fun H locs hP hD hS => ?_)
      replace hP : va_P (eD E) vwCl (mdL E am (up2 vm 76 ((vm 75 0).toNatClampNeg) way)) H := hP
      replace hD : va_D A (mdL E am (up2 vm 76 ((vm 75 0).toNatClampNeg) way)) := hD
      generalize hv36 : up2 vm 76 ((vm 75 0).toNatClampNeg) way = vm_36 at hP hD
      have hFz : fr [75, 76] vm vm_36 := by first | exact hFz | (rw [← hv36]; exact hFz.up (by decide))
      have hq36 : vm_36 75 0 = vm 75 0 := by rw [← hv36]; rfl
      refine lv_aload_n hx hb dX10_write_37 rfl (lv_at hl 0 rfl) ?_
      refine lv_dup hx hb dX10_write_38 rfl ?_
      refine va_get (D := eD E) (ci := 10) (v := .int (vm_36 75 0)) (C := RX10) (T := TX10) (N := 79) hx hb hts in_X10 hown hK hP 0 rfl rfl 75 (by decide) lk1 (fun _ h9 => h9) rfl dX10_write_39 ?_
      refine lv_iconst (v := 1) hx hb dX10_write_42 (by decide) ?_
      refine lv_iadd hx hb dX10_write_43 ?_
      refine lv_topi (fun x43 e43 => ?_)
      have t43 := i_add e43 (by rw [hq36]; omega)
      rw [hq36] at t43
      refine va_put (D := eD E) (ci := 10) (v := .int x43) (ty := .int) (C := RX10) (T := TX10) (N := 79) hx hb hts in_X10 tyX10 tyX10_ok nmX10 hown hK hP hD hS 0 rfl rfl 75 (by decide) lk1 (fun _ h9 => h9) rfl (by decide +kernel) rfl rfl (Nat.le_of_ble_eq_true rfl) dX10_write_44 (fun H locs hP hD hS => ?_)
      replace hP : va_P (eD E) vwCl (mdL E am (up2 vm_36 75 0 x43)) H := hP
      replace hD : va_D A (mdL E am (up2 vm_36 75 0 x43)) := hD
      generalize hv44 : up2 vm_36 75 0 x43 = vm_44 at hP hD
      have hFz : fr [75, 76] vm vm_44 := by first | exact hFz | (rw [← hv44]; exact hFz.up (by decide))
      have hMn : MdI vm_44 := by rw [← hv44, ← hv36]; exact md_book hMI (by omega)
      have hq44b : vm_44 75 0 = x43 := by rw [← hv44]; rfl
      have hq36b : vm_36 75 0 = vm 75 0 := by rw [← hv36]; rfl
      have ti43 := i_add e43 (by rw [hq36b]; omega)
      rw [hq36b] at ti43
      refine lv_aload_n hx hb dX10_write_47 rfl (lv_at hl 0 rfl) ?_
      refine va_get (D := eD E) (ci := 10) (v := .int (vm_44 75 0)) (C := RX10) (T := TX10) (N := 79) hx hb hts in_X10 hown hK hP 0 rfl rfl 75 (by decide) lk1 (fun _ h9 => h9) rfl dX10_write_48 ?_
      subst hQ
      exact W.iret (v := (vm_44 75 0)) hx hb hr (fun t ht hW => ⟨⟨(vm_44 75 0), (vm_44), rfl, (show ((MdI vm_44) ∧ fr [75, 76] vm vm_44) ∧ ((CntP (0 ≤ way.toInt ∧ way.toInt ≤ 4) 30 (vm 75 0) (vm_44 75 0) (vm_44 75 0)) ∧ (RowP (vm_44 75 0) (vm 75 0) (vm 76) (vm_44 76) way)) from ⟨⟨hMn, hFz⟩, ⟨(Or.inr ⟨by omega, Or.inr ⟨by omega, by rw [hq44b]; omega, by rw [hq44b]; omega⟩⟩), (Or.inr ⟨by rw [hq44b]; omega, by rw [← hv44, ← hv36]; rfl⟩)⟩⟩), by rw [ht]; exact hP, hD⟩, hS.F ht⟩) hS.2.2 dX10_write_51
    · have c21_ := i_eq c21
      refine lv_ldc hx hb hown lk3 dX10_write_24 ?_
      subst hQ
      exact W.iret (v := (-1000000004)) hx hb hr (fun t ht hW => ⟨⟨(-1000000004), (vm), rfl, (show ((MdI vm) ∧ fr [75, 76] vm vm) ∧ ((CntP (0 ≤ way.toInt ∧ way.toInt ≤ 4) 30 (vm 75 0) ((-1000000004) : Int32) (vm 75 0)) ∧ (RowP ((-1000000004) : Int32) (vm 75 0) (vm 76) (vm 76) way)) from ⟨⟨hMI, hFz⟩, ⟨(Or.inr ⟨by omega, Or.inl ⟨by omega, by omega, rfl⟩⟩), (Or.inl ⟨by omega, rfl⟩)⟩⟩), by rw [ht]; exact hP, hD⟩, hS.F ht⟩) hS.2.2 dX10_write_26
  · have c9_ := i_eq c9
    replace h6 := or_n h6 c9_
    refine lv_ldc hx hb hown lk4 dX10_write_12 ?_
    subst hQ
    exact W.iret (v := (-1000000002)) hx hb hr (fun t ht hW => ⟨⟨(-1000000002), (vm), rfl, (show ((MdI vm) ∧ fr [75, 76] vm vm) ∧ ((CntP (0 ≤ way.toInt ∧ way.toInt ≤ 4) 30 (vm 75 0) ((-1000000002) : Int32) (vm 75 0)) ∧ (RowP ((-1000000002) : Int32) (vm 75 0) (vm 76) (vm 76) way)) from ⟨⟨hMI, hFz⟩, ⟨(Or.inl ⟨by omega, by omega, rfl⟩), (Or.inl ⟨by omega, rfl⟩)⟩⟩), by rw [ht]; exact hP, hD⟩, hS.F ht⟩) hS.2.2 dX10_write_14
def rm_X10_tear : Room := { frames := 0, cells := 0, slots := 0, locals := 0 }
set_option maxHeartbeats 4000000 in
set_option maxRecDepth 100000 in
theorem c_X10_tear (l : Launch) (E : Ev) (sz : Nat) (am : Nat → Nat) (vm : Vf) (hMI : MdI vm) : Met l yX10_tear wsX10_tear rm_X10_tear (MtP E sz [.ref (am 0)] (mdL E am vm)) (va_Qi (fun (r : Int32) (u : Vf) => ((MdI u) ∧ fr [67, 75] vm u) ∧ (TearP (vm 75 0) (vm 67 0) r (u 75 0) (u 67 0))) (MtB E (va_A (mdL E am vm) sz) (fun u => mdL E am u)) (va_A (mdL E am vm) sz)) 0 0 (va_A (mdL E am vm) sz) := by
  refine Met.ofW (cc := cX10_tear) (maxL := 2) (ret := (some .int)) (by decide) rfl ?_
  intro p e s m args below meth c s₁ B hml hv
  obtain ⟨rfl, hsz, hE, hP, hD0⟩ := hv
  subst hsz
  have hD := hD0.self (sz := s.heap.size)
  generalize hAe : va_A (mdL E am vm) s.heap.size = A at hD hE ⊢
  have hA : ∀ q : Nat, s.heap.size ≤ q → A q := fun q h => by rw [← hAe]; exact Or.inr h
  have hS : va_S A s.heap s.heap [] := va_S.rf
  have hx := B.exec
  have hb := B.bytes
  have hr := B.returns
  have hts := atoms_spec (ws := wsX10_tear) B.pre
  have hown : s.vm.findClass RX10 = some m.cls := findClass_of_methodNamed B.named
  have hlocks := B.notSynchronized
  have hK := hE.1
  have in_X10 : ∀ w ∈ u_ws RX10 TX10 79, w ∈ wsX10_tear := fun w h => List.mem_cons_of_mem _ (List.mem_append_right _ h)
  have lk0 := hts (.fieldLink RX10 303 "TidedGroundModel" "booked" "I") (List.mem_of_getElem? (i := 1) rfl)
  have lk1 := hts (.fieldLink RX10 300 "TidedGroundModel" "sights" "I") (List.mem_of_getElem? (i := 2) rfl)
  have n_0 : (0 : Int32).toInt = 0 := by decide
  have hl := lv_entry ([.ref (am 0)]) (n := 2) (Nat.le_of_ble_eq_true rfl)
  rw [lg_entry_eq]
  generalize (lg_sl ([.ref (am 0)]) ++ List.replicate (2 - (lg_sl ([.ref (am 0)])).length) Slot.unset).toArray = ls at hl ⊢
  have hl : lv_has ls 2 [(0, .ref (am 0))] := hl
  refine W_abs (fun Q hQ => ?_)
  have hH := hMI.1
  obtain ⟨hmG, hmC, hmZ, hmM, hmA, hmS, hmT⟩ := id hH
  obtain ⟨hG1, hG2, hG3⟩ := id hmG
  obtain ⟨hC1, hC2, hC3, hC4, hC5, hC6⟩ := id hmC
  obtain ⟨hM1, hM2, hM3, hM4⟩ := id hmM
  obtain ⟨hA1, hA2, hA3, hA4, hA5⟩ := id hmA
  obtain ⟨hS1, hS2, hS3, hS4, hS5, hS6⟩ := id hmS
  obtain ⟨hT1, hT2, hT3, hT4, hT5⟩ := id hmT
  have hFz : fr [67, 75] vm vm := fr.rf
  refine lv_aload_n hx hb dX10_tear_0 rfl (lv_at hl 0 rfl) ?_
  refine va_get (D := eD E) (ci := 10) (v := .int (vm 75 0)) (C := RX10) (T := TX10) (N := 79) hx hb hts in_X10 hown hK hP 0 rfl rfl 75 (by decide) lk0 (fun _ h9 => h9) rfl dX10_tear_1 ?_
  refine lv_aload_n hx hb dX10_tear_4 rfl (lv_at hl 0 rfl) ?_
  refine va_get (D := eD E) (ci := 10) (v := .int (vm 67 0)) (C := RX10) (T := TX10) (N := 79) hx hb hts in_X10 hown hK hP 0 rfl rfl 67 (by decide) lk1 (fun _ h9 => h9) rfl dX10_tear_5 ?_
  refine lv_iadd hx hb dX10_tear_8 ?_
  refine lv_topi (fun x8 e8 => ?_)
  have t8 := i_add e8 (by omega)
  have ti8 := i_add e8 (by omega)
  refine lv_istore_n (lv' := [(1, .int x8), (0, .ref (am 0))]) hx hb dX10_tear_9 rfl hl (by decide) rfl (fun ls hl => ?_)
  refine lv_aload_n hx hb dX10_tear_10 rfl (lv_at hl 1 rfl) ?_
  refine lv_iconst (v := 0) hx hb dX10_tear_11 (by decide) ?_
  refine va_put (D := eD E) (ci := 10) (v := .int 0) (ty := .int) (C := RX10) (T := TX10) (N := 79) hx hb hts in_X10 tyX10 tyX10_ok nmX10 hown hK hP hD hS 0 rfl rfl 75 (by decide) lk0 (fun _ h9 => h9) rfl (by decide +kernel) rfl rfl (Nat.le_of_ble_eq_true rfl) dX10_tear_12 (fun H locs hP hD hS => ?_)
  replace hP : va_P (eD E) vwCl (mdL E am (up2 vm 75 0 0)) H := hP
  replace hD : va_D A (mdL E am (up2 vm 75 0 0)) := hD
  generalize hv12 : up2 vm 75 0 0 = vm_12 at hP hD
  have hFz : fr [67, 75] vm vm_12 := by first | exact hFz | (rw [← hv12]; exact hFz.up (by decide))
  refine lv_aload_n hx hb dX10_tear_15 rfl (lv_at hl 1 rfl) ?_
  refine lv_iconst (v := 0) hx hb dX10_tear_16 (by decide) ?_
  refine va_put (D := eD E) (ci := 10) (v := .int 0) (ty := .int) (C := RX10) (T := TX10) (N := 79) hx hb hts in_X10 tyX10 tyX10_ok nmX10 hown hK hP hD hS 0 rfl rfl 67 (by decide) lk1 (fun _ h9 => h9) rfl (by decide +kernel) rfl rfl (Nat.le_of_ble_eq_true rfl) dX10_tear_17 (fun H locs hP hD hS => ?_)
  replace hP : va_P (eD E) vwCl (mdL E am (up2 vm_12 67 0 0)) H := hP
  replace hD : va_D A (mdL E am (up2 vm_12 67 0 0)) := hD
  generalize hv17 : up2 vm_12 67 0 0 = vm_17 at hP hD
  have hFz : fr [67, 75] vm vm_17 := by first | exact hFz | (rw [← hv17]; exact hFz.up (by decide))
  refine lv_iload_n hx hb dX10_tear_20 rfl (lv_at hl 0 rfl) ?_
  subst hQ
  exact W.iret (v := x8) hx hb hr (fun t ht hW => ⟨⟨x8, (vm_17), rfl, (show ((MdI vm_17) ∧ fr [67, 75] vm vm_17) ∧ (TearP (vm 75 0) (vm 67 0) x8 (vm_17 75 0) (vm_17 67 0)) from ⟨⟨(by rw [← hv17, ← hv12]; exact md_tear hMI), hFz⟩, ⟨ti8, (by rw [← hv17, ← hv12]; rfl), (by rw [← hv17]; rfl)⟩⟩), by rw [ht]; exact hP, hD⟩, hS.F ht⟩) hS.2.2 dX10_tear_21
def rm_X10_seed : Room := { frames := 0, cells := 0, slots := 0, locals := 0 }
set_option maxHeartbeats 4000000 in
set_option maxRecDepth 100000 in
theorem c_X10_seed (l : Launch) (E : Ev) (sz : Nat) (am : Nat → Nat) (vm : Vf) (x : Int32) (hMI : MdI vm) : Met l yX10_seed wsX10_seed rm_X10_seed (MtP E sz [.ref (am 0), .int x] (mdL E am vm)) (va_Qi (fun (r : Int32) (u : Vf) => ((MdI u) ∧ fr [30] vm u) ∧ (SetP x 0 2147483647 (vm 30 0) r (u 30 0))) (MtB E (va_A (mdL E am vm) sz) (fun u => mdL E am u)) (va_A (mdL E am vm) sz)) 0 0 (va_A (mdL E am vm) sz) := by
  refine Met.ofW (cc := cX10_seed) (maxL := 3) (ret := (some .int)) (by decide) rfl ?_
  intro p e s m args below meth c s₁ B hml hv
  obtain ⟨rfl, hsz, hE, hP, hD0⟩ := hv
  subst hsz
  have hD := hD0.self (sz := s.heap.size)
  generalize hAe : va_A (mdL E am vm) s.heap.size = A at hD hE ⊢
  have hA : ∀ q : Nat, s.heap.size ≤ q → A q := fun q h => by rw [← hAe]; exact Or.inr h
  have hS : va_S A s.heap s.heap [] := va_S.rf
  have hx := B.exec
  have hb := B.bytes
  have hr := B.returns
  have hts := atoms_spec (ws := wsX10_seed) B.pre
  have hown : s.vm.findClass RX10 = some m.cls := findClass_of_methodNamed B.named
  have hlocks := B.notSynchronized
  have hK := hE.1
  have in_X10 : ∀ w ∈ u_ws RX10 TX10 79, w ∈ wsX10_seed := fun w h => List.mem_cons_of_mem _ (List.mem_append_right _ h)
  have lk0 := hts (.fieldLink RX10 376 "TidedGroundModel" "seed" "I") (List.mem_of_getElem? (i := 2) rfl)
  have lk1 := hts (.constant RX10 175 (-1000000002)) (List.mem_of_getElem? (i := 1) rfl)
  have n_m1000000002 : ((-1000000002) : Int32).toInt = -1000000002 := by decide
  have n_0 : (0 : Int32).toInt = 0 := by decide
  have hl := lv_entry ([.ref (am 0), .int x]) (n := 3) (Nat.le_of_ble_eq_true rfl)
  rw [lg_entry_eq]
  generalize (lg_sl ([.ref (am 0), .int x]) ++ List.replicate (3 - (lg_sl ([.ref (am 0), .int x])).length) Slot.unset).toArray = ls at hl ⊢
  have hl : lv_has ls 3 [(0, .ref (am 0)), (1, .int x)] := hl
  refine W_abs (fun Q hQ => ?_)
  have hH := hMI.1
  obtain ⟨hmG, hmC, hmZ, hmM, hmA, hmS, hmT⟩ := id hH
  obtain ⟨hG1, hG2, hG3⟩ := id hmG
  obtain ⟨hC1, hC2, hC3, hC4, hC5, hC6⟩ := id hmC
  obtain ⟨hM1, hM2, hM3, hM4⟩ := id hmM
  obtain ⟨hA1, hA2, hA3, hA4, hA5⟩ := id hmA
  obtain ⟨hS1, hS2, hS3, hS4, hS5, hS6⟩ := id hmS
  obtain ⟨hT1, hT2, hT3, hT4, hT5⟩ := id hmT
  have hxr := i_rng x
  have hFz : fr [30] vm vm := fr.rf
  refine lv_iload_n hx hb dX10_seed_0 rfl (lv_at hl 1 rfl) ?_
  refine lv_if_ge (tgt := 7) hx hb dX10_seed_1 (by decide) (fun c1 => ?_) (fun c1 => ?_)
  · have c1_ := i_le c1
    refine lv_aload_n hx hb dX10_seed_7 rfl (lv_at hl 0 rfl) ?_
    refine va_get (D := eD E) (ci := 10) (v := .int (vm 30 0)) (C := RX10) (T := TX10) (N := 79) hx hb hts in_X10 hown hK hP 0 rfl rfl 30 (by decide) lk0 (fun _ h9 => h9) rfl dX10_seed_8 ?_
    refine lv_istore_n (lv' := [(2, .int (vm 30 0)), (0, .ref (am 0)), (1, .int x)]) hx hb dX10_seed_11 rfl hl (by decide) rfl (fun ls hl => ?_)
    refine lv_aload_n hx hb dX10_seed_12 rfl (lv_at hl 1 rfl) ?_
    refine lv_iload_n hx hb dX10_seed_13 rfl (lv_at hl 2 rfl) ?_
    refine va_put (D := eD E) (ci := 10) (v := .int x) (ty := .int) (C := RX10) (T := TX10) (N := 79) hx hb hts in_X10 tyX10 tyX10_ok nmX10 hown hK hP hD hS 0 rfl rfl 30 (by decide) lk0 (fun _ h9 => h9) rfl (by decide +kernel) rfl rfl (Nat.le_of_ble_eq_true rfl) dX10_seed_14 (fun H locs hP hD hS => ?_)
    replace hP : va_P (eD E) vwCl (mdL E am (up2 vm 30 0 x)) H := hP
    replace hD : va_D A (mdL E am (up2 vm 30 0 x)) := hD
    generalize hv14 : up2 vm 30 0 x = vm_14 at hP hD
    have hFz : fr [30] vm vm_14 := by first | exact hFz | (rw [← hv14]; exact hFz.up (by decide))
    refine lv_iload_n hx hb dX10_seed_17 rfl (lv_at hl 0 rfl) ?_
    subst hQ
    exact W.iret (v := (vm 30 0)) hx hb hr (fun t ht hW => ⟨⟨(vm 30 0), (vm_14), rfl, (show ((MdI vm_14) ∧ fr [30] vm vm_14) ∧ (SetP x 0 2147483647 (vm 30 0) (vm 30 0) (vm_14 30 0)) from ⟨⟨(by rw [← hv14]; exact md_seed hMI (by omega)), hFz⟩, (Or.inr ⟨by omega, rfl, by rw [← hv14]; rfl⟩)⟩), by rw [ht]; exact hP, hD⟩, hS.F ht⟩) hS.2.2 dX10_seed_18
  · have c1_ := i_nle c1
    refine lv_ldc hx hb hown lk1 dX10_seed_4 ?_
    subst hQ
    exact W.iret (v := (-1000000002)) hx hb hr (fun t ht hW => ⟨⟨(-1000000002), (vm), rfl, (show ((MdI vm) ∧ fr [30] vm vm) ∧ (SetP x 0 2147483647 (vm 30 0) ((-1000000002) : Int32) (vm 30 0)) from ⟨⟨hMI, hFz⟩, (Or.inl ⟨by omega, by omega, rfl⟩)⟩), by rw [ht]; exact hP, hD⟩, hS.F ht⟩) hS.2.2 dX10_seed_6
def rm_X10_see : Room := { frames := 2, cells := 0, slots := 0, locals := 47 }
set_option maxHeartbeats 4000000 in
set_option maxRecDepth 100000 in
theorem c_X10_see (l : Launch) (E : Ev) (sz : Nat) (am : Nat → Nat) (vm : Vf) (x : Int32) (y : Int32) (step : Int32) (z : Int32) (hMI : MdI vm) : Met l yX10_see wsX10_see rm_X10_see (MtP E sz [.ref (am 0), .int x, .int y, .int step, .int z] (mdL E am vm)) (va_Qi (fun (r : Int32) (u : Vf) => ((MdI u) ∧ fr [67, 68, 69, 70] vm u) ∧ ((SeeP x y step z (vm 0 0) (vm 1 0) (vm 67 0) r (u 67 0)) ∧ (SeeR r (vm 67 0) (vm 0 0) x y step z (vm 68) (vm 69) (vm 70) (u 68) (u 69) (u 70)))) (MtB E (va_A (mdL E am vm) sz) (fun u => mdL E am u)) (va_A (mdL E am vm) sz)) 0 0 (va_A (mdL E am vm) sz) := by
  refine Met.ofW (cc := cX10_see) (maxL := 5) (ret := (some .int)) (by decide) rfl ?_
  intro p e s m args below meth c s₁ B hml hv
  obtain ⟨rfl, hsz, hE, hP, hD0⟩ := hv
  subst hsz
  have hD := hD0.self (sz := s.heap.size)
  generalize hAe : va_A (mdL E am vm) s.heap.size = A at hD hE ⊢
  have hA : ∀ q : Nat, s.heap.size ≤ q → A q := fun q h => by rw [← hAe]; exact Or.inr h
  have hS : va_S A s.heap s.heap [] := va_S.rf
  have hx := B.exec
  have hb := B.bytes
  have hr := B.returns
  have hts := atoms_spec (ws := wsX10_see) B.pre
  have hown : s.vm.findClass RX10 = some m.cls := findClass_of_methodNamed B.named
  have hlocks := B.notSynchronized
  have hK := hE.1
  have in_X10 : ∀ w ∈ u_ws RX10 TX10 79, w ∈ wsX10_see := fun w h => List.mem_cons_of_mem _ (List.mem_append_right _ h)
  have lk0 := hts (.constantLong RX10 374 999) (List.mem_of_getElem? (i := 2) rfl)
  have lk1 := hts (.constant RX10 175 (-1000000002)) (List.mem_of_getElem? (i := 4) rfl)
  have lk2 := hts (.constantLong RX10 449 (-999)) (List.mem_of_getElem? (i := 3) rfl)
  have lk3 := hts (.fieldLink RX10 300 "TidedGroundModel" "sights" "I") (List.mem_of_getElem? (i := 5) rfl)
  have lk4 := hts (.fieldLink RX10 131 "TidedGroundModel" "seenAt" "[I") (List.mem_of_getElem? (i := 7) rfl)
  have lk5 := hts (.fieldLink RX10 159 "TidedGroundModel" "wide" "I") (List.mem_of_getElem? (i := 8) rfl)
  have lk6 := hts (.fieldLink RX10 134 "TidedGroundModel" "seenStep" "[I") (List.mem_of_getElem? (i := 9) rfl)
  have lk7 := hts (.fieldLink RX10 137 "TidedGroundModel" "seenHeight" "[I") (List.mem_of_getElem? (i := 10) rfl)
  have lk8 := hts (.constant RX10 179 (-1000000004)) (List.mem_of_getElem? (i := 6) rfl)
  have lk9 := hts (.constant RX10 329 (-1000000001)) (List.mem_of_getElem? (i := 1) rfl)
  have n_m1000000004 : ((-1000000004) : Int32).toInt = -1000000004 := by decide
  have n_m1000000002 : ((-1000000002) : Int32).toInt = -1000000002 := by decide
  have n_m1000000001 : ((-1000000001) : Int32).toInt = -1000000001 := by decide
  have n_0 : (0 : Int32).toInt = 0 := by decide
  have n_1 : (1 : Int32).toInt = 1 := by decide
  have n_12 : (12 : Int32).toInt = 12 := by decide
  have hl := lv_entry ([.ref (am 0), .int x, .int y, .int step, .int z]) (n := 5) (Nat.le_of_ble_eq_true rfl)
  rw [lg_entry_eq]
  generalize (lg_sl ([.ref (am 0), .int x, .int y, .int step, .int z]) ++ List.replicate (5 - (lg_sl ([.ref (am 0), .int x, .int y, .int step, .int z])).length) Slot.unset).toArray = ls at hl ⊢
  have hl : lv_has ls 5 [(0, .ref (am 0)), (1, .int x), (2, .int y), (3, .int step), (4, .int z)] := hl
  refine W_abs (fun Q hQ => ?_)
  have hH := hMI.1
  obtain ⟨hmG, hmC, hmZ, hmM, hmA, hmS, hmT⟩ := id hH
  obtain ⟨hG1, hG2, hG3⟩ := id hmG
  obtain ⟨hC1, hC2, hC3, hC4, hC5, hC6⟩ := id hmC
  obtain ⟨hM1, hM2, hM3, hM4⟩ := id hmM
  obtain ⟨hA1, hA2, hA3, hA4, hA5⟩ := id hmA
  obtain ⟨hS1, hS2, hS3, hS4, hS5, hS6⟩ := id hmS
  obtain ⟨hT1, hT2, hT3, hT4, hT5⟩ := id hmT
  have hFz : fr [67, 68, 69, 70] vm vm := fr.rf
  refine lv_aload_n hx hb dX10_see_0 rfl (lv_at hl 0 rfl) ?_
  refine lv_iload_n hx hb dX10_see_1 rfl (lv_at hl 1 rfl) ?_
  refine lv_iload_n hx hb dX10_see_2 rfl (lv_at hl 2 rfl) ?_
  refine rd_V (As := [.int x, .int y]) (rest := []) (C := RX10) (ci := 10) ⟨hx, hb, hml, hown, hts⟩ (c_X10_isCell l E A am vm x y hH) (cwV 2 hts gX10_see_X10_isCell rfl rfl rfl (by decide +kernel) ⟨Nat.le_of_ble_eq_true rfl, Nat.le_of_ble_eq_true rfl⟩) (hE.kept hS.2.1) (hP.sub (ws' := mdL E am vm) [0, 1, 2, 3, 4, 5, 6, 7, 8, 9, 10, 11, 12, 13, 14, 15, 16, 17, 18, 19, 20, 21, 22, 23, 24, 25, 26, 27, 28, 29, 30, 31, 32, 33, 34, 35, 36, 37, 38, 39, 40, 41, 42, 43, 44, 45] rfl) rfl rfl rfl rfl hl.1 rfl (Nat.le_of_ble_eq_true rfl) dX10_see_3 ⟨Nat.zero_le _, Nat.zero_le _⟩ (fun r3 h3 => ?_)
  refine lv_if_ne (tgt := 13) hx hb dX10_see_6 (by decide) (fun c6 => ?_) (fun c6 => ?_)
  · have c6_ := i_ne c6
    replace h3 := or_y h3 c6_
    clear c6_
    have sv13_x : 0 ≤ x.toInt ∧ x.toInt ≤ 5 := by omega
    have sv13_y : 0 ≤ y.toInt ∧ y.toInt ≤ 5 := by omega
    have hcel : (0 ≤ x.toInt ∧ x.toInt < (vm 0 0).toInt) ∧ 0 ≤ y.toInt ∧ y.toInt < (vm 1 0).toInt := by omega
    refine lv_iload_n hx hb dX10_see_13 rfl (lv_at hl 3 rfl) ?_
    refine lv_i2l hx hb dX10_see_14 rfl ?_
    refine lv_lconst (v := 0) hx hb dX10_see_15 (by decide) ?_
    refine lv_ldc2 hx hb hown lk0 dX10_see_16 ?_
    have lt19_0 : (step.toInt64).toInt = step.toInt := Int32.toInt_toInt64 _
    have lt19_1 : (0 : Int64).toInt = 0 := by decide
    have lt19_2 : (999 : Int64).toInt = 999 := by decide
    refine rd_S (As := [.long step.toInt64, .long 0, .long 999]) (rest := []) ⟨hx, hb, hml, hown, hts⟩ (c_X10_in l E A step.toInt64 0 999) (va_cwS 3 hts gX10_see_X10_in rfl rfl rfl (by decide +kernel) ⟨Nat.le_of_ble_eq_true rfl, Nat.le_of_ble_eq_true rfl⟩) (hE.kept hS.2.1) (hP.sub (ws' := []) [] rfl) rfl hl.1 rfl (Nat.le_of_ble_eq_true rfl) dX10_see_19 ⟨Nat.zero_le _, Nat.zero_le _⟩ (fun r19 h19 => ?_)
    refine lv_if_eq (tgt := 40) hx hb dX10_see_22 (by decide) (fun c22 => ?_) (fun c22 => ?_)
    · have c22_ := i_eq c22
      replace h19 := or_n h19 c22_
      refine lv_ldc hx hb hown lk1 dX10_see_40 ?_
      subst hQ
      exact W.iret (v := (-1000000002)) hx hb hr (fun t ht hW => ⟨⟨(-1000000002), (vm), rfl, (show ((MdI vm) ∧ fr [67, 68, 69, 70] vm vm) ∧ ((SeeP x y step z (vm 0 0) (vm 1 0) (vm 67 0) ((-1000000002) : Int32) (vm 67 0)) ∧ (SeeR ((-1000000002) : Int32) (vm 67 0) (vm 0 0) x y step z (vm 68) (vm 69) (vm 70) (vm 68) (vm 69) (vm 70))) from ⟨⟨hMI, hFz⟩, ⟨(Or.inr ⟨hcel, Or.inl ⟨by omega, by omega, rfl⟩⟩), (Or.inl ⟨by omega, rfl, rfl, rfl⟩)⟩⟩), by rw [ht]; exact hP, hD⟩, hS.F ht⟩) hS.2.2 dX10_see_42
    · have c22_ := i_ne c22
      replace h19 := or_y h19 c22_
      clear c22_
      refine lv_iload hx hb dX10_see_25 (lv_at hl 4 rfl) ?_
      refine lv_i2l hx hb dX10_see_27 rfl ?_
      refine lv_ldc2 hx hb hown lk2 dX10_see_28 ?_
      refine lv_ldc2 hx hb hown lk0 dX10_see_31 ?_
      have lt34_0 : (z.toInt64).toInt = z.toInt := Int32.toInt_toInt64 _
      have lt34_1 : ((-999) : Int64).toInt = -999 := by decide
      have lt34_2 : (999 : Int64).toInt = 999 := by decide
      refine rd_S (As := [.long z.toInt64, .long (-999), .long 999]) (rest := []) ⟨hx, hb, hml, hown, hts⟩ (c_X10_in l E A z.toInt64 (-999) 999) (va_cwS 3 hts gX10_see_X10_in rfl rfl rfl (by decide +kernel) ⟨Nat.le_of_ble_eq_true rfl, Nat.le_of_ble_eq_true rfl⟩) (hE.kept hS.2.1) (hP.sub (ws' := []) [] rfl) rfl hl.1 rfl (Nat.le_of_ble_eq_true rfl) dX10_see_34 ⟨Nat.zero_le _, Nat.zero_le _⟩ (fun r34 h34 => ?_)
      refine lv_if_ne (tgt := 43) hx hb dX10_see_37 (by decide) (fun c37 => ?_) (fun c37 => ?_)
      · have c37_ := i_ne c37
        replace h34 := or_y h34 c37_
        clear c37_
        refine lv_aload_n hx hb dX10_see_43 rfl (lv_at hl 0 rfl) ?_
        refine va_get (D := eD E) (ci := 10) (v := .int (vm 67 0)) (C := RX10) (T := TX10) (N := 79) hx hb hts in_X10 hown hK hP 0 rfl rfl 67 (by decide) lk3 (fun _ h9 => h9) rfl dX10_see_44 ?_
        refine lv_bipush (v := 12) hx hb dX10_see_47 (by decide) ?_
        refine lv_icmp_ne (tgt := 55) hx hb dX10_see_49 (by decide) (fun c49 => ?_) (fun c49 => ?_)
        · have c49_ := i_ne c49
          refine lv_aload_n hx hb dX10_see_55 rfl (lv_at hl 0 rfl) ?_
          refine va_get (D := eD E) (ci := 10) (v := .ref (am 68)) (C := RX10) (T := TX10) (N := 79) hx hb hts in_X10 hown hK hP 0 rfl rfl 68 (by decide) lk4 (fun _ h9 => h9) rfl dX10_see_56 ?_
          refine lv_aload_n hx hb dX10_see_59 rfl (lv_at hl 0 rfl) ?_
          refine va_get (D := eD E) (ci := 10) (v := .int (vm 67 0)) (C := RX10) (T := TX10) (N := 79) hx hb hts in_X10 hown hK hP 0 rfl rfl 67 (by decide) lk3 (fun _ h9 => h9) rfl dX10_see_60 ?_
          refine lv_aload_n hx hb dX10_see_63 rfl (lv_at hl 0 rfl) ?_
          refine va_get (D := eD E) (ci := 10) (v := .int (vm 0 0)) (C := RX10) (T := TX10) (N := 79) hx hb hts in_X10 hown hK hP 0 rfl rfl 0 (by decide) lk5 (fun _ h9 => h9) rfl dX10_see_64 ?_
          refine lv_iload_n hx hb dX10_see_67 rfl (lv_at hl 2 rfl) ?_
          refine lv_imul hx hb dX10_see_68 ?_
          refine lv_topi (fun x68 e68 => ?_)
          have qm68 := mcell_lt hG1 hG3 (x := x) (y := y) (by omega) (by omega) (by omega) (by omega)
          have t68 := i_mul e68 (by omega)
          refine lv_iload_n hx hb dX10_see_69 rfl (lv_at hl 1 rfl) ?_
          refine lv_iadd hx hb dX10_see_70 ?_
          refine lv_topi (fun x70 e70 => ?_)
          have t70 := i_add e70 (by omega)
          refine va_iast hx hb hK hP hD hS 37 0 rfl rfl (n := 12) (f := (vm 68)) (i_in (by omega) (by omega)) dX10_see_71 (fun H locs hP hD hS => ?_)
          replace hP : va_P (eD E) vwCl (mdL E am (up2 vm 68 ((vm 67 0).toNatClampNeg) x70)) H := hP
          replace hD : va_D A (mdL E am (up2 vm 68 ((vm 67 0).toNatClampNeg) x70)) := hD
          generalize hv71 : up2 vm 68 ((vm 67 0).toNatClampNeg) x70 = vm_71 at hP hD
          have hFz : fr [67, 68, 69, 70] vm vm_71 := by first | exact hFz | (rw [← hv71]; exact hFz.up (by decide))
          have hq71 : vm_71 67 0 = vm 67 0 := by rw [← hv71]; rfl
          have hq71t : (vm_71 67 0).toInt = (vm 67 0).toInt := by rw [hq71]
          refine lv_aload_n hx hb dX10_see_72 rfl (lv_at hl 0 rfl) ?_
          refine va_get (D := eD E) (ci := 10) (v := .ref (am 69)) (C := RX10) (T := TX10) (N := 79) hx hb hts in_X10 hown hK hP 0 rfl rfl 69 (by decide) lk6 (fun _ h9 => h9) rfl dX10_see_73 ?_
          refine lv_aload_n hx hb dX10_see_76 rfl (lv_at hl 0 rfl) ?_
          refine va_get (D := eD E) (ci := 10) (v := .int (vm_71 67 0)) (C := RX10) (T := TX10) (N := 79) hx hb hts in_X10 hown hK hP 0 rfl rfl 67 (by decide) lk3 (fun _ h9 => h9) rfl dX10_see_77 ?_
          refine lv_iload_n hx hb dX10_see_80 rfl (lv_at hl 3 rfl) ?_
          refine va_iast hx hb hK hP hD hS 38 0 rfl rfl (n := 12) (f := (vm_71 69)) (i_in (by omega) (by omega)) dX10_see_81 (fun H locs hP hD hS => ?_)
          replace hP : va_P (eD E) vwCl (mdL E am (up2 vm_71 69 ((vm_71 67 0).toNatClampNeg) step)) H := hP
          replace hD : va_D A (mdL E am (up2 vm_71 69 ((vm_71 67 0).toNatClampNeg) step)) := hD
          generalize hv81 : up2 vm_71 69 ((vm_71 67 0).toNatClampNeg) step = vm_81 at hP hD
          have hFz : fr [67, 68, 69, 70] vm vm_81 := by first | exact hFz | (rw [← hv81]; exact hFz.up (by decide))
          have hq81 : vm_81 67 0 = vm 67 0 := by rw [← hv81]; exact hq71
          have hq81t : (vm_81 67 0).toInt = (vm 67 0).toInt := by rw [hq81]
          refine lv_aload_n hx hb dX10_see_82 rfl (lv_at hl 0 rfl) ?_
          refine va_get (D := eD E) (ci := 10) (v := .ref (am 70)) (C := RX10) (T := TX10) (N := 79) hx hb hts in_X10 hown hK hP 0 rfl rfl 70 (by decide) lk7 (fun _ h9 => h9) rfl dX10_see_83 ?_
          refine lv_aload_n hx hb dX10_see_86 rfl (lv_at hl 0 rfl) ?_
          refine va_get (D := eD E) (ci := 10) (v := .int (vm_81 67 0)) (C := RX10) (T := TX10) (N := 79) hx hb hts in_X10 hown hK hP 0 rfl rfl 67 (by decide) lk3 (fun _ h9 => h9) rfl dX10_see_87 ?_
          refine lv_iload hx hb dX10_see_90 (lv_at hl 4 rfl) ?_
          refine va_iast hx hb hK hP hD hS 39 0 rfl rfl (n := 12) (f := (vm_81 70)) (i_in (by omega) (by omega)) dX10_see_92 (fun H locs hP hD hS => ?_)
          replace hP : va_P (eD E) vwCl (mdL E am (up2 vm_81 70 ((vm_81 67 0).toNatClampNeg) z)) H := hP
          replace hD : va_D A (mdL E am (up2 vm_81 70 ((vm_81 67 0).toNatClampNeg) z)) := hD
          generalize hv92 : up2 vm_81 70 ((vm_81 67 0).toNatClampNeg) z = vm_92 at hP hD
          have hFz : fr [67, 68, 69, 70] vm vm_92 := by first | exact hFz | (rw [← hv92]; exact hFz.up (by decide))
          have hq92 : vm_92 67 0 = vm 67 0 := by rw [← hv92]; exact hq81
          have hq92t : (vm_92 67 0).toInt = (vm 67 0).toInt := by rw [hq92]
          refine lv_aload_n hx hb dX10_see_93 rfl (lv_at hl 0 rfl) ?_
          refine lv_dup hx hb dX10_see_94 rfl ?_
          refine va_get (D := eD E) (ci := 10) (v := .int (vm_92 67 0)) (C := RX10) (T := TX10) (N := 79) hx hb hts in_X10 hown hK hP 0 rfl rfl 67 (by decide) lk3 (fun _ h9 => h9) rfl dX10_see_95 ?_
          refine lv_iconst (v := 1) hx hb dX10_see_98 (by decide) ?_
          refine lv_iadd hx hb dX10_see_99 ?_
          refine lv_topi (fun x99 e99 => ?_)
          have t99 := i_add e99 (by omega)
          refine va_put (D := eD E) (ci := 10) (v := .int x99) (ty := .int) (C := RX10) (T := TX10) (N := 79) hx hb hts in_X10 tyX10 tyX10_ok nmX10 hown hK hP hD hS 0 rfl rfl 67 (by decide) lk3 (fun _ h9 => h9) rfl (by decide +kernel) rfl rfl (Nat.le_of_ble_eq_true rfl) dX10_see_100 (fun H locs hP hD hS => ?_)
          replace hP : va_P (eD E) vwCl (mdL E am (up2 vm_92 67 0 x99)) H := hP
          replace hD : va_D A (mdL E am (up2 vm_92 67 0 x99)) := hD
          generalize hv100 : up2 vm_92 67 0 x99 = vm_100 at hP hD
          have hFz : fr [67, 68, 69, 70] vm vm_100 := by first | exact hFz | (rw [← hv100]; exact hFz.up (by decide))
          have hMn : MdI vm_100 := by rw [← hv100, ← hv92, ← hv81, ← hv71]; exact md_see hMI (by omega) (by omega) (by omega) (by omega)
          have hq100b : (vm_100 67 0).toInt = (vm 67 0).toInt + 1 := by rw [← hv100]; show x99.toInt = _; omega
          refine lv_aload_n hx hb dX10_see_103 rfl (lv_at hl 0 rfl) ?_
          refine va_get (D := eD E) (ci := 10) (v := .int (vm_100 67 0)) (C := RX10) (T := TX10) (N := 79) hx hb hts in_X10 hown hK hP 0 rfl rfl 67 (by decide) lk3 (fun _ h9 => h9) rfl dX10_see_104 ?_
          subst hQ
          exact W.iret (v := (vm_100 67 0)) hx hb hr (fun t ht hW => ⟨⟨(vm_100 67 0), (vm_100), rfl, (show ((MdI vm_100) ∧ fr [67, 68, 69, 70] vm vm_100) ∧ ((SeeP x y step z (vm 0 0) (vm 1 0) (vm 67 0) (vm_100 67 0) (vm_100 67 0)) ∧ (SeeR (vm_100 67 0) (vm 67 0) (vm 0 0) x y step z (vm 68) (vm 69) (vm 70) (vm_100 68) (vm_100 69) (vm_100 70))) from ⟨⟨hMn, hFz⟩, ⟨(Or.inr ⟨hcel, Or.inr ⟨by omega, Or.inr ⟨by omega, hq100b, hq100b⟩⟩⟩), (Or.inr ⟨by omega, x70, by rw [t70, t68], (by rw [← hv100, ← hv92, ← hv81, ← hv71]; rfl), (by rw [← hv100, ← hv92, ← hv81]; show upd (vm_71 69) (vm_71 67 0).toNatClampNeg step = _; rw [hq71, ← hv71]; rfl), (by rw [← hv100, ← hv92]; show upd (vm_81 70) (vm_81 67 0).toNatClampNeg z = _; rw [hq81, ← hv81, ← hv71]; rfl)⟩)⟩⟩), by rw [ht]; exact hP, hD⟩, hS.F ht⟩) hS.2.2 dX10_see_107
        · have c49_ := i_eq c49
          refine lv_ldc hx hb hown lk8 dX10_see_52 ?_
          subst hQ
          exact W.iret (v := (-1000000004)) hx hb hr (fun t ht hW => ⟨⟨(-1000000004), (vm), rfl, (show ((MdI vm) ∧ fr [67, 68, 69, 70] vm vm) ∧ ((SeeP x y step z (vm 0 0) (vm 1 0) (vm 67 0) ((-1000000004) : Int32) (vm 67 0)) ∧ (SeeR ((-1000000004) : Int32) (vm 67 0) (vm 0 0) x y step z (vm 68) (vm 69) (vm 70) (vm 68) (vm 69) (vm 70))) from ⟨⟨hMI, hFz⟩, ⟨(Or.inr ⟨hcel, Or.inr ⟨by omega, Or.inl ⟨by omega, by omega, rfl⟩⟩⟩), (Or.inl ⟨by omega, rfl, rfl, rfl⟩)⟩⟩), by rw [ht]; exact hP, hD⟩, hS.F ht⟩) hS.2.2 dX10_see_54
      · have c37_ := i_eq c37
        replace h34 := or_n h34 c37_
        refine lv_ldc hx hb hown lk1 dX10_see_40 ?_
        subst hQ
        exact W.iret (v := (-1000000002)) hx hb hr (fun t ht hW => ⟨⟨(-1000000002), (vm), rfl, (show ((MdI vm) ∧ fr [67, 68, 69, 70] vm vm) ∧ ((SeeP x y step z (vm 0 0) (vm 1 0) (vm 67 0) ((-1000000002) : Int32) (vm 67 0)) ∧ (SeeR ((-1000000002) : Int32) (vm 67 0) (vm 0 0) x y step z (vm 68) (vm 69) (vm 70) (vm 68) (vm 69) (vm 70))) from ⟨⟨hMI, hFz⟩, ⟨(Or.inr ⟨hcel, Or.inl ⟨by omega, by omega, rfl⟩⟩), (Or.inl ⟨by omega, rfl, rfl, rfl⟩)⟩⟩), by rw [ht]; exact hP, hD⟩, hS.F ht⟩) hS.2.2 dX10_see_42
  · have c6_ := i_eq c6
    replace h3 := or_n h3 c6_
    refine lv_ldcw hx hb hown lk9 dX10_see_9 ?_
    subst hQ
    exact W.iret (v := (-1000000001)) hx hb hr (fun t ht hW => ⟨⟨(-1000000001), (vm), rfl, (show ((MdI vm) ∧ fr [67, 68, 69, 70] vm vm) ∧ ((SeeP x y step z (vm 0 0) (vm 1 0) (vm 67 0) ((-1000000001) : Int32) (vm 67 0)) ∧ (SeeR ((-1000000001) : Int32) (vm 67 0) (vm 0 0) x y step z (vm 68) (vm 69) (vm 70) (vm 68) (vm 69) (vm 70))) from ⟨⟨hMI, hFz⟩, ⟨(Or.inl ⟨by omega, by omega, rfl⟩), (Or.inl ⟨by omega, rfl, rfl, rfl⟩)⟩⟩), by rw [ht]; exact hP, hD⟩, hS.F ht⟩) hS.2.2 dX10_see_12
def rm_X10_draw : Room := { frames := 0, cells := 0, slots := 0, locals := 0 }
set_option maxHeartbeats 4000000 in
set_option maxRecDepth 100000 in
theorem c_X10_draw (l : Launch) (E : Ev) (sz : Nat) (am : Nat → Nat) (vm : Vf) (n : Int32) (hMI : MdI vm) (hn : 1 ≤ n.toInt ∧ n.toInt ≤ 100) : Met l yX10_draw wsX10_draw rm_X10_draw (MtP E sz [.ref (am 0), .int n] (mdL E am vm)) (va_Qi (fun (r : Int32) (u : Vf) => (((0 ≤ r.toInt ∧ r.toInt < n.toInt) ∧ ∃ z : Int32, u = up2 vm 30 0 z ∧ 0 ≤ z.toInt) ∧ fr [30] vm u) ∧ (u 30 0 = nxt (vm 30 0) ∧ r = dval (nxt (vm 30 0)) n)) (MtB E (va_A (mdL E am vm) sz) (fun u => mdL E am u)) (va_A (mdL E am vm) sz)) 0 0 (va_A (mdL E am vm) sz) := by
  refine Met.ofW (cc := cX10_draw) (maxL := 2) (ret := (some .int)) (by decide) rfl ?_
  intro p e s m args below meth c s₁ B hml hv
  obtain ⟨rfl, hsz, hE, hP, hD0⟩ := hv
  subst hsz
  have hD := hD0.self (sz := s.heap.size)
  generalize hAe : va_A (mdL E am vm) s.heap.size = A at hD hE ⊢
  have hA : ∀ q : Nat, s.heap.size ≤ q → A q := fun q h => by rw [← hAe]; exact Or.inr h
  have hS : va_S A s.heap s.heap [] := va_S.rf
  have hx := B.exec
  have hb := B.bytes
  have hr := B.returns
  have hts := atoms_spec (ws := wsX10_draw) B.pre
  have hown : s.vm.findClass RX10 = some m.cls := findClass_of_methodNamed B.named
  have hlocks := B.notSynchronized
  have hK := hE.1
  have in_X10 : ∀ w ∈ u_ws RX10 TX10 79, w ∈ wsX10_draw := fun w h => List.mem_cons_of_mem _ (List.mem_append_right _ h)
  have lk0 := hts (.fieldLink RX10 376 "TidedGroundModel" "seed" "I") (List.mem_of_getElem? (i := 1) rfl)
  have lk1 := hts (.constantLong RX10 379 1103515245) (List.mem_of_getElem? (i := 2) rfl)
  have lk2 := hts (.constantLong RX10 381 12345) (List.mem_of_getElem? (i := 3) rfl)
  have lk3 := hts (.constantLong RX10 383 2147483648) (List.mem_of_getElem? (i := 4) rfl)
  have lk4 := hts (.constant RX10 385 65536) (List.mem_of_getElem? (i := 5) rfl)
  have n_65536 : (65536 : Int32).toInt = 65536 := by decide
  have hl := lv_entry ([.ref (am 0), .int n]) (n := 2) (Nat.le_of_ble_eq_true rfl)
  rw [lg_entry_eq]
  generalize (lg_sl ([.ref (am 0), .int n]) ++ List.replicate (2 - (lg_sl ([.ref (am 0), .int n])).length) Slot.unset).toArray = ls at hl ⊢
  have hl : lv_has ls 2 [(0, .ref (am 0)), (1, .int n)] := hl
  refine W_abs (fun Q hQ => ?_)
  have hH := hMI.1
  obtain ⟨hmG, hmC, hmZ, hmM, hmA, hmS, hmT⟩ := id hH
  obtain ⟨hG1, hG2, hG3⟩ := id hmG
  obtain ⟨hC1, hC2, hC3, hC4, hC5, hC6⟩ := id hmC
  obtain ⟨hM1, hM2, hM3, hM4⟩ := id hmM
  obtain ⟨hA1, hA2, hA3, hA4, hA5⟩ := id hmA
  obtain ⟨hS1, hS2, hS3, hS4, hS5, hS6⟩ := id hmS
  obtain ⟨hT1, hT2, hT3, hT4, hT5⟩ := id hmT
  have hFz : fr [30] vm vm := fr.rf
  refine lv_aload_n hx hb dX10_draw_0 rfl (lv_at hl 0 rfl) ?_
  refine lv_aload_n hx hb dX10_draw_1 rfl (lv_at hl 0 rfl) ?_
  refine va_get (D := eD E) (ci := 10) (v := .int (vm 30 0)) (C := RX10) (T := TX10) (N := 79) hx hb hts in_X10 hown hK hP 0 rfl rfl 30 (by decide) lk0 (fun _ h9 => h9) rfl dX10_draw_2 ?_
  refine lv_i2l hx hb dX10_draw_5 rfl ?_
  refine lv_ldc2 hx hb hown lk1 dX10_draw_6 ?_
  refine lv_lmul hx hb dX10_draw_9 ?_
  refine lv_topl (fun x9 e9 => ?_)
  refine lv_ldc2 hx hb hown lk2 dX10_draw_10 ?_
  refine lv_ladd hx hb dX10_draw_13 ?_
  refine lv_topl (fun x13 e13 => ?_)
  refine lv_ldc2 hx hb hown lk3 dX10_draw_14 ?_
  refine lv_lrem hx hb dX10_draw_17 (by decide) ?_
  refine lv_topl (fun x17 e17 => ?_)
  refine lv_l2i hx hb dX10_draw_18 rfl ?_
  refine lv_topi (fun x18 e18 => ?_)
  have p18 := draw_nn hS6 e9 e13 e17 e18
  have rg18 := i_rng x18
  refine va_put (D := eD E) (ci := 10) (v := .int x18) (ty := .int) (C := RX10) (T := TX10) (N := 79) hx hb hts in_X10 tyX10 tyX10_ok nmX10 hown hK hP hD hS 0 rfl rfl 30 (by decide) lk0 (fun _ h9 => h9) rfl (by decide +kernel) rfl rfl (Nat.le_of_ble_eq_true rfl) dX10_draw_19 (fun H locs hP hD hS => ?_)
  replace hP : va_P (eD E) vwCl (mdL E am (up2 vm 30 0 x18)) H := hP
  replace hD : va_D A (mdL E am (up2 vm 30 0 x18)) := hD
  generalize hv19 : up2 vm 30 0 x18 = vm_19 at hP hD
  have hFz : fr [30] vm vm_19 := by first | exact hFz | (rw [← hv19]; exact hFz.up (by decide))
  have hq19 : (vm_19 30 0).toInt = x18.toInt := by rw [← hv19]; rfl
  have hnx : x18 = nxt (vm 30 0) := seed_eq hS6 e9 e13 e17 e18
  have hqx : vm_19 30 0 = x18 := by rw [← hv19]; rfl
  refine lv_aload_n hx hb dX10_draw_22 rfl (lv_at hl 0 rfl) ?_
  refine va_get (D := eD E) (ci := 10) (v := .int (vm_19 30 0)) (C := RX10) (T := TX10) (N := 79) hx hb hts in_X10 hown hK hP 0 rfl rfl 30 (by decide) lk0 (fun _ h9 => h9) rfl dX10_draw_23 ?_
  refine lv_ldcw hx hb hown lk4 dX10_draw_26 ?_
  have sv29_vm_19300 : 0 ≤ (vm_19 30 0).toInt ∧ (vm_19 30 0).toInt ≤ 2147483647 := by omega
  refine lv_idiv hx hb dX10_draw_29 (by decide) ?_
  refine lv_topi (fun x29 e29 => ?_)
  have t29 := i_div e29 (by omega) (by omega)
  rw [n_65536] at t29
  refine lv_iload_n hx hb dX10_draw_30 rfl (lv_at hl 1 rfl) ?_
  have sv31_n : 1 ≤ n.toInt ∧ n.toInt ≤ 100 := by omega
  refine lv_irem hx hb dX10_draw_31 (i_ne0 (by omega)) ?_
  refine lv_topi (fun x31 e31 => ?_)
  have t31 := i_rem e31 (by omega) (by omega)
  subst hQ
  exact W.iret (v := x31) hx hb hr (fun t ht hW => ⟨⟨x31, (vm_19), rfl, (show (((0 ≤ x31.toInt ∧ x31.toInt < n.toInt) ∧ ∃ z : Int32, vm_19 = up2 vm 30 0 z ∧ 0 ≤ z.toInt) ∧ fr [30] vm vm_19) ∧ (vm_19 30 0 = nxt (vm 30 0) ∧ x31 = dval (nxt (vm 30 0)) n) from ⟨⟨⟨by omega, x18, hv19.symm, p18⟩, hFz⟩, ⟨by rw [hqx]; exact hnx, by unfold dval; rw [← hnx, ← hqx, ← e29, e31]⟩⟩), by rw [ht]; exact hP, hD⟩, hS.F ht⟩) hS.2.2 dX10_draw_32
def rm_X10_drift : Room := { frames := 6, cells := 0, slots := 0, locals := 138 }
set_option maxHeartbeats 4000000 in
set_option maxRecDepth 100000 in
theorem c_X10_drift (l : Launch) (E : Ev) (sz : Nat) (am : Nat → Nat) (vm : Vf) (n : Int32) (hMI : MdI vm) : Met l yX10_drift wsX10_drift rm_X10_drift (MtP E sz [.ref (am 0), .int n] (mdL E am vm)) (va_Qi (fun (r : Int32) (u : Vf) => ((MdI u) ∧ fr [23, 25, 27, 28, 30] vm u) ∧ (DriP vm n r (u = vm) (Ag (drN vm n.toNatClampNeg) u))) (MtB E (va_A (mdL E am vm) sz) (fun u => mdL E am u)) (va_A (mdL E am vm) sz)) 0 0 (va_A (mdL E am vm) sz) := by
  refine Met.ofW (cc := cX10_drift) (maxL := 7) (ret := (some .int)) (by decide) rfl ?_
  intro p e s m args below meth c s₁ B hml hv
  obtain ⟨rfl, hsz, hE, hP, hD0⟩ := hv
  subst hsz
  have hD := hD0.self (sz := s.heap.size)
  generalize hAe : va_A (mdL E am vm) s.heap.size = A at hD hE ⊢
  have hA : ∀ q : Nat, s.heap.size ≤ q → A q := fun q h => by rw [← hAe]; exact Or.inr h
  have hS : va_S A s.heap s.heap [] := va_S.rf
  have hx := B.exec
  have hb := B.bytes
  have hr := B.returns
  have hts := atoms_spec (ws := wsX10_drift) B.pre
  have hown : s.vm.findClass RX10 = some m.cls := findClass_of_methodNamed B.named
  have hlocks := B.notSynchronized
  have hK := hE.1
  have in_X10 : ∀ w ∈ u_ws RX10 TX10 79, w ∈ wsX10_drift := fun w h => List.mem_cons_of_mem _ (List.mem_append_right _ h)
  have lk0 := hts (.constantLong RX10 370 99) (List.mem_of_getElem? (i := 1) rfl)
  have lk1 := hts (.fieldLink RX10 159 "TidedGroundModel" "wide" "I") (List.mem_of_getElem? (i := 3) rfl)
  have lk2 := hts (.fieldLink RX10 291 "TidedGroundModel" "step" "I") (List.mem_of_getElem? (i := 5) rfl)
  have lk3 := hts (.constant RX10 386 899000) (List.mem_of_getElem? (i := 6) rfl)
  have lk4 := hts (.fieldLink RX10 294 "TidedGroundModel" "cart" "I") (List.mem_of_getElem? (i := 8) rfl)
  have lk5 := hts (.fieldLink RX10 62 "TidedGroundModel" "load" "[I") (List.mem_of_getElem? (i := 9) rfl)
  have lk6 := hts (.constant RX10 179 (-1000000004)) (List.mem_of_getElem? (i := 7) rfl)
  have lk7 := hts (.constant RX10 366 (-1000000003)) (List.mem_of_getElem? (i := 4) rfl)
  have lk8 := hts (.constant RX10 175 (-1000000002)) (List.mem_of_getElem? (i := 2) rfl)
  have n_m1000000004 : ((-1000000004) : Int32).toInt = -1000000004 := by decide
  have n_m1000000003 : ((-1000000003) : Int32).toInt = -1000000003 := by decide
  have n_m1000000002 : ((-1000000002) : Int32).toInt = -1000000002 := by decide
  have n_0 : (0 : Int32).toInt = 0 := by decide
  have n_1 : (1 : Int32).toInt = 1 := by decide
  have n_5 : (5 : Int32).toInt = 5 := by decide
  have n_12 : (12 : Int32).toInt = 12 := by decide
  have n_30 : (30 : Int32).toInt = 30 := by decide
  have n_90 : (90 : Int32).toInt = 90 := by decide
  have n_899000 : (899000 : Int32).toInt = 899000 := by decide
  have hl := lv_entry ([.ref (am 0), .int n]) (n := 7) (Nat.le_of_ble_eq_true rfl)
  rw [lg_entry_eq]
  generalize (lg_sl ([.ref (am 0), .int n]) ++ List.replicate (7 - (lg_sl ([.ref (am 0), .int n])).length) Slot.unset).toArray = ls at hl ⊢
  have hl : lv_has ls 7 [(0, .ref (am 0)), (1, .int n)] := hl
  refine W_abs (fun Q hQ => ?_)
  have hH := hMI.1
  obtain ⟨hmG, hmC, hmZ, hmM, hmA, hmS, hmT⟩ := id hH
  obtain ⟨hG1, hG2, hG3⟩ := id hmG
  obtain ⟨hC1, hC2, hC3, hC4, hC5, hC6⟩ := id hmC
  obtain ⟨hM1, hM2, hM3, hM4⟩ := id hmM
  obtain ⟨hA1, hA2, hA3, hA4, hA5⟩ := id hmA
  obtain ⟨hS1, hS2, hS3, hS4, hS5, hS6⟩ := id hmS
  obtain ⟨hT1, hT2, hT3, hT4, hT5⟩ := id hmT
  have hFz : fr [23, 25, 27, 28, 30] vm vm := fr.rf
  refine lv_iload_n hx hb dX10_drift_0 rfl (lv_at hl 1 rfl) ?_
  refine lv_i2l hx hb dX10_drift_1 rfl ?_
  refine lv_lconst (v := 1) hx hb dX10_drift_2 (by decide) ?_
  refine lv_ldc2 hx hb hown lk0 dX10_drift_3 ?_
  have lt6_0 : (n.toInt64).toInt = n.toInt := Int32.toInt_toInt64 _
  have lt6_1 : (1 : Int64).toInt = 1 := by decide
  have lt6_2 : (99 : Int64).toInt = 99 := by decide
  refine rd_S (As := [.long n.toInt64, .long 1, .long 99]) (rest := []) ⟨hx, hb, hml, hown, hts⟩ (c_X10_in l E A n.toInt64 1 99) (va_cwS 3 hts gX10_drift_X10_in rfl rfl rfl (by decide +kernel) ⟨Nat.le_of_ble_eq_true rfl, Nat.le_of_ble_eq_true rfl⟩) (hE.kept hS.2.1) (hP.sub (ws' := []) [] rfl) rfl hl.1 rfl (Nat.le_of_ble_eq_true rfl) dX10_drift_6 ⟨Nat.zero_le _, Nat.zero_le _⟩ (fun r6 h6 => ?_)
  refine lv_if_ne (tgt := 15) hx hb dX10_drift_9 (by decide) (fun c9 => ?_) (fun c9 => ?_)
  · have c9_ := i_ne c9
    replace h6 := or_y h6 c9_
    clear c9_
    have sv15_n : 1 ≤ n.toInt ∧ n.toInt ≤ 99 := by omega
    refine lv_aload_n hx hb dX10_drift_15 rfl (lv_at hl 0 rfl) ?_
    refine va_get (D := eD E) (ci := 10) (v := .int (vm 0 0)) (C := RX10) (T := TX10) (N := 79) hx hb hts in_X10 hown hK hP 0 rfl rfl 0 (by decide) lk1 (fun _ h9 => h9) rfl dX10_drift_16 ?_
    refine lv_if_ne (tgt := 26) hx hb dX10_drift_19 (by decide) (fun c19 => ?_) (fun c19 => ?_)
    · have c19_ := i_ne c19
      refine lv_aload_n hx hb dX10_drift_26 rfl (lv_at hl 0 rfl) ?_
      refine va_get (D := eD E) (ci := 10) (v := .int (vm 23 0)) (C := RX10) (T := TX10) (N := 79) hx hb hts in_X10 hown hK hP 0 rfl rfl 23 (by decide) lk2 (fun _ h9 => h9) rfl dX10_drift_27 ?_
      refine lv_ldcw hx hb hown lk3 dX10_drift_30 ?_
      refine lv_icmp_le (tgt := 39) hx hb dX10_drift_33 (by decide) (fun c33 => ?_) (fun c33 => ?_)
      · have c33_ := i_le c33
        have hwd : 1 ≤ (vm 0 0).toInt ∧ 1 ≤ (vm 1 0).toInt := (by rcases hmZ with q | q <;> omega)
        refine lv_iconst (v := 0) hx hb dX10_drift_39 (by decide) ?_
        refine lv_istore_n (lv' := [(2, .int 0), (0, .ref (am 0)), (1, .int n)]) hx hb dX10_drift_40 rfl hl (by decide) rfl (fun ls hl => ?_)
        have K41 : ∀ (μ : Nat) (i : Int32) (vmk : Vf) (H : Heap) (locs : List Loc) (ls : Array Slot), (99 - i.toInt).toNat < μ → va_P (eD E) vwCl (mdL E am vmk) H → va_D A (mdL E am vmk) → va_S A s.heap H locs → (0 ≤ i.toInt ∧ i.toInt ≤ 99) → (MdI vmk) → ((vmk 23 0).toInt ≤ 899000 + i.toInt) → (1 ≤ (vmk 0 0).toInt ∧ 1 ≤ (vmk 1 0).toInt) → (fr [23, 25, 27, 28, 30] vm vmk) → (Ag (drN vm i.toNatClampNeg) vmk) → (i.toInt ≤ n.toInt) → lv_has ls 7 [(0, .ref (am 0)), (1, .int n), (2, .int i)] → W p l e (headSpec wsX10_drift rm_X10_drift).room s m ([.ref (am 0), .int n] : List Value).toArray below meth c H locs 0 0 Q (F0 m 41 ls []) := by
          intro μ
          induction μ with
          | zero =>
            intro i vmk H locs ls hμ41
            exact absurd hμ41 (Nat.not_lt_zero _)
          | succ μ ih41 =>
            intro i vmk H locs ls hμ41 hP hD hS h41_0 h41_1 h41_2 h41_3 h41_4 h41_5 h41_6 hl
            have hx41_0 := h41_5
            clear h41_5
            have hx41_1 := h41_6
            clear h41_6
            have hMI := h41_1
            try clear hmZ
            try clear hM2
            try clear hA4
            have hH := hMI.1
            obtain ⟨hmG, hmC, hmZ, hmM, hmA, hmS, hmT⟩ := id hH
            obtain ⟨hG1, hG2, hG3⟩ := id hmG
            obtain ⟨hC1, hC2, hC3, hC4, hC5, hC6⟩ := id hmC
            obtain ⟨hM1, hM2, hM3, hM4⟩ := id hmM
            obtain ⟨hA1, hA2, hA3, hA4, hA5⟩ := id hmA
            obtain ⟨hS1, hS2, hS3, hS4, hS5, hS6⟩ := id hmS
            obtain ⟨hT1, hT2, hT3, hT4, hT5⟩ := id hmT
            have hFz := h41_4
            refine lv_iload_n hx hb dX10_drift_41 rfl (lv_at hl 2 rfl) ?_
            refine lv_iload_n hx hb dX10_drift_42 rfl (lv_at hl 1 rfl) ?_
            refine lv_icmp_ge (tgt := 146) hx hb dX10_drift_43 (by decide) (fun c43 => ?_) (fun c43 => ?_)
            · have c43_ := i_le c43
              refine lv_aload_n hx hb dX10_drift_146 rfl (lv_at hl 0 rfl) ?_
              refine lv_aload_n hx hb dX10_drift_147 rfl (lv_at hl 0 rfl) ?_
              refine va_get (D := eD E) (ci := 10) (v := .int (vmk 27 0)) (C := RX10) (T := TX10) (N := 79) hx hb hts in_X10 hown hK hP 0 rfl rfl 27 (by decide) lk4 (fun _ h9 => h9) rfl dX10_drift_148 ?_
              refine rd_V (As := [.int (vmk 27 0)]) (rest := []) (C := RX10) (ci := 10) ⟨hx, hb, hml, hown, hts⟩ (c_X10_pairOf l E A am vmk (vmk 27 0) hH (by omega) (by omega)) (cwV 1 hts gX10_drift_X10_pairOf rfl rfl rfl (by decide +kernel) ⟨Nat.le_of_ble_eq_true rfl, Nat.le_of_ble_eq_true rfl⟩) (hE.kept hS.2.1) (hP.sub (ws' := mdL E am vmk) [0, 1, 2, 3, 4, 5, 6, 7, 8, 9, 10, 11, 12, 13, 14, 15, 16, 17, 18, 19, 20, 21, 22, 23, 24, 25, 26, 27, 28, 29, 30, 31, 32, 33, 34, 35, 36, 37, 38, 39, 40, 41, 42, 43, 44, 45] rfl) rfl rfl rfl rfl hl.1 rfl (Nat.le_of_ble_eq_true rfl) dX10_drift_151 ⟨Nat.zero_le _, Nat.zero_le _⟩ (fun r151 h151 => ?_)
              have hf151 := h151.2
              replace h151 := h151.1
              subst hQ
              exact W.iret (v := r151) hx hb hr (fun t ht hW => ⟨⟨r151, (vmk), rfl, (show ((MdI vmk) ∧ fr [23, 25, 27, 28, 30] vm vmk) ∧ (DriP vm n r151 (vmk = vm) (Ag (drN vm n.toNatClampNeg) vmk)) from ⟨⟨hMI, hFz⟩, (by have q := drm_end (n := n) hx41_0 (i_eqr (by omega)) hf151; exact Or.inr ⟨by omega, Or.inr ⟨by omega, Or.inr ⟨by omega, q.1, q.2⟩⟩⟩)⟩), by rw [ht]; exact hP, hD⟩, hS.F ht⟩) hS.2.2 dX10_drift_154
            · have c43_ := i_nle c43
              refine lv_aload_n hx hb dX10_drift_46 rfl (lv_at hl 0 rfl) ?_
              refine lv_aload_n hx hb dX10_drift_47 rfl (lv_at hl 0 rfl) ?_
              refine va_get (D := eD E) (ci := 10) (v := .int (vmk 27 0)) (C := RX10) (T := TX10) (N := 79) hx hb hts in_X10 hown hK hP 0 rfl rfl 27 (by decide) lk4 (fun _ h9 => h9) rfl dX10_drift_48 ?_
              refine lv_aload_n hx hb dX10_drift_51 rfl (lv_at hl 0 rfl) ?_
              refine lv_iconst (v := 5) hx hb dX10_drift_52 (by decide) ?_
              refine mt_Vi (w1 := fun (u : Vf) => mdL E am u) (wf := fun (u : Vf) => mdL E am u) (wr := []) (As := [.int 5]) (rest := [.int (vmk 27 0), .ref (am 0)]) (C := RX10) (ci := 10) ⟨hx, hb, hml, hown, hts⟩ (c_X10_draw l E H.size am vmk 5 hMI (by omega)) (cwV 1 hts gX10_drift_X10_draw rfl rfl rfl (by decide +kernel) ⟨Nat.le_of_ble_eq_true rfl, Nat.le_of_ble_eq_true rfl⟩) hE hS hA hP hD [0, 1, 2, 3, 4, 5, 6, 7, 8, 9, 10, 11, 12, 13, 14, 15, 16, 17, 18, 19, 20, 21, 22, 23, 24, 25, 26, 27, 28, 29, 30, 31, 32, 33, 34, 35, 36, 37, 38, 39, 40, 41, 42, 43, 44, 45] [] rfl rfl (by decide) (by decide) (by decide) [0, 1, 2, 3, 4, 5, 6, 7, 8, 9, 10, 11, 12, 13, 14, 15, 16, 17, 18, 19, 20, 21, 22, 23, 24, 25, 26, 27, 28, 29, 30, 31, 32, 33, 34, 35, 36, 37, 38, 39, 40, 41, 42, 43, 44, 45] (by decide) (fun u => rfl) rfl rfl rfl rfl hl.1 rfl (Nat.le_of_ble_eq_true rfl) dX10_drift_53 ⟨Nat.zero_le _, Nat.zero_le _⟩ (fun r53 u53 H locs h53 hP hD hS => ?_)
              generalize u53 = o53_vm at hP hD h53
              try dsimp only at h53
              have hf53 := h53.2
              replace h53 := h53.1
              have hFn53 := h53.2
              replace h53 := h53.1
              replace hP : va_P (eD E) vwCl (mdL E am o53_vm) H := hP
              replace hD : va_D A (mdL E am o53_vm) := hD
              have hFz : fr [23, 25, 27, 28, 30] vm o53_vm := by first | exact hFz | exact hFz.tr hFn53 (by decide) | (rw [← hv53]; repeat' (first | exact hFz | refine fr.up ?_ (by decide) | refine fr.up3 ?_ (by decide)))
              obtain ⟨z53, hz53, hzn53⟩ := h53.2
              have hMI : MdI o53_vm := by rw [hz53]; exact md_seed hMI hzn53
              have hqw53 : (o53_vm 0 0).toInt = (vmk 0 0).toInt := by rw [hz53]; rfl
              have hqd53 : (o53_vm 1 0).toInt = (vmk 1 0).toInt := by rw [hz53]; rfl
              have hqs53 : (o53_vm 23 0).toInt = (vmk 23 0).toInt := by rw [hz53]; rfl
              try clear hmZ
              try clear hM2
              try clear hA4
              have hH := hMI.1
              obtain ⟨hmG, hmC, hmZ, hmM, hmA, hmS, hmT⟩ := id hH
              obtain ⟨hG1, hG2, hG3⟩ := id hmG
              obtain ⟨hC1, hC2, hC3, hC4, hC5, hC6⟩ := id hmC
              obtain ⟨hM1, hM2, hM3, hM4⟩ := id hmM
              obtain ⟨hA1, hA2, hA3, hA4, hA5⟩ := id hmA
              obtain ⟨hS1, hS2, hS3, hS4, hS5, hS6⟩ := id hmS
              obtain ⟨hT1, hT2, hT3, hT4, hT5⟩ := id hmT
              have hA53 : Ag (dr1 (drN vm i.toNatClampNeg)) o53_vm := hx41_0.draw hFn53 hf53.1
              have hr53 : r53 = dval (dr1 (drN vm i.toNatClampNeg) 30 0) 5 := by rw [hf53.2, hx41_0.2.2.2.2]; rfl
              have sv56_o53_vm230 : 0 ≤ (o53_vm 23 0).toInt ∧ (o53_vm 23 0).toInt ≤ 899999 := by omega
              refine lv_aload_n hx hb dX10_drift_56 rfl (lv_at hl 0 rfl) ?_
              refine va_get (D := eD E) (ci := 10) (v := .int (o53_vm 23 0)) (C := RX10) (T := TX10) (N := 79) hx hb hts in_X10 hown hK hP 0 rfl rfl 23 (by decide) lk2 (fun _ h9 => h9) rfl dX10_drift_57 ?_
              refine lv_iconst (v := 1) hx hb dX10_drift_60 (by decide) ?_
              refine lv_iadd hx hb dX10_drift_61 ?_
              refine lv_topi (fun x61 e61 => ?_)
              have t61 := i_add e61 (by omega)
              refine rd_V (As := [.int (vmk 27 0), .int r53, .int x61]) (rest := []) (C := RX10) (ci := 10) ⟨hx, hb, hml, hown, hts⟩ (c_X10_goes l E A am o53_vm (vmk 27 0) r53 x61 hH (by omega) (by omega) (by omega)) (cwV 3 hts gX10_drift_X10_goes rfl rfl rfl (by decide +kernel) ⟨Nat.le_of_ble_eq_true rfl, Nat.le_of_ble_eq_true rfl⟩) (hE.kept hS.2.1) (hP.sub (ws' := mdL E am o53_vm) [0, 1, 2, 3, 4, 5, 6, 7, 8, 9, 10, 11, 12, 13, 14, 15, 16, 17, 18, 19, 20, 21, 22, 23, 24, 25, 26, 27, 28, 29, 30, 31, 32, 33, 34, 35, 36, 37, 38, 39, 40, 41, 42, 43, 44, 45] rfl) rfl rfl rfl rfl hl.1 rfl (Nat.le_of_ble_eq_true rfl) dX10_drift_62 ⟨Nat.zero_le _, Nat.zero_le _⟩ (fun r62 h62 => ?_)
              have hG62 : r62 = drG (dr1 (drN vm i.toNatClampNeg)) := hA53.goes h62.1 hx41_0.2.2.1 hr53 e61
              refine lv_istore_n (lv' := [(3, .int r62), (0, .ref (am 0)), (1, .int n), (2, .int i)]) hx hb dX10_drift_65 rfl hl (by decide) rfl (fun ls hl => ?_)
              refine lv_aload_n hx hb dX10_drift_66 rfl (lv_at hl 1 rfl) ?_
              refine lv_iload_n hx hb dX10_drift_67 rfl (lv_at hl 0 rfl) ?_
              have K79 : ∀  (tt : Int32) (H : Heap) (locs : List Loc) (ls : Array Slot), va_P (eD E) vwCl (mdL E am o53_vm) H → va_D A (mdL E am o53_vm) → va_S A s.heap H locs → (0 ≤ tt.toInt ∧ tt.toInt ≤ 23) → (tt = drT (dr1 (drN vm i.toNatClampNeg))) → lv_has ls 7 [(0, .ref (am 0)), (1, .int n), (2, .int i), (3, .int r62)] → W p l e (headSpec wsX10_drift rm_X10_drift).room s m ([.ref (am 0), .int n] : List Value).toArray below meth c H locs 0 0 Q (F0 m 79 ls [.int tt, .ref (am 0)]) := by
                intro tt H locs ls hP hD hS h79_0 h79_1 hl
                have hx79_0 := h79_1
                clear h79_1
                refine mt_Vi (w1 := fun (u : Vf) => mdL E am u) (wf := fun (u : Vf) => mdL E am u) (wr := []) (As := [.int tt]) (rest := []) (C := RX10) (ci := 10) ⟨hx, hb, hml, hown, hts⟩ (c_X10_rollNow l E H.size am o53_vm tt hMI (by omega) (by omega) (by omega)) (cwV 1 hts gX10_drift_X10_rollNow rfl rfl rfl (by decide +kernel) ⟨Nat.le_of_ble_eq_true rfl, Nat.le_of_ble_eq_true rfl⟩) hE hS hA hP hD [0, 1, 2, 3, 4, 5, 6, 7, 8, 9, 10, 11, 12, 13, 14, 15, 16, 17, 18, 19, 20, 21, 22, 23, 24, 25, 26, 27, 28, 29, 30, 31, 32, 33, 34, 35, 36, 37, 38, 39, 40, 41, 42, 43, 44, 45] [] rfl rfl (by decide) (by decide) (by decide) [0, 1, 2, 3, 4, 5, 6, 7, 8, 9, 10, 11, 12, 13, 14, 15, 16, 17, 18, 19, 20, 21, 22, 23, 24, 25, 26, 27, 28, 29, 30, 31, 32, 33, 34, 35, 36, 37, 38, 39, 40, 41, 42, 43, 44, 45] (by decide) (fun u => rfl) rfl rfl rfl rfl hl.1 rfl (Nat.le_of_ble_eq_true rfl) dX10_drift_79 ⟨Nat.zero_le _, Nat.zero_le _⟩ (fun r79 u79 H locs h79 hP hD hS => ?_)
                generalize u79 = o79_vm at hP hD h79
                try dsimp only at h79
                have hf79 := h79.2
                replace h79 := h79.1
                have hFn79 := h79.2
                replace h79 := h79.1
                replace hP : va_P (eD E) vwCl (mdL E am o79_vm) H := hP
                replace hD : va_D A (mdL E am o79_vm) := hD
                have hFz : fr [23, 25, 27, 28, 30] vm o79_vm := by first | exact hFz | exact hFz.tr hFn79 (by decide) | (rw [← hv79]; repeat' (first | exact hFz | refine fr.up ?_ (by decide) | refine fr.up3 ?_ (by decide)))
                have hMI := h79.1
                have hqw79 : (o79_vm 0 0).toInt = (o53_vm 0 0).toInt := by rw [h79.2.2.1]
                have hqd79 : (o79_vm 1 0).toInt = (o53_vm 1 0).toInt := by rw [h79.2.2.2]
                try clear hmZ
                try clear hM2
                try clear hA4
                have hH := hMI.1
                obtain ⟨hmG, hmC, hmZ, hmM, hmA, hmS, hmT⟩ := id hH
                obtain ⟨hG1, hG2, hG3⟩ := id hmG
                obtain ⟨hC1, hC2, hC3, hC4, hC5, hC6⟩ := id hmC
                obtain ⟨hM1, hM2, hM3, hM4⟩ := id hmM
                obtain ⟨hA1, hA2, hA3, hA4, hA5⟩ := id hmA
                obtain ⟨hS1, hS2, hS3, hS4, hS5, hS6⟩ := id hmS
                obtain ⟨hT1, hT2, hT3, hT4, hT5⟩ := id hmT
                have hA79 : Ag (rlV (dr1 (drN vm i.toNatClampNeg)) (drT (dr1 (drN vm i.toNatClampNeg)))) o79_vm := by rw [← hx79_0]; exact hA53.roll hFn79 hf79.2.1 hf79.2.2.1 hf79.2.2.2 hf79.1
                refine lv_istore (lv' := [(4, .int r79), (0, .ref (am 0)), (1, .int n), (2, .int i), (3, .int r62)]) hx hb dX10_drift_82 hl (by decide) rfl (fun ls hl => ?_)
                refine lv_aload_n hx hb dX10_drift_84 rfl (lv_at hl 1 rfl) ?_
                refine lv_bipush (v := 12) hx hb dX10_drift_85 (by decide) ?_
                refine mt_Vi (w1 := fun (u : Vf) => mdL E am u) (wf := fun (u : Vf) => mdL E am u) (wr := []) (As := [.int 12]) (rest := []) (C := RX10) (ci := 10) ⟨hx, hb, hml, hown, hts⟩ (c_X10_draw l E H.size am o79_vm 12 hMI (by omega)) (cwV 1 hts gX10_drift_X10_draw rfl rfl rfl (by decide +kernel) ⟨Nat.le_of_ble_eq_true rfl, Nat.le_of_ble_eq_true rfl⟩) hE hS hA hP hD [0, 1, 2, 3, 4, 5, 6, 7, 8, 9, 10, 11, 12, 13, 14, 15, 16, 17, 18, 19, 20, 21, 22, 23, 24, 25, 26, 27, 28, 29, 30, 31, 32, 33, 34, 35, 36, 37, 38, 39, 40, 41, 42, 43, 44, 45] [] rfl rfl (by decide) (by decide) (by decide) [0, 1, 2, 3, 4, 5, 6, 7, 8, 9, 10, 11, 12, 13, 14, 15, 16, 17, 18, 19, 20, 21, 22, 23, 24, 25, 26, 27, 28, 29, 30, 31, 32, 33, 34, 35, 36, 37, 38, 39, 40, 41, 42, 43, 44, 45] (by decide) (fun u => rfl) rfl rfl rfl rfl hl.1 rfl (Nat.le_of_ble_eq_true rfl) dX10_drift_87 ⟨Nat.zero_le _, Nat.zero_le _⟩ (fun r87 u87 H locs h87 hP hD hS => ?_)
                generalize u87 = o87_vm at hP hD h87
                try dsimp only at h87
                have hf87 := h87.2
                replace h87 := h87.1
                have hFn87 := h87.2
                replace h87 := h87.1
                replace hP : va_P (eD E) vwCl (mdL E am o87_vm) H := hP
                replace hD : va_D A (mdL E am o87_vm) := hD
                have hFz : fr [23, 25, 27, 28, 30] vm o87_vm := by first | exact hFz | exact hFz.tr hFn87 (by decide) | (rw [← hv87]; repeat' (first | exact hFz | refine fr.up ?_ (by decide) | refine fr.up3 ?_ (by decide)))
                obtain ⟨z87, hz87, hzn87⟩ := h87.2
                have hMI : MdI o87_vm := by rw [hz87]; exact md_seed hMI hzn87
                have hqw87 : (o87_vm 0 0).toInt = (o79_vm 0 0).toInt := by rw [hz87]; rfl
                have hqd87 : (o87_vm 1 0).toInt = (o79_vm 1 0).toInt := by rw [hz87]; rfl
                have hqs87 : (o87_vm 23 0).toInt = (o79_vm 23 0).toInt := by rw [hz87]; rfl
                try clear hmZ
                try clear hM2
                try clear hA4
                have hH := hMI.1
                obtain ⟨hmG, hmC, hmZ, hmM, hmA, hmS, hmT⟩ := id hH
                obtain ⟨hG1, hG2, hG3⟩ := id hmG
                obtain ⟨hC1, hC2, hC3, hC4, hC5, hC6⟩ := id hmC
                obtain ⟨hM1, hM2, hM3, hM4⟩ := id hmM
                obtain ⟨hA1, hA2, hA3, hA4, hA5⟩ := id hmA
                obtain ⟨hS1, hS2, hS3, hS4, hS5, hS6⟩ := id hmS
                obtain ⟨hT1, hT2, hT3, hT4, hT5⟩ := id hmT
                have hA87 : Ag (drS (drN vm i.toNatClampNeg)) o87_vm := hA79.draw hFn87 hf87.1
                have hr87 : r87 = dval (drS (drN vm i.toNatClampNeg) 30 0) 12 := by rw [hf87.2, hA79.2.2.2.2]; rfl
                refine lv_if_ne (tgt := 140) hx hb dX10_drift_90 (by decide) (fun c90 => ?_) (fun c90 => ?_)
                · have c90_ := i_ne c90
                  have hnz90 : ¬ dval (drS (drN vm i.toNatClampNeg) 30 0) 12 = 0 := by rw [← hr87]; exact c90
                  obtain ⟨x140, e140⟩ : ∃ y : Int32, y = i + 1 := ⟨_, rfl⟩
                  refine lv_iinc (v := x140) (lv' := [(2, .int x140), (4, .int r79), (0, .ref (am 0)), (1, .int n), (3, .int r62)]) hx hb dX10_drift_140 hl (k := 3) rfl (by rw [e140]; rfl) (by decide) rfl (fun ls hl => ?_)
                  have t140 := i_add e140 (by omega)
                  refine lv_goto (tgt := 41) hx hb dX10_drift_143 (by decide) ?_
                  exact ih41 x140 o87_vm _ _ ls (by omega) hP hD hS (by omega) hMI (by omega) (by omega) hFz (by rw [i_nat1 (x := i) (by omega) (show x140.toInt = i.toInt + 1 by omega)]; first | exact hA87.not hnz90 | exact hA139) (by omega) (lv_sub hl [2, 3, 0] rfl)
                · have c90_ := i_eq c90
                  have hz90 : dval (drS (drN vm i.toNatClampNeg) 30 0) 12 = 0 := by rw [← hr87]; exact c90
                  refine lv_aload_n hx hb dX10_drift_93 rfl (lv_at hl 1 rfl) ?_
                  refine lv_aload_n hx hb dX10_drift_94 rfl (lv_at hl 1 rfl) ?_
                  refine rd_V (As := []) (rest := [.ref (am 0)]) (C := RX10) (ci := 10) ⟨hx, hb, hml, hown, hts⟩ (c_X10_cells l E A am o87_vm hH) (cwV 0 hts gX10_drift_X10_cells rfl rfl rfl (by decide +kernel) ⟨Nat.le_of_ble_eq_true rfl, Nat.le_of_ble_eq_true rfl⟩) (hE.kept hS.2.1) (hP.sub (ws' := mdL E am o87_vm) [0, 1, 2, 3, 4, 5, 6, 7, 8, 9, 10, 11, 12, 13, 14, 15, 16, 17, 18, 19, 20, 21, 22, 23, 24, 25, 26, 27, 28, 29, 30, 31, 32, 33, 34, 35, 36, 37, 38, 39, 40, 41, 42, 43, 44, 45] rfl) rfl rfl rfl rfl hl.1 rfl (Nat.le_of_ble_eq_true rfl) dX10_drift_95 ⟨Nat.zero_le _, Nat.zero_le _⟩ (fun r95 h95 => ?_)
                  have hp95 : 1 ≤ r95.toInt := by rw [h95.1]; exact mul_pos1 (by omega) (by omega)
                  have hr95 : r95 = o87_vm 0 0 * o87_vm 1 0 := cel_eq h95.1 hG1 hG2
                  refine mt_Vi (w1 := fun (u : Vf) => mdL E am u) (wf := fun (u : Vf) => mdL E am u) (wr := []) (As := [.int r95]) (rest := []) (C := RX10) (ci := 10) ⟨hx, hb, hml, hown, hts⟩ (c_X10_draw l E H.size am o87_vm r95 hMI (by omega)) (cwV 1 hts gX10_drift_X10_draw rfl rfl rfl (by decide +kernel) ⟨Nat.le_of_ble_eq_true rfl, Nat.le_of_ble_eq_true rfl⟩) hE hS hA hP hD [0, 1, 2, 3, 4, 5, 6, 7, 8, 9, 10, 11, 12, 13, 14, 15, 16, 17, 18, 19, 20, 21, 22, 23, 24, 25, 26, 27, 28, 29, 30, 31, 32, 33, 34, 35, 36, 37, 38, 39, 40, 41, 42, 43, 44, 45] [] rfl rfl (by decide) (by decide) (by decide) [0, 1, 2, 3, 4, 5, 6, 7, 8, 9, 10, 11, 12, 13, 14, 15, 16, 17, 18, 19, 20, 21, 22, 23, 24, 25, 26, 27, 28, 29, 30, 31, 32, 33, 34, 35, 36, 37, 38, 39, 40, 41, 42, 43, 44, 45] (by decide) (fun u => rfl) rfl rfl rfl rfl hl.1 rfl (Nat.le_of_ble_eq_true rfl) dX10_drift_98 ⟨Nat.zero_le _, Nat.zero_le _⟩ (fun r98 u98 H locs h98 hP hD hS => ?_)
                  generalize u98 = o98_vm at hP hD h98
                  try dsimp only at h98
                  have hf98 := h98.2
                  replace h98 := h98.1
                  have hFn98 := h98.2
                  replace h98 := h98.1
                  replace hP : va_P (eD E) vwCl (mdL E am o98_vm) H := hP
                  replace hD : va_D A (mdL E am o98_vm) := hD
                  have hFz : fr [23, 25, 27, 28, 30] vm o98_vm := by first | exact hFz | exact hFz.tr hFn98 (by decide) | (rw [← hv98]; repeat' (first | exact hFz | refine fr.up ?_ (by decide) | refine fr.up3 ?_ (by decide)))
                  obtain ⟨z98, hz98, hzn98⟩ := h98.2
                  have hMI : MdI o98_vm := by rw [hz98]; exact md_seed hMI hzn98
                  have hqw98 : (o98_vm 0 0).toInt = (o87_vm 0 0).toInt := by rw [hz98]; rfl
                  have hqd98 : (o98_vm 1 0).toInt = (o87_vm 1 0).toInt := by rw [hz98]; rfl
                  have hqs98 : (o98_vm 23 0).toInt = (o87_vm 23 0).toInt := by rw [hz98]; rfl
                  try clear hmZ
                  try clear hM2
                  try clear hA4
                  have hH := hMI.1
                  obtain ⟨hmG, hmC, hmZ, hmM, hmA, hmS, hmT⟩ := id hH
                  obtain ⟨hG1, hG2, hG3⟩ := id hmG
                  obtain ⟨hC1, hC2, hC3, hC4, hC5, hC6⟩ := id hmC
                  obtain ⟨hM1, hM2, hM3, hM4⟩ := id hmM
                  obtain ⟨hA1, hA2, hA3, hA4, hA5⟩ := id hmA
                  obtain ⟨hS1, hS2, hS3, hS4, hS5, hS6⟩ := id hmS
                  obtain ⟨hT1, hT2, hT3, hT4, hT5⟩ := id hmT
                  have hA98 := hA87.draw hFn98 hf98.1
                  refine lv_istore (lv' := [(5, .int r98), (4, .int r79), (0, .ref (am 0)), (1, .int n), (2, .int i), (3, .int r62)]) hx hb dX10_drift_101 hl (by decide) rfl (fun ls hl => ?_)
                  refine lv_aload_n hx hb dX10_drift_103 rfl (lv_at hl 2 rfl) ?_
                  refine va_get (D := eD E) (ci := 10) (v := .ref (am 25)) (C := RX10) (T := TX10) (N := 79) hx hb hts in_X10 hown hK hP 0 rfl rfl 25 (by decide) lk5 (fun _ h9 => h9) rfl dX10_drift_104 ?_
                  refine lv_iload hx hb dX10_drift_107 (lv_at hl 0 rfl) ?_
                  refine va_iald hx hb hK hP 17 0 rfl rfl (n := 24) (f := (o98_vm 25)) (i_in (by omega) (by omega)) dX10_drift_109 ?_
                  refine lv_topi (fun x109 e109 => ?_)
                  have b109 := hS3 r98.toNatClampNeg (i_natlt (by omega) (by decide))
                  rw [← e109] at b109
                  refine lv_aload_n hx hb dX10_drift_110 rfl (lv_at hl 2 rfl) ?_
                  refine lv_bipush (v := 30) hx hb dX10_drift_111 (by decide) ?_
                  refine mt_Vi (w1 := fun (u : Vf) => mdL E am u) (wf := fun (u : Vf) => mdL E am u) (wr := []) (As := [.int 30]) (rest := [.int x109]) (C := RX10) (ci := 10) ⟨hx, hb, hml, hown, hts⟩ (c_X10_draw l E H.size am o98_vm 30 hMI (by omega)) (cwV 1 hts gX10_drift_X10_draw rfl rfl rfl (by decide +kernel) ⟨Nat.le_of_ble_eq_true rfl, Nat.le_of_ble_eq_true rfl⟩) hE hS hA hP hD [0, 1, 2, 3, 4, 5, 6, 7, 8, 9, 10, 11, 12, 13, 14, 15, 16, 17, 18, 19, 20, 21, 22, 23, 24, 25, 26, 27, 28, 29, 30, 31, 32, 33, 34, 35, 36, 37, 38, 39, 40, 41, 42, 43, 44, 45] [] rfl rfl (by decide) (by decide) (by decide) [0, 1, 2, 3, 4, 5, 6, 7, 8, 9, 10, 11, 12, 13, 14, 15, 16, 17, 18, 19, 20, 21, 22, 23, 24, 25, 26, 27, 28, 29, 30, 31, 32, 33, 34, 35, 36, 37, 38, 39, 40, 41, 42, 43, 44, 45] (by decide) (fun u => rfl) rfl rfl rfl rfl hl.1 rfl (Nat.le_of_ble_eq_true rfl) dX10_drift_113 ⟨Nat.zero_le _, Nat.zero_le _⟩ (fun r113 u113 H locs h113 hP hD hS => ?_)
                  generalize u113 = o113_vm at hP hD h113
                  try dsimp only at h113
                  have hf113 := h113.2
                  replace h113 := h113.1
                  have hFn113 := h113.2
                  replace h113 := h113.1
                  replace hP : va_P (eD E) vwCl (mdL E am o113_vm) H := hP
                  replace hD : va_D A (mdL E am o113_vm) := hD
                  have hFz : fr [23, 25, 27, 28, 30] vm o113_vm := by first | exact hFz | exact hFz.tr hFn113 (by decide) | (rw [← hv113]; repeat' (first | exact hFz | refine fr.up ?_ (by decide) | refine fr.up3 ?_ (by decide)))
                  obtain ⟨z113, hz113, hzn113⟩ := h113.2
                  have hMI : MdI o113_vm := by rw [hz113]; exact md_seed hMI hzn113
                  have hqw113 : (o113_vm 0 0).toInt = (o98_vm 0 0).toInt := by rw [hz113]; rfl
                  have hqd113 : (o113_vm 1 0).toInt = (o98_vm 1 0).toInt := by rw [hz113]; rfl
                  have hqs113 : (o113_vm 23 0).toInt = (o98_vm 23 0).toInt := by rw [hz113]; rfl
                  try clear hmZ
                  try clear hM2
                  try clear hA4
                  have hH := hMI.1
                  obtain ⟨hmG, hmC, hmZ, hmM, hmA, hmS, hmT⟩ := id hH
                  obtain ⟨hG1, hG2, hG3⟩ := id hmG
                  obtain ⟨hC1, hC2, hC3, hC4, hC5, hC6⟩ := id hmC
                  obtain ⟨hM1, hM2, hM3, hM4⟩ := id hmM
                  obtain ⟨hA1, hA2, hA3, hA4, hA5⟩ := id hmA
                  obtain ⟨hS1, hS2, hS3, hS4, hS5, hS6⟩ := id hmS
                  obtain ⟨hT1, hT2, hT3, hT4, hT5⟩ := id hmT
                  have hA113 := hA98.draw hFn113 hf113.1
                  have sv116_r113 : 0 ≤ r113.toInt ∧ r113.toInt ≤ 30 := by omega
                  refine lv_iadd hx hb dX10_drift_116 ?_
                  refine lv_topi (fun x116 e116 => ?_)
                  have t116 := i_add e116 (by omega)
                  refine lv_istore (lv' := [(6, .int x116), (5, .int r98), (4, .int r79), (0, .ref (am 0)), (1, .int n), (2, .int i), (3, .int r62)]) hx hb dX10_drift_117 hl (by decide) rfl (fun ls hl => ?_)
                  refine lv_aload_n hx hb dX10_drift_119 rfl (lv_at hl 3 rfl) ?_
                  refine va_get (D := eD E) (ci := 10) (v := .ref (am 25)) (C := RX10) (T := TX10) (N := 79) hx hb hts in_X10 hown hK hP 0 rfl rfl 25 (by decide) lk5 (fun _ h9 => h9) rfl dX10_drift_120 ?_
                  refine lv_iload hx hb dX10_drift_123 (lv_at hl 1 rfl) ?_
                  refine lv_iload hx hb dX10_drift_125 (lv_at hl 0 rfl) ?_
                  refine lv_bipush (v := 90) hx hb dX10_drift_127 (by decide) ?_
                  have K139 : ∀  (nl : Int32) (H : Heap) (locs : List Loc) (ls : Array Slot), va_P (eD E) vwCl (mdL E am o113_vm) H → va_D A (mdL E am o113_vm) → va_S A s.heap H locs → (0 ≤ nl.toInt ∧ nl.toInt ≤ 90) → (nl = lod x116) → lv_has ls 7 [(0, .ref (am 0)), (1, .int n), (2, .int i), (3, .int r62), (4, .int r79), (5, .int r98), (6, .int x116)] → W p l e (headSpec wsX10_drift rm_X10_drift).room s m ([.ref (am 0), .int n] : List Value).toArray below meth c H locs 0 0 Q (F0 m 139 ls [.int nl, .int r98, .ref (am 25)]) := by
                    intro nl H locs ls hP hD hS h139_0 h139_1 hl
                    have hx139_0 := h139_1
                    clear h139_1
                    refine va_iast hx hb hK hP hD hS 17 0 rfl rfl (n := 24) (f := (o113_vm 25)) (i_in (by omega) (by omega)) dX10_drift_139 (fun H locs hP hD hS => ?_)
                    replace hP : va_P (eD E) vwCl (mdL E am (up2 o113_vm 25 r98.toNatClampNeg nl)) H := hP
                    replace hD : va_D A (mdL E am (up2 o113_vm 25 r98.toNatClampNeg nl)) := hD
                    generalize hv139 : up2 o113_vm 25 r98.toNatClampNeg nl = vm_139 at hP hD
                    have hFz : fr [23, 25, 27, 28, 30] vm vm_139 := by first | exact hFz | (rw [← hv139]; exact hFz.up (by decide))
                    have hMI : MdI vm_139 := by rw [← hv139]; exact md_load hMI (by omega)
                    have hqw139 : (vm_139 0 0).toInt = (o113_vm 0 0).toInt := by rw [← hv139]; rfl
                    have hqd139 : (vm_139 1 0).toInt = (o113_vm 1 0).toInt := by rw [← hv139]; rfl
                    have hqs139 : (vm_139 23 0).toInt = (o113_vm 23 0).toInt := by rw [← hv139]; rfl
                    have hA139 := hA87.takes hz90 hf98.2 hr95 hA98 hA113 hx139_0 (by rw [e116, e109, hf113.2]) hv139
                    obtain ⟨x140, e140⟩ : ∃ y : Int32, y = i + 1 := ⟨_, rfl⟩
                    refine lv_iinc (v := x140) (lv' := [(2, .int x140), (0, .ref (am 0)), (1, .int n), (3, .int r62), (4, .int r79), (5, .int r98), (6, .int x116)]) hx hb dX10_drift_140 hl (k := 2) rfl (by rw [e140]; rfl) (by decide) rfl (fun ls hl => ?_)
                    have t140 := i_add e140 (by omega)
                    refine lv_goto (tgt := 41) hx hb dX10_drift_143 (by decide) ?_
                    exact ih41 x140 vm_139 _ _ ls (by omega) hP hD hS (by omega) hMI (by omega) (by omega) hFz (by rw [i_nat1 (x := i) (by omega) (show x140.toInt = i.toInt + 1 by omega)]; first | exact hA87.not hnz90 | exact hA139) (by omega) (lv_sub hl [1, 2, 0] rfl)
                  refine lv_icmp_le (tgt := 137) hx hb dX10_drift_129 (by decide) (fun c129 => ?_) (fun c129 => ?_)
                  · have c129_ := i_le c129
                    refine lv_iload hx hb dX10_drift_137 (lv_at hl 0 rfl) ?_
                    exact K139 x116 _ _ ls hP hD hS (by omega) (by unfold lod; first | rw [if_pos c129] | rw [if_neg c129]) (lv_sub hl [3, 4, 5, 6, 2, 1, 0] rfl)
                  · have c129_ := i_nle c129
                    refine lv_bipush (v := 90) hx hb dX10_drift_132 (by decide) ?_
                    refine lv_goto (tgt := 139) hx hb dX10_drift_134 (by decide) ?_
                    exact K139 90 _ _ ls hP hD hS (by omega) (by unfold lod; first | rw [if_pos c129] | rw [if_neg c129]) (lv_sub hl [3, 4, 5, 6, 2, 1, 0] rfl)
              refine lv_if_ge (tgt := 78) hx hb dX10_drift_68 (by decide) (fun c68 => ?_) (fun c68 => ?_)
              · have c68_ := i_le c68
                have hgo68 : ¬ r62.toInt < 0 := by omega
                refine lv_iload_n hx hb dX10_drift_78 rfl (lv_at hl 0 rfl) ?_
                exact K79 r62 _ _ ls hP hD hS (by omega) (by unfold drT; rw [← hG62]; first | rw [if_pos hst68, hA53.2.2.1] | rw [if_neg hgo68]) (lv_sub hl [1, 2, 3, 0] rfl)
              · have c68_ := i_nle c68
                have hst68 : r62.toInt < 0 := by omega
                refine lv_aload_n hx hb dX10_drift_71 rfl (lv_at hl 1 rfl) ?_
                refine va_get (D := eD E) (ci := 10) (v := .int (o53_vm 27 0)) (C := RX10) (T := TX10) (N := 79) hx hb hts in_X10 hown hK hP 0 rfl rfl 27 (by decide) lk4 (fun _ h9 => h9) rfl dX10_drift_72 ?_
                refine lv_goto (tgt := 79) hx hb dX10_drift_75 (by decide) ?_
                exact K79 (o53_vm 27 0) _ _ ls hP hD hS (by omega) (by unfold drT; rw [← hG62]; first | rw [if_pos hst68, hA53.2.2.1] | rw [if_neg hgo68]) (lv_sub hl [1, 2, 3, 0] rfl)
        exact K41 _ 0 vm _ _ ls (Nat.lt_succ_self _) hP hD hS (by omega) hMI (by omega) (by omega) hFz Ag.rf (by omega) (lv_sub hl [1, 2, 0] rfl)
      · have c33_ := i_nle c33
        refine lv_ldc hx hb hown lk6 dX10_drift_36 ?_
        subst hQ
        exact W.iret (v := (-1000000004)) hx hb hr (fun t ht hW => ⟨⟨(-1000000004), (vm), rfl, (show ((MdI vm) ∧ fr [23, 25, 27, 28, 30] vm vm) ∧ (DriP vm n ((-1000000004) : Int32) (vm = vm) (Ag (drN vm n.toNatClampNeg) vm)) from ⟨⟨hMI, hFz⟩, (Or.inr ⟨by omega, Or.inr ⟨by omega, Or.inl ⟨by omega, by omega, rfl⟩⟩⟩)⟩), by rw [ht]; exact hP, hD⟩, hS.F ht⟩) hS.2.2 dX10_drift_38
    · have c19_ := i_eq c19
      refine lv_ldcw hx hb hown lk7 dX10_drift_22 ?_
      subst hQ
      exact W.iret (v := (-1000000003)) hx hb hr (fun t ht hW => ⟨⟨(-1000000003), (vm), rfl, (show ((MdI vm) ∧ fr [23, 25, 27, 28, 30] vm vm) ∧ (DriP vm n ((-1000000003) : Int32) (vm = vm) (Ag (drN vm n.toNatClampNeg) vm)) from ⟨⟨hMI, hFz⟩, (Or.inr ⟨by omega, Or.inl ⟨by omega, by omega, rfl⟩⟩)⟩), by rw [ht]; exact hP, hD⟩, hS.F ht⟩) hS.2.2 dX10_drift_25
  · have c9_ := i_eq c9
    replace h6 := or_n h6 c9_
    refine lv_ldc hx hb hown lk8 dX10_drift_12 ?_
    subst hQ
    exact W.iret (v := (-1000000002)) hx hb hr (fun t ht hW => ⟨⟨(-1000000002), (vm), rfl, (show ((MdI vm) ∧ fr [23, 25, 27, 28, 30] vm vm) ∧ (DriP vm n ((-1000000002) : Int32) (vm = vm) (Ag (drN vm n.toNatClampNeg) vm)) from ⟨⟨hMI, hFz⟩, (Or.inl ⟨by omega, by omega, rfl⟩)⟩), by rw [ht]; exact hP, hD⟩, hS.F ht⟩) hS.2.2 dX10_drift_14
def rm_X10_odds : Room := { frames := 4, cells := 0, slots := 0, locals := 97 }
set_option maxHeartbeats 4000000 in
set_option maxRecDepth 100000 in
theorem c_X10_odds (l : Launch) (E : Ev) (sz : Nat) (am : Nat → Nat) (vm : Vf) (k : Int32) (q : Int32) (x : Int32) (y : Int32) (lim : Int32) (step : Int32) (hMI : MdI vm) : Met l yX10_odds wsX10_odds rm_X10_odds (MtP E sz [.ref (am 0), .int k, .int q, .int x, .int y, .int lim, .int step] (mdL E am vm)) (va_Qi (fun (r : Int32) (u : Vf) => ((MdI u) ∧ fr [62] vm u) ∧ (UnkP ((0 ≤ k.toInt ∧ k.toInt < (vm 4 0).toInt) ∧ inG x y (vm 0 0) (vm 1 0)) r (OutP ((0 ≤ q.toInt ∧ q.toInt ≤ 100) ∧ (0 ≤ lim.toInt ∧ lim.toInt ≤ 999) ∧ (0 ≤ step.toInt ∧ step.toInt ≤ 900000)) r (r = mOdd vm k q (mC vm x y) lim step)))) (MtB E (va_A (mdL E am vm) sz) (fun u => mdL E am u)) (va_A (mdL E am vm) sz)) 0 0 (va_A (mdL E am vm) sz) := by
  refine Met.ofW (cc := cX10_odds) (maxL := 11) (ret := (some .int)) (by decide) rfl ?_
  intro p e s m args below meth c s₁ B hml hv
  obtain ⟨rfl, hsz, hE, hP, hD0⟩ := hv
  subst hsz
  have hD := hD0.self (sz := s.heap.size)
  generalize hAe : va_A (mdL E am vm) s.heap.size = A at hD hE ⊢
  have hA : ∀ q : Nat, s.heap.size ≤ q → A q := fun q h => by rw [← hAe]; exact Or.inr h
  have hS : va_S A s.heap s.heap [] := va_S.rf
  have hx := B.exec
  have hb := B.bytes
  have hr := B.returns
  have hts := atoms_spec (ws := wsX10_odds) B.pre
  have hown : s.vm.findClass RX10 = some m.cls := findClass_of_methodNamed B.named
  have hlocks := B.notSynchronized
  have hK := hE.1
  have in_X10 : ∀ w ∈ u_ws RX10 TX10 79, w ∈ wsX10_odds := fun w h => List.mem_cons_of_mem _ (List.mem_append_right _ h)
  have lk0 := hts (.fieldLink RX10 267 "TidedGroundModel" "moons" "I") (List.mem_of_getElem? (i := 1) rfl)
  have lk1 := hts (.constant RX10 329 (-1000000001)) (List.mem_of_getElem? (i := 2) rfl)
  have lk2 := hts (.constantLong RX10 477 100) (List.mem_of_getElem? (i := 3) rfl)
  have lk3 := hts (.constant RX10 175 (-1000000002)) (List.mem_of_getElem? (i := 5) rfl)
  have lk4 := hts (.constantLong RX10 374 999) (List.mem_of_getElem? (i := 4) rfl)
  have lk5 := hts (.fieldLink RX10 159 "TidedGroundModel" "wide" "I") (List.mem_of_getElem? (i := 6) rfl)
  have lk6 := hts (.fieldLink RX10 125 "TidedGroundModel" "away" "I") (List.mem_of_getElem? (i := 7) rfl)
  have lk7 := hts (.constant RX10 479 10000000) (List.mem_of_getElem? (i := 8) rfl)
  have lk8 := hts (.constant RX10 392 1000000000) (List.mem_of_getElem? (i := 9) rfl)
  have n_m1000000002 : ((-1000000002) : Int32).toInt = -1000000002 := by decide
  have n_m1000000001 : ((-1000000001) : Int32).toInt = -1000000001 := by decide
  have n_m1 : ((-1) : Int32).toInt = -1 := by decide
  have n_0 : (0 : Int32).toInt = 0 := by decide
  have n_1 : (1 : Int32).toInt = 1 := by decide
  have n_10000000 : (10000000 : Int32).toInt = 10000000 := by decide
  have n_1000000000 : (1000000000 : Int32).toInt = 1000000000 := by decide
  have hl := lv_entry ([.ref (am 0), .int k, .int q, .int x, .int y, .int lim, .int step]) (n := 11) (Nat.le_of_ble_eq_true rfl)
  rw [lg_entry_eq]
  generalize (lg_sl ([.ref (am 0), .int k, .int q, .int x, .int y, .int lim, .int step]) ++ List.replicate (11 - (lg_sl ([.ref (am 0), .int k, .int q, .int x, .int y, .int lim, .int step])).length) Slot.unset).toArray = ls at hl ⊢
  have hl : lv_has ls 11 [(0, .ref (am 0)), (1, .int k), (2, .int q), (3, .int x), (4, .int y), (5, .int lim), (6, .int step)] := hl
  refine W_abs (fun Q hQ => ?_)
  have hH := hMI.1
  obtain ⟨hmG, hmC, hmZ, hmM, hmA, hmS, hmT⟩ := id hH
  obtain ⟨hG1, hG2, hG3⟩ := id hmG
  obtain ⟨hC1, hC2, hC3, hC4, hC5, hC6⟩ := id hmC
  obtain ⟨hM1, hM2, hM3, hM4⟩ := id hmM
  obtain ⟨hA1, hA2, hA3, hA4, hA5⟩ := id hmA
  obtain ⟨hS1, hS2, hS3, hS4, hS5, hS6⟩ := id hmS
  obtain ⟨hT1, hT2, hT3, hT4, hT5⟩ := id hmT
  have hFz : fr [62] vm vm := fr.rf
  refine lv_iload_n hx hb dX10_odds_0 rfl (lv_at hl 1 rfl) ?_
  refine lv_i2l hx hb dX10_odds_1 rfl ?_
  refine lv_lconst (v := 0) hx hb dX10_odds_2 (by decide) ?_
  refine lv_aload_n hx hb dX10_odds_3 rfl (lv_at hl 0 rfl) ?_
  refine va_get (D := eD E) (ci := 10) (v := .int (vm 4 0)) (C := RX10) (T := TX10) (N := 79) hx hb hts in_X10 hown hK hP 0 rfl rfl 4 (by decide) lk0 (fun _ h9 => h9) rfl dX10_odds_4 ?_
  refine lv_iconst (v := 1) hx hb dX10_odds_7 (by decide) ?_
  refine lv_isub hx hb dX10_odds_8 ?_
  refine lv_topi (fun x8 e8 => ?_)
  have t8 := i_sub e8 (by omega)
  refine lv_i2l hx hb dX10_odds_9 rfl ?_
  have lt10_0 : (k.toInt64).toInt = k.toInt := Int32.toInt_toInt64 _
  have lt10_1 : (0 : Int64).toInt = 0 := by decide
  have lt10_2 : (x8.toInt64).toInt = x8.toInt := Int32.toInt_toInt64 _
  refine rd_S (As := [.long k.toInt64, .long 0, .long x8.toInt64]) (rest := []) ⟨hx, hb, hml, hown, hts⟩ (c_X10_in l E A k.toInt64 0 x8.toInt64) (va_cwS 3 hts gX10_odds_X10_in rfl rfl rfl (by decide +kernel) ⟨Nat.le_of_ble_eq_true rfl, Nat.le_of_ble_eq_true rfl⟩) (hE.kept hS.2.1) (hP.sub (ws' := []) [] rfl) rfl hl.1 rfl (Nat.le_of_ble_eq_true rfl) dX10_odds_10 ⟨Nat.zero_le _, Nat.zero_le _⟩ (fun r10 h10 => ?_)
  refine lv_if_eq (tgt := 26) hx hb dX10_odds_13 (by decide) (fun c13 => ?_) (fun c13 => ?_)
  · have c13_ := i_eq c13
    replace h10 := or_n h10 c13_
    refine lv_ldcw hx hb hown lk1 dX10_odds_26 ?_
    subst hQ
    exact W.iret (v := (-1000000001)) hx hb hr (fun t ht hW => ⟨⟨(-1000000001), (vm), rfl, (show ((MdI vm) ∧ fr [62] vm vm) ∧ (UnkP ((0 ≤ k.toInt ∧ k.toInt < (vm 4 0).toInt) ∧ inG x y (vm 0 0) (vm 1 0)) ((-1000000001) : Int32) (OutP ((0 ≤ q.toInt ∧ q.toInt ≤ 100) ∧ (0 ≤ lim.toInt ∧ lim.toInt ≤ 999) ∧ (0 ≤ step.toInt ∧ step.toInt ≤ 900000)) ((-1000000001) : Int32) (((-1000000001) : Int32) = mOdd vm k q (mC vm x y) lim step))) from ⟨⟨hMI, hFz⟩, (Or.inl ⟨by omega, (by unfold inG; omega)⟩)⟩), by rw [ht]; exact hP, hD⟩, hS.F ht⟩) hS.2.2 dX10_odds_29
  · have c13_ := i_ne c13
    replace h10 := or_y h10 c13_
    clear c13_
    refine lv_aload_n hx hb dX10_odds_16 rfl (lv_at hl 0 rfl) ?_
    refine lv_iload_n hx hb dX10_odds_17 rfl (lv_at hl 3 rfl) ?_
    refine lv_iload hx hb dX10_odds_18 (lv_at hl 4 rfl) ?_
    refine rd_V (As := [.int x, .int y]) (rest := []) (C := RX10) (ci := 10) ⟨hx, hb, hml, hown, hts⟩ (c_X10_isCell l E A am vm x y hH) (cwV 2 hts gX10_odds_X10_isCell rfl rfl rfl (by decide +kernel) ⟨Nat.le_of_ble_eq_true rfl, Nat.le_of_ble_eq_true rfl⟩) (hE.kept hS.2.1) (hP.sub (ws' := mdL E am vm) [0, 1, 2, 3, 4, 5, 6, 7, 8, 9, 10, 11, 12, 13, 14, 15, 16, 17, 18, 19, 20, 21, 22, 23, 24, 25, 26, 27, 28, 29, 30, 31, 32, 33, 34, 35, 36, 37, 38, 39, 40, 41, 42, 43, 44, 45] rfl) rfl rfl rfl rfl hl.1 rfl (Nat.le_of_ble_eq_true rfl) dX10_odds_20 ⟨Nat.zero_le _, Nat.zero_le _⟩ (fun r20 h20 => ?_)
    refine lv_if_ne (tgt := 30) hx hb dX10_odds_23 (by decide) (fun c23 => ?_) (fun c23 => ?_)
    · have c23_ := i_ne c23
      replace h20 := or_y h20 c23_
      clear c23_
      have sv30_x : 0 ≤ x.toInt ∧ x.toInt ≤ 5 := by omega
      have sv30_y : 0 ≤ y.toInt ∧ y.toInt ≤ 5 := by omega
      have hcel : inG x y (vm 0 0) (vm 1 0) := (by unfold inG; omega)
      have hki : 0 ≤ k.toInt ∧ k.toInt < (vm 4 0).toInt := by omega
      refine lv_iload_n hx hb dX10_odds_30 rfl (lv_at hl 2 rfl) ?_
      refine lv_i2l hx hb dX10_odds_31 rfl ?_
      refine lv_lconst (v := 0) hx hb dX10_odds_32 (by decide) ?_
      refine lv_ldc2 hx hb hown lk2 dX10_odds_33 ?_
      have lt36_0 : (q.toInt64).toInt = q.toInt := Int32.toInt_toInt64 _
      have lt36_1 : (0 : Int64).toInt = 0 := by decide
      have lt36_2 : (100 : Int64).toInt = 100 := by decide
      refine rd_S (As := [.long q.toInt64, .long 0, .long 100]) (rest := []) ⟨hx, hb, hml, hown, hts⟩ (c_X10_in l E A q.toInt64 0 100) (va_cwS 3 hts gX10_odds_X10_in rfl rfl rfl (by decide +kernel) ⟨Nat.le_of_ble_eq_true rfl, Nat.le_of_ble_eq_true rfl⟩) (hE.kept hS.2.1) (hP.sub (ws' := []) [] rfl) rfl hl.1 rfl (Nat.le_of_ble_eq_true rfl) dX10_odds_36 ⟨Nat.zero_le _, Nat.zero_le _⟩ (fun r36 h36 => ?_)
      refine lv_if_eq (tgt := 63) hx hb dX10_odds_39 (by decide) (fun c39 => ?_) (fun c39 => ?_)
      · have c39_ := i_eq c39
        replace h36 := or_n h36 c39_
        refine lv_ldc hx hb hown lk3 dX10_odds_63 ?_
        subst hQ
        exact W.iret (v := (-1000000002)) hx hb hr (fun t ht hW => ⟨⟨(-1000000002), (vm), rfl, (show ((MdI vm) ∧ fr [62] vm vm) ∧ (UnkP ((0 ≤ k.toInt ∧ k.toInt < (vm 4 0).toInt) ∧ inG x y (vm 0 0) (vm 1 0)) ((-1000000002) : Int32) (OutP ((0 ≤ q.toInt ∧ q.toInt ≤ 100) ∧ (0 ≤ lim.toInt ∧ lim.toInt ≤ 999) ∧ (0 ≤ step.toInt ∧ step.toInt ≤ 900000)) ((-1000000002) : Int32) (((-1000000002) : Int32) = mOdd vm k q (mC vm x y) lim step))) from ⟨⟨hMI, hFz⟩, (Or.inr ⟨⟨hki, hcel⟩, Or.inl ⟨by omega, by omega⟩⟩)⟩), by rw [ht]; exact hP, hD⟩, hS.F ht⟩) hS.2.2 dX10_odds_65
      · have c39_ := i_ne c39
        replace h36 := or_y h36 c39_
        clear c39_
        refine lv_iload hx hb dX10_odds_42 (lv_at hl 5 rfl) ?_
        refine lv_i2l hx hb dX10_odds_44 rfl ?_
        refine lv_lconst (v := 0) hx hb dX10_odds_45 (by decide) ?_
        refine lv_ldc2 hx hb hown lk4 dX10_odds_46 ?_
        have lt49_0 : (lim.toInt64).toInt = lim.toInt := Int32.toInt_toInt64 _
        have lt49_1 : (0 : Int64).toInt = 0 := by decide
        have lt49_2 : (999 : Int64).toInt = 999 := by decide
        refine rd_S (As := [.long lim.toInt64, .long 0, .long 999]) (rest := []) ⟨hx, hb, hml, hown, hts⟩ (c_X10_in l E A lim.toInt64 0 999) (va_cwS 3 hts gX10_odds_X10_in rfl rfl rfl (by decide +kernel) ⟨Nat.le_of_ble_eq_true rfl, Nat.le_of_ble_eq_true rfl⟩) (hE.kept hS.2.1) (hP.sub (ws' := []) [] rfl) rfl hl.1 rfl (Nat.le_of_ble_eq_true rfl) dX10_odds_49 ⟨Nat.zero_le _, Nat.zero_le _⟩ (fun r49 h49 => ?_)
        refine lv_if_eq (tgt := 63) hx hb dX10_odds_52 (by decide) (fun c52 => ?_) (fun c52 => ?_)
        · have c52_ := i_eq c52
          replace h49 := or_n h49 c52_
          refine lv_ldc hx hb hown lk3 dX10_odds_63 ?_
          subst hQ
          exact W.iret (v := (-1000000002)) hx hb hr (fun t ht hW => ⟨⟨(-1000000002), (vm), rfl, (show ((MdI vm) ∧ fr [62] vm vm) ∧ (UnkP ((0 ≤ k.toInt ∧ k.toInt < (vm 4 0).toInt) ∧ inG x y (vm 0 0) (vm 1 0)) ((-1000000002) : Int32) (OutP ((0 ≤ q.toInt ∧ q.toInt ≤ 100) ∧ (0 ≤ lim.toInt ∧ lim.toInt ≤ 999) ∧ (0 ≤ step.toInt ∧ step.toInt ≤ 900000)) ((-1000000002) : Int32) (((-1000000002) : Int32) = mOdd vm k q (mC vm x y) lim step))) from ⟨⟨hMI, hFz⟩, (Or.inr ⟨⟨hki, hcel⟩, Or.inl ⟨by omega, by omega⟩⟩)⟩), by rw [ht]; exact hP, hD⟩, hS.F ht⟩) hS.2.2 dX10_odds_65
        · have c52_ := i_ne c52
          replace h49 := or_y h49 c52_
          clear c52_
          refine lv_iload hx hb dX10_odds_55 (lv_at hl 6 rfl) ?_
          refine rd_S (As := [.int step]) (rest := []) ⟨hx, hb, hml, hown, hts⟩ (c_X10_isStep l E A step) (va_cwS 1 hts gX10_odds_X10_isStep rfl rfl rfl (by decide +kernel) ⟨Nat.le_of_ble_eq_true rfl, Nat.le_of_ble_eq_true rfl⟩) (hE.kept hS.2.1) (hP.sub (ws' := []) [] rfl) rfl hl.1 rfl (Nat.le_of_ble_eq_true rfl) dX10_odds_57 ⟨Nat.zero_le _, Nat.zero_le _⟩ (fun r57 h57 => ?_)
          refine lv_if_ne (tgt := 66) hx hb dX10_odds_60 (by decide) (fun c60 => ?_) (fun c60 => ?_)
          · have c60_ := i_ne c60
            replace h57 := or_y h57 c60_
            clear c60_
            refine lv_aload_n hx hb dX10_odds_66 rfl (lv_at hl 0 rfl) ?_
            refine va_get (D := eD E) (ci := 10) (v := .int (vm 0 0)) (C := RX10) (T := TX10) (N := 79) hx hb hts in_X10 hown hK hP 0 rfl rfl 0 (by decide) lk5 (fun _ h9 => h9) rfl dX10_odds_67 ?_
            refine lv_iload hx hb dX10_odds_70 (lv_at hl 4 rfl) ?_
            refine lv_imul hx hb dX10_odds_72 ?_
            refine lv_topi (fun x72 e72 => ?_)
            have qm72 := mcell_lt hG1 hG3 (x := x) (y := y) (by omega) (by omega) (by omega) (by omega)
            have t72 := i_mul e72 (by omega)
            refine lv_iload_n hx hb dX10_odds_73 rfl (lv_at hl 3 rfl) ?_
            refine lv_iadd hx hb dX10_odds_74 ?_
            refine lv_topi (fun x74 e74 => ?_)
            have t74 := i_add e74 (by omega)
            refine lv_istore (lv' := [(7, .int x74), (0, .ref (am 0)), (1, .int k), (2, .int q), (3, .int x), (4, .int y), (5, .int lim), (6, .int step)]) hx hb dX10_odds_75 hl (by decide) rfl (fun ls hl => ?_)
            have sv77_x74 : 0 ≤ x74.toInt ∧ x74.toInt ≤ 23 := by omega
            refine lv_aload_n hx hb dX10_odds_77 rfl (lv_at hl 1 rfl) ?_
            refine lv_iload hx hb dX10_odds_78 (lv_at hl 0 rfl) ?_
            refine lv_iload hx hb dX10_odds_80 (lv_at hl 7 rfl) ?_
            refine rd_V (As := [.int x74, .int step]) (rest := []) (C := RX10) (ci := 10) ⟨hx, hb, hml, hown, hts⟩ (c_X10_leanAt l E A am vm x74 step hH (by omega) (by omega) (by omega)) (cwV 2 hts gX10_odds_X10_leanAt rfl rfl rfl (by decide +kernel) ⟨Nat.le_of_ble_eq_true rfl, Nat.le_of_ble_eq_true rfl⟩) (hE.kept hS.2.1) (hP.sub (ws' := mdL E am vm) [0, 1, 2, 3, 4, 5, 6, 7, 8, 9, 10, 11, 12, 13, 14, 15, 16, 17, 18, 19, 20, 21, 22, 23, 24, 25, 26, 27, 28, 29, 30, 31, 32, 33, 34, 35, 36, 37, 38, 39, 40, 41, 42, 43, 44, 45] rfl) rfl rfl rfl rfl hl.1 rfl (Nat.le_of_ble_eq_true rfl) dX10_odds_82 ⟨Nat.zero_le _, Nat.zero_le _⟩ (fun r82 h82 => ?_)
            have hf82 := h82.2
            replace h82 := h82.1
            refine lv_iload hx hb dX10_odds_85 (lv_at hl 6 rfl) ?_
            have K95 : ∀  (b1 : Int32) (H : Heap) (locs : List Loc) (ls : Array Slot), va_P (eD E) vwCl (mdL E am vm) H → va_D A (mdL E am vm) → va_S A s.heap H locs → (b1.toInt ≠ 0 ↔ ¬ mLean vm x74 step ≤ lim) → lv_has ls 11 [(0, .ref (am 0)), (1, .int k), (2, .int q), (3, .int x), (4, .int y), (5, .int lim), (6, .int step), (7, .int x74)] → W p l e (headSpec wsX10_odds rm_X10_odds).room s m ([.ref (am 0), .int k, .int q, .int x, .int y, .int lim, .int step] : List Value).toArray below meth c H locs 0 0 Q (F0 m 95 ls [.int b1]) := by
              intro b1 H locs ls hP hD hS h95_0 hl
              have hx95_0 := h95_0
              clear h95_0
              refine lv_istore (lv' := [(8, .int b1), (0, .ref (am 0)), (1, .int k), (2, .int q), (3, .int x), (4, .int y), (5, .int lim), (6, .int step), (7, .int x74)]) hx hb dX10_odds_95 hl (by decide) rfl (fun ls hl => ?_)
              refine lv_aload_n hx hb dX10_odds_97 rfl (lv_at hl 1 rfl) ?_
              refine lv_iload_n hx hb dX10_odds_98 rfl (lv_at hl 2 rfl) ?_
              refine va_put (D := eD E) (ci := 10) (v := .int k) (ty := .int) (C := RX10) (T := TX10) (N := 79) hx hb hts in_X10 tyX10 tyX10_ok nmX10 hown hK hP hD hS 0 rfl rfl 62 (by decide) lk6 (fun _ h9 => h9) rfl (by decide +kernel) rfl rfl (Nat.le_of_ble_eq_true rfl) dX10_odds_99 (fun H locs hP hD hS => ?_)
              replace hP : va_P (eD E) vwCl (mdL E am (up2 vm 62 0 k)) H := hP
              replace hD : va_D A (mdL E am (up2 vm 62 0 k)) := hD
              generalize hv99 : up2 vm 62 0 k = vm_99 at hP hD
              have hFz : fr [62] vm vm_99 := by first | exact hFz | (rw [← hv99]; exact hFz.up (by decide))
              have hH : MdH vm_99 := by rw [← hv99]; exact hMI.1
              have hw99 : (vm_99 0 0).toInt = (vm 0 0).toInt := by rw [← hv99]; rfl
              refine lv_aload_n hx hb dX10_odds_102 rfl (lv_at hl 1 rfl) ?_
              refine lv_iload hx hb dX10_odds_103 (lv_at hl 8 rfl) ?_
              refine lv_iload hx hb dX10_odds_105 (lv_at hl 7 rfl) ?_
              refine rd_V (As := [.int x74, .int step]) (rest := []) (C := RX10) (ci := 10) ⟨hx, hb, hml, hown, hts⟩ (c_X10_leanAt l E A am vm_99 x74 step hH (by omega) (by omega) (by omega)) (cwV 2 hts gX10_odds_X10_leanAt rfl rfl rfl (by decide +kernel) ⟨Nat.le_of_ble_eq_true rfl, Nat.le_of_ble_eq_true rfl⟩) (hE.kept hS.2.1) (hP.sub (ws' := mdL E am vm_99) [0, 1, 2, 3, 4, 5, 6, 7, 8, 9, 10, 11, 12, 13, 14, 15, 16, 17, 18, 19, 20, 21, 22, 23, 24, 25, 26, 27, 28, 29, 30, 31, 32, 33, 34, 35, 36, 37, 38, 39, 40, 41, 42, 43, 44, 45] rfl) rfl rfl rfl rfl hl.1 rfl (Nat.le_of_ble_eq_true rfl) dX10_odds_107 ⟨Nat.zero_le _, Nat.zero_le _⟩ (fun r107 h107 => ?_)
              have hf107 := h107.2
              replace h107 := h107.1
              refine lv_iload hx hb dX10_odds_110 (lv_at hl 6 rfl) ?_
              have K120 : ∀  (b2 : Int32) (H : Heap) (locs : List Loc) (ls : Array Slot), va_P (eD E) vwCl (mdL E am vm_99) H → va_D A (mdL E am vm_99) → va_S A s.heap H locs → (b2.toInt ≠ 0 ↔ ¬ mLean (up2 vm 62 0 k) x74 step ≤ lim) → lv_has ls 11 [(0, .ref (am 0)), (1, .int k), (2, .int q), (3, .int x), (4, .int y), (5, .int lim), (6, .int step), (7, .int x74), (8, .int b1)] → W p l e (headSpec wsX10_odds rm_X10_odds).room s m ([.ref (am 0), .int k, .int q, .int x, .int y, .int lim, .int step] : List Value).toArray below meth c H locs 0 0 Q (F0 m 120 ls [.int b2]) := by
                intro b2 H locs ls hP hD hS h120_0 hl
                have hx120_0 := h120_0
                clear h120_0
                refine lv_istore (lv' := [(9, .int b2), (0, .ref (am 0)), (1, .int k), (2, .int q), (3, .int x), (4, .int y), (5, .int lim), (6, .int step), (7, .int x74), (8, .int b1)]) hx hb dX10_odds_120 hl (by decide) rfl (fun ls hl => ?_)
                refine lv_aload_n hx hb dX10_odds_122 rfl (lv_at hl 1 rfl) ?_
                refine lv_iconst (v := (-1)) hx hb dX10_odds_123 (by decide) ?_
                refine va_put (D := eD E) (ci := 10) (v := .int (-1)) (ty := .int) (C := RX10) (T := TX10) (N := 79) hx hb hts in_X10 tyX10 tyX10_ok nmX10 hown hK hP hD hS 0 rfl rfl 62 (by decide) lk6 (fun _ h9 => h9) rfl (by decide +kernel) rfl rfl (Nat.le_of_ble_eq_true rfl) dX10_odds_124 (fun H locs hP hD hS => ?_)
                replace hP : va_P (eD E) vwCl (mdL E am (up2 vm_99 62 0 (-1))) H := hP
                replace hD : va_D A (mdL E am (up2 vm_99 62 0 (-1))) := hD
                generalize hv124 : up2 vm_99 62 0 (-1) = vm_124 at hP hD
                have hFz : fr [62] vm vm_124 := by first | exact hFz | (rw [← hv124]; exact hFz.up (by decide))
                have hMI : MdI vm_124 := by rw [← hv124, ← hv99]; exact ⟨hMI.1, rfl, hMI.2.2⟩
                refine lv_ldcw hx hb hown lk7 dX10_odds_127 ?_
                refine lv_iload_n hx hb dX10_odds_130 rfl (lv_at hl 3 rfl) ?_
                refine lv_imul hx hb dX10_odds_131 ?_
                refine lv_topi (fun x131 e131 => ?_)
                refine lv_istore (lv' := [(10, .int x131), (9, .int b2), (0, .ref (am 0)), (1, .int k), (2, .int q), (3, .int x), (4, .int y), (5, .int lim), (6, .int step), (7, .int x74), (8, .int b1)]) hx hb dX10_odds_132 hl (by decide) rfl (fun ls hl => ?_)
                refine lv_iload hx hb dX10_odds_134 (lv_at hl 10 rfl) ?_
                have K145 : ∀  (b3 : Int32) (H : Heap) (locs : List Loc) (ls : Array Slot), va_P (eD E) vwCl (mdL E am vm_124) H → va_D A (mdL E am vm_124) → va_S A s.heap H locs → ((b1.toInt ≠ 0 ∧ b3 = x131) ∨ (b1.toInt = 0 ∧ b3 = 0)) → lv_has ls 11 [(0, .ref (am 0)), (1, .int k), (2, .int q), (3, .int x), (4, .int y), (5, .int lim), (6, .int step), (7, .int x74), (8, .int b1), (9, .int b2), (10, .int x131)] → W p l e (headSpec wsX10_odds rm_X10_odds).room s m ([.ref (am 0), .int k, .int q, .int x, .int y, .int lim, .int step] : List Value).toArray below meth c H locs 0 0 Q (F0 m 145 ls [.int b3]) := by
                  intro b3 H locs ls hP hD hS h145_0 hl
                  have hx145_0 := h145_0
                  clear h145_0
                  refine lv_iload hx hb dX10_odds_145 (lv_at hl 9 rfl) ?_
                  have K160 : ∀  (b4 : Int32) (H : Heap) (locs : List Loc) (ls : Array Slot), va_P (eD E) vwCl (mdL E am vm_124) H → va_D A (mdL E am vm_124) → va_S A s.heap H locs → ((b2.toInt ≠ 0 ∧ b4 = 1000000000 - x131) ∨ (b2.toInt = 0 ∧ b4 = 0)) → lv_has ls 11 [(0, .ref (am 0)), (1, .int k), (2, .int q), (3, .int x), (4, .int y), (5, .int lim), (6, .int step), (7, .int x74), (8, .int b1), (9, .int b2), (10, .int x131)] → W p l e (headSpec wsX10_odds rm_X10_odds).room s m ([.ref (am 0), .int k, .int q, .int x, .int y, .int lim, .int step] : List Value).toArray below meth c H locs 0 0 Q (F0 m 160 ls [.int b4, .int b3]) := by
                    intro b4 H locs ls hP hD hS h160_0 hl
                    have hx160_0 := h160_0
                    clear h160_0
                    refine lv_iadd hx hb dX10_odds_160 ?_
                    refine lv_topi (fun x160 e160 => ?_)
                    subst hQ
                    exact W.iret (v := x160) hx hb hr (fun t ht hW => ⟨⟨x160, (vm_124), rfl, (show ((MdI vm_124) ∧ fr [62] vm vm_124) ∧ (UnkP ((0 ≤ k.toInt ∧ k.toInt < (vm 4 0).toInt) ∧ inG x y (vm 0 0) (vm 1 0)) x160 (OutP ((0 ≤ q.toInt ∧ q.toInt ≤ 100) ∧ (0 ≤ lim.toInt ∧ lim.toInt ≤ 999) ∧ (0 ≤ step.toInt ∧ step.toInt ≤ 900000)) x160 (x160 = mOdd vm k q (mC vm x y) lim step))) from ⟨⟨hMI, hFz⟩, (Or.inr ⟨⟨hki, hcel⟩, Or.inr ⟨by omega, by unfold mOdd; rw [show mC vm x y = x74 from (by unfold mC; rw [e74, e72]), ← e131]; exact odd_m hx95_0 hx120_0 hx145_0 hx160_0 e160⟩⟩)⟩), by rw [ht]; exact hP, hD⟩, hS.F ht⟩) hS.2.2 dX10_odds_161
                  refine lv_if_eq (tgt := 159) hx hb dX10_odds_147 (by decide) (fun c147 => ?_) (fun c147 => ?_)
                  · have c147_ := i_eq c147
                    have hz147 : b2.toInt = 0 := by omega
                    refine lv_iconst (v := 0) hx hb dX10_odds_159 (by decide) ?_
                    exact K160 0 _ _ ls hP hD hS (by first | exact Or.inl ⟨hy147, e155⟩ | exact Or.inr ⟨hz147, rfl⟩) (lv_sub hl [0, 1, 2, 3, 4, 5, 6, 7, 8, 9, 10] rfl)
                  · have c147_ := i_ne c147
                    have hy147 : b2.toInt ≠ 0 := by omega
                    refine lv_ldcw hx hb hown lk8 dX10_odds_150 ?_
                    refine lv_iload hx hb dX10_odds_153 (lv_at hl 10 rfl) ?_
                    refine lv_isub hx hb dX10_odds_155 ?_
                    refine lv_topi (fun x155 e155 => ?_)
                    refine lv_goto (tgt := 160) hx hb dX10_odds_156 (by decide) ?_
                    exact K160 x155 _ _ ls hP hD hS (by first | exact Or.inl ⟨hy147, e155⟩ | exact Or.inr ⟨hz147, rfl⟩) (lv_sub hl [0, 1, 2, 3, 4, 5, 6, 7, 8, 9, 10] rfl)
                refine lv_if_eq (tgt := 144) hx hb dX10_odds_136 (by decide) (fun c136 => ?_) (fun c136 => ?_)
                · have c136_ := i_eq c136
                  have hz136 : b1.toInt = 0 := by omega
                  refine lv_iconst (v := 0) hx hb dX10_odds_144 (by decide) ?_
                  exact K145 0 _ _ ls hP hD hS (by first | exact Or.inl ⟨hy136, rfl⟩ | exact Or.inr ⟨hz136, rfl⟩) (lv_sub hl [2, 3, 4, 5, 6, 7, 8, 9, 10, 1, 0] rfl)
                · have c136_ := i_ne c136
                  have hy136 : b1.toInt ≠ 0 := by omega
                  refine lv_iload hx hb dX10_odds_139 (lv_at hl 0 rfl) ?_
                  refine lv_goto (tgt := 145) hx hb dX10_odds_141 (by decide) ?_
                  exact K145 x131 _ _ ls hP hD hS (by first | exact Or.inl ⟨hy136, rfl⟩ | exact Or.inr ⟨hz136, rfl⟩) (lv_sub hl [2, 3, 4, 5, 6, 7, 8, 9, 10, 1, 0] rfl)
              refine lv_icmp_le (tgt := 119) hx hb dX10_odds_112 (by decide) (fun c112 => ?_) (fun c112 => ?_)
              · have c112_ := i_le c112
                have hp112 := c112
                refine lv_iconst (v := 0) hx hb dX10_odds_119 (by decide) ?_
                exact K120 0 _ _ ls hP hD hS (by rw [hv99, ← hf107]; first | exact ⟨fun q => absurd n_0 q, fun q => absurd hp112 q⟩ | exact ⟨fun _ => hn112, fun _ => by decide⟩) (lv_sub hl [1, 2, 3, 4, 5, 6, 7, 8, 0] rfl)
              · have c112_ := i_nle c112
                have hn112 := c112
                refine lv_iconst (v := 1) hx hb dX10_odds_115 (by decide) ?_
                refine lv_goto (tgt := 120) hx hb dX10_odds_116 (by decide) ?_
                exact K120 1 _ _ ls hP hD hS (by rw [hv99, ← hf107]; first | exact ⟨fun q => absurd n_0 q, fun q => absurd hp112 q⟩ | exact ⟨fun _ => hn112, fun _ => by decide⟩) (lv_sub hl [1, 2, 3, 4, 5, 6, 7, 8, 0] rfl)
            refine lv_icmp_le (tgt := 94) hx hb dX10_odds_87 (by decide) (fun c87 => ?_) (fun c87 => ?_)
            · have c87_ := i_le c87
              have hp87 := c87
              refine lv_iconst (v := 0) hx hb dX10_odds_94 (by decide) ?_
              exact K95 0 _ _ ls hP hD hS (by rw [← hf82]; first | exact ⟨fun q => absurd n_0 q, fun q => absurd hp87 q⟩ | exact ⟨fun _ => hn87, fun _ => by decide⟩) (lv_sub hl [1, 2, 3, 4, 5, 6, 7, 0] rfl)
            · have c87_ := i_nle c87
              have hn87 := c87
              refine lv_iconst (v := 1) hx hb dX10_odds_90 (by decide) ?_
              refine lv_goto (tgt := 95) hx hb dX10_odds_91 (by decide) ?_
              exact K95 1 _ _ ls hP hD hS (by rw [← hf82]; first | exact ⟨fun q => absurd n_0 q, fun q => absurd hp87 q⟩ | exact ⟨fun _ => hn87, fun _ => by decide⟩) (lv_sub hl [1, 2, 3, 4, 5, 6, 7, 0] rfl)
          · have c60_ := i_eq c60
            replace h57 := or_n h57 c60_
            refine lv_ldc hx hb hown lk3 dX10_odds_63 ?_
            subst hQ
            exact W.iret (v := (-1000000002)) hx hb hr (fun t ht hW => ⟨⟨(-1000000002), (vm), rfl, (show ((MdI vm) ∧ fr [62] vm vm) ∧ (UnkP ((0 ≤ k.toInt ∧ k.toInt < (vm 4 0).toInt) ∧ inG x y (vm 0 0) (vm 1 0)) ((-1000000002) : Int32) (OutP ((0 ≤ q.toInt ∧ q.toInt ≤ 100) ∧ (0 ≤ lim.toInt ∧ lim.toInt ≤ 999) ∧ (0 ≤ step.toInt ∧ step.toInt ≤ 900000)) ((-1000000002) : Int32) (((-1000000002) : Int32) = mOdd vm k q (mC vm x y) lim step))) from ⟨⟨hMI, hFz⟩, (Or.inr ⟨⟨hki, hcel⟩, Or.inl ⟨by omega, by omega⟩⟩)⟩), by rw [ht]; exact hP, hD⟩, hS.F ht⟩) hS.2.2 dX10_odds_65
    · have c23_ := i_eq c23
      replace h20 := or_n h20 c23_
      refine lv_ldcw hx hb hown lk1 dX10_odds_26 ?_
      subst hQ
      exact W.iret (v := (-1000000001)) hx hb hr (fun t ht hW => ⟨⟨(-1000000001), (vm), rfl, (show ((MdI vm) ∧ fr [62] vm vm) ∧ (UnkP ((0 ≤ k.toInt ∧ k.toInt < (vm 4 0).toInt) ∧ inG x y (vm 0 0) (vm 1 0)) ((-1000000001) : Int32) (OutP ((0 ≤ q.toInt ∧ q.toInt ≤ 100) ∧ (0 ≤ lim.toInt ∧ lim.toInt ≤ 999) ∧ (0 ≤ step.toInt ∧ step.toInt ≤ 900000)) ((-1000000001) : Int32) (((-1000000001) : Int32) = mOdd vm k q (mC vm x y) lim step))) from ⟨⟨hMI, hFz⟩, (Or.inl ⟨by omega, (by unfold inG; omega)⟩)⟩), by rw [ht]; exact hP, hD⟩, hS.F ht⟩) hS.2.2 dX10_odds_29
