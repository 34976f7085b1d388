def rm_X10_saveShifts : Room := { frames := 0, cells := 0, slots := 0, locals := 0 }
set_option maxHeartbeats 4000000 in
set_option maxRecDepth 100000 in
theorem c_X10_saveShifts (l : Launch) (E : Ev) (sz : Nat) (am : Nat → Nat) (vm : Vf) (hMI : MdI vm) : Met l yX10_saveShifts wsX10_saveShifts rm_X10_saveShifts (MtP E sz [.ref (am 0)] (mdL E am vm)) (va_Qv (fun (u : Vf) => ((MdI u ∧ bnd (u 71) 3 0 999 ∧ ∀ t, t ≠ 71 → u t = vm t) ∧ fr [71] vm u) ∧ (∀ j, j < 3 → u 71 j = vm 24 j)) (MtB E (va_A (mdL E am vm) sz) (fun u => mdL E am u)) (va_A (mdL E am vm) sz)) 0 0 (va_A (mdL E am vm) sz) := by
  refine Met.ofW (cc := cX10_saveShifts) (maxL := 2) (ret := none) (by decide) rfl ?_
  intro p e s m args below meth c s₁ B hml hv
  obtain ⟨rfl, hsz, hE, hP, hD0⟩ := hv
  subst hsz
  have hD := hD0.self (sz := s.heap.size)
  generalize hAe : va_A (mdL E am vm) s.heap.size = A at hD hE ⊢
  have hA : ∀ q : Nat, s.heap.size ≤ q → A q := fun q h => by rw [← hAe]; exact Or.inr h
  have hS : va_S A s.heap s.heap [] := va_S.rf
  have hx := B.exec
  have hb := B.bytes
  have hr := B.returns
  have hts := atoms_spec (ws := wsX10_saveShifts) B.pre
  have hown : s.vm.findClass RX10 = some m.cls := findClass_of_methodNamed B.named
  have hlocks := B.notSynchronized
  have hK := hE.1
  have in_X10 : ∀ w ∈ u_ws RX10 TX10 79, w ∈ wsX10_saveShifts := fun w h => List.mem_cons_of_mem _ (List.mem_append_right _ h)
  have lk0 := hts (.fieldLink RX10 140 "TidedGroundModel" "wasShift" "[I") (List.mem_of_getElem? (i := 1) rfl)
  have lk1 := hts (.fieldLink RX10 59 "TidedGroundModel" "shift" "[I") (List.mem_of_getElem? (i := 2) rfl)
  have n_0 : (0 : Int32).toInt = 0 := by decide
  have n_1 : (1 : Int32).toInt = 1 := by decide
  have n_2 : (2 : Int32).toInt = 2 := by decide
  have n_3 : (3 : Int32).toInt = 3 := by decide
  have hl := lv_entry ([.ref (am 0)]) (n := 2) (Nat.le_of_ble_eq_true rfl)
  rw [lg_entry_eq]
  generalize (lg_sl ([.ref (am 0)]) ++ List.replicate (2 - (lg_sl ([.ref (am 0)])).length) Slot.unset).toArray = ls at hl ⊢
  have hl : lv_has ls 2 [(0, .ref (am 0))] := hl
  refine W_abs (fun Q hQ => ?_)
  have hH := hMI.1
  obtain ⟨hmG, hmC, hmZ, hmM, hmA, hmS, hmT⟩ := id hH
  obtain ⟨hG1, hG2, hG3⟩ := id hmG
  obtain ⟨hC1, hC2, hC3, hC4, hC5, hC6⟩ := id hmC
  obtain ⟨hM1, hM2, hM3, hM4⟩ := id hmM
  obtain ⟨hA1, hA2, hA3, hA4, hA5⟩ := id hmA
  obtain ⟨hS1, hS2, hS3, hS4, hS5, hS6⟩ := id hmS
  obtain ⟨hT1, hT2, hT3, hT4, hT5⟩ := id hmT
  have hsm : ∀ t, t ≠ 71 → vm t = vm t := fun t _ => rfl
  have hFz : fr [71] vm vm := fr.rf
  refine lv_iconst (v := 0) hx hb dX10_saveShifts_0 (by decide) ?_
  refine lv_istore_n (lv' := [(1, .int 0), (0, .ref (am 0))]) hx hb dX10_saveShifts_1 rfl hl (by decide) rfl (fun ls hl => ?_)
  refine lv_iload_n hx hb dX10_saveShifts_2 rfl (lv_at hl 0 rfl) ?_
  refine lv_iconst (v := 3) hx hb dX10_saveShifts_3 (by decide) ?_
  refine lv_icmp_ge (tgt := 25) hx hb dX10_saveShifts_4 (by decide) (fun q => absurd q (by decide)) (fun _ => ?_)
  refine lv_aload_n hx hb dX10_saveShifts_7 rfl (lv_at hl 1 rfl) ?_
  refine va_get (D := eD E) (ci := 10) (v := .ref (am 71)) (C := RX10) (T := TX10) (N := 79) hx hb hts in_X10 hown hK hP 0 rfl rfl 71 (by decide) lk0 (fun _ h9 => h9) rfl dX10_saveShifts_8 ?_
  refine lv_iload_n hx hb dX10_saveShifts_11 rfl (lv_at hl 0 rfl) ?_
  refine lv_aload_n hx hb dX10_saveShifts_12 rfl (lv_at hl 1 rfl) ?_
  refine va_get (D := eD E) (ci := 10) (v := .ref (am 24)) (C := RX10) (T := TX10) (N := 79) hx hb hts in_X10 hown hK hP 0 rfl rfl 24 (by decide) lk1 (fun _ h9 => h9) rfl dX10_saveShifts_13 ?_
  refine lv_iload_n hx hb dX10_saveShifts_16 rfl (lv_at hl 0 rfl) ?_
  refine va_iald hx hb hK hP 16 0 rfl rfl (n := 3) (f := (vm 24)) (i_in (by omega) (by omega)) dX10_saveShifts_17 ?_
  refine lv_topi (fun x17 e17 => ?_)
  have e17 : x17 = (vm 24) 0 := e17
  have b17 := hS2 0 (by decide)
  rw [← e17] at b17
  have hq17 : x17 = vm 24 0 := by rw [e17, hsm 24 (by decide)]
  refine va_iast hx hb hK hP hD hS 40 0 rfl rfl (n := 3) (f := (vm 71)) (i_in (by omega) (by omega)) dX10_saveShifts_18 (fun H locs hP hD hS => ?_)
  replace hP : va_P (eD E) vwCl (mdL E am (up2 vm 71 0 x17)) H := hP
  replace hD : va_D A (mdL E am (up2 vm 71 0 x17)) := hD
  generalize hv18 : up2 vm 71 0 x17 = vm_18 at hP hD
  have hFz : fr [71] vm vm_18 := by first | exact hFz | (rw [← hv18]; exact hFz.up (by decide))
  have hMI : MdI vm_18 := by rw [← hv18]; exact hMI
  have hsm : ∀ t, t ≠ 71 → vm_18 t = vm t := fun t h0 => by rw [← hv18]; exact (up2_ne h0).trans (hsm t h0)
  have hb0 : 0 ≤ (vm_18 71 0).toInt ∧ (vm_18 71 0).toInt ≤ 999 := by rw [← hv18]; exact b17
  try clear hmZ
  try clear hM2
  try clear hA4
  have hH := hMI.1
  obtain ⟨hmG, hmC, hmZ, hmM, hmA, hmS, hmT⟩ := id hH
  obtain ⟨hG1, hG2, hG3⟩ := id hmG
  obtain ⟨hC1, hC2, hC3, hC4, hC5, hC6⟩ := id hmC
  obtain ⟨hM1, hM2, hM3, hM4⟩ := id hmM
  obtain ⟨hA1, hA2, hA3, hA4, hA5⟩ := id hmA
  obtain ⟨hS1, hS2, hS3, hS4, hS5, hS6⟩ := id hmS
  obtain ⟨hT1, hT2, hT3, hT4, hT5⟩ := id hmT
  have hs0 : vm_18 71 0 = vm 24 0 := by rw [← hv18]; exact hq17
  refine lv_iinc (v := 1) (lv' := [(1, .int 1), (0, .ref (am 0))]) hx hb dX10_saveShifts_19 hl (k := 0) rfl (by decide) (by decide) rfl (fun ls hl => ?_)
  refine lv_goto (tgt := 2) hx hb dX10_saveShifts_22 (by decide) ?_
  refine lv_iload_n hx hb dX10_saveShifts_2 rfl (lv_at hl 0 rfl) ?_
  refine lv_iconst (v := 3) hx hb dX10_saveShifts_3 (by decide) ?_
  refine lv_icmp_ge (tgt := 25) hx hb dX10_saveShifts_4 (by decide) (fun q => absurd q (by decide)) (fun _ => ?_)
  refine lv_aload_n hx hb dX10_saveShifts_7 rfl (lv_at hl 1 rfl) ?_
  refine va_get (D := eD E) (ci := 10) (v := .ref (am 71)) (C := RX10) (T := TX10) (N := 79) hx hb hts in_X10 hown hK hP 0 rfl rfl 71 (by decide) lk0 (fun _ h9 => h9) rfl dX10_saveShifts_8 ?_
  refine lv_iload_n hx hb dX10_saveShifts_11 rfl (lv_at hl 0 rfl) ?_
  refine lv_aload_n hx hb dX10_saveShifts_12 rfl (lv_at hl 1 rfl) ?_
  refine va_get (D := eD E) (ci := 10) (v := .ref (am 24)) (C := RX10) (T := TX10) (N := 79) hx hb hts in_X10 hown hK hP 0 rfl rfl 24 (by decide) lk1 (fun _ h9 => h9) rfl dX10_saveShifts_13 ?_
  refine lv_iload_n hx hb dX10_saveShifts_16 rfl (lv_at hl 0 rfl) ?_
  refine va_iald hx hb hK hP 16 0 rfl rfl (n := 3) (f := (vm_18 24)) (i_in (by omega) (by omega)) dX10_saveShifts_17 ?_
  refine lv_topi (fun x17 e17 => ?_)
  have e17 : x17 = (vm_18 24) 1 := e17
  have b17 := hS2 1 (by decide)
  rw [← e17] at b17
  have hq17 : x17 = vm 24 1 := by rw [e17, hsm 24 (by decide)]
  refine va_iast hx hb hK hP hD hS 40 0 rfl rfl (n := 3) (f := (vm_18 71)) (i_in (by omega) (by omega)) dX10_saveShifts_18 (fun H locs hP hD hS => ?_)
  replace hP : va_P (eD E) vwCl (mdL E am (up2 vm_18 71 1 x17)) H := hP
  replace hD : va_D A (mdL E am (up2 vm_18 71 1 x17)) := hD
  generalize hv18 : up2 vm_18 71 1 x17 = vm_18 at hP hD
  have hFz : fr [71] vm vm_18 := by first | exact hFz | (rw [← hv18]; exact hFz.up (by decide))
  have hMI : MdI vm_18 := by rw [← hv18]; exact hMI
  have hsm : ∀ t, t ≠ 71 → vm_18 t = vm t := fun t h0 => by rw [← hv18]; exact (up2_ne h0).trans (hsm t h0)
  have hb0 : 0 ≤ (vm_18 71 0).toInt ∧ (vm_18 71 0).toInt ≤ 999 := by rw [← hv18]; exact hb0
  have hb1 : 0 ≤ (vm_18 71 1).toInt ∧ (vm_18 71 1).toInt ≤ 999 := by rw [← hv18]; exact b17
  try clear hmZ
  try clear hM2
  try clear hA4
  have hH := hMI.1
  obtain ⟨hmG, hmC, hmZ, hmM, hmA, hmS, hmT⟩ := id hH
  obtain ⟨hG1, hG2, hG3⟩ := id hmG
  obtain ⟨hC1, hC2, hC3, hC4, hC5, hC6⟩ := id hmC
  obtain ⟨hM1, hM2, hM3, hM4⟩ := id hmM
  obtain ⟨hA1, hA2, hA3, hA4, hA5⟩ := id hmA
  obtain ⟨hS1, hS2, hS3, hS4, hS5, hS6⟩ := id hmS
  obtain ⟨hT1, hT2, hT3, hT4, hT5⟩ := id hmT
  have hs0 : vm_18 71 0 = vm 24 0 := by rw [← hv18]; exact hs0
  have hs1 : vm_18 71 1 = vm 24 1 := by rw [← hv18]; exact hq17
  refine lv_iinc (v := 2) (lv' := [(1, .int 2), (0, .ref (am 0))]) hx hb dX10_saveShifts_19 hl (k := 0) rfl (by decide) (by decide) rfl (fun ls hl => ?_)
  refine lv_goto (tgt := 2) hx hb dX10_saveShifts_22 (by decide) ?_
  refine lv_iload_n hx hb dX10_saveShifts_2 rfl (lv_at hl 0 rfl) ?_
  refine lv_iconst (v := 3) hx hb dX10_saveShifts_3 (by decide) ?_
  refine lv_icmp_ge (tgt := 25) hx hb dX10_saveShifts_4 (by decide) (fun q => absurd q (by decide)) (fun _ => ?_)
  refine lv_aload_n hx hb dX10_saveShifts_7 rfl (lv_at hl 1 rfl) ?_
  refine va_get (D := eD E) (ci := 10) (v := .ref (am 71)) (C := RX10) (T := TX10) (N := 79) hx hb hts in_X10 hown hK hP 0 rfl rfl 71 (by decide) lk0 (fun _ h9 => h9) rfl dX10_saveShifts_8 ?_
  refine lv_iload_n hx hb dX10_saveShifts_11 rfl (lv_at hl 0 rfl) ?_
  refine lv_aload_n hx hb dX10_saveShifts_12 rfl (lv_at hl 1 rfl) ?_
  refine va_get (D := eD E) (ci := 10) (v := .ref (am 24)) (C := RX10) (T := TX10) (N := 79) hx hb hts in_X10 hown hK hP 0 rfl rfl 24 (by decide) lk1 (fun _ h9 => h9) rfl dX10_saveShifts_13 ?_
  refine lv_iload_n hx hb dX10_saveShifts_16 rfl (lv_at hl 0 rfl) ?_
  refine va_iald hx hb hK hP 16 0 rfl rfl (n := 3) (f := (vm_18 24)) (i_in (by omega) (by omega)) dX10_saveShifts_17 ?_
  refine lv_topi (fun x17 e17 => ?_)
  have e17 : x17 = (vm_18 24) 2 := e17
  have b17 := hS2 2 (by decide)
  rw [← e17] at b17
  have hq17 : x17 = vm 24 2 := by rw [e17, hsm 24 (by decide)]
  refine va_iast hx hb hK hP hD hS 40 0 rfl rfl (n := 3) (f := (vm_18 71)) (i_in (by omega) (by omega)) dX10_saveShifts_18 (fun H locs hP hD hS => ?_)
  replace hP : va_P (eD E) vwCl (mdL E am (up2 vm_18 71 2 x17)) H := hP
  replace hD : va_D A (mdL E am (up2 vm_18 71 2 x17)) := hD
  generalize hv18 : up2 vm_18 71 2 x17 = vm_18 at hP hD
  have hFz : fr [71] vm vm_18 := by first | exact hFz | (rw [← hv18]; exact hFz.up (by decide))
  have hMI : MdI vm_18 := by rw [← hv18]; exact hMI
  have hsm : ∀ t, t ≠ 71 → vm_18 t = vm t := fun t h0 => by rw [← hv18]; exact (up2_ne h0).trans (hsm t h0)
  have hb0 : 0 ≤ (vm_18 71 0).toInt ∧ (vm_18 71 0).toInt ≤ 999 := by rw [← hv18]; exact hb0
  have hb1 : 0 ≤ (vm_18 71 1).toInt ∧ (vm_18 71 1).toInt ≤ 999 := by rw [← hv18]; exact hb1
  have hb2 : 0 ≤ (vm_18 71 2).toInt ∧ (vm_18 71 2).toInt ≤ 999 := by rw [← hv18]; exact b17
  try clear hmZ
  try clear hM2
  try clear hA4
  have hH := hMI.1
  obtain ⟨hmG, hmC, hmZ, hmM, hmA, hmS, hmT⟩ := id hH
  obtain ⟨hG1, hG2, hG3⟩ := id hmG
  obtain ⟨hC1, hC2, hC3, hC4, hC5, hC6⟩ := id hmC
  obtain ⟨hM1, hM2, hM3, hM4⟩ := id hmM
  obtain ⟨hA1, hA2, hA3, hA4, hA5⟩ := id hmA
  obtain ⟨hS1, hS2, hS3, hS4, hS5, hS6⟩ := id hmS
  obtain ⟨hT1, hT2, hT3, hT4, hT5⟩ := id hmT
  have hs0 : vm_18 71 0 = vm 24 0 := by rw [← hv18]; exact hs0
  have hs1 : vm_18 71 1 = vm 24 1 := by rw [← hv18]; exact hs1
  have hs2 : vm_18 71 2 = vm 24 2 := by rw [← hv18]; exact hq17
  refine lv_iinc (v := 3) (lv' := [(1, .int 3), (0, .ref (am 0))]) hx hb dX10_saveShifts_19 hl (k := 0) rfl (by decide) (by decide) rfl (fun ls hl => ?_)
  refine lv_goto (tgt := 2) hx hb dX10_saveShifts_22 (by decide) ?_
  refine lv_iload_n hx hb dX10_saveShifts_2 rfl (lv_at hl 0 rfl) ?_
  refine lv_iconst (v := 3) hx hb dX10_saveShifts_3 (by decide) ?_
  refine lv_icmp_ge (tgt := 25) hx hb dX10_saveShifts_4 (by decide) (fun _ => ?_) (fun q => absurd q (by decide))
  subst hQ
  exact W.vret hx hb hr (fun t ht hW => ⟨⟨(vm_18), rfl, (show ((MdI vm_18 ∧ bnd (vm_18 71) 3 0 999 ∧ ∀ t, t ≠ 71 → vm_18 t = vm t) ∧ fr [71] vm vm_18) ∧ (∀ j, j < 3 → vm_18 71 j = vm 24 j) from ⟨⟨⟨hMI, bnd3 hb0 hb1 hb2, hsm⟩, hFz⟩, (fn3 hs0 hs1 hs2)⟩), by rw [ht]; exact hP, hD⟩, hS.F ht⟩) hS.2.2 dX10_saveShifts_25
def rm_X10_putBack : Room := { frames := 0, cells := 0, slots := 0, locals := 0 }
set_option maxHeartbeats 4000000 in
set_option maxRecDepth 100000 in
theorem c_X10_putBack (l : Launch) (E : Ev) (sz : Nat) (am : Nat → Nat) (vm : Vf) (hMI : MdI vm) (hwas : bnd (vm 71) 3 0 999) : Met l yX10_putBack wsX10_putBack rm_X10_putBack (MtP E sz [.ref (am 0)] (mdL E am vm)) (va_Qv (fun (u : Vf) => ((MdI u ∧ ∀ t, t ≠ 24 → u t = vm t) ∧ fr [24] vm u) ∧ (∀ j, j < 3 → u 24 j = vm 71 j)) (MtB E (va_A (mdL E am vm) sz) (fun u => mdL E am u)) (va_A (mdL E am vm) sz)) 0 0 (va_A (mdL E am vm) sz) := by
  refine Met.ofW (cc := cX10_putBack) (maxL := 2) (ret := none) (by decide) rfl ?_
  intro p e s m args below meth c s₁ B hml hv
  obtain ⟨rfl, hsz, hE, hP, hD0⟩ := hv
  subst hsz
  have hD := hD0.self (sz := s.heap.size)
  generalize hAe : va_A (mdL E am vm) s.heap.size = A at hD hE ⊢
  have hA : ∀ q : Nat, s.heap.size ≤ q → A q := fun q h => by rw [← hAe]; exact Or.inr h
  have hS : va_S A s.heap s.heap [] := va_S.rf
  have hx := B.exec
  have hb := B.bytes
  have hr := B.returns
  have hts := atoms_spec (ws := wsX10_putBack) B.pre
  have hown : s.vm.findClass RX10 = some m.cls := findClass_of_methodNamed B.named
  have hlocks := B.notSynchronized
  have hK := hE.1
  have in_X10 : ∀ w ∈ u_ws RX10 TX10 79, w ∈ wsX10_putBack := fun w h => List.mem_cons_of_mem _ (List.mem_append_right _ h)
  have lk0 := hts (.fieldLink RX10 59 "TidedGroundModel" "shift" "[I") (List.mem_of_getElem? (i := 1) rfl)
  have lk1 := hts (.fieldLink RX10 140 "TidedGroundModel" "wasShift" "[I") (List.mem_of_getElem? (i := 2) rfl)
  have n_0 : (0 : Int32).toInt = 0 := by decide
  have n_1 : (1 : Int32).toInt = 1 := by decide
  have n_2 : (2 : Int32).toInt = 2 := by decide
  have n_3 : (3 : Int32).toInt = 3 := by decide
  have hl := lv_entry ([.ref (am 0)]) (n := 2) (Nat.le_of_ble_eq_true rfl)
  rw [lg_entry_eq]
  generalize (lg_sl ([.ref (am 0)]) ++ List.replicate (2 - (lg_sl ([.ref (am 0)])).length) Slot.unset).toArray = ls at hl ⊢
  have hl : lv_has ls 2 [(0, .ref (am 0))] := hl
  refine W_abs (fun Q hQ => ?_)
  have hH := hMI.1
  obtain ⟨hmG, hmC, hmZ, hmM, hmA, hmS, hmT⟩ := id hH
  obtain ⟨hG1, hG2, hG3⟩ := id hmG
  obtain ⟨hC1, hC2, hC3, hC4, hC5, hC6⟩ := id hmC
  obtain ⟨hM1, hM2, hM3, hM4⟩ := id hmM
  obtain ⟨hA1, hA2, hA3, hA4, hA5⟩ := id hmA
  obtain ⟨hS1, hS2, hS3, hS4, hS5, hS6⟩ := id hmS
  obtain ⟨hT1, hT2, hT3, hT4, hT5⟩ := id hmT
  have hsm : ∀ t, t ≠ 24 → vm t = vm t := fun t _ => rfl
  have hFz : fr [24] vm vm := fr.rf
  refine lv_iconst (v := 0) hx hb dX10_putBack_0 (by decide) ?_
  refine lv_istore_n (lv' := [(1, .int 0), (0, .ref (am 0))]) hx hb dX10_putBack_1 rfl hl (by decide) rfl (fun ls hl => ?_)
  refine lv_iload_n hx hb dX10_putBack_2 rfl (lv_at hl 0 rfl) ?_
  refine lv_iconst (v := 3) hx hb dX10_putBack_3 (by decide) ?_
  refine lv_icmp_ge (tgt := 25) hx hb dX10_putBack_4 (by decide) (fun q => absurd q (by decide)) (fun _ => ?_)
  refine lv_aload_n hx hb dX10_putBack_7 rfl (lv_at hl 1 rfl) ?_
  refine va_get (D := eD E) (ci := 10) (v := .ref (am 24)) (C := RX10) (T := TX10) (N := 79) hx hb hts in_X10 hown hK hP 0 rfl rfl 24 (by decide) lk0 (fun _ h9 => h9) rfl dX10_putBack_8 ?_
  refine lv_iload_n hx hb dX10_putBack_11 rfl (lv_at hl 0 rfl) ?_
  refine lv_aload_n hx hb dX10_putBack_12 rfl (lv_at hl 1 rfl) ?_
  refine va_get (D := eD E) (ci := 10) (v := .ref (am 71)) (C := RX10) (T := TX10) (N := 79) hx hb hts in_X10 hown hK hP 0 rfl rfl 71 (by decide) lk1 (fun _ h9 => h9) rfl dX10_putBack_13 ?_
  refine lv_iload_n hx hb dX10_putBack_16 rfl (lv_at hl 0 rfl) ?_
  refine va_iald hx hb hK hP 40 0 rfl rfl (n := 3) (f := (vm 71)) (i_in (by omega) (by omega)) dX10_putBack_17 ?_
  refine lv_topi (fun x17 e17 => ?_)
  have e17 : x17 = (vm 71) 0 := e17
  have b17 := hwas 0 (by decide)
  rw [← e17] at b17
  have hq17 : x17 = vm 71 0 := by rw [e17, hsm 71 (by decide)]
  refine va_iast hx hb hK hP hD hS 16 0 rfl rfl (n := 3) (f := (vm 24)) (i_in (by omega) (by omega)) dX10_putBack_18 (fun H locs hP hD hS => ?_)
  replace hP : va_P (eD E) vwCl (mdL E am (up2 vm 24 0 x17)) H := hP
  replace hD : va_D A (mdL E am (up2 vm 24 0 x17)) := hD
  generalize hv18 : up2 vm 24 0 x17 = vm_18 at hP hD
  have hFz : fr [24] vm vm_18 := by first | exact hFz | (rw [← hv18]; exact hFz.up (by decide))
  have hMI : MdI vm_18 := by rw [← hv18]; exact md_shift hMI b17
  have hsm : ∀ t, t ≠ 24 → vm_18 t = vm t := fun t h0 => by rw [← hv18]; exact (up2_ne h0).trans (hsm t h0)
  have hwas : bnd (vm_18 71) 3 0 999 := by rw [← hv18]; exact hwas
  try clear hmZ
  try clear hM2
  try clear hA4
  have hH := hMI.1
  obtain ⟨hmG, hmC, hmZ, hmM, hmA, hmS, hmT⟩ := id hH
  obtain ⟨hG1, hG2, hG3⟩ := id hmG
  obtain ⟨hC1, hC2, hC3, hC4, hC5, hC6⟩ := id hmC
  obtain ⟨hM1, hM2, hM3, hM4⟩ := id hmM
  obtain ⟨hA1, hA2, hA3, hA4, hA5⟩ := id hmA
  obtain ⟨hS1, hS2, hS3, hS4, hS5, hS6⟩ := id hmS
  obtain ⟨hT1, hT2, hT3, hT4, hT5⟩ := id hmT
  have hs0 : vm_18 24 0 = vm 71 0 := by rw [← hv18]; exact hq17
  refine lv_iinc (v := 1) (lv' := [(1, .int 1), (0, .ref (am 0))]) hx hb dX10_putBack_19 hl (k := 0) rfl (by decide) (by decide) rfl (fun ls hl => ?_)
  refine lv_goto (tgt := 2) hx hb dX10_putBack_22 (by decide) ?_
  refine lv_iload_n hx hb dX10_putBack_2 rfl (lv_at hl 0 rfl) ?_
  refine lv_iconst (v := 3) hx hb dX10_putBack_3 (by decide) ?_
  refine lv_icmp_ge (tgt := 25) hx hb dX10_putBack_4 (by decide) (fun q => absurd q (by decide)) (fun _ => ?_)
  refine lv_aload_n hx hb dX10_putBack_7 rfl (lv_at hl 1 rfl) ?_
  refine va_get (D := eD E) (ci := 10) (v := .ref (am 24)) (C := RX10) (T := TX10) (N := 79) hx hb hts in_X10 hown hK hP 0 rfl rfl 24 (by decide) lk0 (fun _ h9 => h9) rfl dX10_putBack_8 ?_
  refine lv_iload_n hx hb dX10_putBack_11 rfl (lv_at hl 0 rfl) ?_
  refine lv_aload_n hx hb dX10_putBack_12 rfl (lv_at hl 1 rfl) ?_
  refine va_get (D := eD E) (ci := 10) (v := .ref (am 71)) (C := RX10) (T := TX10) (N := 79) hx hb hts in_X10 hown hK hP 0 rfl rfl 71 (by decide) lk1 (fun _ h9 => h9) rfl dX10_putBack_13 ?_
  refine lv_iload_n hx hb dX10_putBack_16 rfl (lv_at hl 0 rfl) ?_
  refine va_iald hx hb hK hP 40 0 rfl rfl (n := 3) (f := (vm_18 71)) (i_in (by omega) (by omega)) dX10_putBack_17 ?_
  refine lv_topi (fun x17 e17 => ?_)
  have e17 : x17 = (vm_18 71) 1 := e17
  have b17 := hwas 1 (by decide)
  rw [← e17] at b17
  have hq17 : x17 = vm 71 1 := by rw [e17, hsm 71 (by decide)]
  refine va_iast hx hb hK hP hD hS 16 0 rfl rfl (n := 3) (f := (vm_18 24)) (i_in (by omega) (by omega)) dX10_putBack_18 (fun H locs hP hD hS => ?_)
  replace hP : va_P (eD E) vwCl (mdL E am (up2 vm_18 24 1 x17)) H := hP
  replace hD : va_D A (mdL E am (up2 vm_18 24 1 x17)) := hD
  generalize hv18 : up2 vm_18 24 1 x17 = vm_18 at hP hD
  have hFz : fr [24] vm vm_18 := by first | exact hFz | (rw [← hv18]; exact hFz.up (by decide))
  have hMI : MdI vm_18 := by rw [← hv18]; exact md_shift hMI b17
  have hsm : ∀ t, t ≠ 24 → vm_18 t = vm t := fun t h0 => by rw [← hv18]; exact (up2_ne h0).trans (hsm t h0)
  have hwas : bnd (vm_18 71) 3 0 999 := by rw [← hv18]; exact hwas
  try clear hmZ
  try clear hM2
  try clear hA4
  have hH := hMI.1
  obtain ⟨hmG, hmC, hmZ, hmM, hmA, hmS, hmT⟩ := id hH
  obtain ⟨hG1, hG2, hG3⟩ := id hmG
  obtain ⟨hC1, hC2, hC3, hC4, hC5, hC6⟩ := id hmC
  obtain ⟨hM1, hM2, hM3, hM4⟩ := id hmM
  obtain ⟨hA1, hA2, hA3, hA4, hA5⟩ := id hmA
  obtain ⟨hS1, hS2, hS3, hS4, hS5, hS6⟩ := id hmS
  obtain ⟨hT1, hT2, hT3, hT4, hT5⟩ := id hmT
  have hs0 : vm_18 24 0 = vm 71 0 := by rw [← hv18]; exact hs0
  have hs1 : vm_18 24 1 = vm 71 1 := by rw [← hv18]; exact hq17
  refine lv_iinc (v := 2) (lv' := [(1, .int 2), (0, .ref (am 0))]) hx hb dX10_putBack_19 hl (k := 0) rfl (by decide) (by decide) rfl (fun ls hl => ?_)
  refine lv_goto (tgt := 2) hx hb dX10_putBack_22 (by decide) ?_
  refine lv_iload_n hx hb dX10_putBack_2 rfl (lv_at hl 0 rfl) ?_
  refine lv_iconst (v := 3) hx hb dX10_putBack_3 (by decide) ?_
  refine lv_icmp_ge (tgt := 25) hx hb dX10_putBack_4 (by decide) (fun q => absurd q (by decide)) (fun _ => ?_)
  refine lv_aload_n hx hb dX10_putBack_7 rfl (lv_at hl 1 rfl) ?_
  refine va_get (D := eD E) (ci := 10) (v := .ref (am 24)) (C := RX10) (T := TX10) (N := 79) hx hb hts in_X10 hown hK hP 0 rfl rfl 24 (by decide) lk0 (fun _ h9 => h9) rfl dX10_putBack_8 ?_
  refine lv_iload_n hx hb dX10_putBack_11 rfl (lv_at hl 0 rfl) ?_
  refine lv_aload_n hx hb dX10_putBack_12 rfl (lv_at hl 1 rfl) ?_
  refine va_get (D := eD E) (ci := 10) (v := .ref (am 71)) (C := RX10) (T := TX10) (N := 79) hx hb hts in_X10 hown hK hP 0 rfl rfl 71 (by decide) lk1 (fun _ h9 => h9) rfl dX10_putBack_13 ?_
  refine lv_iload_n hx hb dX10_putBack_16 rfl (lv_at hl 0 rfl) ?_
  refine va_iald hx hb hK hP 40 0 rfl rfl (n := 3) (f := (vm_18 71)) (i_in (by omega) (by omega)) dX10_putBack_17 ?_
  refine lv_topi (fun x17 e17 => ?_)
  have e17 : x17 = (vm_18 71) 2 := e17
  have b17 := hwas 2 (by decide)
  rw [← e17] at b17
  have hq17 : x17 = vm 71 2 := by rw [e17, hsm 71 (by decide)]
  refine va_iast hx hb hK hP hD hS 16 0 rfl rfl (n := 3) (f := (vm_18 24)) (i_in (by omega) (by omega)) dX10_putBack_18 (fun H locs hP hD hS => ?_)
  replace hP : va_P (eD E) vwCl (mdL E am (up2 vm_18 24 2 x17)) H := hP
  replace hD : va_D A (mdL E am (up2 vm_18 24 2 x17)) := hD
  generalize hv18 : up2 vm_18 24 2 x17 = vm_18 at hP hD
  have hFz : fr [24] vm vm_18 := by first | exact hFz | (rw [← hv18]; exact hFz.up (by decide))
  have hMI : MdI vm_18 := by rw [← hv18]; exact md_shift hMI b17
  have hsm : ∀ t, t ≠ 24 → vm_18 t = vm t := fun t h0 => by rw [← hv18]; exact (up2_ne h0).trans (hsm t h0)
  have hwas : bnd (vm_18 71) 3 0 999 := by rw [← hv18]; exact hwas
  try clear hmZ
  try clear hM2
  try clear hA4
  have hH := hMI.1
  obtain ⟨hmG, hmC, hmZ, hmM, hmA, hmS, hmT⟩ := id hH
  obtain ⟨hG1, hG2, hG3⟩ := id hmG
  obtain ⟨hC1, hC2, hC3, hC4, hC5, hC6⟩ := id hmC
  obtain ⟨hM1, hM2, hM3, hM4⟩ := id hmM
  obtain ⟨hA1, hA2, hA3, hA4, hA5⟩ := id hmA
  obtain ⟨hS1, hS2, hS3, hS4, hS5, hS6⟩ := id hmS
  obtain ⟨hT1, hT2, hT3, hT4, hT5⟩ := id hmT
  have hs0 : vm_18 24 0 = vm 71 0 := by rw [← hv18]; exact hs0
  have hs1 : vm_18 24 1 = vm 71 1 := by rw [← hv18]; exact hs1
  have hs2 : vm_18 24 2 = vm 71 2 := by rw [← hv18]; exact hq17
  refine lv_iinc (v := 3) (lv' := [(1, .int 3), (0, .ref (am 0))]) hx hb dX10_putBack_19 hl (k := 0) rfl (by decide) (by decide) rfl (fun ls hl => ?_)
  refine lv_goto (tgt := 2) hx hb dX10_putBack_22 (by decide) ?_
  refine lv_iload_n hx hb dX10_putBack_2 rfl (lv_at hl 0 rfl) ?_
  refine lv_iconst (v := 3) hx hb dX10_putBack_3 (by decide) ?_
  refine lv_icmp_ge (tgt := 25) hx hb dX10_putBack_4 (by decide) (fun _ => ?_) (fun q => absurd q (by decide))
  subst hQ
  exact W.vret hx hb hr (fun t ht hW => ⟨⟨(vm_18), rfl, (show ((MdI vm_18 ∧ ∀ t, t ≠ 24 → vm_18 t = vm t) ∧ fr [24] vm vm_18) ∧ (∀ j, j < 3 → vm_18 24 j = vm 71 j) from ⟨⟨⟨hMI, hsm⟩, hFz⟩, (fn3 hs0 hs1 hs2)⟩), by rw [ht]; exact hP, hD⟩, hS.F ht⟩) hS.2.2 dX10_putBack_25
def rm_X10_setShifts : Room := { frames := 0, cells := 0, slots := 0, locals := 0 }
set_option maxHeartbeats 4000000 in
set_option maxRecDepth 100000 in
theorem c_X10_setShifts (l : Launch) (E : Ev) (sz : Nat) (am : Nat → Nat) (vm : Vf) (code : Int32) (hMI : MdI vm) (hmo : 1 ≤ (vm 4 0).toInt) (hcode : 0 ≤ code.toInt ∧ code.toInt ≤ 728) : Met l yX10_setShifts wsX10_setShifts rm_X10_setShifts (MtP E sz [.ref (am 0), .int code] (mdL E am vm)) (va_Qv (fun (u : Vf) => (MdI u ∧ ∀ t, t ≠ 24 → u t = vm t) ∧ fr [24] vm u) (MtB E (va_A (mdL E am vm) sz) (fun u => mdL E am u)) (va_A (mdL E am vm) sz)) 0 0 (va_A (mdL E am vm) sz) := by
  refine Met.ofW (cc := cX10_setShifts) (maxL := 2) (ret := none) (by decide) rfl ?_
  intro p e s m args below meth c s₁ B hml hv
  obtain ⟨rfl, hsz, hE, hP, hD0⟩ := hv
  subst hsz
  have hD := hD0.self (sz := s.heap.size)
  generalize hAe : va_A (mdL E am vm) s.heap.size = A at hD hE ⊢
  have hA : ∀ q : Nat, s.heap.size ≤ q → A q := fun q h => by rw [← hAe]; exact Or.inr h
  have hS : va_S A s.heap s.heap [] := va_S.rf
  have hx := B.exec
  have hb := B.bytes
  have hr := B.returns
  have hts := atoms_spec (ws := wsX10_setShifts) B.pre
  have hown : s.vm.findClass RX10 = some m.cls := findClass_of_methodNamed B.named
  have hlocks := B.notSynchronized
  have hK := hE.1
  have in_X10 : ∀ w ∈ u_ws RX10 TX10 79, w ∈ wsX10_setShifts := fun w h => List.mem_cons_of_mem _ (List.mem_append_right _ h)
  have lk0 := hts (.fieldLink RX10 59 "TidedGroundModel" "shift" "[I") (List.mem_of_getElem? (i := 1) rfl)
  have lk1 := hts (.fieldLink RX10 16 "TidedGroundModel" "many" "[I") (List.mem_of_getElem? (i := 2) rfl)
  have n_0 : (0 : Int32).toInt = 0 := by decide
  have n_1 : (1 : Int32).toInt = 1 := by decide
  have n_2 : (2 : Int32).toInt = 2 := by decide
  have hl := lv_entry ([.ref (am 0), .int code]) (n := 2) (Nat.le_of_ble_eq_true rfl)
  rw [lg_entry_eq]
  generalize (lg_sl ([.ref (am 0), .int code]) ++ List.replicate (2 - (lg_sl ([.ref (am 0), .int code])).length) Slot.unset).toArray = ls at hl ⊢
  have hl : lv_has ls 2 [(0, .ref (am 0)), (1, .int code)] := hl
  refine W_abs (fun Q hQ => ?_)
  have hH := hMI.1
  obtain ⟨hmG, hmC, hmZ, hmM, hmA, hmS, hmT⟩ := id hH
  obtain ⟨hG1, hG2, hG3⟩ := id hmG
  obtain ⟨hC1, hC2, hC3, hC4, hC5, hC6⟩ := id hmC
  obtain ⟨hM1, hM2, hM3, hM4⟩ := id hmM
  obtain ⟨hA1, hA2, hA3, hA4, hA5⟩ := id hmA
  obtain ⟨hS1, hS2, hS3, hS4, hS5, hS6⟩ := id hmS
  obtain ⟨hT1, hT2, hT3, hT4, hT5⟩ := id hmT
  have hsm : ∀ t, t ≠ 24 → vm t = vm t := fun t _ => rfl
  have hmn : bnd (vm 5) 3 1 9 := hM2.resolve_left (by omega)
  have hFz : fr [24] vm vm := fr.rf
  refine lv_aload_n hx hb dX10_setShifts_0 rfl (lv_at hl 0 rfl) ?_
  refine va_get (D := eD E) (ci := 10) (v := .ref (am 24)) (C := RX10) (T := TX10) (N := 79) hx hb hts in_X10 hown hK hP 0 rfl rfl 24 (by decide) lk0 (fun _ h9 => h9) rfl dX10_setShifts_1 ?_
  refine lv_iconst (v := 2) hx hb dX10_setShifts_4 (by decide) ?_
  refine lv_iload_n hx hb dX10_setShifts_5 rfl (lv_at hl 1 rfl) ?_
  refine lv_aload_n hx hb dX10_setShifts_6 rfl (lv_at hl 0 rfl) ?_
  refine va_get (D := eD E) (ci := 10) (v := .ref (am 5)) (C := RX10) (T := TX10) (N := 79) hx hb hts in_X10 hown hK hP 0 rfl rfl 5 (by decide) lk1 (fun _ h9 => h9) rfl dX10_setShifts_7 ?_
  refine lv_iconst (v := 2) hx hb dX10_setShifts_10 (by decide) ?_
  refine va_iald hx hb hK hP 3 0 rfl rfl (n := 3) (f := (vm 5)) (i_in (by omega) (by omega)) dX10_setShifts_11 ?_
  refine lv_topi (fun x11 e11 => ?_)
  have e11 : x11 = (vm 5) 2 := e11
  have b11 := hmn 2 (by decide)
  rw [← e11] at b11
  refine lv_irem hx hb dX10_setShifts_12 (i_ne0 (by omega)) ?_
  refine lv_topi (fun x12 e12 => ?_)
  have t12 := i_rem e12 (by omega) (by omega)
  refine va_iast hx hb hK hP hD hS 16 0 rfl rfl (n := 3) (f := (vm 24)) (i_in (by omega) (by omega)) dX10_setShifts_13 (fun H locs hP hD hS => ?_)
  replace hP : va_P (eD E) vwCl (mdL E am (up2 vm 24 2 x12)) H := hP
  replace hD : va_D A (mdL E am (up2 vm 24 2 x12)) := hD
  generalize hv13 : up2 vm 24 2 x12 = vm_13 at hP hD
  have hFz : fr [24] vm vm_13 := by first | exact hFz | (rw [← hv13]; exact hFz.up (by decide))
  have hMI : MdI vm_13 := by rw [← hv13]; exact md_shift hMI (by omega)
  have hsm : ∀ t, t ≠ 24 → vm_13 t = vm t := fun t h0 => by rw [← hv13]; exact (up2_ne h0).trans (hsm t h0)
  have hmn : bnd (vm_13 5) 3 1 9 := by rw [← hv13]; exact hmn
  try clear hmZ
  try clear hM2
  try clear hA4
  have hH := hMI.1
  obtain ⟨hmG, hmC, hmZ, hmM, hmA, hmS, hmT⟩ := id hH
  obtain ⟨hG1, hG2, hG3⟩ := id hmG
  obtain ⟨hC1, hC2, hC3, hC4, hC5, hC6⟩ := id hmC
  obtain ⟨hM1, hM2, hM3, hM4⟩ := id hmM
  obtain ⟨hA1, hA2, hA3, hA4, hA5⟩ := id hmA
  obtain ⟨hS1, hS2, hS3, hS4, hS5, hS6⟩ := id hmS
  obtain ⟨hT1, hT2, hT3, hT4, hT5⟩ := id hmT
  refine lv_aload_n hx hb dX10_setShifts_14 rfl (lv_at hl 0 rfl) ?_
  refine va_get (D := eD E) (ci := 10) (v := .ref (am 24)) (C := RX10) (T := TX10) (N := 79) hx hb hts in_X10 hown hK hP 0 rfl rfl 24 (by decide) lk0 (fun _ h9 => h9) rfl dX10_setShifts_15 ?_
  refine lv_iconst (v := 1) hx hb dX10_setShifts_18 (by decide) ?_
  refine lv_iload_n hx hb dX10_setShifts_19 rfl (lv_at hl 1 rfl) ?_
  refine lv_aload_n hx hb dX10_setShifts_20 rfl (lv_at hl 0 rfl) ?_
  refine va_get (D := eD E) (ci := 10) (v := .ref (am 5)) (C := RX10) (T := TX10) (N := 79) hx hb hts in_X10 hown hK hP 0 rfl rfl 5 (by decide) lk1 (fun _ h9 => h9) rfl dX10_setShifts_21 ?_
  refine lv_iconst (v := 2) hx hb dX10_setShifts_24 (by decide) ?_
  refine va_iald hx hb hK hP 3 0 rfl rfl (n := 3) (f := (vm_13 5)) (i_in (by omega) (by omega)) dX10_setShifts_25 ?_
  refine lv_topi (fun x25 e25 => ?_)
  have e25 : x25 = (vm_13 5) 2 := e25
  have b25 := hmn 2 (by decide)
  rw [← e25] at b25
  refine lv_idiv hx hb dX10_setShifts_26 (i_ne0 (by omega)) ?_
  refine lv_topi (fun x26 e26 => ?_)
  have t26 := i_div e26 (by omega) (by omega)
  refine lv_aload_n hx hb dX10_setShifts_27 rfl (lv_at hl 0 rfl) ?_
  refine va_get (D := eD E) (ci := 10) (v := .ref (am 5)) (C := RX10) (T := TX10) (N := 79) hx hb hts in_X10 hown hK hP 0 rfl rfl 5 (by decide) lk1 (fun _ h9 => h9) rfl dX10_setShifts_28 ?_
  refine lv_iconst (v := 1) hx hb dX10_setShifts_31 (by decide) ?_
  refine va_iald hx hb hK hP 3 0 rfl rfl (n := 3) (f := (vm_13 5)) (i_in (by omega) (by omega)) dX10_setShifts_32 ?_
  refine lv_topi (fun x32 e32 => ?_)
  have e32 : x32 = (vm_13 5) 1 := e32
  have b32 := hmn 1 (by decide)
  rw [← e32] at b32
  refine lv_irem hx hb dX10_setShifts_33 (i_ne0 (by omega)) ?_
  refine lv_topi (fun x33 e33 => ?_)
  have t33 := i_rem e33 (by omega) (by omega)
  refine va_iast hx hb hK hP hD hS 16 0 rfl rfl (n := 3) (f := (vm_13 24)) (i_in (by omega) (by omega)) dX10_setShifts_34 (fun H locs hP hD hS => ?_)
  replace hP : va_P (eD E) vwCl (mdL E am (up2 vm_13 24 1 x33)) H := hP
  replace hD : va_D A (mdL E am (up2 vm_13 24 1 x33)) := hD
  generalize hv34 : up2 vm_13 24 1 x33 = vm_34 at hP hD
  have hFz : fr [24] vm vm_34 := by first | exact hFz | (rw [← hv34]; exact hFz.up (by decide))
  have hMI : MdI vm_34 := by rw [← hv34]; exact md_shift hMI (by omega)
  have hsm : ∀ t, t ≠ 24 → vm_34 t = vm t := fun t h0 => by rw [← hv34]; exact (up2_ne h0).trans (hsm t h0)
  have hmn : bnd (vm_34 5) 3 1 9 := by rw [← hv34]; exact hmn
  try clear hmZ
  try clear hM2
  try clear hA4
  have hH := hMI.1
  obtain ⟨hmG, hmC, hmZ, hmM, hmA, hmS, hmT⟩ := id hH
  obtain ⟨hG1, hG2, hG3⟩ := id hmG
  obtain ⟨hC1, hC2, hC3, hC4, hC5, hC6⟩ := id hmC
  obtain ⟨hM1, hM2, hM3, hM4⟩ := id hmM
  obtain ⟨hA1, hA2, hA3, hA4, hA5⟩ := id hmA
  obtain ⟨hS1, hS2, hS3, hS4, hS5, hS6⟩ := id hmS
  obtain ⟨hT1, hT2, hT3, hT4, hT5⟩ := id hmT
  refine lv_aload_n hx hb dX10_setShifts_35 rfl (lv_at hl 0 rfl) ?_
  refine va_get (D := eD E) (ci := 10) (v := .ref (am 24)) (C := RX10) (T := TX10) (N := 79) hx hb hts in_X10 hown hK hP 0 rfl rfl 24 (by decide) lk0 (fun _ h9 => h9) rfl dX10_setShifts_36 ?_
  refine lv_iconst (v := 0) hx hb dX10_setShifts_39 (by decide) ?_
  refine lv_iload_n hx hb dX10_setShifts_40 rfl (lv_at hl 1 rfl) ?_
  refine lv_aload_n hx hb dX10_setShifts_41 rfl (lv_at hl 0 rfl) ?_
  refine va_get (D := eD E) (ci := 10) (v := .ref (am 5)) (C := RX10) (T := TX10) (N := 79) hx hb hts in_X10 hown hK hP 0 rfl rfl 5 (by decide) lk1 (fun _ h9 => h9) rfl dX10_setShifts_42 ?_
  refine lv_iconst (v := 2) hx hb dX10_setShifts_45 (by decide) ?_
  refine va_iald hx hb hK hP 3 0 rfl rfl (n := 3) (f := (vm_34 5)) (i_in (by omega) (by omega)) dX10_setShifts_46 ?_
  refine lv_topi (fun x46 e46 => ?_)
  have e46 : x46 = (vm_34 5) 2 := e46
  have b46 := hmn 2 (by decide)
  rw [← e46] at b46
  refine lv_aload_n hx hb dX10_setShifts_47 rfl (lv_at hl 0 rfl) ?_
  refine va_get (D := eD E) (ci := 10) (v := .ref (am 5)) (C := RX10) (T := TX10) (N := 79) hx hb hts in_X10 hown hK hP 0 rfl rfl 5 (by decide) lk1 (fun _ h9 => h9) rfl dX10_setShifts_48 ?_
  refine lv_iconst (v := 1) hx hb dX10_setShifts_51 (by decide) ?_
  refine va_iald hx hb hK hP 3 0 rfl rfl (n := 3) (f := (vm_34 5)) (i_in (by omega) (by omega)) dX10_setShifts_52 ?_
  refine lv_topi (fun x52 e52 => ?_)
  have e52 : x52 = (vm_34 5) 1 := e52
  have b52 := hmn 1 (by decide)
  rw [← e52] at b52
  refine lv_imul hx hb dX10_setShifts_53 ?_
  refine lv_topi (fun x53 e53 => ?_)
  have t53 := i_mul9 e53 (by omega) (by omega)
  refine lv_idiv hx hb dX10_setShifts_54 (i_ne0 (by omega)) ?_
  refine lv_topi (fun x54 e54 => ?_)
  have t54 := i_div e54 (by omega) (by omega)
  refine va_iast hx hb hK hP hD hS 16 0 rfl rfl (n := 3) (f := (vm_34 24)) (i_in (by omega) (by omega)) dX10_setShifts_55 (fun H locs hP hD hS => ?_)
  replace hP : va_P (eD E) vwCl (mdL E am (up2 vm_34 24 0 x54)) H := hP
  replace hD : va_D A (mdL E am (up2 vm_34 24 0 x54)) := hD
  generalize hv55 : up2 vm_34 24 0 x54 = vm_55 at hP hD
  have hFz : fr [24] vm vm_55 := by first | exact hFz | (rw [← hv55]; exact hFz.up (by decide))
  have hMI : MdI vm_55 := by rw [← hv55]; exact md_shift hMI (by omega)
  have hsm : ∀ t, t ≠ 24 → vm_55 t = vm t := fun t h0 => by rw [← hv55]; exact (up2_ne h0).trans (hsm t h0)
  have hmn : bnd (vm_55 5) 3 1 9 := by rw [← hv55]; exact hmn
  try clear hmZ
  try clear hM2
  try clear hA4
  have hH := hMI.1
  obtain ⟨hmG, hmC, hmZ, hmM, hmA, hmS, hmT⟩ := id hH
  obtain ⟨hG1, hG2, hG3⟩ := id hmG
  obtain ⟨hC1, hC2, hC3, hC4, hC5, hC6⟩ := id hmC
  obtain ⟨hM1, hM2, hM3, hM4⟩ := id hmM
  obtain ⟨hA1, hA2, hA3, hA4, hA5⟩ := id hmA
  obtain ⟨hS1, hS2, hS3, hS4, hS5, hS6⟩ := id hmS
  obtain ⟨hT1, hT2, hT3, hT4, hT5⟩ := id hmT
  subst hQ
  exact W.vret hx hb hr (fun t ht hW => ⟨⟨(vm_55), rfl, (show (MdI vm_55 ∧ ∀ t, t ≠ 24 → vm_55 t = vm t) ∧ fr [24] vm vm_55 from ⟨⟨hMI, hsm⟩, hFz⟩), by rw [ht]; exact hP, hD⟩, hS.F ht⟩) hS.2.2 dX10_setShifts_56
def rm_X10_findFits : Room := { frames := 4, cells := 0, slots := 0, locals := 91 }
set_option maxHeartbeats 4000000 in
set_option maxRecDepth 100000 in
theorem c_X10_findFits (l : Launch) (E : Ev) (sz : Nat) (am : Nat → Nat) (vm : Vf) (hMI : MdI vm) : Met l yX10_findFits wsX10_findFits rm_X10_findFits (MtP E sz [.ref (am 0)] (mdL E am vm)) (va_Qv (fun (u : Vf) => ((MdI u ∧ fitM u ∧ ((vm 4 0).toInt ≠ 0 ∨ (u 73 0).toInt ≤ 1) ∧ ∀ t, t ≠ 24 → t ≠ 71 → t ≠ 72 → t ≠ 73 → u t = vm t) ∧ fr [24, 71, 72, 73] vm u) ∧ (∀ j, j < 3 → u 24 j = vm 24 j)) (MtB E (va_A (mdL E am vm) sz) (fun u => mdL E am u)) (va_A (mdL E am vm) sz)) 0 0 (va_A (mdL E am vm) sz) := by
  refine Met.ofW (cc := cX10_findFits) (maxL := 3) (ret := none) (by decide) rfl ?_
  intro p e s m args below meth c s₁ B hml hv
  obtain ⟨rfl, hsz, hE, hP, hD0⟩ := hv
  subst hsz
  have hD := hD0.self (sz := s.heap.size)
  generalize hAe : va_A (mdL E am vm) s.heap.size = A at hD hE ⊢
  have hA : ∀ q : Nat, s.heap.size ≤ q → A q := fun q h => by rw [← hAe]; exact Or.inr h
  have hS : va_S A s.heap s.heap [] := va_S.rf
  have hx := B.exec
  have hb := B.bytes
  have hr := B.returns
  have hts := atoms_spec (ws := wsX10_findFits) B.pre
  have hown : s.vm.findClass RX10 = some m.cls := findClass_of_methodNamed B.named
  have hlocks := B.notSynchronized
  have hK := hE.1
  have in_X10 : ∀ w ∈ u_ws RX10 TX10 79, w ∈ wsX10_findFits := fun w h => List.mem_cons_of_mem _ (List.mem_append_right _ h)
  have lk0 := hts (.fieldLink RX10 454 "TidedGroundModel" "fitMany" "I") (List.mem_of_getElem? (i := 1) rfl)
  have lk1 := hts (.fieldLink RX10 267 "TidedGroundModel" "moons" "I") (List.mem_of_getElem? (i := 2) rfl)
  have lk2 := hts (.fieldLink RX10 143 "TidedGroundModel" "fitting" "[I") (List.mem_of_getElem? (i := 3) rfl)
  have n_0 : (0 : Int32).toInt = 0 := by decide
  have n_1 : (1 : Int32).toInt = 1 := by decide
  have hl := lv_entry ([.ref (am 0)]) (n := 3) (Nat.le_of_ble_eq_true rfl)
  rw [lg_entry_eq]
  generalize (lg_sl ([.ref (am 0)]) ++ List.replicate (3 - (lg_sl ([.ref (am 0)])).length) Slot.unset).toArray = ls at hl ⊢
  have hl : lv_has ls 3 [(0, .ref (am 0))] := hl
  refine W_abs (fun Q hQ => ?_)
  have hH := hMI.1
  obtain ⟨hmG, hmC, hmZ, hmM, hmA, hmS, hmT⟩ := id hH
  obtain ⟨hG1, hG2, hG3⟩ := id hmG
  obtain ⟨hC1, hC2, hC3, hC4, hC5, hC6⟩ := id hmC
  obtain ⟨hM1, hM2, hM3, hM4⟩ := id hmM
  obtain ⟨hA1, hA2, hA3, hA4, hA5⟩ := id hmA
  obtain ⟨hS1, hS2, hS3, hS4, hS5, hS6⟩ := id hmS
  obtain ⟨hT1, hT2, hT3, hT4, hT5⟩ := id hmT
  have hsm : ∀ t, t ≠ 24 → t ≠ 71 → t ≠ 72 → t ≠ 73 → vm t = vm t := fun t _ _ _ _ => rfl
  have hFz : fr [24, 71, 72, 73] vm vm := fr.rf
  refine lv_aload_n hx hb dX10_findFits_0 rfl (lv_at hl 0 rfl) ?_
  refine mt_Vv (w1 := fun (u : Vf) => mdL E am u) (wf := fun (u : Vf) => mdL E am u) (wr := []) (As := []) (rest := []) (C := RX10) (ci := 10) ⟨hx, hb, hml, hown, hts⟩ (c_X10_saveShifts l E s.heap.size am vm hMI) (cwV 0 hts gX10_findFits_X10_saveShifts rfl rfl rfl (by decide +kernel) ⟨Nat.le_of_ble_eq_true rfl, Nat.le_of_ble_eq_true rfl⟩) hE hS hA hP hD [0, 1, 2, 3, 4, 5, 6, 7, 8, 9, 10, 11, 12, 13, 14, 15, 16, 17, 18, 19, 20, 21, 22, 23, 24, 25, 26, 27, 28, 29, 30, 31, 32, 33, 34, 35, 36, 37, 38, 39, 40, 41, 42, 43, 44, 45] [] rfl rfl (by decide) (by decide) (by decide) [0, 1, 2, 3, 4, 5, 6, 7, 8, 9, 10, 11, 12, 13, 14, 15, 16, 17, 18, 19, 20, 21, 22, 23, 24, 25, 26, 27, 28, 29, 30, 31, 32, 33, 34, 35, 36, 37, 38, 39, 40, 41, 42, 43, 44, 45] (by decide) (fun u => rfl) rfl rfl rfl rfl hl.1 rfl (Nat.le_of_ble_eq_true rfl) dX10_findFits_1 ⟨Nat.zero_le _, Nat.zero_le _⟩ (fun u1 H locs h1 hP hD hS => ?_)
  generalize u1 = o1_vm at hP hD h1
  try dsimp only at h1
  have hf1 := h1.2
  replace h1 := h1.1
  have hFn1 := h1.2
  replace h1 := h1.1
  replace hP : va_P (eD E) vwCl (mdL E am o1_vm) H := hP
  replace hD : va_D A (mdL E am o1_vm) := hD
  have hFz : fr [24, 71, 72, 73] vm o1_vm := by first | exact hFz | exact hFz.tr hFn1 (by decide) | (rw [← hv1]; repeat' (first | exact hFz | refine fr.up ?_ (by decide) | refine fr.up3 ?_ (by decide)))
  have hMI := h1.1
  have hwas := h1.2.1
  have hsm : ∀ t, t ≠ 24 → t ≠ 71 → t ≠ 72 → t ≠ 73 → o1_vm t = vm t := fun t g0 g1 g2 g3 => (h1.2.2 t g1).trans (hsm t g0 g1 g2 g3)
  try clear hmZ
  try clear hM2
  try clear hA4
  have hH := hMI.1
  obtain ⟨hmG, hmC, hmZ, hmM, hmA, hmS, hmT⟩ := id hH
  obtain ⟨hG1, hG2, hG3⟩ := id hmG
  obtain ⟨hC1, hC2, hC3, hC4, hC5, hC6⟩ := id hmC
  obtain ⟨hM1, hM2, hM3, hM4⟩ := id hmM
  obtain ⟨hA1, hA2, hA3, hA4, hA5⟩ := id hmA
  obtain ⟨hS1, hS2, hS3, hS4, hS5, hS6⟩ := id hmS
  obtain ⟨hT1, hT2, hT3, hT4, hT5⟩ := id hmT
  refine lv_aload_n hx hb dX10_findFits_4 rfl (lv_at hl 0 rfl) ?_
  refine lv_iconst (v := 0) hx hb dX10_findFits_5 (by decide) ?_
  refine va_put (D := eD E) (ci := 10) (v := .int 0) (ty := .int) (C := RX10) (T := TX10) (N := 79) hx hb hts in_X10 tyX10 tyX10_ok nmX10 hown hK hP hD hS 0 rfl rfl 73 (by decide) lk0 (fun _ h9 => h9) rfl (by decide +kernel) rfl rfl (Nat.le_of_ble_eq_true rfl) dX10_findFits_6 (fun H locs hP hD hS => ?_)
  replace hP : va_P (eD E) vwCl (mdL E am (up2 o1_vm 73 0 0)) H := hP
  replace hD : va_D A (mdL E am (up2 o1_vm 73 0 0)) := hD
  generalize hv6 : up2 o1_vm 73 0 0 = vm_6 at hP hD
  have hFz : fr [24, 71, 72, 73] vm vm_6 := by first | exact hFz | (rw [← hv6]; exact hFz.up (by decide))
  have hMI : MdI vm_6 := by rw [← hv6]; exact hMI
  have hwas : bnd (vm_6 71) 3 0 999 := by rw [← hv6]; exact hwas
  have hsm : ∀ t, t ≠ 24 → t ≠ 71 → t ≠ 72 → t ≠ 73 → vm_6 t = vm t := fun t g0 g1 g2 g3 => by rw [← hv6]; exact (up2_ne g3).trans (hsm t g0 g1 g2 g3)
  have hf6 : fitM vm_6 := by rw [← hv6]; exact ⟨(by decide : 0 ≤ (0 : Int32).toInt ∧ (0 : Int32).toInt ≤ 729), fun j h => absurd (show (j : Int) < (0 : Int32).toInt from h) (by rw [n_0]; omega)⟩
  have hq6 : (vm_6 73 0).toInt = 0 := by rw [← hv6]; exact (by decide : (0 : Int32).toInt = 0)
  have hq4 : (vm_6 4 0).toInt = (vm 4 0).toInt := by rw [hsm 4 (by decide) (by decide) (by decide) (by decide)]
  try clear hmZ
  try clear hM2
  try clear hA4
  have hH := hMI.1
  obtain ⟨hmG, hmC, hmZ, hmM, hmA, hmS, hmT⟩ := id hH
  obtain ⟨hG1, hG2, hG3⟩ := id hmG
  obtain ⟨hC1, hC2, hC3, hC4, hC5, hC6⟩ := id hmC
  obtain ⟨hM1, hM2, hM3, hM4⟩ := id hmM
  obtain ⟨hA1, hA2, hA3, hA4, hA5⟩ := id hmA
  obtain ⟨hS1, hS2, hS3, hS4, hS5, hS6⟩ := id hmS
  obtain ⟨hT1, hT2, hT3, hT4, hT5⟩ := id hmT
  have hw71 : ∀ j, j < 3 → vm_6 71 j = vm 24 j := by rw [← hv6]; exact hf1
  refine lv_aload_n hx hb dX10_findFits_9 rfl (lv_at hl 0 rfl) ?_
  refine va_get (D := eD E) (ci := 10) (v := .int (vm_6 4 0)) (C := RX10) (T := TX10) (N := 79) hx hb hts in_X10 hown hK hP 0 rfl rfl 4 (by decide) lk1 (fun _ h9 => h9) rfl dX10_findFits_10 ?_
  have K24 : ∀  (al : Int32) (H : Heap) (locs : List Loc) (ls : Array Slot), va_P (eD E) vwCl (mdL E am vm_6) H → va_D A (mdL E am vm_6) → va_S A s.heap H locs → (0 ≤ al.toInt ∧ al.toInt ≤ 729) → (((vm_6 4 0).toInt = 0 ∧ al.toInt = 1) ∨ 1 ≤ (vm_6 4 0).toInt) → lv_has ls 3 [(0, .ref (am 0))] → W p l e (headSpec wsX10_findFits rm_X10_findFits).room s m ([.ref (am 0)] : List Value).toArray below meth c H locs 0 0 Q (F0 m 24 ls [.int al]) := by
    intro al H locs ls hP hD hS h24_0 h24_1 hl
    refine lv_istore_n (lv' := [(1, .int al), (0, .ref (am 0))]) hx hb dX10_findFits_24 rfl hl (by decide) rfl (fun ls hl => ?_)
    refine lv_iconst (v := 0) hx hb dX10_findFits_25 (by decide) ?_
    refine lv_istore_n (lv' := [(2, .int 0), (1, .int al), (0, .ref (am 0))]) hx hb dX10_findFits_26 rfl hl (by decide) rfl (fun ls hl => ?_)
    have K27 : ∀ (μ : Nat) (i : Int32) (vmk : Vf) (H : Heap) (locs : List Loc) (ls : Array Slot), (729 - i.toInt).toNat < μ → va_P (eD E) vwCl (mdL E am vmk) H → va_D A (mdL E am vmk) → va_S A s.heap H locs → (0 ≤ i.toInt ∧ i.toInt ≤ 729 ∧ i.toInt ≤ al.toInt) → (MdI vmk) → (fitM vmk) → ((vmk 73 0).toInt ≤ i.toInt) → (bnd (vmk 71) 3 0 999) → ((vmk 4 0).toInt = (vm_6 4 0).toInt) → (∀ t, t ≠ 24 → t ≠ 71 → t ≠ 72 → t ≠ 73 → vmk t = vm t) → (fr [24, 71, 72, 73] vm vmk) → (∀ j, j < 3 → vmk 71 j = vm 24 j) → lv_has ls 3 [(0, .ref (am 0)), (1, .int al), (2, .int i)] → W p l e (headSpec wsX10_findFits rm_X10_findFits).room s m ([.ref (am 0)] : List Value).toArray below meth c H locs 0 0 Q (F0 m 27 ls []) := by
      intro μ
      induction μ with
      | zero =>
        intro i vmk H locs ls hμ27
        exact absurd hμ27 (Nat.not_lt_zero _)
      | succ μ ih27 =>
        intro i vmk H locs ls hμ27 hP hD hS h27_0 h27_1 h27_2 h27_3 h27_4 h27_5 h27_6 h27_7 h27_8 hl
        have hx27_0 := h27_8
        clear h27_8
        have hMI := h27_1
        have hfk := h27_2
        have hwas := h27_4
        have hsm := h27_6
        have hfk1 := hfk.1
        try clear hmZ
        try clear hM2
        try clear hA4
        have hH := hMI.1
        obtain ⟨hmG, hmC, hmZ, hmM, hmA, hmS, hmT⟩ := id hH
        obtain ⟨hG1, hG2, hG3⟩ := id hmG
        obtain ⟨hC1, hC2, hC3, hC4, hC5, hC6⟩ := id hmC
        obtain ⟨hM1, hM2, hM3, hM4⟩ := id hmM
        obtain ⟨hA1, hA2, hA3, hA4, hA5⟩ := id hmA
        obtain ⟨hS1, hS2, hS3, hS4, hS5, hS6⟩ := id hmS
        obtain ⟨hT1, hT2, hT3, hT4, hT5⟩ := id hmT
        have hFz := h27_7
        have hw71 := hx27_0
        refine lv_iload_n hx hb dX10_findFits_27 rfl (lv_at hl 2 rfl) ?_
        refine lv_iload_n hx hb dX10_findFits_28 rfl (lv_at hl 1 rfl) ?_
        refine lv_icmp_ge (tgt := 77) hx hb dX10_findFits_29 (by decide) (fun c29 => ?_) (fun c29 => ?_)
        · have c29_ := i_le c29
          refine lv_aload_n hx hb dX10_findFits_77 rfl (lv_at hl 0 rfl) ?_
          refine mt_Vv (w1 := fun (u : Vf) => mdL E am u) (wf := fun (u : Vf) => mdL E am u) (wr := []) (As := []) (rest := []) (C := RX10) (ci := 10) ⟨hx, hb, hml, hown, hts⟩ (c_X10_putBack l E H.size am vmk hMI hwas) (cwV 0 hts gX10_findFits_X10_putBack rfl rfl rfl (by decide +kernel) ⟨Nat.le_of_ble_eq_true rfl, Nat.le_of_ble_eq_true rfl⟩) hE hS hA hP hD [0, 1, 2, 3, 4, 5, 6, 7, 8, 9, 10, 11, 12, 13, 14, 15, 16, 17, 18, 19, 20, 21, 22, 23, 24, 25, 26, 27, 28, 29, 30, 31, 32, 33, 34, 35, 36, 37, 38, 39, 40, 41, 42, 43, 44, 45] [] rfl rfl (by decide) (by decide) (by decide) [0, 1, 2, 3, 4, 5, 6, 7, 8, 9, 10, 11, 12, 13, 14, 15, 16, 17, 18, 19, 20, 21, 22, 23, 24, 25, 26, 27, 28, 29, 30, 31, 32, 33, 34, 35, 36, 37, 38, 39, 40, 41, 42, 43, 44, 45] (by decide) (fun u => rfl) rfl rfl rfl rfl hl.1 rfl (Nat.le_of_ble_eq_true rfl) dX10_findFits_78 ⟨Nat.zero_le _, Nat.zero_le _⟩ (fun u78 H locs h78 hP hD hS => ?_)
          generalize u78 = o78_vm at hP hD h78
          try dsimp only at h78
          have hf78 := h78.2
          replace h78 := h78.1
          have hFn78 := h78.2
          replace h78 := h78.1
          replace hP : va_P (eD E) vwCl (mdL E am o78_vm) H := hP
          replace hD : va_D A (mdL E am o78_vm) := hD
          have hFz : fr [24, 71, 72, 73] vm o78_vm := by first | exact hFz | exact hFz.tr hFn78 (by decide) | (rw [← hv78]; repeat' (first | exact hFz | refine fr.up ?_ (by decide) | refine fr.up3 ?_ (by decide)))
          have hfz : fitM o78_vm := by unfold fitM; rw [h78.2 73 (by decide), h78.2 72 (by decide)]; exact hfk
          have hq78 : (o78_vm 73 0).toInt = (vmk 73 0).toInt := by rw [h78.2 73 (by decide)]
          have hsm : ∀ t, t ≠ 24 → t ≠ 71 → t ≠ 72 → t ≠ 73 → o78_vm t = vm t := fun t g0 g1 g2 g3 => (h78.2 t g0).trans (hsm t g0 g1 g2 g3)
          subst hQ
          exact W.vret hx hb hr (fun t ht hW => ⟨⟨(o78_vm), rfl, (show ((MdI o78_vm ∧ fitM o78_vm ∧ ((vm 4 0).toInt ≠ 0 ∨ (o78_vm 73 0).toInt ≤ 1) ∧ ∀ t, t ≠ 24 → t ≠ 71 → t ≠ 72 → t ≠ 73 → o78_vm t = vm t) ∧ fr [24, 71, 72, 73] vm o78_vm) ∧ (∀ j, j < 3 → o78_vm 24 j = vm 24 j) from ⟨⟨⟨h78.1, hfz, (by omega), hsm⟩, hFz⟩, (fun j hj => (hf78 j hj).trans (hx27_0 j hj))⟩), by rw [ht]; exact hP, hD⟩, hS.F ht⟩) hS.2.2 dX10_findFits_81
        · have c29_ := i_nle c29
          refine lv_aload_n hx hb dX10_findFits_32 rfl (lv_at hl 0 rfl) ?_
          refine va_get (D := eD E) (ci := 10) (v := .int (vmk 4 0)) (C := RX10) (T := TX10) (N := 79) hx hb hts in_X10 hown hK hP 0 rfl rfl 4 (by decide) lk1 (fun _ h9 => h9) rfl dX10_findFits_33 ?_
          refine lv_if_le (tgt := 44) hx hb dX10_findFits_36 (by decide) (fun c36 => ?_) (fun c36 => ?_)
          · have c36_ := i_le c36
            refine lv_aload_n hx hb dX10_findFits_44 rfl (lv_at hl 0 rfl) ?_
            refine rd_V (As := []) (rest := []) (C := RX10) (ci := 10) ⟨hx, hb, hml, hown, hts⟩ (c_X10_isAsSeen l E A am vmk hH) (cwV 0 hts gX10_findFits_X10_isAsSeen rfl rfl rfl (by decide +kernel) ⟨Nat.le_of_ble_eq_true rfl, Nat.le_of_ble_eq_true rfl⟩) (hE.kept hS.2.1) (hP.sub (ws' := mdL E am vmk) [0, 1, 2, 3, 4, 5, 6, 7, 8, 9, 10, 11, 12, 13, 14, 15, 16, 17, 18, 19, 20, 21, 22, 23, 24, 25, 26, 27, 28, 29, 30, 31, 32, 33, 34, 35, 36, 37, 38, 39, 40, 41, 42, 43, 44, 45] rfl) rfl rfl rfl rfl hl.1 rfl (Nat.le_of_ble_eq_true rfl) dX10_findFits_45 ⟨Nat.zero_le _, Nat.zero_le _⟩ (fun r45 h45 => ?_)
            refine lv_if_eq (tgt := 71) hx hb dX10_findFits_48 (by decide) (fun c48 => ?_) (fun c48 => ?_)
            · have c48_ := i_eq c48
              clear h45
              obtain ⟨x71, e71⟩ : ∃ y : Int32, y = i + 1 := ⟨_, rfl⟩
              refine lv_iinc (v := x71) (lv' := [(2, .int x71), (0, .ref (am 0)), (1, .int al)]) hx hb dX10_findFits_71 hl (k := 2) rfl (by rw [e71]; rfl) (by decide) rfl (fun ls hl => ?_)
              have t71 := i_add e71 (by omega)
              refine lv_goto (tgt := 27) hx hb dX10_findFits_74 (by decide) ?_
              exact ih27 x71 vmk _ _ ls (by omega) hP hD hS (by omega) hMI hfk (by omega) hwas (by omega) hsm hFz hw71 (lv_sub hl [1, 2, 0] rfl)
            · have c48_ := i_ne c48
              replace h45 := b_y h45 c48_
              clear c48_
              refine lv_aload_n hx hb dX10_findFits_51 rfl (lv_at hl 0 rfl) ?_
              refine va_get (D := eD E) (ci := 10) (v := .ref (am 72)) (C := RX10) (T := TX10) (N := 79) hx hb hts in_X10 hown hK hP 0 rfl rfl 72 (by decide) lk2 (fun _ h9 => h9) rfl dX10_findFits_52 ?_
              refine lv_aload_n hx hb dX10_findFits_55 rfl (lv_at hl 0 rfl) ?_
              refine va_get (D := eD E) (ci := 10) (v := .int (vmk 73 0)) (C := RX10) (T := TX10) (N := 79) hx hb hts in_X10 hown hK hP 0 rfl rfl 73 (by decide) lk0 (fun _ h9 => h9) rfl dX10_findFits_56 ?_
              refine lv_iload_n hx hb dX10_findFits_59 rfl (lv_at hl 2 rfl) ?_
              refine va_iast hx hb hK hP hD hS 41 0 rfl rfl (n := 729) (f := (vmk 72)) (i_in (by omega) (by omega)) dX10_findFits_60 (fun H locs hP hD hS => ?_)
              replace hP : va_P (eD E) vwCl (mdL E am (up2 vmk 72 ((vmk 73 0).toNatClampNeg) i)) H := hP
              replace hD : va_D A (mdL E am (up2 vmk 72 ((vmk 73 0).toNatClampNeg) i)) := hD
              generalize hv60 : up2 vmk 72 ((vmk 73 0).toNatClampNeg) i = vm_60 at hP hD
              have hFz : fr [24, 71, 72, 73] vm vm_60 := by first | exact hFz | (rw [← hv60]; exact hFz.up (by decide))
              have hMI : MdI vm_60 := by rw [← hv60]; exact hMI
              have hwas : bnd (vm_60 71) 3 0 999 := by rw [← hv60]; exact hwas
              have hsm : ∀ t, t ≠ 24 → t ≠ 71 → t ≠ 72 → t ≠ 73 → vm_60 t = vm t := fun t g0 g1 g2 g3 => by rw [← hv60]; exact (up2_ne g2).trans (hsm t g0 g1 g2 g3)
              have hq60 : vm_60 73 0 = vmk 73 0 := by rw [← hv60]; rfl
              have hq60t : (vm_60 73 0).toInt = (vmk 73 0).toInt := by rw [hq60]
              have hq60m : (vm_60 4 0).toInt = (vmk 4 0).toInt := by rw [← hv60]; rfl
              have hw71 : ∀ j, j < 3 → vm_60 71 j = vm 24 j := by rw [← hv60]; exact hw71
              refine lv_aload_n hx hb dX10_findFits_61 rfl (lv_at hl 0 rfl) ?_
              refine lv_dup hx hb dX10_findFits_62 rfl ?_
              refine va_get (D := eD E) (ci := 10) (v := .int (vm_60 73 0)) (C := RX10) (T := TX10) (N := 79) hx hb hts in_X10 hown hK hP 0 rfl rfl 73 (by decide) lk0 (fun _ h9 => h9) rfl dX10_findFits_63 ?_
              refine lv_iconst (v := 1) hx hb dX10_findFits_66 (by decide) ?_
              refine lv_iadd hx hb dX10_findFits_67 ?_
              refine lv_topi (fun x67 e67 => ?_)
              have t67 := i_add e67 (by omega)
              refine va_put (D := eD E) (ci := 10) (v := .int x67) (ty := .int) (C := RX10) (T := TX10) (N := 79) hx hb hts in_X10 tyX10 tyX10_ok nmX10 hown hK hP hD hS 0 rfl rfl 73 (by decide) lk0 (fun _ h9 => h9) rfl (by decide +kernel) rfl rfl (Nat.le_of_ble_eq_true rfl) dX10_findFits_68 (fun H locs hP hD hS => ?_)
              replace hP : va_P (eD E) vwCl (mdL E am (up2 vm_60 73 0 x67)) H := hP
              replace hD : va_D A (mdL E am (up2 vm_60 73 0 x67)) := hD
              generalize hv68 : up2 vm_60 73 0 x67 = vm_68 at hP hD
              have hFz : fr [24, 71, 72, 73] vm vm_68 := by first | exact hFz | (rw [← hv68]; exact hFz.up (by decide))
              have hMI : MdI vm_68 := by rw [← hv68]; exact hMI
              have hwas : bnd (vm_68 71) 3 0 999 := by rw [← hv68]; exact hwas
              have hsm : ∀ t, t ≠ 24 → t ≠ 71 → t ≠ 72 → t ≠ 73 → vm_68 t = vm t := fun t g0 g1 g2 g3 => by rw [← hv68]; exact (up2_ne g3).trans (hsm t g0 g1 g2 g3)
              have hfk : fitM vm_68 := by rw [← hv68, ← hv60]; exact fitM_new hfk (by omega) (by omega) (by omega)
              have hq68 : (vm_68 73 0).toInt = x67.toInt := by rw [← hv68]; rfl
              have hq68m : (vm_68 4 0).toInt = (vm_60 4 0).toInt := by rw [← hv68]; rfl
              have hw71 : ∀ j, j < 3 → vm_68 71 j = vm 24 j := by rw [← hv68]; exact hw71
              obtain ⟨x71, e71⟩ : ∃ y : Int32, y = i + 1 := ⟨_, rfl⟩
              refine lv_iinc (v := x71) (lv' := [(2, .int x71), (0, .ref (am 0)), (1, .int al)]) hx hb dX10_findFits_71 hl (k := 2) rfl (by rw [e71]; rfl) (by decide) rfl (fun ls hl => ?_)
              have t71 := i_add e71 (by omega)
              refine lv_goto (tgt := 27) hx hb dX10_findFits_74 (by decide) ?_
              exact ih27 x71 vm_68 _ _ ls (by omega) hP hD hS (by omega) hMI hfk (by omega) hwas (by omega) hsm hFz hw71 (lv_sub hl [1, 2, 0] rfl)
          · have c36_ := i_nle c36
            refine lv_aload_n hx hb dX10_findFits_39 rfl (lv_at hl 0 rfl) ?_
            refine lv_iload_n hx hb dX10_findFits_40 rfl (lv_at hl 2 rfl) ?_
            refine mt_Vv (w1 := fun (u : Vf) => mdL E am u) (wf := fun (u : Vf) => mdL E am u) (wr := []) (As := [.int i]) (rest := []) (C := RX10) (ci := 10) ⟨hx, hb, hml, hown, hts⟩ (c_X10_setShifts l E H.size am vmk i hMI (by omega) (by omega)) (cwV 1 hts gX10_findFits_X10_setShifts rfl rfl rfl (by decide +kernel) ⟨Nat.le_of_ble_eq_true rfl, Nat.le_of_ble_eq_true rfl⟩) hE hS hA hP hD [0, 1, 2, 3, 4, 5, 6, 7, 8, 9, 10, 11, 12, 13, 14, 15, 16, 17, 18, 19, 20, 21, 22, 23, 24, 25, 26, 27, 28, 29, 30, 31, 32, 33, 34, 35, 36, 37, 38, 39, 40, 41, 42, 43, 44, 45] [] rfl rfl (by decide) (by decide) (by decide) [0, 1, 2, 3, 4, 5, 6, 7, 8, 9, 10, 11, 12, 13, 14, 15, 16, 17, 18, 19, 20, 21, 22, 23, 24, 25, 26, 27, 28, 29, 30, 31, 32, 33, 34, 35, 36, 37, 38, 39, 40, 41, 42, 43, 44, 45] (by decide) (fun u => rfl) rfl rfl rfl rfl hl.1 rfl (Nat.le_of_ble_eq_true rfl) dX10_findFits_41 ⟨Nat.zero_le _, Nat.zero_le _⟩ (fun u41 H locs h41 hP hD hS => ?_)
            generalize u41 = o41_vm at hP hD h41
            try dsimp only at h41
            have hFn41 := h41.2
            replace h41 := h41.1
            replace hP : va_P (eD E) vwCl (mdL E am o41_vm) H := hP
            replace hD : va_D A (mdL E am o41_vm) := hD
            have hFz : fr [24, 71, 72, 73] vm o41_vm := by first | exact hFz | exact hFz.tr hFn41 (by decide) | (rw [← hv41]; repeat' (first | exact hFz | refine fr.up ?_ (by decide) | refine fr.up3 ?_ (by decide)))
            have hMI := h41.1
            have hwas : bnd (o41_vm 71) 3 0 999 := by rw [h41.2 71 (by decide)]; exact hwas
            have hsm : ∀ t, t ≠ 24 → t ≠ 71 → t ≠ 72 → t ≠ 73 → o41_vm t = vm t := fun t g0 g1 g2 g3 => (h41.2 t g0).trans (hsm t g0 g1 g2 g3)
            have hfk : fitM o41_vm := by unfold fitM; rw [h41.2 73 (by decide), h41.2 72 (by decide)]; exact hfk
            have hq41 : (o41_vm 73 0).toInt = (vmk 73 0).toInt := by rw [h41.2 73 (by decide)]
            have hq41m : (o41_vm 4 0).toInt = (vmk 4 0).toInt := by rw [h41.2 4 (by decide)]
            try clear hmZ
            try clear hM2
            try clear hA4
            have hH := hMI.1
            obtain ⟨hmG, hmC, hmZ, hmM, hmA, hmS, hmT⟩ := id hH
            obtain ⟨hG1, hG2, hG3⟩ := id hmG
            obtain ⟨hC1, hC2, hC3, hC4, hC5, hC6⟩ := id hmC
            obtain ⟨hM1, hM2, hM3, hM4⟩ := id hmM
            obtain ⟨hA1, hA2, hA3, hA4, hA5⟩ := id hmA
            obtain ⟨hS1, hS2, hS3, hS4, hS5, hS6⟩ := id hmS
            obtain ⟨hT1, hT2, hT3, hT4, hT5⟩ := id hmT
            have hw71 : ∀ j, j < 3 → o41_vm 71 j = vm 24 j := by rw [h41.2 71 (by decide)]; exact hw71
            refine lv_aload_n hx hb dX10_findFits_44 rfl (lv_at hl 0 rfl) ?_
            refine rd_V (As := []) (rest := []) (C := RX10) (ci := 10) ⟨hx, hb, hml, hown, hts⟩ (c_X10_isAsSeen l E A am o41_vm hH) (cwV 0 hts gX10_findFits_X10_isAsSeen rfl rfl rfl (by decide +kernel) ⟨Nat.le_of_ble_eq_true rfl, Nat.le_of_ble_eq_true rfl⟩) (hE.kept hS.2.1) (hP.sub (ws' := mdL E am o41_vm) [0, 1, 2, 3, 4, 5, 6, 7, 8, 9, 10, 11, 12, 13, 14, 15, 16, 17, 18, 19, 20, 21, 22, 23, 24, 25, 26, 27, 28, 29, 30, 31, 32, 33, 34, 35, 36, 37, 38, 39, 40, 41, 42, 43, 44, 45] rfl) rfl rfl rfl rfl hl.1 rfl (Nat.le_of_ble_eq_true rfl) dX10_findFits_45 ⟨Nat.zero_le _, Nat.zero_le _⟩ (fun r45 h45 => ?_)
            refine lv_if_eq (tgt := 71) hx hb dX10_findFits_48 (by decide) (fun c48 => ?_) (fun c48 => ?_)
            · have c48_ := i_eq c48
              clear h45
              obtain ⟨x71, e71⟩ : ∃ y : Int32, y = i + 1 := ⟨_, rfl⟩
              refine lv_iinc (v := x71) (lv' := [(2, .int x71), (0, .ref (am 0)), (1, .int al)]) hx hb dX10_findFits_71 hl (k := 2) rfl (by rw [e71]; rfl) (by decide) rfl (fun ls hl => ?_)
              have t71 := i_add e71 (by omega)
              refine lv_goto (tgt := 27) hx hb dX10_findFits_74 (by decide) ?_
              exact ih27 x71 o41_vm _ _ ls (by omega) hP hD hS (by omega) hMI hfk (by omega) hwas (by omega) hsm hFz hw71 (lv_sub hl [1, 2, 0] rfl)
            · have c48_ := i_ne c48
              replace h45 := b_y h45 c48_
              clear c48_
              refine lv_aload_n hx hb dX10_findFits_51 rfl (lv_at hl 0 rfl) ?_
              refine va_get (D := eD E) (ci := 10) (v := .ref (am 72)) (C := RX10) (T := TX10) (N := 79) hx hb hts in_X10 hown hK hP 0 rfl rfl 72 (by decide) lk2 (fun _ h9 => h9) rfl dX10_findFits_52 ?_
              refine lv_aload_n hx hb dX10_findFits_55 rfl (lv_at hl 0 rfl) ?_
              refine va_get (D := eD E) (ci := 10) (v := .int (o41_vm 73 0)) (C := RX10) (T := TX10) (N := 79) hx hb hts in_X10 hown hK hP 0 rfl rfl 73 (by decide) lk0 (fun _ h9 => h9) rfl dX10_findFits_56 ?_
              refine lv_iload_n hx hb dX10_findFits_59 rfl (lv_at hl 2 rfl) ?_
              refine va_iast hx hb hK hP hD hS 41 0 rfl rfl (n := 729) (f := (o41_vm 72)) (i_in (by omega) (by omega)) dX10_findFits_60 (fun H locs hP hD hS => ?_)
              replace hP : va_P (eD E) vwCl (mdL E am (up2 o41_vm 72 ((o41_vm 73 0).toNatClampNeg) i)) H := hP
              replace hD : va_D A (mdL E am (up2 o41_vm 72 ((o41_vm 73 0).toNatClampNeg) i)) := hD
              generalize hv60 : up2 o41_vm 72 ((o41_vm 73 0).toNatClampNeg) i = vm_60 at hP hD
              have hFz : fr [24, 71, 72, 73] vm vm_60 := by first | exact hFz | (rw [← hv60]; exact hFz.up (by decide))
              have hMI : MdI vm_60 := by rw [← hv60]; exact hMI
              have hwas : bnd (vm_60 71) 3 0 999 := by rw [← hv60]; exact hwas
              have hsm : ∀ t, t ≠ 24 → t ≠ 71 → t ≠ 72 → t ≠ 73 → vm_60 t = vm t := fun t g0 g1 g2 g3 => by rw [← hv60]; exact (up2_ne g2).trans (hsm t g0 g1 g2 g3)
              have hq60 : vm_60 73 0 = o41_vm 73 0 := by rw [← hv60]; rfl
              have hq60t : (vm_60 73 0).toInt = (o41_vm 73 0).toInt := by rw [hq60]
              have hq60m : (vm_60 4 0).toInt = (o41_vm 4 0).toInt := by rw [← hv60]; rfl
              have hw71 : ∀ j, j < 3 → vm_60 71 j = vm 24 j := by rw [← hv60]; exact hw71
              refine lv_aload_n hx hb dX10_findFits_61 rfl (lv_at hl 0 rfl) ?_
              refine lv_dup hx hb dX10_findFits_62 rfl ?_
              refine va_get (D := eD E) (ci := 10) (v := .int (vm_60 73 0)) (C := RX10) (T := TX10) (N := 79) hx hb hts in_X10 hown hK hP 0 rfl rfl 73 (by decide) lk0 (fun _ h9 => h9) rfl dX10_findFits_63 ?_
              refine lv_iconst (v := 1) hx hb dX10_findFits_66 (by decide) ?_
              refine lv_iadd hx hb dX10_findFits_67 ?_
              refine lv_topi (fun x67 e67 => ?_)
              have t67 := i_add e67 (by omega)
              refine va_put (D := eD E) (ci := 10) (v := .int x67) (ty := .int) (C := RX10) (T := TX10) (N := 79) hx hb hts in_X10 tyX10 tyX10_ok nmX10 hown hK hP hD hS 0 rfl rfl 73 (by decide) lk0 (fun _ h9 => h9) rfl (by decide +kernel) rfl rfl (Nat.le_of_ble_eq_true rfl) dX10_findFits_68 (fun H locs hP hD hS => ?_)
              replace hP : va_P (eD E) vwCl (mdL E am (up2 vm_60 73 0 x67)) H := hP
              replace hD : va_D A (mdL E am (up2 vm_60 73 0 x67)) := hD
              generalize hv68 : up2 vm_60 73 0 x67 = vm_68 at hP hD
              have hFz : fr [24, 71, 72, 73] vm vm_68 := by first | exact hFz | (rw [← hv68]; exact hFz.up (by decide))
              have hMI : MdI vm_68 := by rw [← hv68]; exact hMI
              have hwas : bnd (vm_68 71) 3 0 999 := by rw [← hv68]; exact hwas
              have hsm : ∀ t, t ≠ 24 → t ≠ 71 → t ≠ 72 → t ≠ 73 → vm_68 t = vm t := fun t g0 g1 g2 g3 => by rw [← hv68]; exact (up2_ne g3).trans (hsm t g0 g1 g2 g3)
              have hfk : fitM vm_68 := by rw [← hv68, ← hv60]; exact fitM_new hfk (by omega) (by omega) (by omega)
              have hq68 : (vm_68 73 0).toInt = x67.toInt := by rw [← hv68]; rfl
              have hq68m : (vm_68 4 0).toInt = (vm_60 4 0).toInt := by rw [← hv68]; rfl
              have hw71 : ∀ j, j < 3 → vm_68 71 j = vm 24 j := by rw [← hv68]; exact hw71
              obtain ⟨x71, e71⟩ : ∃ y : Int32, y = i + 1 := ⟨_, rfl⟩
              refine lv_iinc (v := x71) (lv' := [(2, .int x71), (0, .ref (am 0)), (1, .int al)]) hx hb dX10_findFits_71 hl (k := 2) rfl (by rw [e71]; rfl) (by decide) rfl (fun ls hl => ?_)
              have t71 := i_add e71 (by omega)
              refine lv_goto (tgt := 27) hx hb dX10_findFits_74 (by decide) ?_
              exact ih27 x71 vm_68 _ _ ls (by omega) hP hD hS (by omega) hMI hfk (by omega) hwas (by omega) hsm hFz hw71 (lv_sub hl [1, 2, 0] rfl)
    exact K27 _ 0 vm_6 _ _ ls (Nat.lt_succ_self _) hP hD hS (by omega) hMI hf6 (by omega) hwas rfl hsm hFz hw71 (lv_sub hl [2, 1, 0] rfl)
  refine lv_if_ne (tgt := 20) hx hb dX10_findFits_13 (by decide) (fun c13 => ?_) (fun c13 => ?_)
  · have c13_ := i_ne c13
    refine lv_aload_n hx hb dX10_findFits_20 rfl (lv_at hl 0 rfl) ?_
    refine rd_V (As := []) (rest := []) (C := RX10) (ci := 10) ⟨hx, hb, hml, hown, hts⟩ (c_X10_codes l E A am vm_6 hH) (cwV 0 hts gX10_findFits_X10_codes rfl rfl rfl (by decide +kernel) ⟨Nat.le_of_ble_eq_true rfl, Nat.le_of_ble_eq_true rfl⟩) (hE.kept hS.2.1) (hP.sub (ws' := mdL E am vm_6) [0, 1, 2, 3, 4, 5, 6, 7, 8, 9, 10, 11, 12, 13, 14, 15, 16, 17, 18, 19, 20, 21, 22, 23, 24, 25, 26, 27, 28, 29, 30, 31, 32, 33, 34, 35, 36, 37, 38, 39, 40, 41, 42, 43, 44, 45] rfl) rfl rfl rfl rfl hl.1 rfl (Nat.le_of_ble_eq_true rfl) dX10_findFits_21 ⟨Nat.zero_le _, Nat.zero_le _⟩ (fun r21 h21 => ?_)
    exact K24 r21 _ _ ls hP hD hS (by omega) (by omega) (lv_sub hl [0] rfl)
  · have c13_ := i_eq c13
    refine lv_iconst (v := 1) hx hb dX10_findFits_16 (by decide) ?_
    refine lv_goto (tgt := 24) hx hb dX10_findFits_17 (by decide) ?_
    exact K24 1 _ _ ls hP hD hS (by omega) (by omega) (lv_sub hl [0] rfl)
def rm_X10_fits : Room := { frames := 5, cells := 0, slots := 0, locals := 113 }
set_option maxHeartbeats 4000000 in
set_option maxRecDepth 100000 in
theorem c_X10_fits (l : Launch) (E : Ev) (sz : Nat) (am : Nat → Nat) (vm : Vf) (i : Int32) (k : Int32) (hMI : MdI vm) : Met l yX10_fits wsX10_fits rm_X10_fits (MtP E sz [.ref (am 0), .int i, .int k] (mdL E am vm)) (va_Qi (fun (r : Int32) (u : Vf) => ((MdI u) ∧ fr [24, 71, 72, 73] vm u) ∧ (∀ j, j < 3 → u 24 j = vm 24 j)) (MtB E (va_A (mdL E am vm) sz) (fun u => mdL E am u)) (va_A (mdL E am vm) sz)) 0 0 (va_A (mdL E am vm) sz) := by
  refine Met.ofW (cc := cX10_fits) (maxL := 4) (ret := (some .int)) (by decide) rfl ?_
  intro p e s m args below meth c s₁ B hml hv
  obtain ⟨rfl, hsz, hE, hP, hD0⟩ := hv
  subst hsz
  have hD := hD0.self (sz := s.heap.size)
  generalize hAe : va_A (mdL E am vm) s.heap.size = A at hD hE ⊢
  have hA : ∀ q : Nat, s.heap.size ≤ q → A q := fun q h => by rw [← hAe]; exact Or.inr h
  have hS : va_S A s.heap s.heap [] := va_S.rf
  have hx := B.exec
  have hb := B.bytes
  have hr := B.returns
  have hts := atoms_spec (ws := wsX10_fits) B.pre
  have hown : s.vm.findClass RX10 = some m.cls := findClass_of_methodNamed B.named
  have hlocks := B.notSynchronized
  have hK := hE.1
  have in_X10 : ∀ w ∈ u_ws RX10 TX10 79, w ∈ wsX10_fits := fun w h => List.mem_cons_of_mem _ (List.mem_append_right _ h)
  have lk0 := hts (.fieldLink RX10 454 "TidedGroundModel" "fitMany" "I") (List.mem_of_getElem? (i := 3) rfl)
  have lk1 := hts (.fieldLink RX10 143 "TidedGroundModel" "fitting" "[I") (List.mem_of_getElem? (i := 4) rfl)
  have lk2 := hts (.fieldLink RX10 59 "TidedGroundModel" "shift" "[I") (List.mem_of_getElem? (i := 5) rfl)
  have lk3 := hts (.fieldLink RX10 267 "TidedGroundModel" "moons" "I") (List.mem_of_getElem? (i := 1) rfl)
  have lk4 := hts (.constant RX10 329 (-1000000001)) (List.mem_of_getElem? (i := 2) rfl)
  have n_m1000000001 : ((-1000000001) : Int32).toInt = -1000000001 := by decide
  have n_m1 : ((-1) : Int32).toInt = -1 := by decide
  have n_0 : (0 : Int32).toInt = 0 := by decide
  have n_1 : (1 : Int32).toInt = 1 := by decide
  have hl := lv_entry ([.ref (am 0), .int i, .int k]) (n := 4) (Nat.le_of_ble_eq_true rfl)
  rw [lg_entry_eq]
  generalize (lg_sl ([.ref (am 0), .int i, .int k]) ++ List.replicate (4 - (lg_sl ([.ref (am 0), .int i, .int k])).length) Slot.unset).toArray = ls at hl ⊢
  have hl : lv_has ls 4 [(0, .ref (am 0)), (1, .int i), (2, .int k)] := hl
  refine W_abs (fun Q hQ => ?_)
  have hH := hMI.1
  obtain ⟨hmG, hmC, hmZ, hmM, hmA, hmS, hmT⟩ := id hH
  obtain ⟨hG1, hG2, hG3⟩ := id hmG
  obtain ⟨hC1, hC2, hC3, hC4, hC5, hC6⟩ := id hmC
  obtain ⟨hM1, hM2, hM3, hM4⟩ := id hmM
  obtain ⟨hA1, hA2, hA3, hA4, hA5⟩ := id hmA
  obtain ⟨hS1, hS2, hS3, hS4, hS5, hS6⟩ := id hmS
  obtain ⟨hT1, hT2, hT3, hT4, hT5⟩ := id hmT
  have hFz : fr [24, 71, 72, 73] vm vm := fr.rf
  refine lv_iload_n hx hb dX10_fits_0 rfl (lv_at hl 1 rfl) ?_
  refine lv_iconst (v := (-1)) hx hb dX10_fits_1 (by decide) ?_
  refine lv_icmp_eq (tgt := 25) hx hb dX10_fits_2 (by decide) (fun c2 => ?_) (fun c2 => ?_)
  · have c2_ := i_eq c2
    refine lv_aload_n hx hb dX10_fits_25 rfl (lv_at hl 0 rfl) ?_
    refine mt_Vv (w1 := fun (u : Vf) => mdL E am u) (wf := fun (u : Vf) => mdL E am u) (wr := []) (As := []) (rest := []) (C := RX10) (ci := 10) ⟨hx, hb, hml, hown, hts⟩ (c_X10_findFits l E s.heap.size am vm hMI) (cwV 0 hts gX10_fits_X10_findFits rfl rfl rfl (by decide +kernel) ⟨Nat.le_of_ble_eq_true rfl, Nat.le_of_ble_eq_true rfl⟩) hE hS hA hP hD [0, 1, 2, 3, 4, 5, 6, 7, 8, 9, 10, 11, 12, 13, 14, 15, 16, 17, 18, 19, 20, 21, 22, 23, 24, 25, 26, 27, 28, 29, 30, 31, 32, 33, 34, 35, 36, 37, 38, 39, 40, 41, 42, 43, 44, 45] [] rfl rfl (by decide) (by decide) (by decide) [0, 1, 2, 3, 4, 5, 6, 7, 8, 9, 10, 11, 12, 13, 14, 15, 16, 17, 18, 19, 20, 21, 22, 23, 24, 25, 26, 27, 28, 29, 30, 31, 32, 33, 34, 35, 36, 37, 38, 39, 40, 41, 42, 43, 44, 45] (by decide) (fun u => rfl) rfl rfl rfl rfl hl.1 rfl (Nat.le_of_ble_eq_true rfl) dX10_fits_26 ⟨Nat.zero_le _, Nat.zero_le _⟩ (fun u26 H locs h26 hP hD hS => ?_)
    generalize u26 = o26_vm at hP hD h26
    try dsimp only at h26
    have hf26 := h26.2
    replace h26 := h26.1
    have hFn26 := h26.2
    replace h26 := h26.1
    replace hP : va_P (eD E) vwCl (mdL E am o26_vm) H := hP
    replace hD : va_D A (mdL E am o26_vm) := hD
    have hFz : fr [24, 71, 72, 73] vm o26_vm := by first | exact hFz | exact hFz.tr hFn26 (by decide) | (rw [← hv26]; repeat' (first | exact hFz | refine fr.up ?_ (by decide) | refine fr.up3 ?_ (by decide)))
    have hMI := h26.1
    have hfk := h26.2.1
    have hfk1 := hfk.1
    have hq26 : (o26_vm 4 0).toInt = (vm 4 0).toInt := by rw [h26.2.2.2 4 (by decide) (by decide) (by decide) (by decide)]
    try clear hmZ
    try clear hM2
    try clear hA4
    have hH := hMI.1
    obtain ⟨hmG, hmC, hmZ, hmM, hmA, hmS, hmT⟩ := id hH
    obtain ⟨hG1, hG2, hG3⟩ := id hmG
    obtain ⟨hC1, hC2, hC3, hC4, hC5, hC6⟩ := id hmC
    obtain ⟨hM1, hM2, hM3, hM4⟩ := id hmM
    obtain ⟨hA1, hA2, hA3, hA4, hA5⟩ := id hmA
    obtain ⟨hS1, hS2, hS3, hS4, hS5, hS6⟩ := id hmS
    obtain ⟨hT1, hT2, hT3, hT4, hT5⟩ := id hmT
    refine lv_iload_n hx hb dX10_fits_29 rfl (lv_at hl 1 rfl) ?_
    refine lv_iconst (v := (-1)) hx hb dX10_fits_30 (by decide) ?_
    refine lv_icmp_eq (tgt := 50) hx hb dX10_fits_31 (by decide) (fun c31 => ?_) (fun c31 => ?_)
    · have c31_ := i_eq c31
      refine lv_iload_n hx hb dX10_fits_50 rfl (lv_at hl 1 rfl) ?_
      refine lv_iconst (v := (-1)) hx hb dX10_fits_51 (by decide) ?_
      refine lv_icmp_ne (tgt := 62) hx hb dX10_fits_52 (by decide) (fun c52 => ?_) (fun c52 => ?_)
      · have c52_ := i_ne c52
        refine lv_iconst (v := (-1)) hx hb dX10_fits_62 (by decide) ?_
        subst hQ
        exact W.iret (v := (-1)) hx hb hr (fun t ht hW => ⟨⟨(-1), (o26_vm), rfl, (show ((MdI o26_vm) ∧ fr [24, 71, 72, 73] vm o26_vm) ∧ (∀ j, j < 3 → o26_vm 24 j = vm 24 j) from ⟨⟨hMI, hFz⟩, hf26⟩), by rw [ht]; exact hP, hD⟩, hS.F ht⟩) hS.2.2 dX10_fits_63
      · have c52_ := i_eq c52
        refine lv_aload_n hx hb dX10_fits_55 rfl (lv_at hl 0 rfl) ?_
        refine va_get (D := eD E) (ci := 10) (v := .int (o26_vm 73 0)) (C := RX10) (T := TX10) (N := 79) hx hb hts in_X10 hown hK hP 0 rfl rfl 73 (by decide) lk0 (fun _ h9 => h9) rfl dX10_fits_56 ?_
        refine lv_goto (tgt := 63) hx hb dX10_fits_59 (by decide) ?_
        subst hQ
        exact W.iret (v := (o26_vm 73 0)) hx hb hr (fun t ht hW => ⟨⟨(o26_vm 73 0), (o26_vm), rfl, (show ((MdI o26_vm) ∧ fr [24, 71, 72, 73] vm o26_vm) ∧ (∀ j, j < 3 → o26_vm 24 j = vm 24 j) from ⟨⟨hMI, hFz⟩, hf26⟩), by rw [ht]; exact hP, hD⟩, hS.F ht⟩) hS.2.2 dX10_fits_63
    · have c31_ := i_ne c31
      refine lv_iload_n hx hb dX10_fits_34 rfl (lv_at hl 1 rfl) ?_
      refine lv_i2l hx hb dX10_fits_35 rfl ?_
      refine lv_lconst (v := 0) hx hb dX10_fits_36 (by decide) ?_
      refine lv_aload_n hx hb dX10_fits_37 rfl (lv_at hl 0 rfl) ?_
      refine va_get (D := eD E) (ci := 10) (v := .int (o26_vm 73 0)) (C := RX10) (T := TX10) (N := 79) hx hb hts in_X10 hown hK hP 0 rfl rfl 73 (by decide) lk0 (fun _ h9 => h9) rfl dX10_fits_38 ?_
      refine lv_iconst (v := 1) hx hb dX10_fits_41 (by decide) ?_
      refine lv_isub hx hb dX10_fits_42 ?_
      refine lv_topi (fun x42 e42 => ?_)
      have t42 := i_sub e42 (by omega)
      refine lv_i2l hx hb dX10_fits_43 rfl ?_
      have lt44_0 : (i.toInt64).toInt = i.toInt := Int32.toInt_toInt64 _
      have lt44_1 : (0 : Int64).toInt = 0 := by decide
      have lt44_2 : (x42.toInt64).toInt = x42.toInt := Int32.toInt_toInt64 _
      refine rd_S (As := [.long i.toInt64, .long 0, .long x42.toInt64]) (rest := []) ⟨hx, hb, hml, hown, hts⟩ (c_X10_in l E A i.toInt64 0 x42.toInt64) (va_cwS 3 hts gX10_fits_X10_in rfl rfl rfl (by decide +kernel) ⟨Nat.le_of_ble_eq_true rfl, Nat.le_of_ble_eq_true rfl⟩) (hE.kept hS.2.1) (hP.sub (ws' := []) [] rfl) rfl hl.1 rfl (Nat.le_of_ble_eq_true rfl) dX10_fits_44 ⟨Nat.zero_le _, Nat.zero_le _⟩ (fun r44 h44 => ?_)
      refine lv_if_ne (tgt := 64) hx hb dX10_fits_47 (by decide) (fun c47 => ?_) (fun c47 => ?_)
      · have c47_ := i_ne c47
        replace h44 := or_y h44 c47_
        clear c47_
        have sv64_i : 0 ≤ i.toInt ∧ i.toInt ≤ 728 := by omega
        refine lv_aload_n hx hb dX10_fits_64 rfl (lv_at hl 0 rfl) ?_
        refine mt_Vv (w1 := fun (u : Vf) => mdL E am u) (wf := fun (u : Vf) => mdL E am u) (wr := []) (As := []) (rest := []) (C := RX10) (ci := 10) ⟨hx, hb, hml, hown, hts⟩ (c_X10_saveShifts l E H.size am o26_vm hMI) (cwV 0 hts gX10_fits_X10_saveShifts rfl rfl rfl (by decide +kernel) ⟨Nat.le_of_ble_eq_true rfl, Nat.le_of_ble_eq_true rfl⟩) hE hS hA hP hD [0, 1, 2, 3, 4, 5, 6, 7, 8, 9, 10, 11, 12, 13, 14, 15, 16, 17, 18, 19, 20, 21, 22, 23, 24, 25, 26, 27, 28, 29, 30, 31, 32, 33, 34, 35, 36, 37, 38, 39, 40, 41, 42, 43, 44, 45] [] rfl rfl (by decide) (by decide) (by decide) [0, 1, 2, 3, 4, 5, 6, 7, 8, 9, 10, 11, 12, 13, 14, 15, 16, 17, 18, 19, 20, 21, 22, 23, 24, 25, 26, 27, 28, 29, 30, 31, 32, 33, 34, 35, 36, 37, 38, 39, 40, 41, 42, 43, 44, 45] (by decide) (fun u => rfl) rfl rfl rfl rfl hl.1 rfl (Nat.le_of_ble_eq_true rfl) dX10_fits_65 ⟨Nat.zero_le _, Nat.zero_le _⟩ (fun u65 H locs h65 hP hD hS => ?_)
        generalize u65 = o65_vm at hP hD h65
        try dsimp only at h65
        have hf65 := h65.2
        replace h65 := h65.1
        have hFn65 := h65.2
        replace h65 := h65.1
        replace hP : va_P (eD E) vwCl (mdL E am o65_vm) H := hP
        replace hD : va_D A (mdL E am o65_vm) := hD
        have hFz : fr [24, 71, 72, 73] vm o65_vm := by first | exact hFz | exact hFz.tr hFn65 (by decide) | (rw [← hv65]; repeat' (first | exact hFz | refine fr.up ?_ (by decide) | refine fr.up3 ?_ (by decide)))
        have hMI := h65.1
        have hwas := h65.2.1
        have hq65 : (o65_vm 4 0).toInt = (o26_vm 4 0).toInt := by rw [h65.2.2 4 (by decide)]
        have hfk : fitM o65_vm := by unfold fitM; rw [h65.2.2 73 (by decide), h65.2.2 72 (by decide)]; exact hfk
        have hq65f : (o65_vm 73 0).toInt = (o26_vm 73 0).toInt := by rw [h65.2.2 73 (by decide)]
        try clear hmZ
        try clear hM2
        try clear hA4
        have hH := hMI.1
        obtain ⟨hmG, hmC, hmZ, hmM, hmA, hmS, hmT⟩ := id hH
        obtain ⟨hG1, hG2, hG3⟩ := id hmG
        obtain ⟨hC1, hC2, hC3, hC4, hC5, hC6⟩ := id hmC
        obtain ⟨hM1, hM2, hM3, hM4⟩ := id hmM
        obtain ⟨hA1, hA2, hA3, hA4, hA5⟩ := id hmA
        obtain ⟨hS1, hS2, hS3, hS4, hS5, hS6⟩ := id hmS
        obtain ⟨hT1, hT2, hT3, hT4, hT5⟩ := id hmT
        have sv68_k : 0 ≤ k.toInt ∧ k.toInt ≤ 2 := by omega
        refine lv_aload_n hx hb dX10_fits_68 rfl (lv_at hl 0 rfl) ?_
        refine lv_aload_n hx hb dX10_fits_69 rfl (lv_at hl 0 rfl) ?_
        refine va_get (D := eD E) (ci := 10) (v := .ref (am 72)) (C := RX10) (T := TX10) (N := 79) hx hb hts in_X10 hown hK hP 0 rfl rfl 72 (by decide) lk1 (fun _ h9 => h9) rfl dX10_fits_70 ?_
        refine lv_iload_n hx hb dX10_fits_73 rfl (lv_at hl 1 rfl) ?_
        refine va_iald hx hb hK hP 41 0 rfl rfl (n := 729) (f := (o65_vm 72)) (i_in (by omega) (by omega)) dX10_fits_74 ?_
        refine lv_topi (fun x74 e74 => ?_)
        have b74 := hfk.2 i.toNatClampNeg (by rw [i_nat (by omega)]; omega)
        rw [← e74] at b74
        refine mt_Vv (w1 := fun (u : Vf) => mdL E am u) (wf := fun (u : Vf) => mdL E am u) (wr := []) (As := [.int x74]) (rest := []) (C := RX10) (ci := 10) ⟨hx, hb, hml, hown, hts⟩ (c_X10_setShifts l E H.size am o65_vm x74 hMI (by omega) (by omega)) (cwV 1 hts gX10_fits_X10_setShifts rfl rfl rfl (by decide +kernel) ⟨Nat.le_of_ble_eq_true rfl, Nat.le_of_ble_eq_true rfl⟩) hE hS hA hP hD [0, 1, 2, 3, 4, 5, 6, 7, 8, 9, 10, 11, 12, 13, 14, 15, 16, 17, 18, 19, 20, 21, 22, 23, 24, 25, 26, 27, 28, 29, 30, 31, 32, 33, 34, 35, 36, 37, 38, 39, 40, 41, 42, 43, 44, 45] [] rfl rfl (by decide) (by decide) (by decide) [0, 1, 2, 3, 4, 5, 6, 7, 8, 9, 10, 11, 12, 13, 14, 15, 16, 17, 18, 19, 20, 21, 22, 23, 24, 25, 26, 27, 28, 29, 30, 31, 32, 33, 34, 35, 36, 37, 38, 39, 40, 41, 42, 43, 44, 45] (by decide) (fun u => rfl) rfl rfl rfl rfl hl.1 rfl (Nat.le_of_ble_eq_true rfl) dX10_fits_75 ⟨Nat.zero_le _, Nat.zero_le _⟩ (fun u75 H locs h75 hP hD hS => ?_)
        generalize u75 = o75_vm at hP hD h75
        try dsimp only at h75
        have hFn75 := h75.2
        replace h75 := h75.1
        replace hP : va_P (eD E) vwCl (mdL E am o75_vm) H := hP
        replace hD : va_D A (mdL E am o75_vm) := hD
        have hFz : fr [24, 71, 72, 73] vm o75_vm := by first | exact hFz | exact hFz.tr hFn75 (by decide) | (rw [← hv75]; repeat' (first | exact hFz | refine fr.up ?_ (by decide) | refine fr.up3 ?_ (by decide)))
        have hMI := h75.1
        have hwas : bnd (o75_vm 71) 3 0 999 := by rw [h75.2 71 (by decide)]; exact hwas
        try clear hmZ
        try clear hM2
        try clear hA4
        have hH := hMI.1
        obtain ⟨hmG, hmC, hmZ, hmM, hmA, hmS, hmT⟩ := id hH
        obtain ⟨hG1, hG2, hG3⟩ := id hmG
        obtain ⟨hC1, hC2, hC3, hC4, hC5, hC6⟩ := id hmC
        obtain ⟨hM1, hM2, hM3, hM4⟩ := id hmM
        obtain ⟨hA1, hA2, hA3, hA4, hA5⟩ := id hmA
        obtain ⟨hS1, hS2, hS3, hS4, hS5, hS6⟩ := id hmS
        obtain ⟨hT1, hT2, hT3, hT4, hT5⟩ := id hmT
        refine lv_aload_n hx hb dX10_fits_78 rfl (lv_at hl 0 rfl) ?_
        refine va_get (D := eD E) (ci := 10) (v := .ref (am 24)) (C := RX10) (T := TX10) (N := 79) hx hb hts in_X10 hown hK hP 0 rfl rfl 24 (by decide) lk2 (fun _ h9 => h9) rfl dX10_fits_79 ?_
        refine lv_iload_n hx hb dX10_fits_82 rfl (lv_at hl 2 rfl) ?_
        refine va_iald hx hb hK hP 16 0 rfl rfl (n := 3) (f := (o75_vm 24)) (i_in (by omega) (by omega)) dX10_fits_83 ?_
        refine lv_topi (fun x83 e83 => ?_)
        have b83 := hS2 k.toNatClampNeg (i_natlt (by omega) (by decide))
        rw [← e83] at b83
        refine lv_istore_n (lv' := [(3, .int x83), (0, .ref (am 0)), (1, .int i), (2, .int k)]) hx hb dX10_fits_84 rfl hl (by decide) rfl (fun ls hl => ?_)
        refine lv_aload_n hx hb dX10_fits_85 rfl (lv_at hl 1 rfl) ?_
        refine mt_Vv (w1 := fun (u : Vf) => mdL E am u) (wf := fun (u : Vf) => mdL E am u) (wr := []) (As := []) (rest := []) (C := RX10) (ci := 10) ⟨hx, hb, hml, hown, hts⟩ (c_X10_putBack l E H.size am o75_vm hMI hwas) (cwV 0 hts gX10_fits_X10_putBack rfl rfl rfl (by decide +kernel) ⟨Nat.le_of_ble_eq_true rfl, Nat.le_of_ble_eq_true rfl⟩) hE hS hA hP hD [0, 1, 2, 3, 4, 5, 6, 7, 8, 9, 10, 11, 12, 13, 14, 15, 16, 17, 18, 19, 20, 21, 22, 23, 24, 25, 26, 27, 28, 29, 30, 31, 32, 33, 34, 35, 36, 37, 38, 39, 40, 41, 42, 43, 44, 45] [] rfl rfl (by decide) (by decide) (by decide) [0, 1, 2, 3, 4, 5, 6, 7, 8, 9, 10, 11, 12, 13, 14, 15, 16, 17, 18, 19, 20, 21, 22, 23, 24, 25, 26, 27, 28, 29, 30, 31, 32, 33, 34, 35, 36, 37, 38, 39, 40, 41, 42, 43, 44, 45] (by decide) (fun u => rfl) rfl rfl rfl rfl hl.1 rfl (Nat.le_of_ble_eq_true rfl) dX10_fits_86 ⟨Nat.zero_le _, Nat.zero_le _⟩ (fun u86 H locs h86 hP hD hS => ?_)
        generalize u86 = o86_vm at hP hD h86
        try dsimp only at h86
        have hf86 := h86.2
        replace h86 := h86.1
        have hFn86 := h86.2
        replace h86 := h86.1
        replace hP : va_P (eD E) vwCl (mdL E am o86_vm) H := hP
        replace hD : va_D A (mdL E am o86_vm) := hD
        have hFz : fr [24, 71, 72, 73] vm o86_vm := by first | exact hFz | exact hFz.tr hFn86 (by decide) | (rw [← hv86]; repeat' (first | exact hFz | refine fr.up ?_ (by decide) | refine fr.up3 ?_ (by decide)))
        refine lv_iload_n hx hb dX10_fits_89 rfl (lv_at hl 0 rfl) ?_
        subst hQ
        exact W.iret (v := x83) hx hb hr (fun t ht hW => ⟨⟨x83, (o86_vm), rfl, (show ((MdI o86_vm) ∧ fr [24, 71, 72, 73] vm o86_vm) ∧ (∀ j, j < 3 → o86_vm 24 j = vm 24 j) from ⟨⟨h86.1, hFz⟩, (fun j hj => by rw [hf86 j hj, h75.2 71 (by decide), hf65 j hj, hf26 j hj])⟩), by rw [ht]; exact hP, hD⟩, hS.F ht⟩) hS.2.2 dX10_fits_90
      · have c47_ := i_eq c47
        replace h44 := or_n h44 c47_
        refine lv_iload_n hx hb dX10_fits_50 rfl (lv_at hl 1 rfl) ?_
        refine lv_iconst (v := (-1)) hx hb dX10_fits_51 (by decide) ?_
        refine lv_icmp_ne (tgt := 62) hx hb dX10_fits_52 (by decide) (fun c52 => ?_) (fun c52 => ?_)
        · have c52_ := i_ne c52
          refine lv_iconst (v := (-1)) hx hb dX10_fits_62 (by decide) ?_
          subst hQ
          exact W.iret (v := (-1)) hx hb hr (fun t ht hW => ⟨⟨(-1), (o26_vm), rfl, (show ((MdI o26_vm) ∧ fr [24, 71, 72, 73] vm o26_vm) ∧ (∀ j, j < 3 → o26_vm 24 j = vm 24 j) from ⟨⟨hMI, hFz⟩, hf26⟩), by rw [ht]; exact hP, hD⟩, hS.F ht⟩) hS.2.2 dX10_fits_63
        · have c52_ := i_eq c52
          refine lv_aload_n hx hb dX10_fits_55 rfl (lv_at hl 0 rfl) ?_
          refine va_get (D := eD E) (ci := 10) (v := .int (o26_vm 73 0)) (C := RX10) (T := TX10) (N := 79) hx hb hts in_X10 hown hK hP 0 rfl rfl 73 (by decide) lk0 (fun _ h9 => h9) rfl dX10_fits_56 ?_
          refine lv_goto (tgt := 63) hx hb dX10_fits_59 (by decide) ?_
          subst hQ
          exact W.iret (v := (o26_vm 73 0)) hx hb hr (fun t ht hW => ⟨⟨(o26_vm 73 0), (o26_vm), rfl, (show ((MdI o26_vm) ∧ fr [24, 71, 72, 73] vm o26_vm) ∧ (∀ j, j < 3 → o26_vm 24 j = vm 24 j) from ⟨⟨hMI, hFz⟩, hf26⟩), by rw [ht]; exact hP, hD⟩, hS.F ht⟩) hS.2.2 dX10_fits_63
  · have c2_ := i_ne c2
    refine lv_iload_n hx hb dX10_fits_5 rfl (lv_at hl 2 rfl) ?_
    refine lv_i2l hx hb dX10_fits_6 rfl ?_
    refine lv_lconst (v := 0) hx hb dX10_fits_7 (by decide) ?_
    refine lv_aload_n hx hb dX10_fits_8 rfl (lv_at hl 0 rfl) ?_
    refine va_get (D := eD E) (ci := 10) (v := .int (vm 4 0)) (C := RX10) (T := TX10) (N := 79) hx hb hts in_X10 hown hK hP 0 rfl rfl 4 (by decide) lk3 (fun _ h9 => h9) rfl dX10_fits_9 ?_
    refine lv_iconst (v := 1) hx hb dX10_fits_12 (by decide) ?_
    refine lv_isub hx hb dX10_fits_13 ?_
    refine lv_topi (fun x13 e13 => ?_)
    have t13 := i_sub e13 (by omega)
    refine lv_i2l hx hb dX10_fits_14 rfl ?_
    have lt15_0 : (k.toInt64).toInt = k.toInt := Int32.toInt_toInt64 _
    have lt15_1 : (0 : Int64).toInt = 0 := by decide
    have lt15_2 : (x13.toInt64).toInt = x13.toInt := Int32.toInt_toInt64 _
    refine rd_S (As := [.long k.toInt64, .long 0, .long x13.toInt64]) (rest := []) ⟨hx, hb, hml, hown, hts⟩ (c_X10_in l E A k.toInt64 0 x13.toInt64) (va_cwS 3 hts gX10_fits_X10_in rfl rfl rfl (by decide +kernel) ⟨Nat.le_of_ble_eq_true rfl, Nat.le_of_ble_eq_true rfl⟩) (hE.kept hS.2.1) (hP.sub (ws' := []) [] rfl) rfl hl.1 rfl (Nat.le_of_ble_eq_true rfl) dX10_fits_15 ⟨Nat.zero_le _, Nat.zero_le _⟩ (fun r15 h15 => ?_)
    refine lv_if_ne (tgt := 25) hx hb dX10_fits_18 (by decide) (fun c18 => ?_) (fun c18 => ?_)
    · have c18_ := i_ne c18
      replace h15 := or_y h15 c18_
      clear c18_
      refine lv_aload_n hx hb dX10_fits_25 rfl (lv_at hl 0 rfl) ?_
      refine mt_Vv (w1 := fun (u : Vf) => mdL E am u) (wf := fun (u : Vf) => mdL E am u) (wr := []) (As := []) (rest := []) (C := RX10) (ci := 10) ⟨hx, hb, hml, hown, hts⟩ (c_X10_findFits l E s.heap.size am vm hMI) (cwV 0 hts gX10_fits_X10_findFits rfl rfl rfl (by decide +kernel) ⟨Nat.le_of_ble_eq_true rfl, Nat.le_of_ble_eq_true rfl⟩) hE hS hA hP hD [0, 1, 2, 3, 4, 5, 6, 7, 8, 9, 10, 11, 12, 13, 14, 15, 16, 17, 18, 19, 20, 21, 22, 23, 24, 25, 26, 27, 28, 29, 30, 31, 32, 33, 34, 35, 36, 37, 38, 39, 40, 41, 42, 43, 44, 45] [] rfl rfl (by decide) (by decide) (by decide) [0, 1, 2, 3, 4, 5, 6, 7, 8, 9, 10, 11, 12, 13, 14, 15, 16, 17, 18, 19, 20, 21, 22, 23, 24, 25, 26, 27, 28, 29, 30, 31, 32, 33, 34, 35, 36, 37, 38, 39, 40, 41, 42, 43, 44, 45] (by decide) (fun u => rfl) rfl rfl rfl rfl hl.1 rfl (Nat.le_of_ble_eq_true rfl) dX10_fits_26 ⟨Nat.zero_le _, Nat.zero_le _⟩ (fun u26 H locs h26 hP hD hS => ?_)
      generalize u26 = o26_vm at hP hD h26
      try dsimp only at h26
      have hf26 := h26.2
      replace h26 := h26.1
      have hFn26 := h26.2
      replace h26 := h26.1
      replace hP : va_P (eD E) vwCl (mdL E am o26_vm) H := hP
      replace hD : va_D A (mdL E am o26_vm) := hD
      have hFz : fr [24, 71, 72, 73] vm o26_vm := by first | exact hFz | exact hFz.tr hFn26 (by decide) | (rw [← hv26]; repeat' (first | exact hFz | refine fr.up ?_ (by decide) | refine fr.up3 ?_ (by decide)))
      have hMI := h26.1
      have hfk := h26.2.1
      have hfk1 := hfk.1
      have hq26 : (o26_vm 4 0).toInt = (vm 4 0).toInt := by rw [h26.2.2.2 4 (by decide) (by decide) (by decide) (by decide)]
      try clear hmZ
      try clear hM2
      try clear hA4
      have hH := hMI.1
      obtain ⟨hmG, hmC, hmZ, hmM, hmA, hmS, hmT⟩ := id hH
      obtain ⟨hG1, hG2, hG3⟩ := id hmG
      obtain ⟨hC1, hC2, hC3, hC4, hC5, hC6⟩ := id hmC
      obtain ⟨hM1, hM2, hM3, hM4⟩ := id hmM
      obtain ⟨hA1, hA2, hA3, hA4, hA5⟩ := id hmA
      obtain ⟨hS1, hS2, hS3, hS4, hS5, hS6⟩ := id hmS
      obtain ⟨hT1, hT2, hT3, hT4, hT5⟩ := id hmT
      refine lv_iload_n hx hb dX10_fits_29 rfl (lv_at hl 1 rfl) ?_
      refine lv_iconst (v := (-1)) hx hb dX10_fits_30 (by decide) ?_
      refine lv_icmp_eq (tgt := 50) hx hb dX10_fits_31 (by decide) (fun c31 => ?_) (fun c31 => ?_)
      · have c31_ := i_eq c31
        refine lv_iload_n hx hb dX10_fits_50 rfl (lv_at hl 1 rfl) ?_
        refine lv_iconst (v := (-1)) hx hb dX10_fits_51 (by decide) ?_
        refine lv_icmp_ne (tgt := 62) hx hb dX10_fits_52 (by decide) (fun c52 => ?_) (fun c52 => ?_)
        · have c52_ := i_ne c52
          refine lv_iconst (v := (-1)) hx hb dX10_fits_62 (by decide) ?_
          subst hQ
          exact W.iret (v := (-1)) hx hb hr (fun t ht hW => ⟨⟨(-1), (o26_vm), rfl, (show ((MdI o26_vm) ∧ fr [24, 71, 72, 73] vm o26_vm) ∧ (∀ j, j < 3 → o26_vm 24 j = vm 24 j) from ⟨⟨hMI, hFz⟩, hf26⟩), by rw [ht]; exact hP, hD⟩, hS.F ht⟩) hS.2.2 dX10_fits_63
        · have c52_ := i_eq c52
          refine lv_aload_n hx hb dX10_fits_55 rfl (lv_at hl 0 rfl) ?_
          refine va_get (D := eD E) (ci := 10) (v := .int (o26_vm 73 0)) (C := RX10) (T := TX10) (N := 79) hx hb hts in_X10 hown hK hP 0 rfl rfl 73 (by decide) lk0 (fun _ h9 => h9) rfl dX10_fits_56 ?_
          refine lv_goto (tgt := 63) hx hb dX10_fits_59 (by decide) ?_
          subst hQ
          exact W.iret (v := (o26_vm 73 0)) hx hb hr (fun t ht hW => ⟨⟨(o26_vm 73 0), (o26_vm), rfl, (show ((MdI o26_vm) ∧ fr [24, 71, 72, 73] vm o26_vm) ∧ (∀ j, j < 3 → o26_vm 24 j = vm 24 j) from ⟨⟨hMI, hFz⟩, hf26⟩), by rw [ht]; exact hP, hD⟩, hS.F ht⟩) hS.2.2 dX10_fits_63
      · have c31_ := i_ne c31
        refine lv_iload_n hx hb dX10_fits_34 rfl (lv_at hl 1 rfl) ?_
        refine lv_i2l hx hb dX10_fits_35 rfl ?_
        refine lv_lconst (v := 0) hx hb dX10_fits_36 (by decide) ?_
        refine lv_aload_n hx hb dX10_fits_37 rfl (lv_at hl 0 rfl) ?_
        refine va_get (D := eD E) (ci := 10) (v := .int (o26_vm 73 0)) (C := RX10) (T := TX10) (N := 79) hx hb hts in_X10 hown hK hP 0 rfl rfl 73 (by decide) lk0 (fun _ h9 => h9) rfl dX10_fits_38 ?_
        refine lv_iconst (v := 1) hx hb dX10_fits_41 (by decide) ?_
        refine lv_isub hx hb dX10_fits_42 ?_
        refine lv_topi (fun x42 e42 => ?_)
        have t42 := i_sub e42 (by omega)
        refine lv_i2l hx hb dX10_fits_43 rfl ?_
        have lt44_0 : (i.toInt64).toInt = i.toInt := Int32.toInt_toInt64 _
        have lt44_1 : (0 : Int64).toInt = 0 := by decide
        have lt44_2 : (x42.toInt64).toInt = x42.toInt := Int32.toInt_toInt64 _
        refine rd_S (As := [.long i.toInt64, .long 0, .long x42.toInt64]) (rest := []) ⟨hx, hb, hml, hown, hts⟩ (c_X10_in l E A i.toInt64 0 x42.toInt64) (va_cwS 3 hts gX10_fits_X10_in rfl rfl rfl (by decide +kernel) ⟨Nat.le_of_ble_eq_true rfl, Nat.le_of_ble_eq_true rfl⟩) (hE.kept hS.2.1) (hP.sub (ws' := []) [] rfl) rfl hl.1 rfl (Nat.le_of_ble_eq_true rfl) dX10_fits_44 ⟨Nat.zero_le _, Nat.zero_le _⟩ (fun r44 h44 => ?_)
        refine lv_if_ne (tgt := 64) hx hb dX10_fits_47 (by decide) (fun c47 => ?_) (fun c47 => ?_)
        · have c47_ := i_ne c47
          replace h44 := or_y h44 c47_
          clear c47_
          have sv64_i : 0 ≤ i.toInt ∧ i.toInt ≤ 728 := by omega
          refine lv_aload_n hx hb dX10_fits_64 rfl (lv_at hl 0 rfl) ?_
          refine mt_Vv (w1 := fun (u : Vf) => mdL E am u) (wf := fun (u : Vf) => mdL E am u) (wr := []) (As := []) (rest := []) (C := RX10) (ci := 10) ⟨hx, hb, hml, hown, hts⟩ (c_X10_saveShifts l E H.size am o26_vm hMI) (cwV 0 hts gX10_fits_X10_saveShifts rfl rfl rfl (by decide +kernel) ⟨Nat.le_of_ble_eq_true rfl, Nat.le_of_ble_eq_true rfl⟩) hE hS hA hP hD [0, 1, 2, 3, 4, 5, 6, 7, 8, 9, 10, 11, 12, 13, 14, 15, 16, 17, 18, 19, 20, 21, 22, 23, 24, 25, 26, 27, 28, 29, 30, 31, 32, 33, 34, 35, 36, 37, 38, 39, 40, 41, 42, 43, 44, 45] [] rfl rfl (by decide) (by decide) (by decide) [0, 1, 2, 3, 4, 5, 6, 7, 8, 9, 10, 11, 12, 13, 14, 15, 16, 17, 18, 19, 20, 21, 22, 23, 24, 25, 26, 27, 28, 29, 30, 31, 32, 33, 34, 35, 36, 37, 38, 39, 40, 41, 42, 43, 44, 45] (by decide) (fun u => rfl) rfl rfl rfl rfl hl.1 rfl (Nat.le_of_ble_eq_true rfl) dX10_fits_65 ⟨Nat.zero_le _, Nat.zero_le _⟩ (fun u65 H locs h65 hP hD hS => ?_)
          generalize u65 = o65_vm at hP hD h65
          try dsimp only at h65
          have hf65 := h65.2
          replace h65 := h65.1
          have hFn65 := h65.2
          replace h65 := h65.1
          replace hP : va_P (eD E) vwCl (mdL E am o65_vm) H := hP
          replace hD : va_D A (mdL E am o65_vm) := hD
          have hFz : fr [24, 71, 72, 73] vm o65_vm := by first | exact hFz | exact hFz.tr hFn65 (by decide) | (rw [← hv65]; repeat' (first | exact hFz | refine fr.up ?_ (by decide) | refine fr.up3 ?_ (by decide)))
          have hMI := h65.1
          have hwas := h65.2.1
          have hq65 : (o65_vm 4 0).toInt = (o26_vm 4 0).toInt := by rw [h65.2.2 4 (by decide)]
          have hfk : fitM o65_vm := by unfold fitM; rw [h65.2.2 73 (by decide), h65.2.2 72 (by decide)]; exact hfk
          have hq65f : (o65_vm 73 0).toInt = (o26_vm 73 0).toInt := by rw [h65.2.2 73 (by decide)]
          try clear hmZ
          try clear hM2
          try clear hA4
          have hH := hMI.1
          obtain ⟨hmG, hmC, hmZ, hmM, hmA, hmS, hmT⟩ := id hH
          obtain ⟨hG1, hG2, hG3⟩ := id hmG
          obtain ⟨hC1, hC2, hC3, hC4, hC5, hC6⟩ := id hmC
          obtain ⟨hM1, hM2, hM3, hM4⟩ := id hmM
          obtain ⟨hA1, hA2, hA3, hA4, hA5⟩ := id hmA
          obtain ⟨hS1, hS2, hS3, hS4, hS5, hS6⟩ := id hmS
          obtain ⟨hT1, hT2, hT3, hT4, hT5⟩ := id hmT
          have sv68_k : 0 ≤ k.toInt ∧ k.toInt ≤ 2 := by omega
          refine lv_aload_n hx hb dX10_fits_68 rfl (lv_at hl 0 rfl) ?_
          refine lv_aload_n hx hb dX10_fits_69 rfl (lv_at hl 0 rfl) ?_
          refine va_get (D := eD E) (ci := 10) (v := .ref (am 72)) (C := RX10) (T := TX10) (N := 79) hx hb hts in_X10 hown hK hP 0 rfl rfl 72 (by decide) lk1 (fun _ h9 => h9) rfl dX10_fits_70 ?_
          refine lv_iload_n hx hb dX10_fits_73 rfl (lv_at hl 1 rfl) ?_
          refine va_iald hx hb hK hP 41 0 rfl rfl (n := 729) (f := (o65_vm 72)) (i_in (by omega) (by omega)) dX10_fits_74 ?_
          refine lv_topi (fun x74 e74 => ?_)
          have b74 := hfk.2 i.toNatClampNeg (by rw [i_nat (by omega)]; omega)
          rw [← e74] at b74
          refine mt_Vv (w1 := fun (u : Vf) => mdL E am u) (wf := fun (u : Vf) => mdL E am u) (wr := []) (As := [.int x74]) (rest := []) (C := RX10) (ci := 10) ⟨hx, hb, hml, hown, hts⟩ (c_X10_setShifts l E H.size am o65_vm x74 hMI (by omega) (by omega)) (cwV 1 hts gX10_fits_X10_setShifts rfl rfl rfl (by decide +kernel) ⟨Nat.le_of_ble_eq_true rfl, Nat.le_of_ble_eq_true rfl⟩) hE hS hA hP hD [0, 1, 2, 3, 4, 5, 6, 7, 8, 9, 10, 11, 12, 13, 14, 15, 16, 17, 18, 19, 20, 21, 22, 23, 24, 25, 26, 27, 28, 29, 30, 31, 32, 33, 34, 35, 36, 37, 38, 39, 40, 41, 42, 43, 44, 45] [] rfl rfl (by decide) (by decide) (by decide) [0, 1, 2, 3, 4, 5, 6, 7, 8, 9, 10, 11, 12, 13, 14, 15, 16, 17, 18, 19, 20, 21, 22, 23, 24, 25, 26, 27, 28, 29, 30, 31, 32, 33, 34, 35, 36, 37, 38, 39, 40, 41, 42, 43, 44, 45] (by decide) (fun u => rfl) rfl rfl rfl rfl hl.1 rfl (Nat.le_of_ble_eq_true rfl) dX10_fits_75 ⟨Nat.zero_le _, Nat.zero_le _⟩ (fun u75 H locs h75 hP hD hS => ?_)
          generalize u75 = o75_vm at hP hD h75
          try dsimp only at h75
          have hFn75 := h75.2
          replace h75 := h75.1
          replace hP : va_P (eD E) vwCl (mdL E am o75_vm) H := hP
          replace hD : va_D A (mdL E am o75_vm) := hD
          have hFz : fr [24, 71, 72, 73] vm o75_vm := by first | exact hFz | exact hFz.tr hFn75 (by decide) | (rw [← hv75]; repeat' (first | exact hFz | refine fr.up ?_ (by decide) | refine fr.up3 ?_ (by decide)))
          have hMI := h75.1
          have hwas : bnd (o75_vm 71) 3 0 999 := by rw [h75.2 71 (by decide)]; exact hwas
          try clear hmZ
          try clear hM2
          try clear hA4
          have hH := hMI.1
          obtain ⟨hmG, hmC, hmZ, hmM, hmA, hmS, hmT⟩ := id hH
          obtain ⟨hG1, hG2, hG3⟩ := id hmG
          obtain ⟨hC1, hC2, hC3, hC4, hC5, hC6⟩ := id hmC
          obtain ⟨hM1, hM2, hM3, hM4⟩ := id hmM
          obtain ⟨hA1, hA2, hA3, hA4, hA5⟩ := id hmA
          obtain ⟨hS1, hS2, hS3, hS4, hS5, hS6⟩ := id hmS
          obtain ⟨hT1, hT2, hT3, hT4, hT5⟩ := id hmT
          refine lv_aload_n hx hb dX10_fits_78 rfl (lv_at hl 0 rfl) ?_
          refine va_get (D := eD E) (ci := 10) (v := .ref (am 24)) (C := RX10) (T := TX10) (N := 79) hx hb hts in_X10 hown hK hP 0 rfl rfl 24 (by decide) lk2 (fun _ h9 => h9) rfl dX10_fits_79 ?_
          refine lv_iload_n hx hb dX10_fits_82 rfl (lv_at hl 2 rfl) ?_
          refine va_iald hx hb hK hP 16 0 rfl rfl (n := 3) (f := (o75_vm 24)) (i_in (by omega) (by omega)) dX10_fits_83 ?_
          refine lv_topi (fun x83 e83 => ?_)
          have b83 := hS2 k.toNatClampNeg (i_natlt (by omega) (by decide))
          rw [← e83] at b83
          refine lv_istore_n (lv' := [(3, .int x83), (0, .ref (am 0)), (1, .int i), (2, .int k)]) hx hb dX10_fits_84 rfl hl (by decide) rfl (fun ls hl => ?_)
          refine lv_aload_n hx hb dX10_fits_85 rfl (lv_at hl 1 rfl) ?_
          refine mt_Vv (w1 := fun (u : Vf) => mdL E am u) (wf := fun (u : Vf) => mdL E am u) (wr := []) (As := []) (rest := []) (C := RX10) (ci := 10) ⟨hx, hb, hml, hown, hts⟩ (c_X10_putBack l E H.size am o75_vm hMI hwas) (cwV 0 hts gX10_fits_X10_putBack rfl rfl rfl (by decide +kernel) ⟨Nat.le_of_ble_eq_true rfl, Nat.le_of_ble_eq_true rfl⟩) hE hS hA hP hD [0, 1, 2, 3, 4, 5, 6, 7, 8, 9, 10, 11, 12, 13, 14, 15, 16, 17, 18, 19, 20, 21, 22, 23, 24, 25, 26, 27, 28, 29, 30, 31, 32, 33, 34, 35, 36, 37, 38, 39, 40, 41, 42, 43, 44, 45] [] rfl rfl (by decide) (by decide) (by decide) [0, 1, 2, 3, 4, 5, 6, 7, 8, 9, 10, 11, 12, 13, 14, 15, 16, 17, 18, 19, 20, 21, 22, 23, 24, 25, 26, 27, 28, 29, 30, 31, 32, 33, 34, 35, 36, 37, 38, 39, 40, 41, 42, 43, 44, 45] (by decide) (fun u => rfl) rfl rfl rfl rfl hl.1 rfl (Nat.le_of_ble_eq_true rfl) dX10_fits_86 ⟨Nat.zero_le _, Nat.zero_le _⟩ (fun u86 H locs h86 hP hD hS => ?_)
          generalize u86 = o86_vm at hP hD h86
          try dsimp only at h86
          have hf86 := h86.2
          replace h86 := h86.1
          have hFn86 := h86.2
          replace h86 := h86.1
          replace hP : va_P (eD E) vwCl (mdL E am o86_vm) H := hP
          replace hD : va_D A (mdL E am o86_vm) := hD
          have hFz : fr [24, 71, 72, 73] vm o86_vm := by first | exact hFz | exact hFz.tr hFn86 (by decide) | (rw [← hv86]; repeat' (first | exact hFz | refine fr.up ?_ (by decide) | refine fr.up3 ?_ (by decide)))
          refine lv_iload_n hx hb dX10_fits_89 rfl (lv_at hl 0 rfl) ?_
          subst hQ
          exact W.iret (v := x83) hx hb hr (fun t ht hW => ⟨⟨x83, (o86_vm), rfl, (show ((MdI o86_vm) ∧ fr [24, 71, 72, 73] vm o86_vm) ∧ (∀ j, j < 3 → o86_vm 24 j = vm 24 j) from ⟨⟨h86.1, hFz⟩, (fun j hj => by rw [hf86 j hj, h75.2 71 (by decide), hf65 j hj, hf26 j hj])⟩), by rw [ht]; exact hP, hD⟩, hS.F ht⟩) hS.2.2 dX10_fits_90
        · have c47_ := i_eq c47
          replace h44 := or_n h44 c47_
          refine lv_iload_n hx hb dX10_fits_50 rfl (lv_at hl 1 rfl) ?_
          refine lv_iconst (v := (-1)) hx hb dX10_fits_51 (by decide) ?_
          refine lv_icmp_ne (tgt := 62) hx hb dX10_fits_52 (by decide) (fun c52 => ?_) (fun c52 => ?_)
          · have c52_ := i_ne c52
            refine lv_iconst (v := (-1)) hx hb dX10_fits_62 (by decide) ?_
            subst hQ
            exact W.iret (v := (-1)) hx hb hr (fun t ht hW => ⟨⟨(-1), (o26_vm), rfl, (show ((MdI o26_vm) ∧ fr [24, 71, 72, 73] vm o26_vm) ∧ (∀ j, j < 3 → o26_vm 24 j = vm 24 j) from ⟨⟨hMI, hFz⟩, hf26⟩), by rw [ht]; exact hP, hD⟩, hS.F ht⟩) hS.2.2 dX10_fits_63
          · have c52_ := i_eq c52
            refine lv_aload_n hx hb dX10_fits_55 rfl (lv_at hl 0 rfl) ?_
            refine va_get (D := eD E) (ci := 10) (v := .int (o26_vm 73 0)) (C := RX10) (T := TX10) (N := 79) hx hb hts in_X10 hown hK hP 0 rfl rfl 73 (by decide) lk0 (fun _ h9 => h9) rfl dX10_fits_56 ?_
            refine lv_goto (tgt := 63) hx hb dX10_fits_59 (by decide) ?_
            subst hQ
            exact W.iret (v := (o26_vm 73 0)) hx hb hr (fun t ht hW => ⟨⟨(o26_vm 73 0), (o26_vm), rfl, (show ((MdI o26_vm) ∧ fr [24, 71, 72, 73] vm o26_vm) ∧ (∀ j, j < 3 → o26_vm 24 j = vm 24 j) from ⟨⟨hMI, hFz⟩, hf26⟩), by rw [ht]; exact hP, hD⟩, hS.F ht⟩) hS.2.2 dX10_fits_63
    · have c18_ := i_eq c18
      replace h15 := or_n h15 c18_
      refine lv_ldcw hx hb hown lk4 dX10_fits_21 ?_
      subst hQ
      exact W.iret (v := (-1000000001)) hx hb hr (fun t ht hW => ⟨⟨(-1000000001), (vm), rfl, (show ((MdI vm) ∧ fr [24, 71, 72, 73] vm vm) ∧ (∀ j, j < 3 → vm 24 j = vm 24 j) from ⟨⟨hMI, hFz⟩, (fun _ _ => rfl)⟩), by rw [ht]; exact hP, hD⟩, hS.F ht⟩) hS.2.2 dX10_fits_24
def rm_X10_worstAt : Room := { frames := 2, cells := 0, slots := 0, locals := 47 }
set_option maxHeartbeats 4000000 in
set_option maxRecDepth 100000 in
theorem c_X10_worstAt (l : Launch) (E : Ev) (sz : Nat) (am : Nat → Nat) (vm : Vf) (cell : Int32) (step : Int32) (hMI : MdI vm) (hw : 1 ≤ (vm 0 0).toInt) (hmo : 1 ≤ (vm 4 0).toInt) (hfk : fitM vm) (hcell : 0 ≤ cell.toInt ∧ cell.toInt ≤ 23) (hstep : 0 ≤ step.toInt ∧ step.toInt ≤ 12) : Met l yX10_worstAt wsX10_worstAt rm_X10_worstAt (MtP E sz [.ref (am 0), .int cell, .int step] (mdL E am vm)) (va_Qi (fun (r : Int32) (u : Vf) => (MdI u ∧ ∀ t, t ≠ 24 → t ≠ 74 → u t = vm t) ∧ fr [24, 74] vm u) (MtB E (va_A (mdL E am vm) sz) (fun u => mdL E am u)) (va_A (mdL E am vm) sz)) 0 0 (va_A (mdL E am vm) sz) := by
  refine Met.ofW (cc := cX10_worstAt) (maxL := 6) (ret := (some .int)) (by decide) rfl ?_
  intro p e s m args below meth c s₁ B hml hv
  obtain ⟨rfl, hsz, hE, hP, hD0⟩ := hv
  subst hsz
  have hD := hD0.self (sz := s.heap.size)
  generalize hAe : va_A (mdL E am vm) s.heap.size = A at hD hE ⊢
  have hA : ∀ q : Nat, s.heap.size ≤ q → A q := fun q h => by rw [← hAe]; exact Or.inr h
  have hS : va_S A s.heap s.heap [] := va_S.rf
  have hx := B.exec
  have hb := B.bytes
  have hr := B.returns
  have hts := atoms_spec (ws := wsX10_worstAt) B.pre
  have hown : s.vm.findClass RX10 = some m.cls := findClass_of_methodNamed B.named
  have hlocks := B.notSynchronized
  have hK := hE.1
  have in_X10 : ∀ w ∈ u_ws RX10 TX10 79, w ∈ wsX10_worstAt := fun w h => List.mem_cons_of_mem _ (List.mem_append_right _ h)
  have lk0 := hts (.fieldLink RX10 454 "TidedGroundModel" "fitMany" "I") (List.mem_of_getElem? (i := 1) rfl)
  have lk1 := hts (.fieldLink RX10 143 "TidedGroundModel" "fitting" "[I") (List.mem_of_getElem? (i := 3) rfl)
  have lk2 := hts (.fieldLink RX10 146 "TidedGroundModel" "counts" "[I") (List.mem_of_getElem? (i := 2) rfl)
  have n_0 : (0 : Int32).toInt = 0 := by decide
  have n_1 : (1 : Int32).toInt = 1 := by decide
  have n_30 : (30 : Int32).toInt = 30 := by decide
  have n_64 : (64 : Int32).toInt = 64 := by decide
  have hl := lv_entry ([.ref (am 0), .int cell, .int step]) (n := 6) (Nat.le_of_ble_eq_true rfl)
  rw [lg_entry_eq]
  generalize (lg_sl ([.ref (am 0), .int cell, .int step]) ++ List.replicate (6 - (lg_sl ([.ref (am 0), .int cell, .int step])).length) Slot.unset).toArray = ls at hl ⊢
  have hl : lv_has ls 6 [(0, .ref (am 0)), (1, .int cell), (2, .int step)] := hl
  refine W_abs (fun Q hQ => ?_)
  have hH := hMI.1
  obtain ⟨hmG, hmC, hmZ, hmM, hmA, hmS, hmT⟩ := id hH
  obtain ⟨hG1, hG2, hG3⟩ := id hmG
  obtain ⟨hC1, hC2, hC3, hC4, hC5, hC6⟩ := id hmC
  obtain ⟨hM1, hM2, hM3, hM4⟩ := id hmM
  obtain ⟨hA1, hA2, hA3, hA4, hA5⟩ := id hmA
  obtain ⟨hS1, hS2, hS3, hS4, hS5, hS6⟩ := id hmS
  obtain ⟨hT1, hT2, hT3, hT4, hT5⟩ := id hmT
  have hfk1 := hfk.1
  have hsm : ∀ t, t ≠ 24 → t ≠ 74 → vm t = vm t := fun t _ _ => rfl
  have hFz : fr [24, 74] vm vm := fr.rf
  refine lv_aload_n hx hb dX10_worstAt_0 rfl (lv_at hl 0 rfl) ?_
  refine lv_iload_n hx hb dX10_worstAt_1 rfl (lv_at hl 1 rfl) ?_
  refine rd_V (As := [.int cell]) (rest := []) (C := RX10) (ci := 10) ⟨hx, hb, hml, hown, hts⟩ (c_X10_stiffOf l E A am vm cell hH (by omega) (by omega)) (cwV 1 hts gX10_worstAt_X10_stiffOf rfl rfl rfl (by decide +kernel) ⟨Nat.le_of_ble_eq_true rfl, Nat.le_of_ble_eq_true rfl⟩) (hE.kept hS.2.1) (hP.sub (ws' := mdL E am vm) [0, 1, 2, 3, 4, 5, 6, 7, 8, 9, 10, 11, 12, 13, 14, 15, 16, 17, 18, 19, 20, 21, 22, 23, 24, 25, 26, 27, 28, 29, 30, 31, 32, 33, 34, 35, 36, 37, 38, 39, 40, 41, 42, 43, 44, 45] rfl) rfl rfl rfl rfl hl.1 rfl (Nat.le_of_ble_eq_true rfl) dX10_worstAt_2 ⟨Nat.zero_le _, Nat.zero_le _⟩ (fun r2 h2 => ?_)
  refine lv_if_ne (tgt := 13) hx hb dX10_worstAt_5 (by decide) (fun c5 => ?_) (fun c5 => ?_)
  · have c5_ := i_ne c5
    refine lv_iconst (v := 0) hx hb dX10_worstAt_13 (by decide) ?_
    refine lv_istore_n (lv' := [(3, .int 0), (0, .ref (am 0)), (1, .int cell), (2, .int step)]) hx hb dX10_worstAt_14 rfl hl (by decide) rfl (fun ls hl => ?_)
    have K15 : ∀ (μ : Nat) (i : Int32) (va : Vf) (H : Heap) (locs : List Loc) (ls : Array Slot), (64 - i.toInt).toNat < μ → va_P (eD E) vwCl (mdL E am va) H → va_D A (mdL E am va) → va_S A s.heap H locs → (0 ≤ i.toInt ∧ i.toInt ≤ 64) → (MdI va) → (∀ t, t ≠ 24 → t ≠ 74 → va t = vm t) → (fr [24, 74] vm va) → lv_has ls 6 [(0, .ref (am 0)), (1, .int cell), (2, .int step), (3, .int i)] → W p l e (headSpec wsX10_worstAt rm_X10_worstAt).room s m ([.ref (am 0), .int cell, .int step] : List Value).toArray below meth c H locs 0 0 Q (F0 m 15 ls []) := by
      intro μ
      induction μ with
      | zero =>
        intro i va H locs ls hμ15
        exact absurd hμ15 (Nat.not_lt_zero _)
      | succ μ ih15 =>
        intro i va H locs ls hμ15 hP hD hS h15_0 h15_1 h15_2 h15_3 hl
        have hFz := h15_3
        refine lv_iload_n hx hb dX10_worstAt_15 rfl (lv_at hl 3 rfl) ?_
        refine lv_bipush (v := 64) hx hb dX10_worstAt_16 (by decide) ?_
        refine lv_icmp_ge (tgt := 34) hx hb dX10_worstAt_18 (by decide) (fun c18 => ?_) (fun c18 => ?_)
        · have c18_ := i_le c18
          refine lv_iconst (v := 0) hx hb dX10_worstAt_34 (by decide) ?_
          refine lv_istore_n (lv' := [(3, .int 0), (0, .ref (am 0)), (1, .int cell), (2, .int step)]) hx hb dX10_worstAt_35 rfl hl (by decide) rfl (fun ls hl => ?_)
          refine lv_iconst (v := 0) hx hb dX10_worstAt_36 (by decide) ?_
          refine lv_istore (lv' := [(4, .int 0), (3, .int 0), (0, .ref (am 0)), (1, .int cell), (2, .int step)]) hx hb dX10_worstAt_37 hl (by decide) rfl (fun ls hl => ?_)
          have K39 : ∀ (μ : Nat) (mo : Int32) (j : Int32) (vk : Vf) (H : Heap) (locs : List Loc) (ls : Array Slot), (729 - j.toInt).toNat < μ → va_P (eD E) vwCl (mdL E am vk) H → va_D A (mdL E am vk) → va_S A s.heap H locs → (0 ≤ j.toInt ∧ j.toInt ≤ 729) → (MdI vk) → (∀ t, t ≠ 24 → t ≠ 74 → vk t = vm t) → (fr [24, 74] vm vk) → lv_has ls 6 [(0, .ref (am 0)), (1, .int cell), (2, .int step), (3, .int mo), (4, .int j)] → W p l e (headSpec wsX10_worstAt rm_X10_worstAt).room s m ([.ref (am 0), .int cell, .int step] : List Value).toArray below meth c H locs 0 0 Q (F0 m 39 ls []) := by
            intro μ
            induction μ with
            | zero =>
              intro mo j vk H locs ls hμ39
              exact absurd hμ39 (Nat.not_lt_zero _)
            | succ μ ih39 =>
              intro mo j vk H locs ls hμ39 hP hD hS h39_0 h39_1 h39_2 h39_3 hl
              have hMI := h39_1
              have hsm := h39_2
              have hfk : fitM vk := by unfold fitM; rw [hsm 73 (by decide) (by decide), hsm 72 (by decide) (by decide)]; exact hfk
              have hfk1 := hfk.1
              have hmo : 1 ≤ (vk 4 0).toInt := by rw [hsm 4 (by decide) (by decide)]; exact hmo
              have hw : 1 ≤ (vk 0 0).toInt := by rw [hsm 0 (by decide) (by decide)]; exact hw
              try clear hmZ
              try clear hM2
              try clear hA4
              have hH := hMI.1
              obtain ⟨hmG, hmC, hmZ, hmM, hmA, hmS, hmT⟩ := id hH
              obtain ⟨hG1, hG2, hG3⟩ := id hmG
              obtain ⟨hC1, hC2, hC3, hC4, hC5, hC6⟩ := id hmC
              obtain ⟨hM1, hM2, hM3, hM4⟩ := id hmM
              obtain ⟨hA1, hA2, hA3, hA4, hA5⟩ := id hmA
              obtain ⟨hS1, hS2, hS3, hS4, hS5, hS6⟩ := id hmS
              obtain ⟨hT1, hT2, hT3, hT4, hT5⟩ := id hmT
              have hFz := h39_3
              refine lv_iload hx hb dX10_worstAt_39 (lv_at hl 4 rfl) ?_
              refine lv_aload_n hx hb dX10_worstAt_41 rfl (lv_at hl 0 rfl) ?_
              refine va_get (D := eD E) (ci := 10) (v := .int (vk 73 0)) (C := RX10) (T := TX10) (N := 79) hx hb hts in_X10 hown hK hP 0 rfl rfl 73 (by decide) lk0 (fun _ h9 => h9) rfl dX10_worstAt_42 ?_
              refine lv_icmp_ge (tgt := 110) hx hb dX10_worstAt_45 (by decide) (fun c45 => ?_) (fun c45 => ?_)
              · have c45_ := i_le c45
                refine lv_iload_n hx hb dX10_worstAt_110 rfl (lv_at hl 3 rfl) ?_
                subst hQ
                exact W.iret (v := mo) hx hb hr (fun t ht hW => ⟨⟨mo, (vk), rfl, (show (MdI vk ∧ ∀ t, t ≠ 24 → t ≠ 74 → vk t = vm t) ∧ fr [24, 74] vm vk from ⟨⟨h39_1, h39_2⟩, hFz⟩), by rw [ht]; exact hP, hD⟩, hS.F ht⟩) hS.2.2 dX10_worstAt_111
              · have c45_ := i_nle c45
                refine lv_aload_n hx hb dX10_worstAt_48 rfl (lv_at hl 0 rfl) ?_
                refine lv_aload_n hx hb dX10_worstAt_49 rfl (lv_at hl 0 rfl) ?_
                refine va_get (D := eD E) (ci := 10) (v := .ref (am 72)) (C := RX10) (T := TX10) (N := 79) hx hb hts in_X10 hown hK hP 0 rfl rfl 72 (by decide) lk1 (fun _ h9 => h9) rfl dX10_worstAt_50 ?_
                refine lv_iload hx hb dX10_worstAt_53 (lv_at hl 4 rfl) ?_
                refine va_iald hx hb hK hP 41 0 rfl rfl (n := 729) (f := (vk 72)) (i_in (by omega) (by omega)) dX10_worstAt_55 ?_
                refine lv_topi (fun x55 e55 => ?_)
                have b55 := hfk.2 j.toNatClampNeg (by rw [i_nat (by omega)]; omega)
                rw [← e55] at b55
                refine mt_Vv (w1 := fun (u : Vf) => mdL E am u) (wf := fun (u : Vf) => mdL E am u) (wr := []) (As := [.int x55]) (rest := []) (C := RX10) (ci := 10) ⟨hx, hb, hml, hown, hts⟩ (c_X10_setShifts l E H.size am vk x55 hMI (by omega) (by omega)) (cwV 1 hts gX10_worstAt_X10_setShifts rfl rfl rfl (by decide +kernel) ⟨Nat.le_of_ble_eq_true rfl, Nat.le_of_ble_eq_true rfl⟩) hE hS hA hP hD [0, 1, 2, 3, 4, 5, 6, 7, 8, 9, 10, 11, 12, 13, 14, 15, 16, 17, 18, 19, 20, 21, 22, 23, 24, 25, 26, 27, 28, 29, 30, 31, 32, 33, 34, 35, 36, 37, 38, 39, 40, 41, 42, 43, 44, 45] [] rfl rfl (by decide) (by decide) (by decide) [0, 1, 2, 3, 4, 5, 6, 7, 8, 9, 10, 11, 12, 13, 14, 15, 16, 17, 18, 19, 20, 21, 22, 23, 24, 25, 26, 27, 28, 29, 30, 31, 32, 33, 34, 35, 36, 37, 38, 39, 40, 41, 42, 43, 44, 45] (by decide) (fun u => rfl) rfl rfl rfl rfl hl.1 rfl (Nat.le_of_ble_eq_true rfl) dX10_worstAt_56 ⟨Nat.zero_le _, Nat.zero_le _⟩ (fun u56 H locs h56 hP hD hS => ?_)
                generalize u56 = o56_vm at hP hD h56
                try dsimp only at h56
                have hFn56 := h56.2
                replace h56 := h56.1
                replace hP : va_P (eD E) vwCl (mdL E am o56_vm) H := hP
                replace hD : va_D A (mdL E am o56_vm) := hD
                have hFz : fr [24, 74] vm o56_vm := by first | exact hFz | exact hFz.tr hFn56 (by decide) | (rw [← hv56]; repeat' (first | exact hFz | refine fr.up ?_ (by decide) | refine fr.up3 ?_ (by decide)))
                have hMI := h56.1
                have hsm : ∀ t, t ≠ 24 → t ≠ 74 → o56_vm t = vm t := fun t h0 h1 => (h56.2 t h0).trans (hsm t h0 h1)
                have hw56 : (o56_vm 0 0).toInt = (vk 0 0).toInt := by rw [h56.2 0 (by decide)]
                try clear hmZ
                try clear hM2
                try clear hA4
                have hH := hMI.1
                obtain ⟨hmG, hmC, hmZ, hmM, hmA, hmS, hmT⟩ := id hH
                obtain ⟨hG1, hG2, hG3⟩ := id hmG
                obtain ⟨hC1, hC2, hC3, hC4, hC5, hC6⟩ := id hmC
                obtain ⟨hM1, hM2, hM3, hM4⟩ := id hmM
                obtain ⟨hA1, hA2, hA3, hA4, hA5⟩ := id hmA
                obtain ⟨hS1, hS2, hS3, hS4, hS5, hS6⟩ := id hmS
                obtain ⟨hT1, hT2, hT3, hT4, hT5⟩ := id hmT
                refine lv_aload_n hx hb dX10_worstAt_59 rfl (lv_at hl 0 rfl) ?_
                refine lv_iload_n hx hb dX10_worstAt_60 rfl (lv_at hl 1 rfl) ?_
                refine lv_iload_n hx hb dX10_worstAt_61 rfl (lv_at hl 2 rfl) ?_
                refine rd_V (As := [.int cell, .int step]) (rest := []) (C := RX10) (ci := 10) ⟨hx, hb, hml, hown, hts⟩ (c_X10_pullAt l E A am o56_vm cell step hH (by omega) (by omega) (by omega)) (cwV 2 hts gX10_worstAt_X10_pullAt rfl rfl rfl (by decide +kernel) ⟨Nat.le_of_ble_eq_true rfl, Nat.le_of_ble_eq_true rfl⟩) (hE.kept hS.2.1) (hP.sub (ws' := mdL E am o56_vm) [0, 1, 2, 3, 4, 5, 6, 7, 8, 9, 10, 11, 12, 13, 14, 15, 16, 17, 18, 19, 20, 21, 22, 23, 24, 25, 26, 27, 28, 29, 30, 31, 32, 33, 34, 35, 36, 37, 38, 39, 40, 41, 42, 43, 44, 45] rfl) rfl rfl rfl rfl hl.1 rfl (Nat.le_of_ble_eq_true rfl) dX10_worstAt_62 ⟨Nat.zero_le _, Nat.zero_le _⟩ (fun r62 h62 => ?_)
                refine lv_bipush (v := 30) hx hb dX10_worstAt_65 (by decide) ?_
                refine lv_iadd hx hb dX10_worstAt_67 ?_
                refine lv_topi (fun x67 e67 => ?_)
                have t67 := i_add e67 (by omega)
                refine lv_istore (lv' := [(5, .int x67), (0, .ref (am 0)), (1, .int cell), (2, .int step), (3, .int mo), (4, .int j)]) hx hb dX10_worstAt_68 hl (by decide) rfl (fun ls hl => ?_)
                refine lv_aload_n hx hb dX10_worstAt_70 rfl (lv_at hl 1 rfl) ?_
                refine va_get (D := eD E) (ci := 10) (v := .ref (am 74)) (C := RX10) (T := TX10) (N := 79) hx hb hts in_X10 hown hK hP 0 rfl rfl 74 (by decide) lk2 (fun _ h9 => h9) rfl dX10_worstAt_71 ?_
                refine lv_iload hx hb dX10_worstAt_74 (lv_at hl 0 rfl) ?_
                refine lv_dup2_11 hx hb dX10_worstAt_76 rfl rfl ?_
                refine va_iald hx hb hK hP 42 0 rfl rfl (n := 64) (f := (o56_vm 74)) (i_in (by omega) (by omega)) dX10_worstAt_77 ?_
                refine lv_topi (fun x77 e77 => ?_)
                refine lv_iconst (v := 1) hx hb dX10_worstAt_78 (by decide) ?_
                refine lv_iadd hx hb dX10_worstAt_79 ?_
                refine lv_topi (fun x79 e79 => ?_)
                refine va_iast hx hb hK hP hD hS 42 0 rfl rfl (n := 64) (f := (o56_vm 74)) (i_in (by omega) (by omega)) dX10_worstAt_80 (fun H locs hP hD hS => ?_)
                replace hP : va_P (eD E) vwCl (mdL E am (up2 o56_vm 74 x67.toNatClampNeg x79)) H := hP
                replace hD : va_D A (mdL E am (up2 o56_vm 74 x67.toNatClampNeg x79)) := hD
                generalize hv80 : up2 o56_vm 74 x67.toNatClampNeg x79 = vm_80 at hP hD
                have hFz : fr [24, 74] vm vm_80 := by first | exact hFz | (rw [← hv80]; exact hFz.up (by decide))
                have hMI : MdI vm_80 := by rw [← hv80]; exact hMI
                have hsm : ∀ t, t ≠ 24 → t ≠ 74 → vm_80 t = vm t := fun t h0 h1 => by rw [← hv80]; exact (up2_ne h1).trans (hsm t h0 h1)
                refine lv_aload_n hx hb dX10_worstAt_81 rfl (lv_at hl 1 rfl) ?_
                refine va_get (D := eD E) (ci := 10) (v := .ref (am 74)) (C := RX10) (T := TX10) (N := 79) hx hb hts in_X10 hown hK hP 0 rfl rfl 74 (by decide) lk2 (fun _ h9 => h9) rfl dX10_worstAt_82 ?_
                refine lv_iload hx hb dX10_worstAt_85 (lv_at hl 0 rfl) ?_
                refine va_iald hx hb hK hP 42 0 rfl rfl (n := 64) (f := (vm_80 74)) (i_in (by omega) (by omega)) dX10_worstAt_87 ?_
                refine lv_topi (fun x87 e87 => ?_)
                refine lv_iload_n hx hb dX10_worstAt_88 rfl (lv_at hl 4 rfl) ?_
                have K103 : ∀  (d1 : Int32) (H : Heap) (locs : List Loc) (ls : Array Slot), va_P (eD E) vwCl (mdL E am vm_80) H → va_D A (mdL E am vm_80) → va_S A s.heap H locs → lv_has ls 6 [(0, .ref (am 0)), (1, .int cell), (2, .int step), (3, .int mo), (4, .int j), (5, .int x67)] → W p l e (headSpec wsX10_worstAt rm_X10_worstAt).room s m ([.ref (am 0), .int cell, .int step] : List Value).toArray below meth c H locs 0 0 Q (F0 m 103 ls [.int d1]) := by
                  intro d1 H locs ls hP hD hS hl
                  refine lv_istore_n (lv' := [(3, .int d1), (0, .ref (am 0)), (1, .int cell), (2, .int step), (4, .int j), (5, .int x67)]) hx hb dX10_worstAt_103 rfl hl (by decide) rfl (fun ls hl => ?_)
                  obtain ⟨x104, e104⟩ : ∃ y : Int32, y = j + 1 := ⟨_, rfl⟩
                  refine lv_iinc (v := x104) (lv' := [(4, .int x104), (3, .int d1), (0, .ref (am 0)), (1, .int cell), (2, .int step), (5, .int x67)]) hx hb dX10_worstAt_104 hl (k := 4) rfl (by rw [e104]; rfl) (by decide) rfl (fun ls hl => ?_)
                  have t104 := i_add e104 (by omega)
                  refine lv_goto (tgt := 39) hx hb dX10_worstAt_107 (by decide) ?_
                  exact ih39 d1 x104 vm_80 _ _ ls (by omega) hP hD hS (by omega) hMI hsm hFz (lv_sub hl [2, 3, 4, 1, 0] rfl)
                refine lv_icmp_le (tgt := 102) hx hb dX10_worstAt_89 (by decide) (fun c89 => ?_) (fun c89 => ?_)
                · have c89_ := i_le c89
                  refine lv_iload_n hx hb dX10_worstAt_102 rfl (lv_at hl 4 rfl) ?_
                  exact K103 mo _ _ ls hP hD hS (lv_sub hl [1, 2, 3, 4, 5, 0] rfl)
                · have c89_ := i_nle c89
                  refine lv_aload_n hx hb dX10_worstAt_92 rfl (lv_at hl 1 rfl) ?_
                  refine va_get (D := eD E) (ci := 10) (v := .ref (am 74)) (C := RX10) (T := TX10) (N := 79) hx hb hts in_X10 hown hK hP 0 rfl rfl 74 (by decide) lk2 (fun _ h9 => h9) rfl dX10_worstAt_93 ?_
                  refine lv_iload hx hb dX10_worstAt_96 (lv_at hl 0 rfl) ?_
                  refine va_iald hx hb hK hP 42 0 rfl rfl (n := 64) (f := (vm_80 74)) (i_in (by omega) (by omega)) dX10_worstAt_98 ?_
                  refine lv_topi (fun x98 e98 => ?_)
                  refine lv_goto (tgt := 103) hx hb dX10_worstAt_99 (by decide) ?_
                  exact K103 x98 _ _ ls hP hD hS (lv_sub hl [1, 2, 3, 4, 5, 0] rfl)
          exact K39 _ 0 0 va _ _ ls (Nat.lt_succ_self _) hP hD hS (by omega) h15_1 h15_2 hFz (lv_sub hl [2, 3, 4, 1, 0] rfl)
        · have c18_ := i_nle c18
          refine lv_aload_n hx hb dX10_worstAt_21 rfl (lv_at hl 0 rfl) ?_
          refine va_get (D := eD E) (ci := 10) (v := .ref (am 74)) (C := RX10) (T := TX10) (N := 79) hx hb hts in_X10 hown hK hP 0 rfl rfl 74 (by decide) lk2 (fun _ h9 => h9) rfl dX10_worstAt_22 ?_
          refine lv_iload_n hx hb dX10_worstAt_25 rfl (lv_at hl 3 rfl) ?_
          refine lv_iconst (v := 0) hx hb dX10_worstAt_26 (by decide) ?_
          refine va_iast hx hb hK hP hD hS 42 0 rfl rfl (n := 64) (f := (va 74)) (i_in (by omega) (by omega)) dX10_worstAt_27 (fun H locs hP hD hS => ?_)
          replace hP : va_P (eD E) vwCl (mdL E am (up2 va 74 i.toNatClampNeg 0)) H := hP
          replace hD : va_D A (mdL E am (up2 va 74 i.toNatClampNeg 0)) := hD
          generalize hv27 : up2 va 74 i.toNatClampNeg 0 = vm_27 at hP hD
          have hFz : fr [24, 74] vm vm_27 := by first | exact hFz | (rw [← hv27]; exact hFz.up (by decide))
          have hMI : MdI vm_27 := by rw [← hv27]; exact h15_1
          have hsm : ∀ t, t ≠ 24 → t ≠ 74 → vm_27 t = vm t := fun t h0 h1 => by rw [← hv27]; exact (up2_ne h1).trans (h15_2 t h0 h1)
          obtain ⟨x28, e28⟩ : ∃ y : Int32, y = i + 1 := ⟨_, rfl⟩
          refine lv_iinc (v := x28) (lv' := [(3, .int x28), (0, .ref (am 0)), (1, .int cell), (2, .int step)]) hx hb dX10_worstAt_28 hl (k := 3) rfl (by rw [e28]; rfl) (by decide) rfl (fun ls hl => ?_)
          have t28 := i_add e28 (by omega)
          refine lv_goto (tgt := 15) hx hb dX10_worstAt_31 (by decide) ?_
          exact ih15 x28 vm_27 _ _ ls (by omega) hP hD hS (by omega) hMI hsm hFz (lv_sub hl [1, 2, 3, 0] rfl)
    exact K15 _ 0 vm _ _ ls (Nat.lt_succ_self _) hP hD hS (by omega) hMI hsm hFz (lv_sub hl [1, 2, 3, 0] rfl)
  · have c5_ := i_eq c5
    refine lv_aload_n hx hb dX10_worstAt_8 rfl (lv_at hl 0 rfl) ?_
    refine va_get (D := eD E) (ci := 10) (v := .int (vm 73 0)) (C := RX10) (T := TX10) (N := 79) hx hb hts in_X10 hown hK hP 0 rfl rfl 73 (by decide) lk0 (fun _ h9 => h9) rfl dX10_worstAt_9 ?_
    subst hQ
    exact W.iret (v := (vm 73 0)) hx hb hr (fun t ht hW => ⟨⟨(vm 73 0), (vm), rfl, (show (MdI vm ∧ ∀ t, t ≠ 24 → t ≠ 74 → vm t = vm t) ∧ fr [24, 74] vm vm from ⟨⟨hMI, hsm⟩, hFz⟩), by rw [ht]; exact hP, hD⟩, hS.F ht⟩) hS.2.2 dX10_worstAt_12
def rm_X10_look : Room := { frames := 5, cells := 0, slots := 0, locals := 113 }
set_option maxHeartbeats 4000000 in
set_option maxRecDepth 100000 in
theorem c_X10_look (l : Launch) (E : Ev) (sz : Nat) (am : Nat → Nat) (vm : Vf) (what : Int32) (hMI : MdI vm) : Met l yX10_look wsX10_look rm_X10_look (MtP E sz [.ref (am 0), .int what] (mdL E am vm)) (va_Qi (fun (r : Int32) (u : Vf) => ((MdI u) ∧ fr [24, 71, 72, 73, 74] vm u) ∧ (∀ j, j < 3 → u 24 j = vm 24 j)) (MtB E (va_A (mdL E am vm) sz) (fun u => mdL E am u)) (va_A (mdL E am vm) sz)) 0 0 (va_A (mdL E am vm) sz) := by
  refine Met.ofW (cc := cX10_look) (maxL := 7) (ret := (some .int)) (by decide) rfl ?_
  intro p e s m args below meth c s₁ B hml hv
  obtain ⟨rfl, hsz, hE, hP, hD0⟩ := hv
  subst hsz
  have hD := hD0.self (sz := s.heap.size)
  generalize hAe : va_A (mdL E am vm) s.heap.size = A at hD hE ⊢
  have hA : ∀ q : Nat, s.heap.size ≤ q → A q := fun q h => by rw [← hAe]; exact Or.inr h
  have hS : va_S A s.heap s.heap [] := va_S.rf
  have hx := B.exec
  have hb := B.bytes
  have hr := B.returns
  have hts := atoms_spec (ws := wsX10_look) B.pre
  have hown : s.vm.findClass RX10 = some m.cls := findClass_of_methodNamed B.named
  have hlocks := B.notSynchronized
  have hK := hE.1
  have in_X10 : ∀ w ∈ u_ws RX10 TX10 79, w ∈ wsX10_look := fun w h => List.mem_cons_of_mem _ (List.mem_append_right _ h)
  have lk0 := hts (.constantLong RX10 440 2) (List.mem_of_getElem? (i := 1) rfl)
  have lk1 := hts (.fieldLink RX10 454 "TidedGroundModel" "fitMany" "I") (List.mem_of_getElem? (i := 3) rfl)
  have lk2 := hts (.constant RX10 175 (-1000000002)) (List.mem_of_getElem? (i := 2) rfl)
  have n_m1000000002 : ((-1000000002) : Int32).toInt = -1000000002 := by decide
  have n_m1 : ((-1) : Int32).toInt = -1 := by decide
  have n_0 : (0 : Int32).toInt = 0 := by decide
  have n_1 : (1 : Int32).toInt = 1 := by decide
  have n_12 : (12 : Int32).toInt = 12 := by decide
  have n_24 : (24 : Int32).toInt = 24 := by decide
  have hl := lv_entry ([.ref (am 0), .int what]) (n := 7) (Nat.le_of_ble_eq_true rfl)
  rw [lg_entry_eq]
  generalize (lg_sl ([.ref (am 0), .int what]) ++ List.replicate (7 - (lg_sl ([.ref (am 0), .int what])).length) Slot.unset).toArray = ls at hl ⊢
  have hl : lv_has ls 7 [(0, .ref (am 0)), (1, .int what)] := hl
  refine W_abs (fun Q hQ => ?_)
  have hH := hMI.1
  obtain ⟨hmG, hmC, hmZ, hmM, hmA, hmS, hmT⟩ := id hH
  obtain ⟨hG1, hG2, hG3⟩ := id hmG
  obtain ⟨hC1, hC2, hC3, hC4, hC5, hC6⟩ := id hmC
  obtain ⟨hM1, hM2, hM3, hM4⟩ := id hmM
  obtain ⟨hA1, hA2, hA3, hA4, hA5⟩ := id hmA
  obtain ⟨hS1, hS2, hS3, hS4, hS5, hS6⟩ := id hmS
  obtain ⟨hT1, hT2, hT3, hT4, hT5⟩ := id hmT
  have hFz : fr [24, 71, 72, 73, 74] vm vm := fr.rf
  refine lv_iload_n hx hb dX10_look_0 rfl (lv_at hl 1 rfl) ?_
  refine lv_i2l hx hb dX10_look_1 rfl ?_
  refine lv_lconst (v := 0) hx hb dX10_look_2 (by decide) ?_
  refine lv_ldc2 hx hb hown lk0 dX10_look_3 ?_
  have lt6_0 : (what.toInt64).toInt = what.toInt := Int32.toInt_toInt64 _
  have lt6_1 : (0 : Int64).toInt = 0 := by decide
  have lt6_2 : (2 : Int64).toInt = 2 := by decide
  refine rd_S (As := [.long what.toInt64, .long 0, .long 2]) (rest := []) ⟨hx, hb, hml, hown, hts⟩ (c_X10_in l E A what.toInt64 0 2) (va_cwS 3 hts gX10_look_X10_in rfl rfl rfl (by decide +kernel) ⟨Nat.le_of_ble_eq_true rfl, Nat.le_of_ble_eq_true rfl⟩) (hE.kept hS.2.1) (hP.sub (ws' := []) [] rfl) rfl hl.1 rfl (Nat.le_of_ble_eq_true rfl) dX10_look_6 ⟨Nat.zero_le _, Nat.zero_le _⟩ (fun r6 h6 => ?_)
  refine lv_if_ne (tgt := 15) hx hb dX10_look_9 (by decide) (fun c9 => ?_) (fun c9 => ?_)
  · have c9_ := i_ne c9
    replace h6 := or_y h6 c9_
    clear c9_
    refine lv_aload_n hx hb dX10_look_15 rfl (lv_at hl 0 rfl) ?_
    refine mt_Vv (w1 := fun (u : Vf) => mdL E am u) (wf := fun (u : Vf) => mdL E am u) (wr := []) (As := []) (rest := []) (C := RX10) (ci := 10) ⟨hx, hb, hml, hown, hts⟩ (c_X10_findFits l E s.heap.size am vm hMI) (cwV 0 hts gX10_look_X10_findFits rfl rfl rfl (by decide +kernel) ⟨Nat.le_of_ble_eq_true rfl, Nat.le_of_ble_eq_true rfl⟩) hE hS hA hP hD [0, 1, 2, 3, 4, 5, 6, 7, 8, 9, 10, 11, 12, 13, 14, 15, 16, 17, 18, 19, 20, 21, 22, 23, 24, 25, 26, 27, 28, 29, 30, 31, 32, 33, 34, 35, 36, 37, 38, 39, 40, 41, 42, 43, 44, 45] [] rfl rfl (by decide) (by decide) (by decide) [0, 1, 2, 3, 4, 5, 6, 7, 8, 9, 10, 11, 12, 13, 14, 15, 16, 17, 18, 19, 20, 21, 22, 23, 24, 25, 26, 27, 28, 29, 30, 31, 32, 33, 34, 35, 36, 37, 38, 39, 40, 41, 42, 43, 44, 45] (by decide) (fun u => rfl) rfl rfl rfl rfl hl.1 rfl (Nat.le_of_ble_eq_true rfl) dX10_look_16 ⟨Nat.zero_le _, Nat.zero_le _⟩ (fun u16 H locs h16 hP hD hS => ?_)
    generalize u16 = o16_vm at hP hD h16
    try dsimp only at h16
    have hf16 := h16.2
    replace h16 := h16.1
    have hFn16 := h16.2
    replace h16 := h16.1
    replace hP : va_P (eD E) vwCl (mdL E am o16_vm) H := hP
    replace hD : va_D A (mdL E am o16_vm) := hD
    have hFz : fr [24, 71, 72, 73, 74] vm o16_vm := by first | exact hFz | exact hFz.tr hFn16 (by decide) | (rw [← hv16]; repeat' (first | exact hFz | refine fr.up ?_ (by decide) | refine fr.up3 ?_ (by decide)))
    have hMI := h16.1
    have hy16 := h16.2.1
    have hm16 := h16.2.2.1
    have hq16 : (o16_vm 4 0).toInt = (vm 4 0).toInt := by rw [h16.2.2.2 4 (by decide) (by decide) (by decide) (by decide)]
    try clear hmZ
    try clear hM2
    try clear hA4
    have hH := hMI.1
    obtain ⟨hmG, hmC, hmZ, hmM, hmA, hmS, hmT⟩ := id hH
    obtain ⟨hG1, hG2, hG3⟩ := id hmG
    obtain ⟨hC1, hC2, hC3, hC4, hC5, hC6⟩ := id hmC
    obtain ⟨hM1, hM2, hM3, hM4⟩ := id hmM
    obtain ⟨hA1, hA2, hA3, hA4, hA5⟩ := id hmA
    obtain ⟨hS1, hS2, hS3, hS4, hS5, hS6⟩ := id hmS
    obtain ⟨hT1, hT2, hT3, hT4, hT5⟩ := id hmT
    refine lv_iconst (v := (-1)) hx hb dX10_look_19 (by decide) ?_
    refine lv_istore_n (lv' := [(2, .int (-1)), (0, .ref (am 0)), (1, .int what)]) hx hb dX10_look_20 rfl hl (by decide) rfl (fun ls hl => ?_)
    refine lv_aload_n hx hb dX10_look_21 rfl (lv_at hl 1 rfl) ?_
    refine va_get (D := eD E) (ci := 10) (v := .int (o16_vm 73 0)) (C := RX10) (T := TX10) (N := 79) hx hb hts in_X10 hown hK hP 0 rfl rfl 73 (by decide) lk1 (fun _ h9 => h9) rfl dX10_look_22 ?_
    refine lv_istore_n (lv' := [(3, .int (o16_vm 73 0)), (2, .int (-1)), (0, .ref (am 0)), (1, .int what)]) hx hb dX10_look_25 rfl hl (by decide) rfl (fun ls hl => ?_)
    refine lv_aload_n hx hb dX10_look_26 rfl (lv_at hl 2 rfl) ?_
    refine mt_Vv (w1 := fun (u : Vf) => mdL E am u) (wf := fun (u : Vf) => mdL E am u) (wr := []) (As := []) (rest := []) (C := RX10) (ci := 10) ⟨hx, hb, hml, hown, hts⟩ (c_X10_saveShifts l E H.size am o16_vm hMI) (cwV 0 hts gX10_look_X10_saveShifts rfl rfl rfl (by decide +kernel) ⟨Nat.le_of_ble_eq_true rfl, Nat.le_of_ble_eq_true rfl⟩) hE hS hA hP hD [0, 1, 2, 3, 4, 5, 6, 7, 8, 9, 10, 11, 12, 13, 14, 15, 16, 17, 18, 19, 20, 21, 22, 23, 24, 25, 26, 27, 28, 29, 30, 31, 32, 33, 34, 35, 36, 37, 38, 39, 40, 41, 42, 43, 44, 45] [] rfl rfl (by decide) (by decide) (by decide) [0, 1, 2, 3, 4, 5, 6, 7, 8, 9, 10, 11, 12, 13, 14, 15, 16, 17, 18, 19, 20, 21, 22, 23, 24, 25, 26, 27, 28, 29, 30, 31, 32, 33, 34, 35, 36, 37, 38, 39, 40, 41, 42, 43, 44, 45] (by decide) (fun u => rfl) rfl rfl rfl rfl hl.1 rfl (Nat.le_of_ble_eq_true rfl) dX10_look_27 ⟨Nat.zero_le _, Nat.zero_le _⟩ (fun u27 H locs h27 hP hD hS => ?_)
    generalize u27 = o27_vm at hP hD h27
    try dsimp only at h27
    have hf27 := h27.2
    replace h27 := h27.1
    have hFn27 := h27.2
    replace h27 := h27.1
    replace hP : va_P (eD E) vwCl (mdL E am o27_vm) H := hP
    replace hD : va_D A (mdL E am o27_vm) := hD
    have hFz : fr [24, 71, 72, 73, 74] vm o27_vm := by first | exact hFz | exact hFz.tr hFn27 (by decide) | (rw [← hv27]; repeat' (first | exact hFz | refine fr.up ?_ (by decide) | refine fr.up3 ?_ (by decide)))
    have hMI := h27.1
    have hwas := h27.2.1
    have hy27 : fitM o27_vm := by unfold fitM; rw [h27.2.2 73 (by decide), h27.2.2 72 (by decide)]; exact hy16
    have hm27 : (o27_vm 4 0).toInt ≠ 0 ∨ (o27_vm 73 0).toInt ≤ 1 := by rw [h27.2.2 73 (by decide), h27.2.2 4 (by decide)]; omega
    try clear hmZ
    try clear hM2
    try clear hA4
    have hH := hMI.1
    obtain ⟨hmG, hmC, hmZ, hmM, hmA, hmS, hmT⟩ := id hH
    obtain ⟨hG1, hG2, hG3⟩ := id hmG
    obtain ⟨hC1, hC2, hC3, hC4, hC5, hC6⟩ := id hmC
    obtain ⟨hM1, hM2, hM3, hM4⟩ := id hmM
    obtain ⟨hA1, hA2, hA3, hA4, hA5⟩ := id hmA
    obtain ⟨hS1, hS2, hS3, hS4, hS5, hS6⟩ := id hmS
    obtain ⟨hT1, hT2, hT3, hT4, hT5⟩ := id hmT
    refine lv_iconst (v := 0) hx hb dX10_look_30 (by decide) ?_
    refine lv_istore (lv' := [(4, .int 0), (3, .int (o16_vm 73 0)), (2, .int (-1)), (0, .ref (am 0)), (1, .int what)]) hx hb dX10_look_31 hl (by decide) rfl (fun ls hl => ?_)
    have K33 : ∀ (μ : Nat) (best : Int32) (least : Int32) (st : Int32) (va : Vf) (H : Heap) (locs : List Loc) (ls : Array Slot), (12 - st.toInt).toNat < μ → va_P (eD E) vwCl (mdL E am va) H → va_D A (mdL E am va) → va_S A s.heap H locs → (0 ≤ st.toInt ∧ st.toInt ≤ 12) → (MdI va) → (∀ t, t ≠ 24 → t ≠ 74 → va t = o27_vm t) → (best.toInt = -1 ∨ ((0 ≤ best.toInt ∧ best.toInt ≤ 287) ∧ 1 ≤ (o27_vm 0 0).toInt)) → (fr [24, 71, 72, 73, 74] vm va) → lv_has ls 7 [(0, .ref (am 0)), (1, .int what), (2, .int best), (3, .int least), (4, .int st)] → W p l e (headSpec wsX10_look rm_X10_look).room s m ([.ref (am 0), .int what] : List Value).toArray below meth c H locs 0 0 Q (F0 m 33 ls []) := by
      intro μ
      induction μ with
      | zero =>
        intro best least st va H locs ls hμ33
        exact absurd hμ33 (Nat.not_lt_zero _)
      | succ μ ih33 =>
        intro best least st va H locs ls hμ33 hP hD hS h33_0 h33_1 h33_2 h33_3 h33_4 hl
        have hMI := h33_1
        have hsm := h33_2
        have hfk : fitM va := by unfold fitM; rw [hsm 73 (by decide) (by decide), hsm 72 (by decide) (by decide)]; exact hy27
        have hfk1 := hfk.1
        have hqf : (va 73 0).toInt = (o27_vm 73 0).toInt := by rw [hsm 73 (by decide) (by decide)]
        have hqm : (va 4 0).toInt = (o27_vm 4 0).toInt := by rw [hsm 4 (by decide) (by decide)]
        have hqw : (va 0 0).toInt = (o27_vm 0 0).toInt := by rw [hsm 0 (by decide) (by decide)]
        have hqd : (va 1 0).toInt = (o27_vm 1 0).toInt := by rw [hsm 1 (by decide) (by decide)]
        try clear hmZ
        try clear hM2
        try clear hA4
        have hH := hMI.1
        obtain ⟨hmG, hmC, hmZ, hmM, hmA, hmS, hmT⟩ := id hH
        obtain ⟨hG1, hG2, hG3⟩ := id hmG
        obtain ⟨hC1, hC2, hC3, hC4, hC5, hC6⟩ := id hmC
        obtain ⟨hM1, hM2, hM3, hM4⟩ := id hmM
        obtain ⟨hA1, hA2, hA3, hA4, hA5⟩ := id hmA
        obtain ⟨hS1, hS2, hS3, hS4, hS5, hS6⟩ := id hmS
        obtain ⟨hT1, hT2, hT3, hT4, hT5⟩ := id hmT
        have hwas : bnd (va 71) 3 0 999 := by rw [hsm 71 (by decide) (by decide)]; exact hwas
        have hFz := h33_4
        refine lv_iload hx hb dX10_look_33 (lv_at hl 4 rfl) ?_
        refine lv_bipush (v := 12) hx hb dX10_look_35 (by decide) ?_
        refine lv_icmp_ge (tgt := 114) hx hb dX10_look_37 (by decide) (fun c37 => ?_) (fun c37 => ?_)
        · have c37_ := i_le c37
          refine lv_aload_n hx hb dX10_look_114 rfl (lv_at hl 0 rfl) ?_
          refine mt_Vv (w1 := fun (u : Vf) => mdL E am u) (wf := fun (u : Vf) => mdL E am u) (wr := []) (As := []) (rest := []) (C := RX10) (ci := 10) ⟨hx, hb, hml, hown, hts⟩ (c_X10_putBack l E H.size am va hMI hwas) (cwV 0 hts gX10_look_X10_putBack rfl rfl rfl (by decide +kernel) ⟨Nat.le_of_ble_eq_true rfl, Nat.le_of_ble_eq_true rfl⟩) hE hS hA hP hD [0, 1, 2, 3, 4, 5, 6, 7, 8, 9, 10, 11, 12, 13, 14, 15, 16, 17, 18, 19, 20, 21, 22, 23, 24, 25, 26, 27, 28, 29, 30, 31, 32, 33, 34, 35, 36, 37, 38, 39, 40, 41, 42, 43, 44, 45] [] rfl rfl (by decide) (by decide) (by decide) [0, 1, 2, 3, 4, 5, 6, 7, 8, 9, 10, 11, 12, 13, 14, 15, 16, 17, 18, 19, 20, 21, 22, 23, 24, 25, 26, 27, 28, 29, 30, 31, 32, 33, 34, 35, 36, 37, 38, 39, 40, 41, 42, 43, 44, 45] (by decide) (fun u => rfl) rfl rfl rfl rfl hl.1 rfl (Nat.le_of_ble_eq_true rfl) dX10_look_115 ⟨Nat.zero_le _, Nat.zero_le _⟩ (fun u115 H locs h115 hP hD hS => ?_)
          generalize u115 = o115_vm at hP hD h115
          try dsimp only at h115
          have hf115 := h115.2
          replace h115 := h115.1
          have hFn115 := h115.2
          replace h115 := h115.1
          replace hP : va_P (eD E) vwCl (mdL E am o115_vm) H := hP
          replace hD : va_D A (mdL E am o115_vm) := hD
          have hFz : fr [24, 71, 72, 73, 74] vm o115_vm := by first | exact hFz | exact hFz.tr hFn115 (by decide) | (rw [← hv115]; repeat' (first | exact hFz | refine fr.up ?_ (by decide) | refine fr.up3 ?_ (by decide)))
          have hMI := h115.1
          have hq115 : (o115_vm 0 0).toInt = (va 0 0).toInt := by rw [h115.2 0 (by decide)]
          try clear hmZ
          try clear hM2
          try clear hA4
          have hH := hMI.1
          obtain ⟨hmG, hmC, hmZ, hmM, hmA, hmS, hmT⟩ := id hH
          obtain ⟨hG1, hG2, hG3⟩ := id hmG
          obtain ⟨hC1, hC2, hC3, hC4, hC5, hC6⟩ := id hmC
          obtain ⟨hM1, hM2, hM3, hM4⟩ := id hmM
          obtain ⟨hA1, hA2, hA3, hA4, hA5⟩ := id hmA
          obtain ⟨hS1, hS2, hS3, hS4, hS5, hS6⟩ := id hmS
          obtain ⟨hT1, hT2, hT3, hT4, hT5⟩ := id hmT
          refine lv_iload_n hx hb dX10_look_118 rfl (lv_at hl 2 rfl) ?_
          refine lv_if_ge (tgt := 126) hx hb dX10_look_119 (by decide) (fun c119 => ?_) (fun c119 => ?_)
          · have c119_ := i_le c119
            refine lv_iload_n hx hb dX10_look_126 rfl (lv_at hl 1 rfl) ?_
            refine lv_if_ne (tgt := 141) hx hb dX10_look_127 (by decide) (fun c127 => ?_) (fun c127 => ?_)
            · have c127_ := i_ne c127
              refine lv_iload_n hx hb dX10_look_141 rfl (lv_at hl 1 rfl) ?_
              refine lv_iconst (v := 1) hx hb dX10_look_142 (by decide) ?_
              refine lv_icmp_ne (tgt := 153) hx hb dX10_look_143 (by decide) (fun c143 => ?_) (fun c143 => ?_)
              · have c143_ := i_ne c143
                refine lv_iload_n hx hb dX10_look_153 rfl (lv_at hl 3 rfl) ?_
                subst hQ
                exact W.iret (v := least) hx hb hr (fun t ht hW => ⟨⟨least, (o115_vm), rfl, (show ((MdI o115_vm) ∧ fr [24, 71, 72, 73, 74] vm o115_vm) ∧ (∀ j, j < 3 → o115_vm 24 j = vm 24 j) from ⟨⟨hMI, hFz⟩, (fun j hj => by rw [hf115 j hj, h33_2 71 (by decide) (by decide), hf27 j hj, hf16 j hj])⟩), by rw [ht]; exact hP, hD⟩, hS.F ht⟩) hS.2.2 dX10_look_154
              · have c143_ := i_eq c143
                have sv146_best : 0 ≤ best.toInt ∧ best.toInt ≤ 287 := by omega
                refine lv_iload_n hx hb dX10_look_146 rfl (lv_at hl 2 rfl) ?_
                refine lv_bipush (v := 24) hx hb dX10_look_147 (by decide) ?_
                refine lv_idiv hx hb dX10_look_149 (by decide) ?_
                refine lv_topi (fun x149 e149 => ?_)
                have t149 := i_div e149 (by omega) (by omega)
                rw [n_24] at t149
                refine lv_goto (tgt := 154) hx hb dX10_look_150 (by decide) ?_
                subst hQ
                exact W.iret (v := x149) hx hb hr (fun t ht hW => ⟨⟨x149, (o115_vm), rfl, (show ((MdI o115_vm) ∧ fr [24, 71, 72, 73, 74] vm o115_vm) ∧ (∀ j, j < 3 → o115_vm 24 j = vm 24 j) from ⟨⟨hMI, hFz⟩, (fun j hj => by rw [hf115 j hj, h33_2 71 (by decide) (by decide), hf27 j hj, hf16 j hj])⟩), by rw [ht]; exact hP, hD⟩, hS.F ht⟩) hS.2.2 dX10_look_154
            · have c127_ := i_eq c127
              have sv130_best : 0 ≤ best.toInt ∧ best.toInt ≤ 287 := by omega
              refine lv_aload_n hx hb dX10_look_130 rfl (lv_at hl 0 rfl) ?_
              refine lv_iload_n hx hb dX10_look_131 rfl (lv_at hl 2 rfl) ?_
              refine lv_bipush (v := 24) hx hb dX10_look_132 (by decide) ?_
              refine lv_irem hx hb dX10_look_134 (by decide) ?_
              refine lv_topi (fun x134 e134 => ?_)
              have t134 := i_rem e134 (by omega) (by omega)
              rw [n_24] at t134
              refine rd_V (As := [.int x134]) (rest := []) (C := RX10) (ci := 10) ⟨hx, hb, hml, hown, hts⟩ (c_X10_pairOf l E A am o115_vm x134 hH (by omega) (by omega)) (cwV 1 hts gX10_look_X10_pairOf rfl rfl rfl (by decide +kernel) ⟨Nat.le_of_ble_eq_true rfl, Nat.le_of_ble_eq_true rfl⟩) (hE.kept hS.2.1) (hP.sub (ws' := mdL E am o115_vm) [0, 1, 2, 3, 4, 5, 6, 7, 8, 9, 10, 11, 12, 13, 14, 15, 16, 17, 18, 19, 20, 21, 22, 23, 24, 25, 26, 27, 28, 29, 30, 31, 32, 33, 34, 35, 36, 37, 38, 39, 40, 41, 42, 43, 44, 45] rfl) rfl rfl rfl rfl hl.1 rfl (Nat.le_of_ble_eq_true rfl) dX10_look_135 ⟨Nat.zero_le _, Nat.zero_le _⟩ (fun r135 h135 => ?_)
              have hf135 := h135.2
              replace h135 := h135.1
              refine lv_goto (tgt := 154) hx hb dX10_look_138 (by decide) ?_
              subst hQ
              exact W.iret (v := r135) hx hb hr (fun t ht hW => ⟨⟨r135, (o115_vm), rfl, (show ((MdI o115_vm) ∧ fr [24, 71, 72, 73, 74] vm o115_vm) ∧ (∀ j, j < 3 → o115_vm 24 j = vm 24 j) from ⟨⟨hMI, hFz⟩, (fun j hj => by rw [hf115 j hj, h33_2 71 (by decide) (by decide), hf27 j hj, hf16 j hj])⟩), by rw [ht]; exact hP, hD⟩, hS.F ht⟩) hS.2.2 dX10_look_154
          · have c119_ := i_nle c119
            refine lv_iconst (v := (-1)) hx hb dX10_look_122 (by decide) ?_
            refine lv_goto (tgt := 154) hx hb dX10_look_123 (by decide) ?_
            subst hQ
            exact W.iret (v := (-1)) hx hb hr (fun t ht hW => ⟨⟨(-1), (o115_vm), rfl, (show ((MdI o115_vm) ∧ fr [24, 71, 72, 73, 74] vm o115_vm) ∧ (∀ j, j < 3 → o115_vm 24 j = vm 24 j) from ⟨⟨hMI, hFz⟩, (fun j hj => by rw [hf115 j hj, h33_2 71 (by decide) (by decide), hf27 j hj, hf16 j hj])⟩), by rw [ht]; exact hP, hD⟩, hS.F ht⟩) hS.2.2 dX10_look_154
        · have c37_ := i_nle c37
          refine lv_aload_n hx hb dX10_look_40 rfl (lv_at hl 0 rfl) ?_
          refine va_get (D := eD E) (ci := 10) (v := .int (va 73 0)) (C := RX10) (T := TX10) (N := 79) hx hb hts in_X10 hown hK hP 0 rfl rfl 73 (by decide) lk1 (fun _ h9 => h9) rfl dX10_look_41 ?_
          refine lv_iconst (v := 1) hx hb dX10_look_44 (by decide) ?_
          refine lv_icmp_le (tgt := 114) hx hb dX10_look_45 (by decide) (fun c45 => ?_) (fun c45 => ?_)
          · have c45_ := i_le c45
            refine lv_aload_n hx hb dX10_look_114 rfl (lv_at hl 0 rfl) ?_
            refine mt_Vv (w1 := fun (u : Vf) => mdL E am u) (wf := fun (u : Vf) => mdL E am u) (wr := []) (As := []) (rest := []) (C := RX10) (ci := 10) ⟨hx, hb, hml, hown, hts⟩ (c_X10_putBack l E H.size am va hMI hwas) (cwV 0 hts gX10_look_X10_putBack rfl rfl rfl (by decide +kernel) ⟨Nat.le_of_ble_eq_true rfl, Nat.le_of_ble_eq_true rfl⟩) hE hS hA hP hD [0, 1, 2, 3, 4, 5, 6, 7, 8, 9, 10, 11, 12, 13, 14, 15, 16, 17, 18, 19, 20, 21, 22, 23, 24, 25, 26, 27, 28, 29, 30, 31, 32, 33, 34, 35, 36, 37, 38, 39, 40, 41, 42, 43, 44, 45] [] rfl rfl (by decide) (by decide) (by decide) [0, 1, 2, 3, 4, 5, 6, 7, 8, 9, 10, 11, 12, 13, 14, 15, 16, 17, 18, 19, 20, 21, 22, 23, 24, 25, 26, 27, 28, 29, 30, 31, 32, 33, 34, 35, 36, 37, 38, 39, 40, 41, 42, 43, 44, 45] (by decide) (fun u => rfl) rfl rfl rfl rfl hl.1 rfl (Nat.le_of_ble_eq_true rfl) dX10_look_115 ⟨Nat.zero_le _, Nat.zero_le _⟩ (fun u115 H locs h115 hP hD hS => ?_)
            generalize u115 = o115_vm at hP hD h115
            try dsimp only at h115
            have hf115 := h115.2
            replace h115 := h115.1
            have hFn115 := h115.2
            replace h115 := h115.1
            replace hP : va_P (eD E) vwCl (mdL E am o115_vm) H := hP
            replace hD : va_D A (mdL E am o115_vm) := hD
            have hFz : fr [24, 71, 72, 73, 74] vm o115_vm := by first | exact hFz | exact hFz.tr hFn115 (by decide) | (rw [← hv115]; repeat' (first | exact hFz | refine fr.up ?_ (by decide) | refine fr.up3 ?_ (by decide)))
            have hMI := h115.1
            have hq115 : (o115_vm 0 0).toInt = (va 0 0).toInt := by rw [h115.2 0 (by decide)]
            try clear hmZ
            try clear hM2
            try clear hA4
            have hH := hMI.1
            obtain ⟨hmG, hmC, hmZ, hmM, hmA, hmS, hmT⟩ := id hH
            obtain ⟨hG1, hG2, hG3⟩ := id hmG
            obtain ⟨hC1, hC2, hC3, hC4, hC5, hC6⟩ := id hmC
            obtain ⟨hM1, hM2, hM3, hM4⟩ := id hmM
            obtain ⟨hA1, hA2, hA3, hA4, hA5⟩ := id hmA
            obtain ⟨hS1, hS2, hS3, hS4, hS5, hS6⟩ := id hmS
            obtain ⟨hT1, hT2, hT3, hT4, hT5⟩ := id hmT
            refine lv_iload_n hx hb dX10_look_118 rfl (lv_at hl 2 rfl) ?_
            refine lv_if_ge (tgt := 126) hx hb dX10_look_119 (by decide) (fun c119 => ?_) (fun c119 => ?_)
            · have c119_ := i_le c119
              refine lv_iload_n hx hb dX10_look_126 rfl (lv_at hl 1 rfl) ?_
              refine lv_if_ne (tgt := 141) hx hb dX10_look_127 (by decide) (fun c127 => ?_) (fun c127 => ?_)
              · have c127_ := i_ne c127
                refine lv_iload_n hx hb dX10_look_141 rfl (lv_at hl 1 rfl) ?_
                refine lv_iconst (v := 1) hx hb dX10_look_142 (by decide) ?_
                refine lv_icmp_ne (tgt := 153) hx hb dX10_look_143 (by decide) (fun c143 => ?_) (fun c143 => ?_)
                · have c143_ := i_ne c143
                  refine lv_iload_n hx hb dX10_look_153 rfl (lv_at hl 3 rfl) ?_
                  subst hQ
                  exact W.iret (v := least) hx hb hr (fun t ht hW => ⟨⟨least, (o115_vm), rfl, (show ((MdI o115_vm) ∧ fr [24, 71, 72, 73, 74] vm o115_vm) ∧ (∀ j, j < 3 → o115_vm 24 j = vm 24 j) from ⟨⟨hMI, hFz⟩, (fun j hj => by rw [hf115 j hj, h33_2 71 (by decide) (by decide), hf27 j hj, hf16 j hj])⟩), by rw [ht]; exact hP, hD⟩, hS.F ht⟩) hS.2.2 dX10_look_154
                · have c143_ := i_eq c143
                  have sv146_best : 0 ≤ best.toInt ∧ best.toInt ≤ 287 := by omega
                  refine lv_iload_n hx hb dX10_look_146 rfl (lv_at hl 2 rfl) ?_
                  refine lv_bipush (v := 24) hx hb dX10_look_147 (by decide) ?_
                  refine lv_idiv hx hb dX10_look_149 (by decide) ?_
                  refine lv_topi (fun x149 e149 => ?_)
                  have t149 := i_div e149 (by omega) (by omega)
                  rw [n_24] at t149
                  refine lv_goto (tgt := 154) hx hb dX10_look_150 (by decide) ?_
                  subst hQ
                  exact W.iret (v := x149) hx hb hr (fun t ht hW => ⟨⟨x149, (o115_vm), rfl, (show ((MdI o115_vm) ∧ fr [24, 71, 72, 73, 74] vm o115_vm) ∧ (∀ j, j < 3 → o115_vm 24 j = vm 24 j) from ⟨⟨hMI, hFz⟩, (fun j hj => by rw [hf115 j hj, h33_2 71 (by decide) (by decide), hf27 j hj, hf16 j hj])⟩), by rw [ht]; exact hP, hD⟩, hS.F ht⟩) hS.2.2 dX10_look_154
              · have c127_ := i_eq c127
                have sv130_best : 0 ≤ best.toInt ∧ best.toInt ≤ 287 := by omega
                refine lv_aload_n hx hb dX10_look_130 rfl (lv_at hl 0 rfl) ?_
                refine lv_iload_n hx hb dX10_look_131 rfl (lv_at hl 2 rfl) ?_
                refine lv_bipush (v := 24) hx hb dX10_look_132 (by decide) ?_
                refine lv_irem hx hb dX10_look_134 (by decide) ?_
                refine lv_topi (fun x134 e134 => ?_)
                have t134 := i_rem e134 (by omega) (by omega)
                rw [n_24] at t134
                refine rd_V (As := [.int x134]) (rest := []) (C := RX10) (ci := 10) ⟨hx, hb, hml, hown, hts⟩ (c_X10_pairOf l E A am o115_vm x134 hH (by omega) (by omega)) (cwV 1 hts gX10_look_X10_pairOf rfl rfl rfl (by decide +kernel) ⟨Nat.le_of_ble_eq_true rfl, Nat.le_of_ble_eq_true rfl⟩) (hE.kept hS.2.1) (hP.sub (ws' := mdL E am o115_vm) [0, 1, 2, 3, 4, 5, 6, 7, 8, 9, 10, 11, 12, 13, 14, 15, 16, 17, 18, 19, 20, 21, 22, 23, 24, 25, 26, 27, 28, 29, 30, 31, 32, 33, 34, 35, 36, 37, 38, 39, 40, 41, 42, 43, 44, 45] rfl) rfl rfl rfl rfl hl.1 rfl (Nat.le_of_ble_eq_true rfl) dX10_look_135 ⟨Nat.zero_le _, Nat.zero_le _⟩ (fun r135 h135 => ?_)
                have hf135 := h135.2
                replace h135 := h135.1
                refine lv_goto (tgt := 154) hx hb dX10_look_138 (by decide) ?_
                subst hQ
                exact W.iret (v := r135) hx hb hr (fun t ht hW => ⟨⟨r135, (o115_vm), rfl, (show ((MdI o115_vm) ∧ fr [24, 71, 72, 73, 74] vm o115_vm) ∧ (∀ j, j < 3 → o115_vm 24 j = vm 24 j) from ⟨⟨hMI, hFz⟩, (fun j hj => by rw [hf115 j hj, h33_2 71 (by decide) (by decide), hf27 j hj, hf16 j hj])⟩), by rw [ht]; exact hP, hD⟩, hS.F ht⟩) hS.2.2 dX10_look_154
            · have c119_ := i_nle c119
              refine lv_iconst (v := (-1)) hx hb dX10_look_122 (by decide) ?_
              refine lv_goto (tgt := 154) hx hb dX10_look_123 (by decide) ?_
              subst hQ
              exact W.iret (v := (-1)) hx hb hr (fun t ht hW => ⟨⟨(-1), (o115_vm), rfl, (show ((MdI o115_vm) ∧ fr [24, 71, 72, 73, 74] vm o115_vm) ∧ (∀ j, j < 3 → o115_vm 24 j = vm 24 j) from ⟨⟨hMI, hFz⟩, (fun j hj => by rw [hf115 j hj, h33_2 71 (by decide) (by decide), hf27 j hj, hf16 j hj])⟩), by rw [ht]; exact hP, hD⟩, hS.F ht⟩) hS.2.2 dX10_look_154
          · have c45_ := i_nle c45
            refine lv_iconst (v := 0) hx hb dX10_look_48 (by decide) ?_
            refine lv_istore (lv' := [(5, .int 0), (0, .ref (am 0)), (1, .int what), (2, .int best), (3, .int least), (4, .int st)]) hx hb dX10_look_49 hl (by decide) rfl (fun ls hl => ?_)
            have K51 : ∀ (μ : Nat) (best2 : Int32) (least2 : Int32) (k : Int32) (vb : Vf) (H : Heap) (locs : List Loc) (ls : Array Slot), (24 - k.toInt).toNat < μ → va_P (eD E) vwCl (mdL E am vb) H → va_D A (mdL E am vb) → va_S A s.heap H locs → (0 ≤ k.toInt ∧ k.toInt ≤ 24) → (MdI vb) → (∀ t, t ≠ 24 → t ≠ 74 → vb t = o27_vm t) → (best2.toInt = -1 ∨ ((0 ≤ best2.toInt ∧ best2.toInt ≤ 287) ∧ 1 ≤ (o27_vm 0 0).toInt)) → (fr [24, 71, 72, 73, 74] vm vb) → lv_has ls 7 [(0, .ref (am 0)), (1, .int what), (2, .int best2), (3, .int least2), (4, .int st), (5, .int k)] → W p l e (headSpec wsX10_look rm_X10_look).room s m ([.ref (am 0), .int what] : List Value).toArray below meth c H locs 0 0 Q (F0 m 51 ls []) := by
              intro μ
              induction μ with
              | zero =>
                intro best2 least2 k vb H locs ls hμ51
                exact absurd hμ51 (Nat.not_lt_zero _)
              | succ μ ih51 =>
                intro best2 least2 k vb H locs ls hμ51 hP hD hS h51_0 h51_1 h51_2 h51_3 h51_4 hl
                have hMI := h51_1
                have hsm := h51_2
                have hfk : fitM vb := by unfold fitM; rw [hsm 73 (by decide) (by decide), hsm 72 (by decide) (by decide)]; exact hy27
                have hfk1 := hfk.1
                have hqf : (vb 73 0).toInt = (o27_vm 73 0).toInt := by rw [hsm 73 (by decide) (by decide)]
                have hqm : (vb 4 0).toInt = (o27_vm 4 0).toInt := by rw [hsm 4 (by decide) (by decide)]
                have hqw : (vb 0 0).toInt = (o27_vm 0 0).toInt := by rw [hsm 0 (by decide) (by decide)]
                have hqd : (vb 1 0).toInt = (o27_vm 1 0).toInt := by rw [hsm 1 (by decide) (by decide)]
                try clear hmZ
                try clear hM2
                try clear hA4
                have hH := hMI.1
                obtain ⟨hmG, hmC, hmZ, hmM, hmA, hmS, hmT⟩ := id hH
                obtain ⟨hG1, hG2, hG3⟩ := id hmG
                obtain ⟨hC1, hC2, hC3, hC4, hC5, hC6⟩ := id hmC
                obtain ⟨hM1, hM2, hM3, hM4⟩ := id hmM
                obtain ⟨hA1, hA2, hA3, hA4, hA5⟩ := id hmA
                obtain ⟨hS1, hS2, hS3, hS4, hS5, hS6⟩ := id hmS
                obtain ⟨hT1, hT2, hT3, hT4, hT5⟩ := id hmT
                have hFz := h51_4
                refine lv_iload hx hb dX10_look_51 (lv_at hl 5 rfl) ?_
                refine lv_aload_n hx hb dX10_look_53 rfl (lv_at hl 0 rfl) ?_
                refine rd_V (As := []) (rest := [.int k]) (C := RX10) (ci := 10) ⟨hx, hb, hml, hown, hts⟩ (c_X10_cells l E A am vb hH) (cwV 0 hts gX10_look_X10_cells rfl rfl rfl (by decide +kernel) ⟨Nat.le_of_ble_eq_true rfl, Nat.le_of_ble_eq_true rfl⟩) (hE.kept hS.2.1) (hP.sub (ws' := mdL E am vb) [0, 1, 2, 3, 4, 5, 6, 7, 8, 9, 10, 11, 12, 13, 14, 15, 16, 17, 18, 19, 20, 21, 22, 23, 24, 25, 26, 27, 28, 29, 30, 31, 32, 33, 34, 35, 36, 37, 38, 39, 40, 41, 42, 43, 44, 45] rfl) rfl rfl rfl rfl hl.1 rfl (Nat.le_of_ble_eq_true rfl) dX10_look_54 ⟨Nat.zero_le _, Nat.zero_le _⟩ (fun r54 h54 => ?_)
                refine lv_icmp_ge (tgt := 108) hx hb dX10_look_57 (by decide) (fun c57 => ?_) (fun c57 => ?_)
                · have c57_ := i_le c57
                  obtain ⟨x108, e108⟩ : ∃ y : Int32, y = st + 1 := ⟨_, rfl⟩
                  refine lv_iinc (v := x108) (lv' := [(4, .int x108), (0, .ref (am 0)), (1, .int what), (2, .int best2), (3, .int least2), (5, .int k)]) hx hb dX10_look_108 hl (k := 4) rfl (by rw [e108]; rfl) (by decide) rfl (fun ls hl => ?_)
                  have t108 := i_add e108 (by omega)
                  refine lv_goto (tgt := 33) hx hb dX10_look_111 (by decide) ?_
                  exact ih33 best2 least2 x108 vb _ _ ls (by omega) hP hD hS (by omega) hMI hsm (by omega) hFz (lv_sub hl [1, 2, 3, 4, 0] rfl)
                · have c57_ := i_nle c57
                  have hw : 1 ≤ (vb 0 0).toInt := wd_pos (d := (vb 1 0).toInt) hG1.1 (by omega)
                  refine lv_aload_n hx hb dX10_look_60 rfl (lv_at hl 0 rfl) ?_
                  refine lv_iload hx hb dX10_look_61 (lv_at hl 5 rfl) ?_
                  refine lv_iload hx hb dX10_look_63 (lv_at hl 4 rfl) ?_
                  refine mt_Vi (w1 := fun (u : Vf) => mdL E am u) (wf := fun (u : Vf) => mdL E am u) (wr := []) (As := [.int k, .int st]) (rest := []) (C := RX10) (ci := 10) ⟨hx, hb, hml, hown, hts⟩ (c_X10_worstAt l E H.size am vb k st hMI (by omega) (by omega) hfk (by omega) (by omega)) (cwV 2 hts gX10_look_X10_worstAt rfl rfl rfl (by decide +kernel) ⟨Nat.le_of_ble_eq_true rfl, Nat.le_of_ble_eq_true rfl⟩) hE hS hA hP hD [0, 1, 2, 3, 4, 5, 6, 7, 8, 9, 10, 11, 12, 13, 14, 15, 16, 17, 18, 19, 20, 21, 22, 23, 24, 25, 26, 27, 28, 29, 30, 31, 32, 33, 34, 35, 36, 37, 38, 39, 40, 41, 42, 43, 44, 45] [] rfl rfl (by decide) (by decide) (by decide) [0, 1, 2, 3, 4, 5, 6, 7, 8, 9, 10, 11, 12, 13, 14, 15, 16, 17, 18, 19, 20, 21, 22, 23, 24, 25, 26, 27, 28, 29, 30, 31, 32, 33, 34, 35, 36, 37, 38, 39, 40, 41, 42, 43, 44, 45] (by decide) (fun u => rfl) rfl rfl rfl rfl hl.1 rfl (Nat.le_of_ble_eq_true rfl) dX10_look_65 ⟨Nat.zero_le _, Nat.zero_le _⟩ (fun r65 u65 H locs h65 hP hD hS => ?_)
                  generalize u65 = o65_vm at hP hD h65
                  try dsimp only at h65
                  have hFn65 := h65.2
                  replace h65 := h65.1
                  replace hP : va_P (eD E) vwCl (mdL E am o65_vm) H := hP
                  replace hD : va_D A (mdL E am o65_vm) := hD
                  have hFz : fr [24, 71, 72, 73, 74] vm o65_vm := by first | exact hFz | exact hFz.tr hFn65 (by decide) | (rw [← hv65]; repeat' (first | exact hFz | refine fr.up ?_ (by decide) | refine fr.up3 ?_ (by decide)))
                  have hMI := h65.1
                  have hsm : ∀ t, t ≠ 24 → t ≠ 74 → o65_vm t = o27_vm t := fun t h0 h1 => (h65.2 t h0 h1).trans (hsm t h0 h1)
                  refine lv_istore (lv' := [(6, .int r65), (0, .ref (am 0)), (1, .int what), (2, .int best2), (3, .int least2), (4, .int st), (5, .int k)]) hx hb dX10_look_68 hl (by decide) rfl (fun ls hl => ?_)
                  refine lv_iload hx hb dX10_look_70 (lv_at hl 0 rfl) ?_
                  refine lv_iload_n hx hb dX10_look_72 rfl (lv_at hl 4 rfl) ?_
                  have K88 : ∀  (nb : Int32) (H : Heap) (locs : List Loc) (ls : Array Slot), va_P (eD E) vwCl (mdL E am o65_vm) H → va_D A (mdL E am o65_vm) → va_S A s.heap H locs → (nb.toInt = -1 ∨ ((0 ≤ nb.toInt ∧ nb.toInt ≤ 287) ∧ 1 ≤ (o27_vm 0 0).toInt)) → lv_has ls 7 [(0, .ref (am 0)), (1, .int what), (2, .int best2), (3, .int least2), (4, .int st), (5, .int k), (6, .int r65)] → W p l e (headSpec wsX10_look rm_X10_look).room s m ([.ref (am 0), .int what] : List Value).toArray below meth c H locs 0 0 Q (F0 m 88 ls [.int nb]) := by
                    intro nb H locs ls hP hD hS h88_0 hl
                    refine lv_istore_n (lv' := [(2, .int nb), (0, .ref (am 0)), (1, .int what), (3, .int least2), (4, .int st), (5, .int k), (6, .int r65)]) hx hb dX10_look_88 rfl hl (by decide) rfl (fun ls hl => ?_)
                    refine lv_iload hx hb dX10_look_89 (lv_at hl 6 rfl) ?_
                    refine lv_iload_n hx hb dX10_look_91 rfl (lv_at hl 3 rfl) ?_
                    have K101 : ∀  (nl : Int32) (H : Heap) (locs : List Loc) (ls : Array Slot), va_P (eD E) vwCl (mdL E am o65_vm) H → va_D A (mdL E am o65_vm) → va_S A s.heap H locs → lv_has ls 7 [(0, .ref (am 0)), (1, .int what), (2, .int nb), (3, .int least2), (4, .int st), (5, .int k), (6, .int r65)] → W p l e (headSpec wsX10_look rm_X10_look).room s m ([.ref (am 0), .int what] : List Value).toArray below meth c H locs 0 0 Q (F0 m 101 ls [.int nl]) := by
                      intro nl H locs ls hP hD hS hl
                      refine lv_istore_n (lv' := [(3, .int nl), (0, .ref (am 0)), (1, .int what), (2, .int nb), (4, .int st), (5, .int k), (6, .int r65)]) hx hb dX10_look_101 rfl hl (by decide) rfl (fun ls hl => ?_)
                      obtain ⟨x102, e102⟩ : ∃ y : Int32, y = k + 1 := ⟨_, rfl⟩
                      refine lv_iinc (v := x102) (lv' := [(5, .int x102), (3, .int nl), (0, .ref (am 0)), (1, .int what), (2, .int nb), (4, .int st), (6, .int r65)]) hx hb dX10_look_102 hl (k := 5) rfl (by rw [e102]; rfl) (by decide) rfl (fun ls hl => ?_)
                      have t102 := i_add e102 (by omega)
                      refine lv_goto (tgt := 51) hx hb dX10_look_105 (by decide) ?_
                      exact ih51 nb nl x102 o65_vm _ _ ls (by omega) hP hD hS (by omega) hMI hsm (by omega) hFz (lv_sub hl [2, 3, 4, 1, 5, 0] rfl)
                    refine lv_icmp_ge (tgt := 100) hx hb dX10_look_92 (by decide) (fun c92 => ?_) (fun c92 => ?_)
                    · have c92_ := i_le c92
                      refine lv_iload_n hx hb dX10_look_100 rfl (lv_at hl 3 rfl) ?_
                      exact K101 least2 _ _ ls hP hD hS (lv_sub hl [1, 2, 0, 3, 4, 5, 6] rfl)
                    · have c92_ := i_nle c92
                      refine lv_iload hx hb dX10_look_95 (lv_at hl 6 rfl) ?_
                      refine lv_goto (tgt := 101) hx hb dX10_look_97 (by decide) ?_
                      exact K101 r65 _ _ ls hP hD hS (lv_sub hl [1, 2, 0, 3, 4, 5, 6] rfl)
                  refine lv_icmp_ge (tgt := 87) hx hb dX10_look_73 (by decide) (fun c73 => ?_) (fun c73 => ?_)
                  · have c73_ := i_le c73
                    refine lv_iload_n hx hb dX10_look_87 rfl (lv_at hl 3 rfl) ?_
                    exact K88 best2 _ _ ls hP hD hS (by omega) (lv_sub hl [1, 2, 3, 4, 5, 6, 0] rfl)
                  · have c73_ := i_nle c73
                    refine lv_bipush (v := 24) hx hb dX10_look_76 (by decide) ?_
                    refine lv_iload hx hb dX10_look_78 (lv_at hl 5 rfl) ?_
                    refine lv_imul hx hb dX10_look_80 ?_
                    refine lv_topi (fun x80 e80 => ?_)
                    have t80 := i_mul e80 (by rw [n_24]; omega)
                    rw [n_24] at t80
                    refine lv_iload hx hb dX10_look_81 (lv_at hl 6 rfl) ?_
                    refine lv_iadd hx hb dX10_look_83 ?_
                    refine lv_topi (fun x83 e83 => ?_)
                    have t83 := i_add e83 (by omega)
                    refine lv_goto (tgt := 88) hx hb dX10_look_84 (by decide) ?_
                    exact K88 x83 _ _ ls hP hD hS (by omega) (lv_sub hl [1, 2, 3, 4, 5, 6, 0] rfl)
            exact K51 _ best least 0 va _ _ ls (Nat.lt_succ_self _) hP hD hS (by omega) h33_1 h33_2 (by omega) hFz (lv_sub hl [1, 2, 3, 4, 5, 0] rfl)
    exact K33 _ (-1) (o16_vm 73 0) 0 o27_vm _ _ ls (Nat.lt_succ_self _) hP hD hS (by omega) hMI (fun t _ _ => rfl) (by omega) hFz (lv_sub hl [3, 4, 2, 1, 0] rfl)
  · have c9_ := i_eq c9
    replace h6 := or_n h6 c9_
    refine lv_ldc hx hb hown lk2 dX10_look_12 ?_
    subst hQ
    exact W.iret (v := (-1000000002)) hx hb hr (fun t ht hW => ⟨⟨(-1000000002), (vm), rfl, (show ((MdI vm) ∧ fr [24, 71, 72, 73, 74] vm vm) ∧ (∀ j, j < 3 → vm 24 j = vm 24 j) from ⟨⟨hMI, hFz⟩, (fun _ _ => rfl)⟩), by rw [ht]; exact hP, hD⟩, hS.F ht⟩) hS.2.2 dX10_look_14
