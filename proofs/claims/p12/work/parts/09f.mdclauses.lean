def rm_X10_takeCell : Room := { frames := 2, cells := 0, slots := 0, locals := 48 }
set_option maxHeartbeats 4000000 in
set_option maxRecDepth 100000 in
theorem c_X10_takeCell (l : Launch) (E : Ev) (sz : Nat) (am : Nat → Nat) (vm : Vf) (hMI : MdI vm) (hat : atI vm) (hrG : rdG vm) (hw1 : 1 ≤ (vm 37 0).toInt) (hd1 : 1 ≤ (vm 38 0).toInt) : Met l yX10_takeCell wsX10_takeCell rm_X10_takeCell (MtP E sz [.ref (am 0)] (mdL E am vm)) (va_Qi (fun (r : Int32) (u : Vf) => ((sc vm u ∧ atI u ∧ (vm 34 0).toInt ≤ (u 34 0).toInt ∧ ((r.toInt = 0 ∧ 0 ≤ (u 61 0).toInt ∧ (u 61 0).toInt ≤ 23) ∨ (1 ≤ r.toInt ∧ r.toInt ≤ 2))) ∧ fr lRd vm u) ∧ (MF (placeF (vm 31) (vm 32 0).toInt (vm 37 0).toInt (vm 38 0).toInt (vm 34 0).toInt) (vm 33 0).toInt r.toInt (u 33 0).toInt (fun z => (u 61 0).toInt = plc (vm 37 0).toInt z ∧ (u 34 0).toInt = z.2.2.1 ∧ (u 36 0).toInt = z.2.2.2))) (MtB E (va_A (mdL E am vm) sz) (fun u => mdL E am u)) (va_A (mdL E am vm) sz)) 0 0 (va_A (mdL E am vm) sz) := by
  refine Met.ofW (cc := cX10_takeCell) (maxL := 3) (ret := (some .int)) (by decide) rfl ?_
  intro p e s m args below meth c s₁ B hml hv
  obtain ⟨rfl, hsz, hE, hP, hD0⟩ := hv
  subst hsz
  have hD := hD0.self (sz := s.heap.size)
  generalize hAe : va_A (mdL E am vm) s.heap.size = A at hD hE ⊢
  have hA : ∀ q : Nat, s.heap.size ≤ q → A q := fun q h => by rw [← hAe]; exact Or.inr h
  have hS : va_S A s.heap s.heap [] := va_S.rf
  have hx := B.exec
  have hb := B.bytes
  have hr := B.returns
  have hts := atoms_spec (ws := wsX10_takeCell) B.pre
  have hown : s.vm.findClass RX10 = some m.cls := findClass_of_methodNamed B.named
  have hlocks := B.notSynchronized
  have hK := hE.1
  have in_X10 : ∀ w ∈ u_ws RX10 TX10 79, w ∈ wsX10_takeCell := fun w h => List.mem_cons_of_mem _ (List.mem_append_right _ h)
  have lk0 := hts (.fieldLink RX10 204 "TidedGroundModel" "readWide" "I") (List.mem_of_getElem? (i := 1) rfl)
  have lk1 := hts (.fieldLink RX10 198 "TidedGroundModel" "number" "I") (List.mem_of_getElem? (i := 2) rfl)
  have lk2 := hts (.fieldLink RX10 210 "TidedGroundModel" "cellRead" "I") (List.mem_of_getElem? (i := 4) rfl)
  have lk3 := hts (.fieldLink RX10 207 "TidedGroundModel" "readDeep" "I") (List.mem_of_getElem? (i := 3) rfl)
  have n_0 : (0 : Int32).toInt = 0 := by decide
  have n_1 : (1 : Int32).toInt = 1 := by decide
  have hl := lv_entry ([.ref (am 0)]) (n := 3) (Nat.le_of_ble_eq_true rfl)
  rw [lg_entry_eq]
  generalize (lg_sl ([.ref (am 0)]) ++ List.replicate (3 - (lg_sl ([.ref (am 0)])).length) Slot.unset).toArray = ls at hl ⊢
  have hl : lv_has ls 3 [(0, .ref (am 0))] := hl
  refine W_abs (fun Q hQ => ?_)
  have hH := hMI.1
  obtain ⟨hT1, hT2, hT3, hT4, hT5⟩ := id hH.2.2.2.2.2.2
  obtain ⟨ha1, ha2⟩ := id hat
  obtain ⟨hg1, hg2, hg3⟩ := id hrG
  have hFz : fr lRd vm vm := fr.rf
  refine lv_aload_n hx hb dX10_takeCell_0 rfl (lv_at hl 0 rfl) ?_
  refine lv_iconst (v := 0) hx hb dX10_takeCell_1 (by decide) ?_
  refine lv_aload_n hx hb dX10_takeCell_2 rfl (lv_at hl 0 rfl) ?_
  refine va_get (D := eD E) (ci := 10) (v := .int (vm 37 0)) (C := RX10) (T := TX10) (N := 79) hx hb hts in_X10 hown hK hP 0 rfl rfl 37 (by decide) lk0 (fun _ h9 => h9) rfl dX10_takeCell_3 ?_
  refine lv_iconst (v := 1) hx hb dX10_takeCell_6 (by decide) ?_
  refine lv_isub hx hb dX10_takeCell_7 ?_
  refine lv_topi (fun x7 e7 => ?_)
  have t7 := i_sub e7 (by omega)
  refine mt_Vi (w1 := fun (u : Vf) => mdL E am u) (wf := fun (u : Vf) => mdL E am u) (wr := []) (As := [.int 0, .int x7]) (rest := []) (C := RX10) (ci := 10) ⟨hx, hb, hml, hown, hts⟩ (c_X10_takeNumber l E s.heap.size am vm 0 x7 hMI hat) (cwV 2 hts gX10_takeCell_X10_takeNumber rfl rfl rfl (by decide +kernel) ⟨Nat.le_of_ble_eq_true rfl, Nat.le_of_ble_eq_true rfl⟩) hE hS hA hP hD [0, 1, 2, 3, 4, 5, 6, 7, 8, 9, 10, 11, 12, 13, 14, 15, 16, 17, 18, 19, 20, 21, 22, 23, 24, 25, 26, 27, 28, 29, 30, 31, 32, 33, 34, 35, 36, 37, 38, 39, 40, 41, 42, 43, 44, 45] [] rfl rfl (by decide) (by decide) (by decide) [0, 1, 2, 3, 4, 5, 6, 7, 8, 9, 10, 11, 12, 13, 14, 15, 16, 17, 18, 19, 20, 21, 22, 23, 24, 25, 26, 27, 28, 29, 30, 31, 32, 33, 34, 35, 36, 37, 38, 39, 40, 41, 42, 43, 44, 45] (by decide) (fun u => rfl) rfl rfl rfl rfl hl.1 rfl (Nat.le_of_ble_eq_true rfl) dX10_takeCell_8 ⟨Nat.zero_le _, Nat.zero_le _⟩ (fun r8 u8 H locs h8 hP hD hS => ?_)
  generalize u8 = o8_vm at hP hD h8
  try dsimp only at h8
  have hf8 := h8.2
  replace h8 := h8.1
  have hFn8 := h8.2
  replace h8 := h8.1
  replace hP : va_P (eD E) vwCl (mdL E am o8_vm) H := hP
  replace hD : va_D A (mdL E am o8_vm) := hD
  have hFz : fr lRd vm o8_vm := by first | exact hFz | exact hFz.tr hFn8 (by decide) | (rw [← hv8]; repeat' (first | exact hFz | refine fr.up ?_ (by decide) | refine fr.up3 ?_ (by decide)))
  have hMI : MdI o8_vm := hMI.sn h8.1
  have hat := h8.2.1
  have hq8 : (o8_vm 38 0).toInt = (vm 38 0).toInt := by rw [h8.1 38 (by decide) (by decide) (by decide) (by decide)]
  rw [n_0, show x7.toInt = (vm 37 0).toInt - 1 by omega] at hf8
  refine lv_istore_n (lv' := [(1, .int r8), (0, .ref (am 0))]) hx hb dX10_takeCell_11 rfl hl (by decide) rfl (fun ls hl => ?_)
  refine lv_aload_n hx hb dX10_takeCell_12 rfl (lv_at hl 1 rfl) ?_
  refine va_get (D := eD E) (ci := 10) (v := .int (o8_vm 35 0)) (C := RX10) (T := TX10) (N := 79) hx hb hts in_X10 hown hK hP 0 rfl rfl 35 (by decide) lk1 (fun _ h9 => h9) rfl dX10_takeCell_13 ?_
  refine lv_istore_n (lv' := [(2, .int (o8_vm 35 0)), (1, .int r8), (0, .ref (am 0))]) hx hb dX10_takeCell_16 rfl hl (by decide) rfl (fun ls hl => ?_)
  refine lv_iload_n hx hb dX10_takeCell_17 rfl (lv_at hl 1 rfl) ?_
  have K36 : ∀  (fz : Int32) (vk : Vf) (H : Heap) (locs : List Loc) (ls : Array Slot), va_P (eD E) vwCl (mdL E am vk) H → va_D A (mdL E am vk) → va_S A s.heap H locs → (sn vm vk) → (atI vk) → ((vm 34 0).toInt ≤ (vk 34 0).toInt) → ((fz.toInt = 0 ∧ (0 ≤ (o8_vm 35 0).toInt ∧ (o8_vm 35 0).toInt < (vm 37 0).toInt) ∧ (0 ≤ (vk 35 0).toInt ∧ (vk 35 0).toInt < (vm 38 0).toInt)) ∨ (1 ≤ fz.toInt ∧ fz.toInt ≤ 2)) → (fr lRd vm vk) → (MF (placeF (vm 31) (vm 32 0).toInt (vm 37 0).toInt (vm 38 0).toInt (vm 34 0).toInt) (vm 33 0).toInt fz.toInt (vk 33 0).toInt (fun z => (o8_vm 35 0).toInt = z.1.1 ∧ (vk 35 0).toInt = z.2.1 ∧ (vk 34 0).toInt = z.2.2.1 ∧ (vk 36 0).toInt = z.2.2.2)) → lv_has ls 3 [(0, .ref (am 0)), (1, .int r8), (2, .int (o8_vm 35 0))] → W p l e (headSpec wsX10_takeCell rm_X10_takeCell).room s m ([.ref (am 0)] : List Value).toArray below meth c H locs 0 0 Q (F0 m 36 ls [.int fz]) := by
    intro fz vk H locs ls hP hD hS h36_0 h36_1 h36_2 h36_3 h36_4 h36_5 hl
    have hx36_0 := h36_5
    clear h36_5
    have hFz := h36_4
    refine lv_istore_n (lv' := [(1, .int fz), (0, .ref (am 0)), (2, .int (o8_vm 35 0))]) hx hb dX10_takeCell_36 rfl hl (by decide) rfl (fun ls hl => ?_)
    refine lv_aload_n hx hb dX10_takeCell_37 rfl (lv_at hl 1 rfl) ?_
    refine lv_aload_n hx hb dX10_takeCell_38 rfl (lv_at hl 1 rfl) ?_
    refine va_get (D := eD E) (ci := 10) (v := .int (vk 37 0)) (C := RX10) (T := TX10) (N := 79) hx hb hts in_X10 hown hK hP 0 rfl rfl 37 (by decide) lk0 (fun _ h9 => h9) rfl dX10_takeCell_39 ?_
    refine lv_aload_n hx hb dX10_takeCell_42 rfl (lv_at hl 1 rfl) ?_
    refine va_get (D := eD E) (ci := 10) (v := .int (vk 35 0)) (C := RX10) (T := TX10) (N := 79) hx hb hts in_X10 hown hK hP 0 rfl rfl 35 (by decide) lk1 (fun _ h9 => h9) rfl dX10_takeCell_43 ?_
    refine lv_imul hx hb dX10_takeCell_46 ?_
    refine lv_topi (fun x46 e46 => ?_)
    rw [h36_0 37 (by decide) (by decide) (by decide) (by decide)] at e46
    refine lv_iload_n hx hb dX10_takeCell_47 rfl (lv_at hl 2 rfl) ?_
    refine lv_iadd hx hb dX10_takeCell_48 ?_
    refine lv_topi (fun x48 e48 => ?_)
    refine va_put (D := eD E) (ci := 10) (v := .int x48) (ty := .int) (C := RX10) (T := TX10) (N := 79) hx hb hts in_X10 tyX10 tyX10_ok nmX10 hown hK hP hD hS 0 rfl rfl 61 (by decide) lk2 (fun _ h9 => h9) rfl (by decide +kernel) rfl rfl (Nat.le_of_ble_eq_true rfl) dX10_takeCell_49 (fun H locs hP hD hS => ?_)
    replace hP : va_P (eD E) vwCl (mdL E am (up2 vk 61 0 x48)) H := hP
    replace hD : va_D A (mdL E am (up2 vk 61 0 x48)) := hD
    generalize hv49 : up2 vk 61 0 x48 = vm_49 at hP hD
    have hFz : fr lRd vm vm_49 := by first | exact hFz | (rw [← hv49]; exact hFz.up (by decide))
    refine lv_iload_n hx hb dX10_takeCell_52 rfl (lv_at hl 0 rfl) ?_
    subst hQ
    exact W.iret (v := fz) hx hb hr (fun t ht hW => ⟨⟨fz, (vm_49), rfl, (show ((sc vm vm_49 ∧ atI vm_49 ∧ (vm 34 0).toInt ≤ (vm_49 34 0).toInt ∧ ((fz.toInt = 0 ∧ 0 ≤ (vm_49 61 0).toInt ∧ (vm_49 61 0).toInt ≤ 23) ∨ (1 ≤ fz.toInt ∧ fz.toInt ≤ 2))) ∧ fr lRd vm vm_49) ∧ (MF (placeF (vm 31) (vm 32 0).toInt (vm 37 0).toInt (vm 38 0).toInt (vm 34 0).toInt) (vm 33 0).toInt fz.toInt (vm_49 33 0).toInt (fun z => (vm_49 61 0).toInt = plc (vm 37 0).toInt z ∧ (vm_49 34 0).toInt = z.2.2.1 ∧ (vm_49 36 0).toInt = z.2.2.2)) from ⟨⟨⟨(by rw [← hv49]; exact h36_0.sc.up (by omega)), (by rw [← hv49]; exact h36_1), (by rw [← hv49]; exact h36_2), (by rw [← hv49]; exact h36_3.elim (fun q => Or.inl ⟨q.1, cellv hg1 hg3 e46 e48 q.2.1 q.2.2⟩) Or.inr)⟩, hFz⟩, (by rw [← hv49]; exact hx36_0.mono (fun q z hz => ⟨cellx hg1 hg3 e46 e48 (h36_3.resolve_right (by omega)).2.1 (h36_3.resolve_right (by omega)).2.2 hz.1 hz.2.1, hz.2.2.1, hz.2.2.2⟩))⟩), by rw [ht]; exact hP, hD⟩, hS.F ht⟩) hS.2.2 dX10_takeCell_53
  refine lv_if_le (tgt := 25) hx hb dX10_takeCell_18 (by decide) (fun c18 => ?_) (fun c18 => ?_)
  · have c18_ := i_le c18
    have hgd : r8.toInt = 0 := by omega
    refine lv_aload_n hx hb dX10_takeCell_25 rfl (lv_at hl 2 rfl) ?_
    refine lv_iconst (v := 0) hx hb dX10_takeCell_26 (by decide) ?_
    refine lv_aload_n hx hb dX10_takeCell_27 rfl (lv_at hl 2 rfl) ?_
    refine va_get (D := eD E) (ci := 10) (v := .int (o8_vm 38 0)) (C := RX10) (T := TX10) (N := 79) hx hb hts in_X10 hown hK hP 0 rfl rfl 38 (by decide) lk3 (fun _ h9 => h9) rfl dX10_takeCell_28 ?_
    have sv31_o8_vm380 : 1 ≤ (o8_vm 38 0).toInt ∧ (o8_vm 38 0).toInt ≤ 6 := by omega
    refine lv_iconst (v := 1) hx hb dX10_takeCell_31 (by decide) ?_
    refine lv_isub hx hb dX10_takeCell_32 ?_
    refine lv_topi (fun x32 e32 => ?_)
    have t32 := i_sub e32 (by omega)
    refine mt_Vi (w1 := fun (u : Vf) => mdL E am u) (wf := fun (u : Vf) => mdL E am u) (wr := []) (As := [.int 0, .int x32]) (rest := []) (C := RX10) (ci := 10) ⟨hx, hb, hml, hown, hts⟩ (c_X10_takeNumber l E H.size am o8_vm 0 x32 hMI hat) (cwV 2 hts gX10_takeCell_X10_takeNumber rfl rfl rfl (by decide +kernel) ⟨Nat.le_of_ble_eq_true rfl, Nat.le_of_ble_eq_true rfl⟩) hE hS hA hP hD [0, 1, 2, 3, 4, 5, 6, 7, 8, 9, 10, 11, 12, 13, 14, 15, 16, 17, 18, 19, 20, 21, 22, 23, 24, 25, 26, 27, 28, 29, 30, 31, 32, 33, 34, 35, 36, 37, 38, 39, 40, 41, 42, 43, 44, 45] [] rfl rfl (by decide) (by decide) (by decide) [0, 1, 2, 3, 4, 5, 6, 7, 8, 9, 10, 11, 12, 13, 14, 15, 16, 17, 18, 19, 20, 21, 22, 23, 24, 25, 26, 27, 28, 29, 30, 31, 32, 33, 34, 35, 36, 37, 38, 39, 40, 41, 42, 43, 44, 45] (by decide) (fun u => rfl) rfl rfl rfl rfl hl.1 rfl (Nat.le_of_ble_eq_true rfl) dX10_takeCell_33 ⟨Nat.zero_le _, Nat.zero_le _⟩ (fun r33 u33 H locs h33 hP hD hS => ?_)
    generalize u33 = o33_vm at hP hD h33
    try dsimp only at h33
    have hf33 := h33.2
    replace h33 := h33.1
    have hFn33 := h33.2
    replace h33 := h33.1
    replace hP : va_P (eD E) vwCl (mdL E am o33_vm) H := hP
    replace hD : va_D A (mdL E am o33_vm) := hD
    have hFz : fr lRd vm o33_vm := by first | exact hFz | exact hFz.tr hFn33 (by decide) | (rw [← hv33]; repeat' (first | exact hFz | refine fr.up ?_ (by decide) | refine fr.up3 ?_ (by decide)))
    rw [n_0, show x32.toInt = (vm 38 0).toInt - 1 by omega, h8.1 31 (by decide) (by decide) (by decide) (by decide), h8.1 32 (by decide) (by decide) (by decide) (by decide)] at hf33
    exact K36 r33 o33_vm _ _ ls hP hD hS (by first | exact h8.1 | exact h8.1.tr h33.1) (by first | exact hat | exact h33.2.1) (by omega) (by omega) hFz (by first | exact MF.stop hf8 hbad | exact (MF.then (s := fun a : Int × Int × Int => numF (vm 31) (vm 32 0).toInt 0 ((vm 38 0).toInt - 1) a.2.1) hf8 hgd hf33 okF.num (fun x hx => by rw [hx.2.1])).mono (fun _ z hz => ⟨hz.1.1, hz.2.1, hz.2.2.1, hz.2.2.2⟩)) (lv_sub hl [2, 1, 0] rfl)
  · have c18_ := i_nle c18
    have hbad : r8.toInt ≠ 0 := by omega
    refine lv_iload_n hx hb dX10_takeCell_21 rfl (lv_at hl 1 rfl) ?_
    refine lv_goto (tgt := 36) hx hb dX10_takeCell_22 (by decide) ?_
    exact K36 r8 o8_vm _ _ ls hP hD hS (by first | exact h8.1 | exact h8.1.tr h33.1) (by first | exact hat | exact h33.2.1) (by omega) (by omega) hFz (by first | exact MF.stop hf8 hbad | exact (MF.then (s := fun a : Int × Int × Int => numF (vm 31) (vm 32 0).toInt 0 ((vm 38 0).toInt - 1) a.2.1) hf8 hgd hf33 okF.num (fun x hx => by rw [hx.2.1])).mono (fun _ z hz => ⟨hz.1.1, hz.2.1, hz.2.2.1, hz.2.2.2⟩)) (lv_sub hl [2, 1, 0] rfl)
def rm_X10_takeNewCell_42 : Room := { frames := 3, cells := 0, slots := 0, locals := 70 }
set_option maxHeartbeats 4000000 in
set_option maxRecDepth 100000 in
theorem c_X10_takeNewCell_42 (l : Launch) (E : Ev) (sz : Nat) (am : Nat → Nat) (vm : Vf) (k : Int32) (hMI : MdI vm) (hat : atI vm) (hrG : rdG vm) (hw1 : 1 ≤ (vm 37 0).toInt) (hd1 : 1 ≤ (vm 38 0).toInt) (hk : 0 ≤ k.toInt ∧ k.toInt ≤ 11) : Met l yX10_takeNewCell wsX10_takeNewCell rm_X10_takeNewCell_42 (MtP E sz [.ref (am 0), .ref (am 42), .int k] (mdL E am vm)) (va_Qi (fun (r : Int32) (u : Vf) => ((scK 42 vm u ∧ (bnd (vm 42) 12 0 23 → bnd (u 42) 12 0 23) ∧ atI u ∧ (vm 34 0).toInt ≤ (u 34 0).toInt ∧ ((r.toInt = 0 ∧ 0 ≤ (u 61 0).toInt ∧ (u 61 0).toInt ≤ 23) ∨ (1 ≤ r.toInt ∧ r.toInt ≤ 4))) ∧ fr lRd vm u) ∧ (MF (th (placeF (vm 31) (vm 32 0).toInt (vm 37 0).toInt (vm 38 0).toInt (vm 34 0).toInt) (fun z : ((Int × Int × Int) × (Int × Int × Int)) => chk (anyE (fI (vm 42)) (plc (vm 37 0).toInt z) k.toInt.toNat) 4 z.2.2.2)) (vm 33 0).toInt r.toInt (u 33 0).toInt (fun z => (u 61 0).toInt = plc (vm 37 0).toInt z.1 ∧ (u 34 0).toInt = z.1.2.2.1 ∧ u 42 = upd (vm 42) k.toNatClampNeg (u 61 0)))) (MtB E (va_A (mdL E am vm) sz) (fun u => mdL E am u)) (va_A (mdL E am vm) sz)) 0 0 (va_A (mdL E am vm) sz) := by
  refine Met.ofW (cc := cX10_takeNewCell) (maxL := 4) (ret := (some .int)) (by decide) rfl ?_
  intro p e s m args below meth c s₁ B hml hv
  obtain ⟨rfl, hsz, hE, hP, hD0⟩ := hv
  subst hsz
  have hD := hD0.self (sz := s.heap.size)
  generalize hAe : va_A (mdL E am vm) s.heap.size = A at hD hE ⊢
  have hA : ∀ q : Nat, s.heap.size ≤ q → A q := fun q h => by rw [← hAe]; exact Or.inr h
  have hS : va_S A s.heap s.heap [] := va_S.rf
  have hx := B.exec
  have hb := B.bytes
  have hr := B.returns
  have hts := atoms_spec (ws := wsX10_takeNewCell) B.pre
  have hown : s.vm.findClass RX10 = some m.cls := findClass_of_methodNamed B.named
  have hlocks := B.notSynchronized
  have hK := hE.1
  have in_X10 : ∀ w ∈ u_ws RX10 TX10 79, w ∈ wsX10_takeNewCell := fun w h => List.mem_cons_of_mem _ (List.mem_append_right _ h)
  have lk0 := hts (.fieldLink RX10 210 "TidedGroundModel" "cellRead" "I") (List.mem_of_getElem? (i := 1) rfl)
  have lk1 := hts (.fieldLink RX10 195 "TidedGroundModel" "numberAt" "I") (List.mem_of_getElem? (i := 2) rfl)
  have n_0 : (0 : Int32).toInt = 0 := by decide
  have n_4 : (4 : Int32).toInt = 4 := by decide
  have hl := lv_entry ([.ref (am 0), .ref (am 42), .int k]) (n := 4) (Nat.le_of_ble_eq_true rfl)
  rw [lg_entry_eq]
  generalize (lg_sl ([.ref (am 0), .ref (am 42), .int k]) ++ List.replicate (4 - (lg_sl ([.ref (am 0), .ref (am 42), .int k])).length) Slot.unset).toArray = ls at hl ⊢
  have hl : lv_has ls 4 [(0, .ref (am 0)), (1, .ref (am 42)), (2, .int k)] := hl
  refine W_abs (fun Q hQ => ?_)
  have hH := hMI.1
  obtain ⟨hT1, hT2, hT3, hT4, hT5⟩ := id hH.2.2.2.2.2.2
  obtain ⟨ha1, ha2⟩ := id hat
  have hFz : fr lRd vm vm := fr.rf
  refine lv_aload_n hx hb dX10_takeNewCell_0 rfl (lv_at hl 0 rfl) ?_
  refine mt_Vi (w1 := fun (u : Vf) => mdL E am u) (wf := fun (u : Vf) => mdL E am u) (wr := []) (As := []) (rest := []) (C := RX10) (ci := 10) ⟨hx, hb, hml, hown, hts⟩ (c_X10_takeCell l E s.heap.size am vm hMI hat hrG (by omega) (by omega)) (cwV 0 hts gX10_takeNewCell_X10_takeCell rfl rfl rfl (by decide +kernel) ⟨Nat.le_of_ble_eq_true rfl, Nat.le_of_ble_eq_true rfl⟩) hE hS hA hP hD [0, 1, 2, 3, 4, 5, 6, 7, 8, 9, 10, 11, 12, 13, 14, 15, 16, 17, 18, 19, 20, 21, 22, 23, 24, 25, 26, 27, 28, 29, 30, 31, 32, 33, 34, 35, 36, 37, 38, 39, 40, 41, 42, 43, 44, 45] [] rfl rfl (by decide) (by decide) (by decide) [0, 1, 2, 3, 4, 5, 6, 7, 8, 9, 10, 11, 12, 13, 14, 15, 16, 17, 18, 19, 20, 21, 22, 23, 24, 25, 26, 27, 28, 29, 30, 31, 32, 33, 34, 35, 36, 37, 38, 39, 40, 41, 42, 43, 44, 45] (by decide) (fun u => rfl) rfl rfl rfl rfl hl.1 rfl (Nat.le_of_ble_eq_true rfl) dX10_takeNewCell_1 ⟨Nat.zero_le _, Nat.zero_le _⟩ (fun r1 u1 H locs h1 hP hD hS => ?_)
  generalize u1 = o1_vm at hP hD h1
  try dsimp only at h1
  have hf1 := h1.2
  replace h1 := h1.1
  have hFn1 := h1.2
  replace h1 := h1.1
  replace hP : va_P (eD E) vwCl (mdL E am o1_vm) H := hP
  replace hD : va_D A (mdL E am o1_vm) := hD
  have hFz : fr lRd vm o1_vm := by first | exact hFz | exact hFz.tr hFn1 (by decide) | (rw [← hv1]; repeat' (first | exact hFz | refine fr.up ?_ (by decide) | refine fr.up3 ?_ (by decide)))
  refine lv_istore_n (lv' := [(3, .int r1), (0, .ref (am 0)), (1, .ref (am 42)), (2, .int k)]) hx hb dX10_takeNewCell_4 rfl hl (by decide) rfl (fun ls hl => ?_)
  refine lv_iload_n hx hb dX10_takeNewCell_5 rfl (lv_at hl 0 rfl) ?_
  refine lv_if_le (tgt := 11) hx hb dX10_takeNewCell_6 (by decide) (fun c6 => ?_) (fun c6 => ?_)
  · have c6_ := i_le c6
    refine lv_aload_n hx hb dX10_takeNewCell_11 rfl (lv_at hl 2 rfl) ?_
    refine lv_iload_n hx hb dX10_takeNewCell_12 rfl (lv_at hl 3 rfl) ?_
    refine lv_aload_n hx hb dX10_takeNewCell_13 rfl (lv_at hl 1 rfl) ?_
    refine va_get (D := eD E) (ci := 10) (v := .int (o1_vm 61 0)) (C := RX10) (T := TX10) (N := 79) hx hb hts in_X10 hown hK hP 0 rfl rfl 61 (by decide) lk0 (fun _ h9 => h9) rfl dX10_takeNewCell_14 ?_
    refine va_iast hx hb hK hP hD hS 22 0 rfl rfl (n := 12) (f := (o1_vm 42)) (i_in (by omega) (by omega)) dX10_takeNewCell_17 (fun H locs hP hD hS => ?_)
    replace hP : va_P (eD E) vwCl (mdL E am (up2 o1_vm 42 k.toNatClampNeg (o1_vm 61 0))) H := hP
    replace hD : va_D A (mdL E am (up2 o1_vm 42 k.toNatClampNeg (o1_vm 61 0))) := hD
    generalize hv17 : up2 o1_vm 42 k.toNatClampNeg (o1_vm 61 0) = vm_17 at hP hD
    have hFz : fr lRd vm vm_17 := by first | exact hFz | (rw [← hv17]; exact hFz.up (by decide))
    have hk17 : scK 42 vm vm_17 := fun t a1 a2 a3 a4 a5 a6 => by rw [← hv17, up2_ne a6]; exact h1.1 t a1 a2 a3 a4 a5
    have hb17 : bnd (vm 42) 12 0 23 → bnd (vm_17 42) 12 0 23 := fun q => by rw [← hv17]; show bnd (upd (o1_vm 42) _ _) 12 0 23; rw [h1.1 42 (by decide) (by decide) (by decide) (by decide) (by decide)]; exact upd_b q (by omega) (by omega)
    have hat17 : atI vm_17 := by rw [← hv17]; exact h1.2.1
    have hq17 : (vm_17 34 0).toInt = (o1_vm 34 0).toInt := by rw [← hv17]; rfl
    have hc17 : (vm_17 61 0).toInt = (o1_vm 61 0).toInt := by rw [← hv17]; rfl
    have hK17 : vm_17 42 = upd (vm 42) k.toNatClampNeg (vm_17 61 0) := by rw [← hv17]; show upd (o1_vm 42) k.toNatClampNeg (o1_vm 61 0) = upd (vm 42) k.toNatClampNeg (o1_vm 61 0); rw [h1.1 42 (by decide) (by decide) (by decide) (by decide) (by decide)]
    have hr17 : vm_17 33 = o1_vm 33 ∧ vm_17 36 = o1_vm 36 := by rw [← hv17]; exact ⟨rfl, rfl⟩
    refine lv_aload_n hx hb dX10_takeNewCell_18 rfl (lv_at hl 2 rfl) ?_
    refine lv_iload_n hx hb dX10_takeNewCell_19 rfl (lv_at hl 3 rfl) ?_
    refine lv_aload_n hx hb dX10_takeNewCell_20 rfl (lv_at hl 1 rfl) ?_
    refine va_get (D := eD E) (ci := 10) (v := .int (vm_17 61 0)) (C := RX10) (T := TX10) (N := 79) hx hb hts in_X10 hown hK hP 0 rfl rfl 61 (by decide) lk0 (fun _ h9 => h9) rfl dX10_takeNewCell_21 ?_
    refine rd_S (As := [.ref (am 42), .int k, .int (vm_17 61 0)]) (rest := []) ⟨hx, hb, hml, hown, hts⟩ (c_X10_isAmong_12 l E A (am 42) (vm_17 42) k (vm_17 61 0) (by omega)) (va_cwS 3 hts gX10_takeNewCell_X10_isAmong rfl rfl rfl (by decide +kernel) ⟨Nat.le_of_ble_eq_true rfl, Nat.le_of_ble_eq_true rfl⟩) (hE.kept hS.2.1) (hP.sub (ws' := [((am 42), .inl (eI E, 12, .inl (vm_17 42)))]) [22] rfl) rfl hl.1 rfl (Nat.le_of_ble_eq_true rfl) dX10_takeNewCell_24 ⟨Nat.zero_le _, Nat.zero_le _⟩ (fun r24 h24 => ?_)
    have hf24 := h24.2
    replace h24 := h24.1
    have ha24 : anyE (fI (vm_17 42)) (vm_17 61 0).toInt k.toInt.toNat = anyE (fI (vm 42)) (vm_17 61 0).toInt k.toInt.toNat := any_congr _ (fun j hj => by show (vm_17 42 j).toInt = (vm 42 j).toInt; rw [hK17, updN (show j ≠ k.toNatClampNeg from fun q => absurd hj (by rw [q]; exact Nat.lt_irrefl _))])
    rw [ha24] at hf24
    refine lv_if_eq (tgt := 42) hx hb dX10_takeNewCell_27 (by decide) (fun c27 => ?_) (fun c27 => ?_)
    · have c27_ := i_eq c27
      clear h24
      have hb24 : anyE (fI (vm 42)) (vm_17 61 0).toInt k.toInt.toNat = false := (hf24.resolve_left (fun q => absurd q.1 (by omega))).2
      refine lv_iconst (v := 0) hx hb dX10_takeNewCell_42 (by decide) ?_
      subst hQ
      exact W.iret (v := 0) hx hb hr (fun t ht hW => ⟨⟨0, (vm_17), rfl, (show ((scK 42 vm vm_17 ∧ (bnd (vm 42) 12 0 23 → bnd (vm_17 42) 12 0 23) ∧ atI vm_17 ∧ (vm 34 0).toInt ≤ (vm_17 34 0).toInt ∧ (((0 : Int32).toInt = 0 ∧ 0 ≤ (vm_17 61 0).toInt ∧ (vm_17 61 0).toInt ≤ 23) ∨ (1 ≤ (0 : Int32).toInt ∧ (0 : Int32).toInt ≤ 4))) ∧ fr lRd vm vm_17) ∧ (MF (th (placeF (vm 31) (vm 32 0).toInt (vm 37 0).toInt (vm 38 0).toInt (vm 34 0).toInt) (fun z : ((Int × Int × Int) × (Int × Int × Int)) => chk (anyE (fI (vm 42)) (plc (vm 37 0).toInt z) k.toInt.toNat) 4 z.2.2.2)) (vm 33 0).toInt (0 : Int32).toInt (vm_17 33 0).toInt (fun z => (vm_17 61 0).toInt = plc (vm 37 0).toInt z.1 ∧ (vm_17 34 0).toInt = z.1.2.2.1 ∧ vm_17 42 = upd (vm 42) k.toNatClampNeg (vm_17 61 0))) from ⟨⟨⟨hk17, hb17, hat17, by omega, by omega⟩, hFz⟩, (MF.andOk (y := ()) hf1 (by omega) (okF.num.th (fun _ => okF.num)) (fun z hz => by show chk (anyE (fI (vm 42)) (plc (vm 37 0).toInt z) k.toInt.toNat) 4 z.2.2.2 = _; rw [← hz.1, ← hc17, hb24]; rfl) n_0 (by rw [hr17.1]) (fun z _ hz => ⟨hc17.trans hz.1, hq17.trans hz.2.1, hK17⟩))⟩), by rw [ht]; exact hP, hD⟩, hS.F ht⟩) hS.2.2 dX10_takeNewCell_43
    · have c27_ := i_ne c27
      replace h24 := b_y h24 c27_
      clear c27_
      have hb24 : anyE (fI (vm 42)) (vm_17 61 0).toInt k.toInt.toNat = true := (hf24.resolve_right (fun q => absurd q.1 (by omega))).2
      refine lv_aload_n hx hb dX10_takeNewCell_30 rfl (lv_at hl 1 rfl) ?_
      refine lv_iconst (v := 4) hx hb dX10_takeNewCell_31 (by decide) ?_
      refine lv_aload_n hx hb dX10_takeNewCell_32 rfl (lv_at hl 1 rfl) ?_
      refine va_get (D := eD E) (ci := 10) (v := .int (vm_17 36 0)) (C := RX10) (T := TX10) (N := 79) hx hb hts in_X10 hown hK hP 0 rfl rfl 36 (by decide) lk1 (fun _ h9 => h9) rfl dX10_takeNewCell_33 ?_
      refine mt_Vi (w1 := fun (u : Vf) => mdL E am u) (wf := fun (u : Vf) => mdL E am u) (wr := []) (As := [.int 4, .int (vm_17 36 0)]) (rest := []) (C := RX10) (ci := 10) ⟨hx, hb, hml, hown, hts⟩ (c_X10_fails l E H.size am vm_17 4 (vm_17 36 0)) (cwV 2 hts gX10_takeNewCell_X10_fails rfl rfl rfl (by decide +kernel) ⟨Nat.le_of_ble_eq_true rfl, Nat.le_of_ble_eq_true rfl⟩) hE hS hA hP hD [0, 1, 2, 3, 4, 5, 6, 7, 8, 9, 10, 11, 12, 13, 14, 15, 16, 17, 18, 19, 20, 21, 22, 23, 24, 25, 26, 27, 28, 29, 30, 31, 32, 33, 34, 35, 36, 37, 38, 39, 40, 41, 42, 43, 44, 45] [] rfl rfl (by decide) (by decide) (by decide) [0, 1, 2, 3, 4, 5, 6, 7, 8, 9, 10, 11, 12, 13, 14, 15, 16, 17, 18, 19, 20, 21, 22, 23, 24, 25, 26, 27, 28, 29, 30, 31, 32, 33, 34, 35, 36, 37, 38, 39, 40, 41, 42, 43, 44, 45] (by decide) (fun u => rfl) rfl rfl rfl rfl hl.1 rfl (Nat.le_of_ble_eq_true rfl) dX10_takeNewCell_36 ⟨Nat.zero_le _, Nat.zero_le _⟩ (fun r36 u36 H locs h36 hP hD hS => ?_)
      generalize u36 = o36_vm at hP hD h36
      try dsimp only at h36
      have hf36 := h36.2
      replace h36 := h36.1
      have hFn36 := h36.2
      replace h36 := h36.1
      replace hP : va_P (eD E) vwCl (mdL E am o36_vm) H := hP
      replace hD : va_D A (mdL E am o36_vm) := hD
      have hFz : fr lRd vm o36_vm := by first | exact hFz | exact hFz.tr hFn36 (by decide) | (rw [← hv36]; repeat' (first | exact hFz | refine fr.up ?_ (by decide) | refine fr.up3 ?_ (by decide)))
      have hq36 : (o36_vm 34 0).toInt = (vm_17 34 0).toInt := by rw [h36.2.2]
      have hr36 : r36.toInt = 4 := by rw [h36.1]; decide
      have hw36 : (o36_vm 33 0).toInt = (o1_vm 36 0).toInt := by rw [hf36]; show (vm_17 36 0).toInt = _; rw [hr17.2]
      refine lv_goto (tgt := 43) hx hb dX10_takeNewCell_39 (by decide) ?_
      subst hQ
      exact W.iret (v := r36) hx hb hr (fun t ht hW => ⟨⟨r36, (o36_vm), rfl, (show ((scK 42 vm o36_vm ∧ (bnd (vm 42) 12 0 23 → bnd (o36_vm 42) 12 0 23) ∧ atI o36_vm ∧ (vm 34 0).toInt ≤ (o36_vm 34 0).toInt ∧ ((r36.toInt = 0 ∧ 0 ≤ (o36_vm 61 0).toInt ∧ (o36_vm 61 0).toInt ≤ 23) ∨ (1 ≤ r36.toInt ∧ r36.toInt ≤ 4))) ∧ fr lRd vm o36_vm) ∧ (MF (th (placeF (vm 31) (vm 32 0).toInt (vm 37 0).toInt (vm 38 0).toInt (vm 34 0).toInt) (fun z : ((Int × Int × Int) × (Int × Int × Int)) => chk (anyE (fI (vm 42)) (plc (vm 37 0).toInt z) k.toInt.toNat) 4 z.2.2.2)) (vm 33 0).toInt r36.toInt (o36_vm 33 0).toInt (fun z => (o36_vm 61 0).toInt = plc (vm 37 0).toInt z.1 ∧ (o36_vm 34 0).toInt = z.1.2.2.1 ∧ o36_vm 42 = upd (vm 42) k.toNatClampNeg (o36_vm 61 0))) from ⟨⟨⟨(fun t a1 a2 a3 a4 a5 a6 => (h36.2.1 t a1 a2 a3 a4).trans (hk17 t a1 a2 a3 a4 a5 a6)), (fun q => by rw [h36.2.1 42 (by decide) (by decide) (by decide) (by decide)]; exact hb17 q), hat17.of h36.2.2 (h36.2.1 32 (by decide) (by decide) (by decide) (by decide)), by omega, by omega⟩, hFz⟩, (MF.andNo (k := 4) (q := (o1_vm 36 0).toInt) hf1 (by omega) (okF.num.th (fun _ => okF.num)) (fun z hz => by show chk (anyE (fI (vm 42)) (plc (vm 37 0).toInt z) k.toInt.toNat) 4 z.2.2.2 = _; rw [← hz.1, ← hc17, hb24, ← hz.2.2]; rfl) (by omega) hw36)⟩), by rw [ht]; exact hP, hD⟩, hS.F ht⟩) hS.2.2 dX10_takeNewCell_43
  · have c6_ := i_nle c6
    refine lv_iload_n hx hb dX10_takeNewCell_9 rfl (lv_at hl 0 rfl) ?_
    subst hQ
    exact W.iret (v := r1) hx hb hr (fun t ht hW => ⟨⟨r1, (o1_vm), rfl, (show ((scK 42 vm o1_vm ∧ (bnd (vm 42) 12 0 23 → bnd (o1_vm 42) 12 0 23) ∧ atI o1_vm ∧ (vm 34 0).toInt ≤ (o1_vm 34 0).toInt ∧ ((r1.toInt = 0 ∧ 0 ≤ (o1_vm 61 0).toInt ∧ (o1_vm 61 0).toInt ≤ 23) ∨ (1 ≤ r1.toInt ∧ r1.toInt ≤ 4))) ∧ fr lRd vm o1_vm) ∧ (MF (th (placeF (vm 31) (vm 32 0).toInt (vm 37 0).toInt (vm 38 0).toInt (vm 34 0).toInt) (fun z : ((Int × Int × Int) × (Int × Int × Int)) => chk (anyE (fI (vm 42)) (plc (vm 37 0).toInt z) k.toInt.toNat) 4 z.2.2.2)) (vm 33 0).toInt r1.toInt (o1_vm 33 0).toInt (fun z => (o1_vm 61 0).toInt = plc (vm 37 0).toInt z.1 ∧ (o1_vm 34 0).toInt = z.1.2.2.1 ∧ o1_vm 42 = upd (vm 42) k.toNatClampNeg (o1_vm 61 0))) from ⟨⟨⟨(fun t a1 a2 a3 a4 a5 a6 => h1.1 t a1 a2 a3 a4 a5), (fun q => by rw [h1.1 42 (by decide) (by decide) (by decide) (by decide) (by decide)]; exact q), h1.2.1, by omega, by omega⟩, hFz⟩, (hf1.stop (by omega))⟩), by rw [ht]; exact hP, hD⟩, hS.F ht⟩) hS.2.2 dX10_takeNewCell_10
def rm_X10_takeNewCell_49 : Room := { frames := 3, cells := 0, slots := 0, locals := 70 }
set_option maxHeartbeats 4000000 in
set_option maxRecDepth 100000 in
theorem c_X10_takeNewCell_49 (l : Launch) (E : Ev) (sz : Nat) (am : Nat → Nat) (vm : Vf) (k : Int32) (hMI : MdI vm) (hat : atI vm) (hrG : rdG vm) (hw1 : 1 ≤ (vm 37 0).toInt) (hd1 : 1 ≤ (vm 38 0).toInt) (hk : 0 ≤ k.toInt ∧ k.toInt ≤ 5) : Met l yX10_takeNewCell wsX10_takeNewCell rm_X10_takeNewCell_49 (MtP E sz [.ref (am 0), .ref (am 49), .int k] (mdL E am vm)) (va_Qi (fun (r : Int32) (u : Vf) => ((scK 49 vm u ∧ (bnd (vm 49) 6 0 23 → bnd (u 49) 6 0 23) ∧ atI u ∧ (vm 34 0).toInt ≤ (u 34 0).toInt ∧ ((r.toInt = 0 ∧ 0 ≤ (u 61 0).toInt ∧ (u 61 0).toInt ≤ 23) ∨ (1 ≤ r.toInt ∧ r.toInt ≤ 4))) ∧ fr lRd vm u) ∧ (MF (th (placeF (vm 31) (vm 32 0).toInt (vm 37 0).toInt (vm 38 0).toInt (vm 34 0).toInt) (fun z : ((Int × Int × Int) × (Int × Int × Int)) => chk (anyE (fI (vm 49)) (plc (vm 37 0).toInt z) k.toInt.toNat) 4 z.2.2.2)) (vm 33 0).toInt r.toInt (u 33 0).toInt (fun z => (u 61 0).toInt = plc (vm 37 0).toInt z.1 ∧ (u 34 0).toInt = z.1.2.2.1 ∧ u 49 = upd (vm 49) k.toNatClampNeg (u 61 0)))) (MtB E (va_A (mdL E am vm) sz) (fun u => mdL E am u)) (va_A (mdL E am vm) sz)) 0 0 (va_A (mdL E am vm) sz) := by
  refine Met.ofW (cc := cX10_takeNewCell) (maxL := 4) (ret := (some .int)) (by decide) rfl ?_
  intro p e s m args below meth c s₁ B hml hv
  obtain ⟨rfl, hsz, hE, hP, hD0⟩ := hv
  subst hsz
  have hD := hD0.self (sz := s.heap.size)
  generalize hAe : va_A (mdL E am vm) s.heap.size = A at hD hE ⊢
  have hA : ∀ q : Nat, s.heap.size ≤ q → A q := fun q h => by rw [← hAe]; exact Or.inr h
  have hS : va_S A s.heap s.heap [] := va_S.rf
  have hx := B.exec
  have hb := B.bytes
  have hr := B.returns
  have hts := atoms_spec (ws := wsX10_takeNewCell) B.pre
  have hown : s.vm.findClass RX10 = some m.cls := findClass_of_methodNamed B.named
  have hlocks := B.notSynchronized
  have hK := hE.1
  have in_X10 : ∀ w ∈ u_ws RX10 TX10 79, w ∈ wsX10_takeNewCell := fun w h => List.mem_cons_of_mem _ (List.mem_append_right _ h)
  have lk0 := hts (.fieldLink RX10 210 "TidedGroundModel" "cellRead" "I") (List.mem_of_getElem? (i := 1) rfl)
  have lk1 := hts (.fieldLink RX10 195 "TidedGroundModel" "numberAt" "I") (List.mem_of_getElem? (i := 2) rfl)
  have n_0 : (0 : Int32).toInt = 0 := by decide
  have n_4 : (4 : Int32).toInt = 4 := by decide
  have hl := lv_entry ([.ref (am 0), .ref (am 49), .int k]) (n := 4) (Nat.le_of_ble_eq_true rfl)
  rw [lg_entry_eq]
  generalize (lg_sl ([.ref (am 0), .ref (am 49), .int k]) ++ List.replicate (4 - (lg_sl ([.ref (am 0), .ref (am 49), .int k])).length) Slot.unset).toArray = ls at hl ⊢
  have hl : lv_has ls 4 [(0, .ref (am 0)), (1, .ref (am 49)), (2, .int k)] := hl
  refine W_abs (fun Q hQ => ?_)
  have hH := hMI.1
  obtain ⟨hT1, hT2, hT3, hT4, hT5⟩ := id hH.2.2.2.2.2.2
  obtain ⟨ha1, ha2⟩ := id hat
  have hFz : fr lRd vm vm := fr.rf
  refine lv_aload_n hx hb dX10_takeNewCell_0 rfl (lv_at hl 0 rfl) ?_
  refine mt_Vi (w1 := fun (u : Vf) => mdL E am u) (wf := fun (u : Vf) => mdL E am u) (wr := []) (As := []) (rest := []) (C := RX10) (ci := 10) ⟨hx, hb, hml, hown, hts⟩ (c_X10_takeCell l E s.heap.size am vm hMI hat hrG (by omega) (by omega)) (cwV 0 hts gX10_takeNewCell_X10_takeCell rfl rfl rfl (by decide +kernel) ⟨Nat.le_of_ble_eq_true rfl, Nat.le_of_ble_eq_true rfl⟩) hE hS hA hP hD [0, 1, 2, 3, 4, 5, 6, 7, 8, 9, 10, 11, 12, 13, 14, 15, 16, 17, 18, 19, 20, 21, 22, 23, 24, 25, 26, 27, 28, 29, 30, 31, 32, 33, 34, 35, 36, 37, 38, 39, 40, 41, 42, 43, 44, 45] [] rfl rfl (by decide) (by decide) (by decide) [0, 1, 2, 3, 4, 5, 6, 7, 8, 9, 10, 11, 12, 13, 14, 15, 16, 17, 18, 19, 20, 21, 22, 23, 24, 25, 26, 27, 28, 29, 30, 31, 32, 33, 34, 35, 36, 37, 38, 39, 40, 41, 42, 43, 44, 45] (by decide) (fun u => rfl) rfl rfl rfl rfl hl.1 rfl (Nat.le_of_ble_eq_true rfl) dX10_takeNewCell_1 ⟨Nat.zero_le _, Nat.zero_le _⟩ (fun r1 u1 H locs h1 hP hD hS => ?_)
  generalize u1 = o1_vm at hP hD h1
  try dsimp only at h1
  have hf1 := h1.2
  replace h1 := h1.1
  have hFn1 := h1.2
  replace h1 := h1.1
  replace hP : va_P (eD E) vwCl (mdL E am o1_vm) H := hP
  replace hD : va_D A (mdL E am o1_vm) := hD
  have hFz : fr lRd vm o1_vm := by first | exact hFz | exact hFz.tr hFn1 (by decide) | (rw [← hv1]; repeat' (first | exact hFz | refine fr.up ?_ (by decide) | refine fr.up3 ?_ (by decide)))
  refine lv_istore_n (lv' := [(3, .int r1), (0, .ref (am 0)), (1, .ref (am 49)), (2, .int k)]) hx hb dX10_takeNewCell_4 rfl hl (by decide) rfl (fun ls hl => ?_)
  refine lv_iload_n hx hb dX10_takeNewCell_5 rfl (lv_at hl 0 rfl) ?_
  refine lv_if_le (tgt := 11) hx hb dX10_takeNewCell_6 (by decide) (fun c6 => ?_) (fun c6 => ?_)
  · have c6_ := i_le c6
    refine lv_aload_n hx hb dX10_takeNewCell_11 rfl (lv_at hl 2 rfl) ?_
    refine lv_iload_n hx hb dX10_takeNewCell_12 rfl (lv_at hl 3 rfl) ?_
    refine lv_aload_n hx hb dX10_takeNewCell_13 rfl (lv_at hl 1 rfl) ?_
    refine va_get (D := eD E) (ci := 10) (v := .int (o1_vm 61 0)) (C := RX10) (T := TX10) (N := 79) hx hb hts in_X10 hown hK hP 0 rfl rfl 61 (by decide) lk0 (fun _ h9 => h9) rfl dX10_takeNewCell_14 ?_
    refine va_iast hx hb hK hP hD hS 27 0 rfl rfl (n := 6) (f := (o1_vm 49)) (i_in (by omega) (by omega)) dX10_takeNewCell_17 (fun H locs hP hD hS => ?_)
    replace hP : va_P (eD E) vwCl (mdL E am (up2 o1_vm 49 k.toNatClampNeg (o1_vm 61 0))) H := hP
    replace hD : va_D A (mdL E am (up2 o1_vm 49 k.toNatClampNeg (o1_vm 61 0))) := hD
    generalize hv17 : up2 o1_vm 49 k.toNatClampNeg (o1_vm 61 0) = vm_17 at hP hD
    have hFz : fr lRd vm vm_17 := by first | exact hFz | (rw [← hv17]; exact hFz.up (by decide))
    have hk17 : scK 49 vm vm_17 := fun t a1 a2 a3 a4 a5 a6 => by rw [← hv17, up2_ne a6]; exact h1.1 t a1 a2 a3 a4 a5
    have hb17 : bnd (vm 49) 6 0 23 → bnd (vm_17 49) 6 0 23 := fun q => by rw [← hv17]; show bnd (upd (o1_vm 49) _ _) 6 0 23; rw [h1.1 49 (by decide) (by decide) (by decide) (by decide) (by decide)]; exact upd_b q (by omega) (by omega)
    have hat17 : atI vm_17 := by rw [← hv17]; exact h1.2.1
    have hq17 : (vm_17 34 0).toInt = (o1_vm 34 0).toInt := by rw [← hv17]; rfl
    have hc17 : (vm_17 61 0).toInt = (o1_vm 61 0).toInt := by rw [← hv17]; rfl
    have hK17 : vm_17 49 = upd (vm 49) k.toNatClampNeg (vm_17 61 0) := by rw [← hv17]; show upd (o1_vm 49) k.toNatClampNeg (o1_vm 61 0) = upd (vm 49) k.toNatClampNeg (o1_vm 61 0); rw [h1.1 49 (by decide) (by decide) (by decide) (by decide) (by decide)]
    have hr17 : vm_17 33 = o1_vm 33 ∧ vm_17 36 = o1_vm 36 := by rw [← hv17]; exact ⟨rfl, rfl⟩
    refine lv_aload_n hx hb dX10_takeNewCell_18 rfl (lv_at hl 2 rfl) ?_
    refine lv_iload_n hx hb dX10_takeNewCell_19 rfl (lv_at hl 3 rfl) ?_
    refine lv_aload_n hx hb dX10_takeNewCell_20 rfl (lv_at hl 1 rfl) ?_
    refine va_get (D := eD E) (ci := 10) (v := .int (vm_17 61 0)) (C := RX10) (T := TX10) (N := 79) hx hb hts in_X10 hown hK hP 0 rfl rfl 61 (by decide) lk0 (fun _ h9 => h9) rfl dX10_takeNewCell_21 ?_
    refine rd_S (As := [.ref (am 49), .int k, .int (vm_17 61 0)]) (rest := []) ⟨hx, hb, hml, hown, hts⟩ (c_X10_isAmong_6 l E A (am 49) (vm_17 49) k (vm_17 61 0) (by omega)) (va_cwS 3 hts gX10_takeNewCell_X10_isAmong rfl rfl rfl (by decide +kernel) ⟨Nat.le_of_ble_eq_true rfl, Nat.le_of_ble_eq_true rfl⟩) (hE.kept hS.2.1) (hP.sub (ws' := [((am 49), .inl (eI E, 6, .inl (vm_17 49)))]) [27] rfl) rfl hl.1 rfl (Nat.le_of_ble_eq_true rfl) dX10_takeNewCell_24 ⟨Nat.zero_le _, Nat.zero_le _⟩ (fun r24 h24 => ?_)
    have hf24 := h24.2
    replace h24 := h24.1
    have ha24 : anyE (fI (vm_17 49)) (vm_17 61 0).toInt k.toInt.toNat = anyE (fI (vm 49)) (vm_17 61 0).toInt k.toInt.toNat := any_congr _ (fun j hj => by show (vm_17 49 j).toInt = (vm 49 j).toInt; rw [hK17, updN (show j ≠ k.toNatClampNeg from fun q => absurd hj (by rw [q]; exact Nat.lt_irrefl _))])
    rw [ha24] at hf24
    refine lv_if_eq (tgt := 42) hx hb dX10_takeNewCell_27 (by decide) (fun c27 => ?_) (fun c27 => ?_)
    · have c27_ := i_eq c27
      clear h24
      have hb24 : anyE (fI (vm 49)) (vm_17 61 0).toInt k.toInt.toNat = false := (hf24.resolve_left (fun q => absurd q.1 (by omega))).2
      refine lv_iconst (v := 0) hx hb dX10_takeNewCell_42 (by decide) ?_
      subst hQ
      exact W.iret (v := 0) hx hb hr (fun t ht hW => ⟨⟨0, (vm_17), rfl, (show ((scK 49 vm vm_17 ∧ (bnd (vm 49) 6 0 23 → bnd (vm_17 49) 6 0 23) ∧ atI vm_17 ∧ (vm 34 0).toInt ≤ (vm_17 34 0).toInt ∧ (((0 : Int32).toInt = 0 ∧ 0 ≤ (vm_17 61 0).toInt ∧ (vm_17 61 0).toInt ≤ 23) ∨ (1 ≤ (0 : Int32).toInt ∧ (0 : Int32).toInt ≤ 4))) ∧ fr lRd vm vm_17) ∧ (MF (th (placeF (vm 31) (vm 32 0).toInt (vm 37 0).toInt (vm 38 0).toInt (vm 34 0).toInt) (fun z : ((Int × Int × Int) × (Int × Int × Int)) => chk (anyE (fI (vm 49)) (plc (vm 37 0).toInt z) k.toInt.toNat) 4 z.2.2.2)) (vm 33 0).toInt (0 : Int32).toInt (vm_17 33 0).toInt (fun z => (vm_17 61 0).toInt = plc (vm 37 0).toInt z.1 ∧ (vm_17 34 0).toInt = z.1.2.2.1 ∧ vm_17 49 = upd (vm 49) k.toNatClampNeg (vm_17 61 0))) from ⟨⟨⟨hk17, hb17, hat17, by omega, by omega⟩, hFz⟩, (MF.andOk (y := ()) hf1 (by omega) (okF.num.th (fun _ => okF.num)) (fun z hz => by show chk (anyE (fI (vm 49)) (plc (vm 37 0).toInt z) k.toInt.toNat) 4 z.2.2.2 = _; rw [← hz.1, ← hc17, hb24]; rfl) n_0 (by rw [hr17.1]) (fun z _ hz => ⟨hc17.trans hz.1, hq17.trans hz.2.1, hK17⟩))⟩), by rw [ht]; exact hP, hD⟩, hS.F ht⟩) hS.2.2 dX10_takeNewCell_43
    · have c27_ := i_ne c27
      replace h24 := b_y h24 c27_
      clear c27_
      have hb24 : anyE (fI (vm 49)) (vm_17 61 0).toInt k.toInt.toNat = true := (hf24.resolve_right (fun q => absurd q.1 (by omega))).2
      refine lv_aload_n hx hb dX10_takeNewCell_30 rfl (lv_at hl 1 rfl) ?_
      refine lv_iconst (v := 4) hx hb dX10_takeNewCell_31 (by decide) ?_
      refine lv_aload_n hx hb dX10_takeNewCell_32 rfl (lv_at hl 1 rfl) ?_
      refine va_get (D := eD E) (ci := 10) (v := .int (vm_17 36 0)) (C := RX10) (T := TX10) (N := 79) hx hb hts in_X10 hown hK hP 0 rfl rfl 36 (by decide) lk1 (fun _ h9 => h9) rfl dX10_takeNewCell_33 ?_
      refine mt_Vi (w1 := fun (u : Vf) => mdL E am u) (wf := fun (u : Vf) => mdL E am u) (wr := []) (As := [.int 4, .int (vm_17 36 0)]) (rest := []) (C := RX10) (ci := 10) ⟨hx, hb, hml, hown, hts⟩ (c_X10_fails l E H.size am vm_17 4 (vm_17 36 0)) (cwV 2 hts gX10_takeNewCell_X10_fails rfl rfl rfl (by decide +kernel) ⟨Nat.le_of_ble_eq_true rfl, Nat.le_of_ble_eq_true rfl⟩) hE hS hA hP hD [0, 1, 2, 3, 4, 5, 6, 7, 8, 9, 10, 11, 12, 13, 14, 15, 16, 17, 18, 19, 20, 21, 22, 23, 24, 25, 26, 27, 28, 29, 30, 31, 32, 33, 34, 35, 36, 37, 38, 39, 40, 41, 42, 43, 44, 45] [] rfl rfl (by decide) (by decide) (by decide) [0, 1, 2, 3, 4, 5, 6, 7, 8, 9, 10, 11, 12, 13, 14, 15, 16, 17, 18, 19, 20, 21, 22, 23, 24, 25, 26, 27, 28, 29, 30, 31, 32, 33, 34, 35, 36, 37, 38, 39, 40, 41, 42, 43, 44, 45] (by decide) (fun u => rfl) rfl rfl rfl rfl hl.1 rfl (Nat.le_of_ble_eq_true rfl) dX10_takeNewCell_36 ⟨Nat.zero_le _, Nat.zero_le _⟩ (fun r36 u36 H locs h36 hP hD hS => ?_)
      generalize u36 = o36_vm at hP hD h36
      try dsimp only at h36
      have hf36 := h36.2
      replace h36 := h36.1
      have hFn36 := h36.2
      replace h36 := h36.1
      replace hP : va_P (eD E) vwCl (mdL E am o36_vm) H := hP
      replace hD : va_D A (mdL E am o36_vm) := hD
      have hFz : fr lRd vm o36_vm := by first | exact hFz | exact hFz.tr hFn36 (by decide) | (rw [← hv36]; repeat' (first | exact hFz | refine fr.up ?_ (by decide) | refine fr.up3 ?_ (by decide)))
      have hq36 : (o36_vm 34 0).toInt = (vm_17 34 0).toInt := by rw [h36.2.2]
      have hr36 : r36.toInt = 4 := by rw [h36.1]; decide
      have hw36 : (o36_vm 33 0).toInt = (o1_vm 36 0).toInt := by rw [hf36]; show (vm_17 36 0).toInt = _; rw [hr17.2]
      refine lv_goto (tgt := 43) hx hb dX10_takeNewCell_39 (by decide) ?_
      subst hQ
      exact W.iret (v := r36) hx hb hr (fun t ht hW => ⟨⟨r36, (o36_vm), rfl, (show ((scK 49 vm o36_vm ∧ (bnd (vm 49) 6 0 23 → bnd (o36_vm 49) 6 0 23) ∧ atI o36_vm ∧ (vm 34 0).toInt ≤ (o36_vm 34 0).toInt ∧ ((r36.toInt = 0 ∧ 0 ≤ (o36_vm 61 0).toInt ∧ (o36_vm 61 0).toInt ≤ 23) ∨ (1 ≤ r36.toInt ∧ r36.toInt ≤ 4))) ∧ fr lRd vm o36_vm) ∧ (MF (th (placeF (vm 31) (vm 32 0).toInt (vm 37 0).toInt (vm 38 0).toInt (vm 34 0).toInt) (fun z : ((Int × Int × Int) × (Int × Int × Int)) => chk (anyE (fI (vm 49)) (plc (vm 37 0).toInt z) k.toInt.toNat) 4 z.2.2.2)) (vm 33 0).toInt r36.toInt (o36_vm 33 0).toInt (fun z => (o36_vm 61 0).toInt = plc (vm 37 0).toInt z.1 ∧ (o36_vm 34 0).toInt = z.1.2.2.1 ∧ o36_vm 49 = upd (vm 49) k.toNatClampNeg (o36_vm 61 0))) from ⟨⟨⟨(fun t a1 a2 a3 a4 a5 a6 => (h36.2.1 t a1 a2 a3 a4).trans (hk17 t a1 a2 a3 a4 a5 a6)), (fun q => by rw [h36.2.1 49 (by decide) (by decide) (by decide) (by decide)]; exact hb17 q), hat17.of h36.2.2 (h36.2.1 32 (by decide) (by decide) (by decide) (by decide)), by omega, by omega⟩, hFz⟩, (MF.andNo (k := 4) (q := (o1_vm 36 0).toInt) hf1 (by omega) (okF.num.th (fun _ => okF.num)) (fun z hz => by show chk (anyE (fI (vm 49)) (plc (vm 37 0).toInt z) k.toInt.toNat) 4 z.2.2.2 = _; rw [← hz.1, ← hc17, hb24, ← hz.2.2]; rfl) (by omega) hw36)⟩), by rw [ht]; exact hP, hD⟩, hS.F ht⟩) hS.2.2 dX10_takeNewCell_43
  · have c6_ := i_nle c6
    refine lv_iload_n hx hb dX10_takeNewCell_9 rfl (lv_at hl 0 rfl) ?_
    subst hQ
    exact W.iret (v := r1) hx hb hr (fun t ht hW => ⟨⟨r1, (o1_vm), rfl, (show ((scK 49 vm o1_vm ∧ (bnd (vm 49) 6 0 23 → bnd (o1_vm 49) 6 0 23) ∧ atI o1_vm ∧ (vm 34 0).toInt ≤ (o1_vm 34 0).toInt ∧ ((r1.toInt = 0 ∧ 0 ≤ (o1_vm 61 0).toInt ∧ (o1_vm 61 0).toInt ≤ 23) ∨ (1 ≤ r1.toInt ∧ r1.toInt ≤ 4))) ∧ fr lRd vm o1_vm) ∧ (MF (th (placeF (vm 31) (vm 32 0).toInt (vm 37 0).toInt (vm 38 0).toInt (vm 34 0).toInt) (fun z : ((Int × Int × Int) × (Int × Int × Int)) => chk (anyE (fI (vm 49)) (plc (vm 37 0).toInt z) k.toInt.toNat) 4 z.2.2.2)) (vm 33 0).toInt r1.toInt (o1_vm 33 0).toInt (fun z => (o1_vm 61 0).toInt = plc (vm 37 0).toInt z.1 ∧ (o1_vm 34 0).toInt = z.1.2.2.1 ∧ o1_vm 49 = upd (vm 49) k.toNatClampNeg (o1_vm 61 0))) from ⟨⟨⟨(fun t a1 a2 a3 a4 a5 a6 => h1.1 t a1 a2 a3 a4 a5), (fun q => by rw [h1.1 49 (by decide) (by decide) (by decide) (by decide) (by decide)]; exact q), h1.2.1, by omega, by omega⟩, hFz⟩, (hf1.stop (by omega))⟩), by rw [ht]; exact hP, hD⟩, hS.F ht⟩) hS.2.2 dX10_takeNewCell_10
def rm_X10_takeNewCell_56 : Room := { frames := 3, cells := 0, slots := 0, locals := 70 }
set_option maxHeartbeats 4000000 in
set_option maxRecDepth 100000 in
theorem c_X10_takeNewCell_56 (l : Launch) (E : Ev) (sz : Nat) (am : Nat → Nat) (vm : Vf) (k : Int32) (hMI : MdI vm) (hat : atI vm) (hrG : rdG vm) (hw1 : 1 ≤ (vm 37 0).toInt) (hd1 : 1 ≤ (vm 38 0).toInt) (hk : 0 ≤ k.toInt ∧ k.toInt ≤ 4) : Met l yX10_takeNewCell wsX10_takeNewCell rm_X10_takeNewCell_56 (MtP E sz [.ref (am 0), .ref (am 56), .int k] (mdL E am vm)) (va_Qi (fun (r : Int32) (u : Vf) => ((scK 56 vm u ∧ (bnd (vm 56) 5 0 23 → bnd (u 56) 5 0 23) ∧ atI u ∧ (vm 34 0).toInt ≤ (u 34 0).toInt ∧ ((r.toInt = 0 ∧ 0 ≤ (u 61 0).toInt ∧ (u 61 0).toInt ≤ 23) ∨ (1 ≤ r.toInt ∧ r.toInt ≤ 4))) ∧ fr lRd vm u) ∧ (MF (th (placeF (vm 31) (vm 32 0).toInt (vm 37 0).toInt (vm 38 0).toInt (vm 34 0).toInt) (fun z : ((Int × Int × Int) × (Int × Int × Int)) => chk (anyE (fI (vm 56)) (plc (vm 37 0).toInt z) k.toInt.toNat) 4 z.2.2.2)) (vm 33 0).toInt r.toInt (u 33 0).toInt (fun z => (u 61 0).toInt = plc (vm 37 0).toInt z.1 ∧ (u 34 0).toInt = z.1.2.2.1 ∧ u 56 = upd (vm 56) k.toNatClampNeg (u 61 0)))) (MtB E (va_A (mdL E am vm) sz) (fun u => mdL E am u)) (va_A (mdL E am vm) sz)) 0 0 (va_A (mdL E am vm) sz) := by
  refine Met.ofW (cc := cX10_takeNewCell) (maxL := 4) (ret := (some .int)) (by decide) rfl ?_
  intro p e s m args below meth c s₁ B hml hv
  obtain ⟨rfl, hsz, hE, hP, hD0⟩ := hv
  subst hsz
  have hD := hD0.self (sz := s.heap.size)
  generalize hAe : va_A (mdL E am vm) s.heap.size = A at hD hE ⊢
  have hA : ∀ q : Nat, s.heap.size ≤ q → A q := fun q h => by rw [← hAe]; exact Or.inr h
  have hS : va_S A s.heap s.heap [] := va_S.rf
  have hx := B.exec
  have hb := B.bytes
  have hr := B.returns
  have hts := atoms_spec (ws := wsX10_takeNewCell) B.pre
  have hown : s.vm.findClass RX10 = some m.cls := findClass_of_methodNamed B.named
  have hlocks := B.notSynchronized
  have hK := hE.1
  have in_X10 : ∀ w ∈ u_ws RX10 TX10 79, w ∈ wsX10_takeNewCell := fun w h => List.mem_cons_of_mem _ (List.mem_append_right _ h)
  have lk0 := hts (.fieldLink RX10 210 "TidedGroundModel" "cellRead" "I") (List.mem_of_getElem? (i := 1) rfl)
  have lk1 := hts (.fieldLink RX10 195 "TidedGroundModel" "numberAt" "I") (List.mem_of_getElem? (i := 2) rfl)
  have n_0 : (0 : Int32).toInt = 0 := by decide
  have n_4 : (4 : Int32).toInt = 4 := by decide
  have hl := lv_entry ([.ref (am 0), .ref (am 56), .int k]) (n := 4) (Nat.le_of_ble_eq_true rfl)
  rw [lg_entry_eq]
  generalize (lg_sl ([.ref (am 0), .ref (am 56), .int k]) ++ List.replicate (4 - (lg_sl ([.ref (am 0), .ref (am 56), .int k])).length) Slot.unset).toArray = ls at hl ⊢
  have hl : lv_has ls 4 [(0, .ref (am 0)), (1, .ref (am 56)), (2, .int k)] := hl
  refine W_abs (fun Q hQ => ?_)
  have hH := hMI.1
  obtain ⟨hT1, hT2, hT3, hT4, hT5⟩ := id hH.2.2.2.2.2.2
  obtain ⟨ha1, ha2⟩ := id hat
  have hFz : fr lRd vm vm := fr.rf
  refine lv_aload_n hx hb dX10_takeNewCell_0 rfl (lv_at hl 0 rfl) ?_
  refine mt_Vi (w1 := fun (u : Vf) => mdL E am u) (wf := fun (u : Vf) => mdL E am u) (wr := []) (As := []) (rest := []) (C := RX10) (ci := 10) ⟨hx, hb, hml, hown, hts⟩ (c_X10_takeCell l E s.heap.size am vm hMI hat hrG (by omega) (by omega)) (cwV 0 hts gX10_takeNewCell_X10_takeCell rfl rfl rfl (by decide +kernel) ⟨Nat.le_of_ble_eq_true rfl, Nat.le_of_ble_eq_true rfl⟩) hE hS hA hP hD [0, 1, 2, 3, 4, 5, 6, 7, 8, 9, 10, 11, 12, 13, 14, 15, 16, 17, 18, 19, 20, 21, 22, 23, 24, 25, 26, 27, 28, 29, 30, 31, 32, 33, 34, 35, 36, 37, 38, 39, 40, 41, 42, 43, 44, 45] [] rfl rfl (by decide) (by decide) (by decide) [0, 1, 2, 3, 4, 5, 6, 7, 8, 9, 10, 11, 12, 13, 14, 15, 16, 17, 18, 19, 20, 21, 22, 23, 24, 25, 26, 27, 28, 29, 30, 31, 32, 33, 34, 35, 36, 37, 38, 39, 40, 41, 42, 43, 44, 45] (by decide) (fun u => rfl) rfl rfl rfl rfl hl.1 rfl (Nat.le_of_ble_eq_true rfl) dX10_takeNewCell_1 ⟨Nat.zero_le _, Nat.zero_le _⟩ (fun r1 u1 H locs h1 hP hD hS => ?_)
  generalize u1 = o1_vm at hP hD h1
  try dsimp only at h1
  have hf1 := h1.2
  replace h1 := h1.1
  have hFn1 := h1.2
  replace h1 := h1.1
  replace hP : va_P (eD E) vwCl (mdL E am o1_vm) H := hP
  replace hD : va_D A (mdL E am o1_vm) := hD
  have hFz : fr lRd vm o1_vm := by first | exact hFz | exact hFz.tr hFn1 (by decide) | (rw [← hv1]; repeat' (first | exact hFz | refine fr.up ?_ (by decide) | refine fr.up3 ?_ (by decide)))
  refine lv_istore_n (lv' := [(3, .int r1), (0, .ref (am 0)), (1, .ref (am 56)), (2, .int k)]) hx hb dX10_takeNewCell_4 rfl hl (by decide) rfl (fun ls hl => ?_)
  refine lv_iload_n hx hb dX10_takeNewCell_5 rfl (lv_at hl 0 rfl) ?_
  refine lv_if_le (tgt := 11) hx hb dX10_takeNewCell_6 (by decide) (fun c6 => ?_) (fun c6 => ?_)
  · have c6_ := i_le c6
    refine lv_aload_n hx hb dX10_takeNewCell_11 rfl (lv_at hl 2 rfl) ?_
    refine lv_iload_n hx hb dX10_takeNewCell_12 rfl (lv_at hl 3 rfl) ?_
    refine lv_aload_n hx hb dX10_takeNewCell_13 rfl (lv_at hl 1 rfl) ?_
    refine va_get (D := eD E) (ci := 10) (v := .int (o1_vm 61 0)) (C := RX10) (T := TX10) (N := 79) hx hb hts in_X10 hown hK hP 0 rfl rfl 61 (by decide) lk0 (fun _ h9 => h9) rfl dX10_takeNewCell_14 ?_
    refine va_iast hx hb hK hP hD hS 32 0 rfl rfl (n := 5) (f := (o1_vm 56)) (i_in (by omega) (by omega)) dX10_takeNewCell_17 (fun H locs hP hD hS => ?_)
    replace hP : va_P (eD E) vwCl (mdL E am (up2 o1_vm 56 k.toNatClampNeg (o1_vm 61 0))) H := hP
    replace hD : va_D A (mdL E am (up2 o1_vm 56 k.toNatClampNeg (o1_vm 61 0))) := hD
    generalize hv17 : up2 o1_vm 56 k.toNatClampNeg (o1_vm 61 0) = vm_17 at hP hD
    have hFz : fr lRd vm vm_17 := by first | exact hFz | (rw [← hv17]; exact hFz.up (by decide))
    have hk17 : scK 56 vm vm_17 := fun t a1 a2 a3 a4 a5 a6 => by rw [← hv17, up2_ne a6]; exact h1.1 t a1 a2 a3 a4 a5
    have hb17 : bnd (vm 56) 5 0 23 → bnd (vm_17 56) 5 0 23 := fun q => by rw [← hv17]; show bnd (upd (o1_vm 56) _ _) 5 0 23; rw [h1.1 56 (by decide) (by decide) (by decide) (by decide) (by decide)]; exact upd_b q (by omega) (by omega)
    have hat17 : atI vm_17 := by rw [← hv17]; exact h1.2.1
    have hq17 : (vm_17 34 0).toInt = (o1_vm 34 0).toInt := by rw [← hv17]; rfl
    have hc17 : (vm_17 61 0).toInt = (o1_vm 61 0).toInt := by rw [← hv17]; rfl
    have hK17 : vm_17 56 = upd (vm 56) k.toNatClampNeg (vm_17 61 0) := by rw [← hv17]; show upd (o1_vm 56) k.toNatClampNeg (o1_vm 61 0) = upd (vm 56) k.toNatClampNeg (o1_vm 61 0); rw [h1.1 56 (by decide) (by decide) (by decide) (by decide) (by decide)]
    have hr17 : vm_17 33 = o1_vm 33 ∧ vm_17 36 = o1_vm 36 := by rw [← hv17]; exact ⟨rfl, rfl⟩
    refine lv_aload_n hx hb dX10_takeNewCell_18 rfl (lv_at hl 2 rfl) ?_
    refine lv_iload_n hx hb dX10_takeNewCell_19 rfl (lv_at hl 3 rfl) ?_
    refine lv_aload_n hx hb dX10_takeNewCell_20 rfl (lv_at hl 1 rfl) ?_
    refine va_get (D := eD E) (ci := 10) (v := .int (vm_17 61 0)) (C := RX10) (T := TX10) (N := 79) hx hb hts in_X10 hown hK hP 0 rfl rfl 61 (by decide) lk0 (fun _ h9 => h9) rfl dX10_takeNewCell_21 ?_
    refine rd_S (As := [.ref (am 56), .int k, .int (vm_17 61 0)]) (rest := []) ⟨hx, hb, hml, hown, hts⟩ (c_X10_isAmong_5 l E A (am 56) (vm_17 56) k (vm_17 61 0) (by omega)) (va_cwS 3 hts gX10_takeNewCell_X10_isAmong rfl rfl rfl (by decide +kernel) ⟨Nat.le_of_ble_eq_true rfl, Nat.le_of_ble_eq_true rfl⟩) (hE.kept hS.2.1) (hP.sub (ws' := [((am 56), .inl (eI E, 5, .inl (vm_17 56)))]) [32] rfl) rfl hl.1 rfl (Nat.le_of_ble_eq_true rfl) dX10_takeNewCell_24 ⟨Nat.zero_le _, Nat.zero_le _⟩ (fun r24 h24 => ?_)
    have hf24 := h24.2
    replace h24 := h24.1
    have ha24 : anyE (fI (vm_17 56)) (vm_17 61 0).toInt k.toInt.toNat = anyE (fI (vm 56)) (vm_17 61 0).toInt k.toInt.toNat := any_congr _ (fun j hj => by show (vm_17 56 j).toInt = (vm 56 j).toInt; rw [hK17, updN (show j ≠ k.toNatClampNeg from fun q => absurd hj (by rw [q]; exact Nat.lt_irrefl _))])
    rw [ha24] at hf24
    refine lv_if_eq (tgt := 42) hx hb dX10_takeNewCell_27 (by decide) (fun c27 => ?_) (fun c27 => ?_)
    · have c27_ := i_eq c27
      clear h24
      have hb24 : anyE (fI (vm 56)) (vm_17 61 0).toInt k.toInt.toNat = false := (hf24.resolve_left (fun q => absurd q.1 (by omega))).2
      refine lv_iconst (v := 0) hx hb dX10_takeNewCell_42 (by decide) ?_
      subst hQ
      exact W.iret (v := 0) hx hb hr (fun t ht hW => ⟨⟨0, (vm_17), rfl, (show ((scK 56 vm vm_17 ∧ (bnd (vm 56) 5 0 23 → bnd (vm_17 56) 5 0 23) ∧ atI vm_17 ∧ (vm 34 0).toInt ≤ (vm_17 34 0).toInt ∧ (((0 : Int32).toInt = 0 ∧ 0 ≤ (vm_17 61 0).toInt ∧ (vm_17 61 0).toInt ≤ 23) ∨ (1 ≤ (0 : Int32).toInt ∧ (0 : Int32).toInt ≤ 4))) ∧ fr lRd vm vm_17) ∧ (MF (th (placeF (vm 31) (vm 32 0).toInt (vm 37 0).toInt (vm 38 0).toInt (vm 34 0).toInt) (fun z : ((Int × Int × Int) × (Int × Int × Int)) => chk (anyE (fI (vm 56)) (plc (vm 37 0).toInt z) k.toInt.toNat) 4 z.2.2.2)) (vm 33 0).toInt (0 : Int32).toInt (vm_17 33 0).toInt (fun z => (vm_17 61 0).toInt = plc (vm 37 0).toInt z.1 ∧ (vm_17 34 0).toInt = z.1.2.2.1 ∧ vm_17 56 = upd (vm 56) k.toNatClampNeg (vm_17 61 0))) from ⟨⟨⟨hk17, hb17, hat17, by omega, by omega⟩, hFz⟩, (MF.andOk (y := ()) hf1 (by omega) (okF.num.th (fun _ => okF.num)) (fun z hz => by show chk (anyE (fI (vm 56)) (plc (vm 37 0).toInt z) k.toInt.toNat) 4 z.2.2.2 = _; rw [← hz.1, ← hc17, hb24]; rfl) n_0 (by rw [hr17.1]) (fun z _ hz => ⟨hc17.trans hz.1, hq17.trans hz.2.1, hK17⟩))⟩), by rw [ht]; exact hP, hD⟩, hS.F ht⟩) hS.2.2 dX10_takeNewCell_43
    · have c27_ := i_ne c27
      replace h24 := b_y h24 c27_
      clear c27_
      have hb24 : anyE (fI (vm 56)) (vm_17 61 0).toInt k.toInt.toNat = true := (hf24.resolve_right (fun q => absurd q.1 (by omega))).2
      refine lv_aload_n hx hb dX10_takeNewCell_30 rfl (lv_at hl 1 rfl) ?_
      refine lv_iconst (v := 4) hx hb dX10_takeNewCell_31 (by decide) ?_
      refine lv_aload_n hx hb dX10_takeNewCell_32 rfl (lv_at hl 1 rfl) ?_
      refine va_get (D := eD E) (ci := 10) (v := .int (vm_17 36 0)) (C := RX10) (T := TX10) (N := 79) hx hb hts in_X10 hown hK hP 0 rfl rfl 36 (by decide) lk1 (fun _ h9 => h9) rfl dX10_takeNewCell_33 ?_
      refine mt_Vi (w1 := fun (u : Vf) => mdL E am u) (wf := fun (u : Vf) => mdL E am u) (wr := []) (As := [.int 4, .int (vm_17 36 0)]) (rest := []) (C := RX10) (ci := 10) ⟨hx, hb, hml, hown, hts⟩ (c_X10_fails l E H.size am vm_17 4 (vm_17 36 0)) (cwV 2 hts gX10_takeNewCell_X10_fails rfl rfl rfl (by decide +kernel) ⟨Nat.le_of_ble_eq_true rfl, Nat.le_of_ble_eq_true rfl⟩) hE hS hA hP hD [0, 1, 2, 3, 4, 5, 6, 7, 8, 9, 10, 11, 12, 13, 14, 15, 16, 17, 18, 19, 20, 21, 22, 23, 24, 25, 26, 27, 28, 29, 30, 31, 32, 33, 34, 35, 36, 37, 38, 39, 40, 41, 42, 43, 44, 45] [] rfl rfl (by decide) (by decide) (by decide) [0, 1, 2, 3, 4, 5, 6, 7, 8, 9, 10, 11, 12, 13, 14, 15, 16, 17, 18, 19, 20, 21, 22, 23, 24, 25, 26, 27, 28, 29, 30, 31, 32, 33, 34, 35, 36, 37, 38, 39, 40, 41, 42, 43, 44, 45] (by decide) (fun u => rfl) rfl rfl rfl rfl hl.1 rfl (Nat.le_of_ble_eq_true rfl) dX10_takeNewCell_36 ⟨Nat.zero_le _, Nat.zero_le _⟩ (fun r36 u36 H locs h36 hP hD hS => ?_)
      generalize u36 = o36_vm at hP hD h36
      try dsimp only at h36
      have hf36 := h36.2
      replace h36 := h36.1
      have hFn36 := h36.2
      replace h36 := h36.1
      replace hP : va_P (eD E) vwCl (mdL E am o36_vm) H := hP
      replace hD : va_D A (mdL E am o36_vm) := hD
      have hFz : fr lRd vm o36_vm := by first | exact hFz | exact hFz.tr hFn36 (by decide) | (rw [← hv36]; repeat' (first | exact hFz | refine fr.up ?_ (by decide) | refine fr.up3 ?_ (by decide)))
      have hq36 : (o36_vm 34 0).toInt = (vm_17 34 0).toInt := by rw [h36.2.2]
      have hr36 : r36.toInt = 4 := by rw [h36.1]; decide
      have hw36 : (o36_vm 33 0).toInt = (o1_vm 36 0).toInt := by rw [hf36]; show (vm_17 36 0).toInt = _; rw [hr17.2]
      refine lv_goto (tgt := 43) hx hb dX10_takeNewCell_39 (by decide) ?_
      subst hQ
      exact W.iret (v := r36) hx hb hr (fun t ht hW => ⟨⟨r36, (o36_vm), rfl, (show ((scK 56 vm o36_vm ∧ (bnd (vm 56) 5 0 23 → bnd (o36_vm 56) 5 0 23) ∧ atI o36_vm ∧ (vm 34 0).toInt ≤ (o36_vm 34 0).toInt ∧ ((r36.toInt = 0 ∧ 0 ≤ (o36_vm 61 0).toInt ∧ (o36_vm 61 0).toInt ≤ 23) ∨ (1 ≤ r36.toInt ∧ r36.toInt ≤ 4))) ∧ fr lRd vm o36_vm) ∧ (MF (th (placeF (vm 31) (vm 32 0).toInt (vm 37 0).toInt (vm 38 0).toInt (vm 34 0).toInt) (fun z : ((Int × Int × Int) × (Int × Int × Int)) => chk (anyE (fI (vm 56)) (plc (vm 37 0).toInt z) k.toInt.toNat) 4 z.2.2.2)) (vm 33 0).toInt r36.toInt (o36_vm 33 0).toInt (fun z => (o36_vm 61 0).toInt = plc (vm 37 0).toInt z.1 ∧ (o36_vm 34 0).toInt = z.1.2.2.1 ∧ o36_vm 56 = upd (vm 56) k.toNatClampNeg (o36_vm 61 0))) from ⟨⟨⟨(fun t a1 a2 a3 a4 a5 a6 => (h36.2.1 t a1 a2 a3 a4).trans (hk17 t a1 a2 a3 a4 a5 a6)), (fun q => by rw [h36.2.1 56 (by decide) (by decide) (by decide) (by decide)]; exact hb17 q), hat17.of h36.2.2 (h36.2.1 32 (by decide) (by decide) (by decide) (by decide)), by omega, by omega⟩, hFz⟩, (MF.andNo (k := 4) (q := (o1_vm 36 0).toInt) hf1 (by omega) (okF.num.th (fun _ => okF.num)) (fun z hz => by show chk (anyE (fI (vm 56)) (plc (vm 37 0).toInt z) k.toInt.toNat) 4 z.2.2.2 = _; rw [← hz.1, ← hc17, hb24, ← hz.2.2]; rfl) (by omega) hw36)⟩), by rw [ht]; exact hP, hD⟩, hS.F ht⟩) hS.2.2 dX10_takeNewCell_43
  · have c6_ := i_nle c6
    refine lv_iload_n hx hb dX10_takeNewCell_9 rfl (lv_at hl 0 rfl) ?_
    subst hQ
    exact W.iret (v := r1) hx hb hr (fun t ht hW => ⟨⟨r1, (o1_vm), rfl, (show ((scK 56 vm o1_vm ∧ (bnd (vm 56) 5 0 23 → bnd (o1_vm 56) 5 0 23) ∧ atI o1_vm ∧ (vm 34 0).toInt ≤ (o1_vm 34 0).toInt ∧ ((r1.toInt = 0 ∧ 0 ≤ (o1_vm 61 0).toInt ∧ (o1_vm 61 0).toInt ≤ 23) ∨ (1 ≤ r1.toInt ∧ r1.toInt ≤ 4))) ∧ fr lRd vm o1_vm) ∧ (MF (th (placeF (vm 31) (vm 32 0).toInt (vm 37 0).toInt (vm 38 0).toInt (vm 34 0).toInt) (fun z : ((Int × Int × Int) × (Int × Int × Int)) => chk (anyE (fI (vm 56)) (plc (vm 37 0).toInt z) k.toInt.toNat) 4 z.2.2.2)) (vm 33 0).toInt r1.toInt (o1_vm 33 0).toInt (fun z => (o1_vm 61 0).toInt = plc (vm 37 0).toInt z.1 ∧ (o1_vm 34 0).toInt = z.1.2.2.1 ∧ o1_vm 56 = upd (vm 56) k.toNatClampNeg (o1_vm 61 0))) from ⟨⟨⟨(fun t a1 a2 a3 a4 a5 a6 => h1.1 t a1 a2 a3 a4 a5), (fun q => by rw [h1.1 56 (by decide) (by decide) (by decide) (by decide) (by decide)]; exact q), h1.2.1, by omega, by omega⟩, hFz⟩, (hf1.stop (by omega))⟩), by rw [ht]; exact hP, hD⟩, hS.F ht⟩) hS.2.2 dX10_takeNewCell_10
def rm_X10_takeOne : Room := { frames := 4, cells := 0, slots := 0, locals := 93 }
set_option maxHeartbeats 4000000 in
set_option maxRecDepth 100000 in
theorem c_X10_takeOne (l : Launch) (E : Ev) (sz : Nat) (am : Nat → Nat) (vm : Vf) (S : St0) (hMI : MdI vm) (hat : atI vm) (hRd : RdM vm) (hw1 : 1 ≤ (vm 37 0).toInt) (hcn : (vm 41 0).toInt ≤ 11) (hSM : SM S vm) : Met l yX10_takeOne wsX10_takeOne rm_X10_takeOne (MtP E sz [.ref (am 0)] (mdL E am vm)) (va_Qi (fun (r : Int32) (u : Vf) => ((MdI u ∧ atI u ∧ (vm 34 0).toInt ≤ (u 34 0).toInt ∧ (0 ≤ r.toInt ∧ r.toInt ≤ 4) ∧ (r.toInt = 0 → RdM u)) ∧ fr lRd vm u) ∧ (∀ wa, TK (cellP (vm 31) (vm 32 0).toInt S wa (vm 34 0).toInt) (cellF (vm 31) (vm 32 0).toInt S wa (vm 34 0).toInt) (vm 33 0).toInt r.toInt (u 33 0).toInt (fun x => (u 34 0).toInt = x.2.2.1 ∧ SM (cellS S (plc (S 37 0) x.1.1.1.2) x.1.2.1 x.2.1) u))) (MtB E (va_A (mdL E am vm) sz) (fun u => mdL E am u)) (va_A (mdL E am vm) sz)) 0 0 (va_A (mdL E am vm) sz) := by
  refine Met.ofW (cc := cX10_takeOne) (maxL := 3) (ret := (some .int)) (by decide) rfl ?_
  intro p e s m args below meth c s₁ B hml hv
  obtain ⟨rfl, hsz, hE, hP, hD0⟩ := hv
  subst hsz
  have hD := hD0.self (sz := s.heap.size)
  generalize hAe : va_A (mdL E am vm) s.heap.size = A at hD hE ⊢
  have hA : ∀ q : Nat, s.heap.size ≤ q → A q := fun q h => by rw [← hAe]; exact Or.inr h
  have hS : va_S A s.heap s.heap [] := va_S.rf
  have hx := B.exec
  have hb := B.bytes
  have hr := B.returns
  have hts := atoms_spec (ws := wsX10_takeOne) B.pre
  have hown : s.vm.findClass RX10 = some m.cls := findClass_of_methodNamed B.named
  have hlocks := B.notSynchronized
  have hK := hE.1
  have in_X10 : ∀ w ∈ u_ws RX10 TX10 79, w ∈ wsX10_takeOne := fun w h => List.mem_cons_of_mem _ (List.mem_append_right _ h)
  have lk0 := hts (.fieldLink RX10 220 "TidedGroundModel" "readTold" "I") (List.mem_of_getElem? (i := 1) rfl)
  have lk1 := hts (.fieldLink RX10 83 "TidedGroundModel" "toldCell" "[I") (List.mem_of_getElem? (i := 2) rfl)
  have lk2 := hts (.fieldLink RX10 210 "TidedGroundModel" "cellRead" "I") (List.mem_of_getElem? (i := 3) rfl)
  have lk3 := hts (.fieldLink RX10 80 "TidedGroundModel" "readSoft" "[I") (List.mem_of_getElem? (i := 5) rfl)
  have lk4 := hts (.fieldLink RX10 77 "TidedGroundModel" "readBase" "[I") (List.mem_of_getElem? (i := 4) rfl)
  have n_0 : (0 : Int32).toInt = 0 := by decide
  have n_1 : (1 : Int32).toInt = 1 := by decide
  have n_9 : (9 : Int32).toInt = 9 := by decide
  have n_99 : (99 : Int32).toInt = 99 := by decide
  have hl := lv_entry ([.ref (am 0)]) (n := 3) (Nat.le_of_ble_eq_true rfl)
  rw [lg_entry_eq]
  generalize (lg_sl ([.ref (am 0)]) ++ List.replicate (3 - (lg_sl ([.ref (am 0)])).length) Slot.unset).toArray = ls at hl ⊢
  have hl : lv_has ls 3 [(0, .ref (am 0))] := hl
  refine W_abs (fun Q hQ => ?_)
  have hH := hMI.1
  obtain ⟨hT1, hT2, hT3, hT4, hT5⟩ := id hH.2.2.2.2.2.2
  obtain ⟨ha1, ha2⟩ := id hat
  obtain ⟨hrG, hrC, hrZ, hrMo, hrB, hrD⟩ := id hRd
  obtain ⟨hrc1, hrc2, hrc3, hrc4, hrc5, hrc6⟩ := id hrC
  have hd1 : 1 ≤ (vm 38 0).toInt := by rcases hrZ with q | q <;> omega
  have hs37 : S 37 0 = (vm 37 0).toInt := hSM 37 (by decide) 0
  have hs38 : S 38 0 = (vm 38 0).toInt := hSM 38 (by decide) 0
  have hs41 : S 41 0 = (vm 41 0).toInt := hSM 41 (by decide) 0
  have ha42 : S 42 = fI (vm 42) := hSM.at 42 (by decide)
  have hck : ∀ wa, chk (decide (12 ≤ S 41 0)) 3 wa = .inr () := fun wa => chk_off (by omega)
  have hFz : fr lRd vm vm := fr.rf
  refine lv_aload_n hx hb dX10_takeOne_0 rfl (lv_at hl 0 rfl) ?_
  refine lv_dup hx hb dX10_takeOne_1 rfl ?_
  refine va_get (D := eD E) (ci := 10) (v := .int (vm 41 0)) (C := RX10) (T := TX10) (N := 79) hx hb hts in_X10 hown hK hP 0 rfl rfl 41 (by decide) lk0 (fun _ h9 => h9) rfl dX10_takeOne_2 ?_
  refine lv_iconst (v := 1) hx hb dX10_takeOne_5 (by decide) ?_
  refine lv_iadd hx hb dX10_takeOne_6 ?_
  refine lv_topi (fun x6 e6 => ?_)
  have t6 := i_add e6 (by omega)
  refine va_put (D := eD E) (ci := 10) (v := .int x6) (ty := .int) (C := RX10) (T := TX10) (N := 79) hx hb hts in_X10 tyX10 tyX10_ok nmX10 hown hK hP hD hS 0 rfl rfl 41 (by decide) lk0 (fun _ h9 => h9) rfl (by decide +kernel) rfl rfl (Nat.le_of_ble_eq_true rfl) dX10_takeOne_7 (fun H locs hP hD hS => ?_)
  replace hP : va_P (eD E) vwCl (mdL E am (up2 vm 41 0 x6)) H := hP
  replace hD : va_D A (mdL E am (up2 vm 41 0 x6)) := hD
  generalize hv7 : up2 vm 41 0 x6 = vm_7 at hP hD
  have hFz : fr lRd vm vm_7 := by first | exact hFz | (rw [← hv7]; exact hFz.up (by decide))
  have hMI : MdI vm_7 := by rw [← hv7]; exact hMI
  have hat : atI vm_7 := by rw [← hv7]; exact hat
  have hq7 : (vm_7 41 0).toInt = x6.toInt := by rw [← hv7]; rfl
  have hq7_37 : (vm_7 37 0).toInt = (vm 37 0).toInt := by rw [← hv7]; rfl
  have hq7_38 : (vm_7 38 0).toInt = (vm 38 0).toInt := by rw [← hv7]; rfl
  have hq7_34 : (vm_7 34 0).toInt = (vm 34 0).toInt := by rw [← hv7]; rfl
  have hRd : RdM vm_7 := by rw [← hv7]; exact rd_told hRd (by omega)
  have hrG : rdG vm_7 := by rw [← hv7]; exact hrG
  have hSM7 : SM (upS S 41 0 (S 41 0 + 1)) vm_7 := hSM.cnt hv7 (by omega)
  refine lv_aload_n hx hb dX10_takeOne_10 rfl (lv_at hl 0 rfl) ?_
  refine lv_aload_n hx hb dX10_takeOne_11 rfl (lv_at hl 0 rfl) ?_
  refine va_get (D := eD E) (ci := 10) (v := .ref (am 42)) (C := RX10) (T := TX10) (N := 79) hx hb hts in_X10 hown hK hP 0 rfl rfl 42 (by decide) lk1 (fun _ h9 => h9) rfl dX10_takeOne_12 ?_
  refine lv_aload_n hx hb dX10_takeOne_15 rfl (lv_at hl 0 rfl) ?_
  refine va_get (D := eD E) (ci := 10) (v := .int (vm_7 41 0)) (C := RX10) (T := TX10) (N := 79) hx hb hts in_X10 hown hK hP 0 rfl rfl 41 (by decide) lk0 (fun _ h9 => h9) rfl dX10_takeOne_16 ?_
  have sv19_vm_7410 : 1 ≤ (vm_7 41 0).toInt ∧ (vm_7 41 0).toInt ≤ 12 := by omega
  refine lv_iconst (v := 1) hx hb dX10_takeOne_19 (by decide) ?_
  refine lv_isub hx hb dX10_takeOne_20 ?_
  refine lv_topi (fun x20 e20 => ?_)
  have t20 := i_sub e20 (by omega)
  refine mt_Vi (w1 := fun (u : Vf) => mdL E am u) (wf := fun (u : Vf) => mdL E am u) (wr := []) (As := [.ref (am 42), .int x20]) (rest := []) (C := RX10) (ci := 10) ⟨hx, hb, hml, hown, hts⟩ (c_X10_takeNewCell_42 l E H.size am vm_7 x20 hMI hat hrG (by omega) (by omega) (by omega)) (cwV 2 hts gX10_takeOne_X10_takeNewCell rfl rfl rfl (by decide +kernel) ⟨Nat.le_of_ble_eq_true rfl, Nat.le_of_ble_eq_true rfl⟩) hE hS hA hP hD [0, 1, 2, 3, 4, 5, 6, 7, 8, 9, 10, 11, 12, 13, 14, 15, 16, 17, 18, 19, 20, 21, 22, 23, 24, 25, 26, 27, 28, 29, 30, 31, 32, 33, 34, 35, 36, 37, 38, 39, 40, 41, 42, 43, 44, 45] [] rfl rfl (by decide) (by decide) (by decide) [0, 1, 2, 3, 4, 5, 6, 7, 8, 9, 10, 11, 12, 13, 14, 15, 16, 17, 18, 19, 20, 21, 22, 23, 24, 25, 26, 27, 28, 29, 30, 31, 32, 33, 34, 35, 36, 37, 38, 39, 40, 41, 42, 43, 44, 45] (by decide) (fun u => rfl) rfl rfl rfl rfl hl.1 rfl (Nat.le_of_ble_eq_true rfl) dX10_takeOne_21 ⟨Nat.zero_le _, Nat.zero_le _⟩ (fun r21 u21 H locs h21 hP hD hS => ?_)
  generalize u21 = o21_vm at hP hD h21
  try dsimp only at h21
  have hf21 := h21.2
  replace h21 := h21.1
  have hFn21 := h21.2
  replace h21 := h21.1
  replace hP : va_P (eD E) vwCl (mdL E am o21_vm) H := hP
  replace hD : va_D A (mdL E am o21_vm) := hD
  have hFz : fr lRd vm o21_vm := by first | exact hFz | exact hFz.tr hFn21 (by decide) | (rw [← hv21]; repeat' (first | exact hFz | refine fr.up ?_ (by decide) | refine fr.up3 ?_ (by decide)))
  have hMI : MdI o21_vm := hMI.on (h21.1.mem (by decide))
  have hRd : RdM o21_vm := hRd.on (h21.1.mem (by decide))
  have hat := h21.2.2.1
  have hg21 : MF (th (placeF (vm 31) (vm 32 0).toInt (S 37 0) (S 38 0) (vm 34 0).toInt) (fun z : ((Int × Int × Int) × (Int × Int × Int)) => chk (anyE (S 42) (plc (S 37 0) z) (S 41 0).toNat) 4 z.2.2.2)) (vm 33 0).toInt r21.toInt (o21_vm 33 0).toInt (fun z => (o21_vm 61 0).toInt = plc (S 37 0) z.1 ∧ (o21_vm 34 0).toInt = z.1.2.2.1 ∧ o21_vm 42 = upd (vm 42) x20.toNatClampNeg (o21_vm 61 0)) := by rw [hs37, hs38, ha42, hs41, show (vm 41 0).toInt = x20.toInt by omega]; rw [← hv7] at hf21; exact hf21
  have hh21 := fun wa => MF.pre (hck wa) hg21
  have hT21 : o21_vm 31 = vm 31 := by rw [h21.1 31 (by decide) (by decide) (by decide) (by decide) (by decide) (by decide), ← hv7]; rfl
  have hN21 : o21_vm 32 = vm 32 := by rw [h21.1 32 (by decide) (by decide) (by decide) (by decide) (by decide) (by decide), ← hv7]; rfl
  refine lv_istore_n (lv' := [(1, .int r21), (0, .ref (am 0))]) hx hb dX10_takeOne_24 rfl hl (by decide) rfl (fun ls hl => ?_)
  refine lv_aload_n hx hb dX10_takeOne_25 rfl (lv_at hl 1 rfl) ?_
  refine va_get (D := eD E) (ci := 10) (v := .int (o21_vm 61 0)) (C := RX10) (T := TX10) (N := 79) hx hb hts in_X10 hown hK hP 0 rfl rfl 61 (by decide) lk2 (fun _ h9 => h9) rfl dX10_takeOne_26 ?_
  refine lv_istore_n (lv' := [(2, .int (o21_vm 61 0)), (1, .int r21), (0, .ref (am 0))]) hx hb dX10_takeOne_29 rfl hl (by decide) rfl (fun ls hl => ?_)
  refine lv_iload_n hx hb dX10_takeOne_30 rfl (lv_at hl 1 rfl) ?_
  have K50 : ∀  (fz : Int32) (vk : Vf) (H : Heap) (locs : List Loc) (ls : Array Slot), va_P (eD E) vwCl (mdL E am vk) H → va_D A (mdL E am vk) → va_S A s.heap H locs → (MdI vk) → (atI vk) → ((vm 34 0).toInt ≤ (vk 34 0).toInt) → ((fz.toInt = 0 ∧ 0 ≤ (o21_vm 61 0).toInt ∧ (o21_vm 61 0).toInt ≤ 23) ∨ (1 ≤ fz.toInt ∧ fz.toInt ≤ 4)) → (fz.toInt = 0 → RdM vk) → (fr lRd vm vk) → (∀ wa, MF (cellQ (vm 31) (vm 32 0).toInt S wa (vm 34 0).toInt) (vm 33 0).toInt fz.toInt (vk 33 0).toInt (fun z => (vk 34 0).toInt = z.2.2.1 ∧ (o21_vm 61 0).toInt = plc (S 37 0) z.1.1.2 ∧ SM (upS (upS (upS S 41 0 (S 41 0 + 1)) 42 (S 41 0).toNat (plc (S 37 0) z.1.1.2)) 39 (plc (S 37 0) z.1.1.2).toNat z.2.1) vk)) → (vk 31 = vm 31 ∧ vk 32 = vm 32) → lv_has ls 3 [(0, .ref (am 0)), (1, .int r21), (2, .int (o21_vm 61 0))] → W p l e (headSpec wsX10_takeOne rm_X10_takeOne).room s m ([.ref (am 0)] : List Value).toArray below meth c H locs 0 0 Q (F0 m 50 ls [.int fz]) := by
    intro fz vk H locs ls hP hD hS h50_0 h50_1 h50_2 h50_3 h50_4 h50_5 h50_6 h50_7 hl
    have hx50_0 := h50_6
    clear h50_6
    have hx50_1 := h50_7
    clear h50_7
    have hMI := h50_0
    have hat := h50_1
    have hFz := h50_5
    refine lv_istore_n (lv' := [(1, .int fz), (0, .ref (am 0)), (2, .int (o21_vm 61 0))]) hx hb dX10_takeOne_50 rfl hl (by decide) rfl (fun ls hl => ?_)
    refine lv_iload_n hx hb dX10_takeOne_51 rfl (lv_at hl 0 rfl) ?_
    refine lv_if_le (tgt := 59) hx hb dX10_takeOne_52 (by decide) (fun c52 => ?_) (fun c52 => ?_)
    · have c52_ := i_le c52
      refine lv_aload_n hx hb dX10_takeOne_59 rfl (lv_at hl 1 rfl) ?_
      refine lv_aload_n hx hb dX10_takeOne_60 rfl (lv_at hl 1 rfl) ?_
      refine va_get (D := eD E) (ci := 10) (v := .ref (am 40)) (C := RX10) (T := TX10) (N := 79) hx hb hts in_X10 hown hK hP 0 rfl rfl 40 (by decide) lk3 (fun _ h9 => h9) rfl dX10_takeOne_61 ?_
      refine lv_iload_n hx hb dX10_takeOne_64 rfl (lv_at hl 2 rfl) ?_
      refine lv_iconst (v := 0) hx hb dX10_takeOne_65 (by decide) ?_
      refine lv_bipush (v := 9) hx hb dX10_takeOne_66 (by decide) ?_
      refine mt_Vi (w1 := fun (u : Vf) => mdL E am u) (wf := fun (u : Vf) => mdL E am u) (wr := []) (As := [.ref (am 40), .int (o21_vm 61 0), .int 0, .int 9]) (rest := []) (C := RX10) (ci := 10) ⟨hx, hb, hml, hown, hts⟩ (c_X10_into_40 l E H.size am vk (o21_vm 61 0) 0 9 hMI hat (by omega)) (cwV 4 hts gX10_takeOne_X10_into rfl rfl rfl (by decide +kernel) ⟨Nat.le_of_ble_eq_true rfl, Nat.le_of_ble_eq_true rfl⟩) hE hS hA hP hD [0, 1, 2, 3, 4, 5, 6, 7, 8, 9, 10, 11, 12, 13, 14, 15, 16, 17, 18, 19, 20, 21, 22, 23, 24, 25, 26, 27, 28, 29, 30, 31, 32, 33, 34, 35, 36, 37, 38, 39, 40, 41, 42, 43, 44, 45] [] rfl rfl (by decide) (by decide) (by decide) [0, 1, 2, 3, 4, 5, 6, 7, 8, 9, 10, 11, 12, 13, 14, 15, 16, 17, 18, 19, 20, 21, 22, 23, 24, 25, 26, 27, 28, 29, 30, 31, 32, 33, 34, 35, 36, 37, 38, 39, 40, 41, 42, 43, 44, 45] (by decide) (fun u => rfl) rfl rfl rfl rfl hl.1 rfl (Nat.le_of_ble_eq_true rfl) dX10_takeOne_68 ⟨Nat.zero_le _, Nat.zero_le _⟩ (fun r68 u68 H locs h68 hP hD hS => ?_)
      generalize u68 = o68_vm at hP hD h68
      try dsimp only at h68
      have hf68 := h68.2
      replace h68 := h68.1
      have hFn68 := h68.2
      replace h68 := h68.1
      replace hP : va_P (eD E) vwCl (mdL E am o68_vm) H := hP
      replace hD : va_D A (mdL E am o68_vm) := hD
      have hFz : fr lRd vm o68_vm := by first | exact hFz | exact hFz.tr hFn68 (by decide) | (rw [← hv68]; repeat' (first | exact hFz | refine fr.up ?_ (by decide) | refine fr.up3 ?_ (by decide)))
      have hMI : MdI o68_vm := hMI.on (h68.1.mem (by decide))
      obtain ⟨y68, hy68, hr68⟩ := id h68.2.1
      have hm68 := h68.2.2.2
      have hn68 := hf68.1
      rw [n_0, n_9, hx50_1.1, hx50_1.2] at hn68
      subst hQ
      exact W.iret (v := r68) hx hb hr (fun t ht hW => ⟨⟨r68, (o68_vm), rfl, (show ((MdI o68_vm ∧ atI o68_vm ∧ (vm 34 0).toInt ≤ (o68_vm 34 0).toInt ∧ (0 ≤ r68.toInt ∧ r68.toInt ≤ 4) ∧ (r68.toInt = 0 → RdM o68_vm)) ∧ fr lRd vm o68_vm) ∧ (∀ wa, TK (cellP (vm 31) (vm 32 0).toInt S wa (vm 34 0).toInt) (cellF (vm 31) (vm 32 0).toInt S wa (vm 34 0).toInt) (vm 33 0).toInt r68.toInt (o68_vm 33 0).toInt (fun x => (o68_vm 34 0).toInt = x.2.2.1 ∧ SM (cellS S (plc (S 37 0) x.1.1.1.2) x.1.2.1 x.2.1) o68_vm)) from ⟨⟨⟨hMI, h68.2.2.1, by omega, by omega, fun q => rd_soft (h50_4 (by omega)) h68.1 hy68 (by omega)⟩, hFz⟩, (fun wa => MF.tk (MF.mono (MF.then (s := fun z : ((Unit × ((Int × Int × Int) × (Int × Int × Int))) × Unit) × (Int × Int × Int) => numF (vm 31) (vm 32 0).toInt 0 9 z.2.2.1) (hx50_0 wa) (by omega) hn68 ((((okF.chk (by decide)).th (fun _ => (okF.num.th (fun _ => okF.num)))).th (fun _ => (okF.chk (by decide)))).th (fun _ => okF.num)) (fun z hz => by rw [hz.1])) (fun q z hz => ⟨hz.2.2.1, by have q3 : (o68_vm 35 0).toInt = z.2.1 := hz.2.1; rw [← q3]; exact SM.step hz.1.2.2 h68.1 hf68.2 (by show (o21_vm 61 0).toInt.toNat = _; rw [hz.1.2.1])⟩)))⟩), by rw [ht]; exact hP, hD⟩, hS.F ht⟩) hS.2.2 dX10_takeOne_71
    · have c52_ := i_nle c52
      refine lv_iload_n hx hb dX10_takeOne_55 rfl (lv_at hl 0 rfl) ?_
      refine lv_goto (tgt := 71) hx hb dX10_takeOne_56 (by decide) ?_
      subst hQ
      exact W.iret (v := fz) hx hb hr (fun t ht hW => ⟨⟨fz, (vk), rfl, (show ((MdI vk ∧ atI vk ∧ (vm 34 0).toInt ≤ (vk 34 0).toInt ∧ (0 ≤ fz.toInt ∧ fz.toInt ≤ 4) ∧ (fz.toInt = 0 → RdM vk)) ∧ fr lRd vm vk) ∧ (∀ wa, TK (cellP (vm 31) (vm 32 0).toInt S wa (vm 34 0).toInt) (cellF (vm 31) (vm 32 0).toInt S wa (vm 34 0).toInt) (vm 33 0).toInt fz.toInt (vk 33 0).toInt (fun x => (vk 34 0).toInt = x.2.2.1 ∧ SM (cellS S (plc (S 37 0) x.1.1.1.2) x.1.2.1 x.2.1) vk)) from ⟨⟨⟨hMI, hat, by omega, by omega, fun q => absurd q (by omega)⟩, hFz⟩, (fun wa => MF.tk ((hx50_0 wa).stop (by omega)))⟩), by rw [ht]; exact hP, hD⟩, hS.F ht⟩) hS.2.2 dX10_takeOne_71
  refine lv_if_le (tgt := 38) hx hb dX10_takeOne_31 (by decide) (fun c31 => ?_) (fun c31 => ?_)
  · have c31_ := i_le c31
    have hgd : r21.toInt = 0 := by omega
    refine lv_aload_n hx hb dX10_takeOne_38 rfl (lv_at hl 2 rfl) ?_
    refine lv_aload_n hx hb dX10_takeOne_39 rfl (lv_at hl 2 rfl) ?_
    refine va_get (D := eD E) (ci := 10) (v := .ref (am 39)) (C := RX10) (T := TX10) (N := 79) hx hb hts in_X10 hown hK hP 0 rfl rfl 39 (by decide) lk4 (fun _ h9 => h9) rfl dX10_takeOne_40 ?_
    refine lv_iload_n hx hb dX10_takeOne_43 rfl (lv_at hl 0 rfl) ?_
    refine lv_iconst (v := 0) hx hb dX10_takeOne_44 (by decide) ?_
    refine lv_bipush (v := 99) hx hb dX10_takeOne_45 (by decide) ?_
    refine mt_Vi (w1 := fun (u : Vf) => mdL E am u) (wf := fun (u : Vf) => mdL E am u) (wr := []) (As := [.ref (am 39), .int (o21_vm 61 0), .int 0, .int 99]) (rest := []) (C := RX10) (ci := 10) ⟨hx, hb, hml, hown, hts⟩ (c_X10_into_39 l E H.size am o21_vm (o21_vm 61 0) 0 99 hMI hat (by omega)) (cwV 4 hts gX10_takeOne_X10_into rfl rfl rfl (by decide +kernel) ⟨Nat.le_of_ble_eq_true rfl, Nat.le_of_ble_eq_true rfl⟩) hE hS hA hP hD [0, 1, 2, 3, 4, 5, 6, 7, 8, 9, 10, 11, 12, 13, 14, 15, 16, 17, 18, 19, 20, 21, 22, 23, 24, 25, 26, 27, 28, 29, 30, 31, 32, 33, 34, 35, 36, 37, 38, 39, 40, 41, 42, 43, 44, 45] [] rfl rfl (by decide) (by decide) (by decide) [0, 1, 2, 3, 4, 5, 6, 7, 8, 9, 10, 11, 12, 13, 14, 15, 16, 17, 18, 19, 20, 21, 22, 23, 24, 25, 26, 27, 28, 29, 30, 31, 32, 33, 34, 35, 36, 37, 38, 39, 40, 41, 42, 43, 44, 45] (by decide) (fun u => rfl) rfl rfl rfl rfl hl.1 rfl (Nat.le_of_ble_eq_true rfl) dX10_takeOne_47 ⟨Nat.zero_le _, Nat.zero_le _⟩ (fun r47 u47 H locs h47 hP hD hS => ?_)
    generalize u47 = o47_vm at hP hD h47
    try dsimp only at h47
    have hf47 := h47.2
    replace h47 := h47.1
    have hFn47 := h47.2
    replace h47 := h47.1
    replace hP : va_P (eD E) vwCl (mdL E am o47_vm) H := hP
    replace hD : va_D A (mdL E am o47_vm) := hD
    have hFz : fr lRd vm o47_vm := by first | exact hFz | exact hFz.tr hFn47 (by decide) | (rw [← hv47]; repeat' (first | exact hFz | refine fr.up ?_ (by decide) | refine fr.up3 ?_ (by decide)))
    have hMI : MdI o47_vm := hMI.on (h47.1.mem (by decide))
    have hat := h47.2.2.1
    obtain ⟨y47, hy47, hr47⟩ := id h47.2.1
    have hRd47 : r47.toInt = 0 → RdM o47_vm := fun q => rd_base hRd h47.1 hy47 (by omega)
    have hm47 := h47.2.2.2
    have hn47 := hf47.1
    rw [n_0, n_99, hT21, hN21] at hn47
    exact K50 r47 o47_vm _ _ ls hP hD hS hMI hat (by omega) (by omega) (by first | exact fun q => absurd q (by omega) | exact hRd47) hFz (by first | exact fun wa => (hh21 wa).stop hbad | exact fun wa => MF.mono (MF.then (s := fun z : (Unit × ((Int × Int × Int) × (Int × Int × Int))) × Unit => numF (vm 31) (vm 32 0).toInt 0 99 z.1.2.2.2.1) (hh21 wa) hgd hn47 (((okF.chk (by decide)).th (fun _ => (okF.num.th (fun _ => okF.num)))).th (fun _ => (okF.chk (by decide)))) (fun z hz => by have q2 : (o21_vm 34 0).toInt = z.1.2.2.2.1 := hz.2.1; rw [q2])) (fun q z hz => ⟨hz.2.2.1, hz.1.1, by have q1 : (o21_vm 61 0).toInt = plc (S 37 0) z.1.1.2 := hz.1.1; have q3 : (o47_vm 35 0).toInt = z.2.1 := hz.2.1; rw [← q1, ← q3]; exact SM.step (SM.step hSM7 h21.1 (by rw [hz.1.2.2, ← hv7]; rfl) (by show x20.toInt.toNat = (S 41 0).toNat; omega)) h47.1 hf47.2 rfl⟩)) (by first | exact ⟨hT21, hN21⟩ | exact ⟨(h47.1 31 (by decide) (by decide) (by decide) (by decide) (by decide) (by decide)).trans hT21, (h47.1 32 (by decide) (by decide) (by decide) (by decide) (by decide) (by decide)).trans hN21⟩) (lv_sub hl [2, 1, 0] rfl)
  · have c31_ := i_nle c31
    have hbad : r21.toInt ≠ 0 := by omega
    refine lv_iload_n hx hb dX10_takeOne_34 rfl (lv_at hl 1 rfl) ?_
    refine lv_goto (tgt := 50) hx hb dX10_takeOne_35 (by decide) ?_
    exact K50 r21 o21_vm _ _ ls hP hD hS hMI hat (by omega) (by omega) (by first | exact fun q => absurd q (by omega) | exact hRd47) hFz (by first | exact fun wa => (hh21 wa).stop hbad | exact fun wa => MF.mono (MF.then (s := fun z : (Unit × ((Int × Int × Int) × (Int × Int × Int))) × Unit => numF (vm 31) (vm 32 0).toInt 0 99 z.1.2.2.2.1) (hh21 wa) hgd hn47 (((okF.chk (by decide)).th (fun _ => (okF.num.th (fun _ => okF.num)))).th (fun _ => (okF.chk (by decide)))) (fun z hz => by have q2 : (o21_vm 34 0).toInt = z.1.2.2.2.1 := hz.2.1; rw [q2])) (fun q z hz => ⟨hz.2.2.1, hz.1.1, by have q1 : (o21_vm 61 0).toInt = plc (S 37 0) z.1.1.2 := hz.1.1; have q3 : (o47_vm 35 0).toInt = z.2.1 := hz.2.1; rw [← q1, ← q3]; exact SM.step (SM.step hSM7 h21.1 (by rw [hz.1.2.2, ← hv7]; rfl) (by show x20.toInt.toNat = (S 41 0).toNat; omega)) h47.1 hf47.2 rfl⟩)) (by first | exact ⟨hT21, hN21⟩ | exact ⟨(h47.1 31 (by decide) (by decide) (by decide) (by decide) (by decide) (by decide)).trans hT21, (h47.1 32 (by decide) (by decide) (by decide) (by decide) (by decide) (by decide)).trans hN21⟩) (lv_sub hl [2, 1, 0] rfl)
