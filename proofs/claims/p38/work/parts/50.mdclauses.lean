def rm_X10_takeCell : Room := { frames := 2, cells := 0, slots := 0, locals := 48 }
set_option maxHeartbeats 4000000 in
set_option maxRecDepth 100000 in
theorem c_X10_takeCell (l : Launch) (E : Ev) (sz : Nat) (am : Nat → Nat) (vm : Vf) (hMI : MdI vm) (hat : atI vm) (hrG : rdG vm) (hw1 : 1 ≤ (vm 37 0).toInt) (hd1 : 1 ≤ (vm 38 0).toInt) : Met l yX10_takeCell wsX10_takeCell rm_X10_takeCell (MtP E sz [.ref (am 0)] (mdL E am vm)) (va_Qi (fun (r : Int32) (u : Vf) => sc vm u ∧ atI u ∧ (vm 34 0).toInt ≤ (u 34 0).toInt ∧ ((r.toInt = 0 ∧ 0 ≤ (u 61 0).toInt ∧ (u 61 0).toInt ≤ 23) ∨ (1 ≤ r.toInt ∧ r.toInt ≤ 2))) (MtB E (va_A (mdL E am vm) sz) (fun u => mdL E am u)) (va_A (mdL E am vm) sz)) 0 0 (va_A (mdL E am vm) sz) := by
  refine Met.ofW (cc := cX10_takeCell) (maxL := 3) (ret := (some .int)) (by decide) rfl ?_
  intro p e s m args below meth c s₁ B hml hv
  obtain ⟨rfl, hsz, hE, hP, hD0⟩ := hv
  subst hsz
  have hD := hD0.self (sz := s.heap.size)
  generalize hAe : va_A (mdL E am vm) s.heap.size = A at hD hE ⊢
  have hA : ∀ q : Nat, s.heap.size ≤ q → A q := fun q h => by rw [← hAe]; exact Or.inr h
  have hS : va_S A s.heap s.heap [] := va_S.rf
  have hx := B.exec
  have hb := B.bytes
  have hr := B.returns
  have hts := atoms_spec (ws := wsX10_takeCell) B.pre
  have hown : s.vm.findClass RX10 = some m.cls := findClass_of_methodNamed B.named
  have hlocks := B.notSynchronized
  have hK := hE.1
  have in_X10 : ∀ w ∈ u_ws RX10 TX10 79, w ∈ wsX10_takeCell := fun w h => List.mem_cons_of_mem _ (List.mem_append_right _ h)
  have lk0 := hts (.fieldLink RX10 204 "TidedGroundModel" "readWide" "I") (by decide +kernel)
  have lk1 := hts (.fieldLink RX10 198 "TidedGroundModel" "number" "I") (by decide +kernel)
  have lk2 := hts (.fieldLink RX10 210 "TidedGroundModel" "cellRead" "I") (by decide +kernel)
  have lk3 := hts (.fieldLink RX10 207 "TidedGroundModel" "readDeep" "I") (by decide +kernel)
  have n_0 : (0 : Int32).toInt = 0 := by decide
  have n_1 : (1 : Int32).toInt = 1 := by decide
  have hl := lv_entry ([.ref (am 0)]) (n := 3) (Nat.le_of_ble_eq_true rfl)
  rw [lg_entry_eq]
  generalize (lg_sl ([.ref (am 0)]) ++ List.replicate (3 - (lg_sl ([.ref (am 0)])).length) Slot.unset).toArray = ls at hl ⊢
  have hl : lv_has ls 3 [(0, .ref (am 0))] := hl
  refine W_abs (fun Q hQ => ?_)
  have hH := hMI.1
  obtain ⟨hT1, hT2, hT3, hT4, hT5⟩ := id hH.2.2.2.2.2.2
  obtain ⟨ha1, ha2⟩ := id hat
  obtain ⟨hg1, hg2, hg3⟩ := id hrG
  refine lv_aload_n hx hb dX10_takeCell_0 rfl (lv_at hl 0 rfl) ?_
  refine lv_iconst (v := 0) hx hb dX10_takeCell_1 (by decide) ?_
  refine lv_aload_n hx hb dX10_takeCell_2 rfl (lv_at hl 0 rfl) ?_
  refine va_get (D := eD E) (ci := 10) (v := .int (vm 37 0)) (C := RX10) (T := TX10) (N := 79) hx hb hts in_X10 hown hK hP 0 rfl rfl 37 (by decide) lk0 (fun _ h9 => h9) rfl dX10_takeCell_3 ?_
  refine lv_iconst (v := 1) hx hb dX10_takeCell_6 (by decide) ?_
  refine lv_isub hx hb dX10_takeCell_7 ?_
  refine lv_topi (fun x7 e7 => ?_)
  have t7 := i_sub e7 (by omega)
  refine mt_Vi (w1 := fun (u : Vf) => mdL E am u) (wf := fun (u : Vf) => mdL E am u) (wr := []) (As := [.int 0, .int x7]) (rest := []) (C := RX10) (ci := 10) ⟨hx, hb, hml, hown, hts⟩ (c_X10_takeNumber l E s.heap.size am vm 0 x7 hMI hat) (cwV 2 hts gX10_takeCell_X10_takeNumber rfl rfl rfl (by decide +kernel) ⟨Nat.le_of_ble_eq_true rfl, Nat.le_of_ble_eq_true rfl⟩) hE hS hA hP hD [0, 1, 2, 3, 4, 5, 6, 7, 8, 9, 10, 11, 12, 13, 14, 15, 16, 17, 18, 19, 20, 21, 22, 23, 24, 25, 26, 27, 28, 29, 30, 31, 32, 33, 34, 35, 36, 37, 38, 39, 40, 41, 42, 43, 44, 45] [] rfl rfl (by decide) (by decide) (by decide) [0, 1, 2, 3, 4, 5, 6, 7, 8, 9, 10, 11, 12, 13, 14, 15, 16, 17, 18, 19, 20, 21, 22, 23, 24, 25, 26, 27, 28, 29, 30, 31, 32, 33, 34, 35, 36, 37, 38, 39, 40, 41, 42, 43, 44, 45] (by decide) (fun u => rfl) rfl rfl rfl rfl hl.1 rfl (Nat.le_of_ble_eq_true rfl) dX10_takeCell_8 ⟨Nat.zero_le _, Nat.zero_le _⟩ (fun r8 u8 H locs h8 hP hD hS => ?_)
  generalize u8 = o8_vm at hP hD h8
  try dsimp only at h8
  have hP : va_P (eD E) vwCl (mdL E am o8_vm) H := hP
  have hD : va_D A (mdL E am o8_vm) := hD
  have hMI : MdI o8_vm := hMI.sn h8.1
  have hat := h8.2.1
  have hq8 : (o8_vm 38 0).toInt = (vm 38 0).toInt := by rw [h8.1 38 (by decide) (by decide) (by decide) (by decide)]
  refine lv_istore_n (lv' := [(1, .int r8), (0, .ref (am 0))]) hx hb dX10_takeCell_11 rfl hl (by decide) rfl (fun ls hl => ?_)
  refine lv_aload_n hx hb dX10_takeCell_12 rfl (lv_at hl 1 rfl) ?_
  refine va_get (D := eD E) (ci := 10) (v := .int (o8_vm 35 0)) (C := RX10) (T := TX10) (N := 79) hx hb hts in_X10 hown hK hP 0 rfl rfl 35 (by decide) lk1 (fun _ h9 => h9) rfl dX10_takeCell_13 ?_
  refine lv_istore_n (lv' := [(2, .int (o8_vm 35 0)), (1, .int r8), (0, .ref (am 0))]) hx hb dX10_takeCell_16 rfl hl (by decide) rfl (fun ls hl => ?_)
  refine lv_iload_n hx hb dX10_takeCell_17 rfl (lv_at hl 1 rfl) ?_
  have K36 : ∀  (fz : Int32) (vk : Vf) (H : Heap) (locs : List Loc) (ls : Array Slot), va_P (eD E) vwCl (mdL E am vk) H → va_D A (mdL E am vk) → va_S A s.heap H locs → (sn vm vk) → (atI vk) → ((vm 34 0).toInt ≤ (vk 34 0).toInt) → ((fz.toInt = 0 ∧ (0 ≤ (o8_vm 35 0).toInt ∧ (o8_vm 35 0).toInt < (vm 37 0).toInt) ∧ (0 ≤ (vk 35 0).toInt ∧ (vk 35 0).toInt < (vm 38 0).toInt)) ∨ (1 ≤ fz.toInt ∧ fz.toInt ≤ 2)) → lv_has ls 3 [(0, .ref (am 0)), (1, .int r8), (2, .int (o8_vm 35 0))] → W p l e (headSpec wsX10_takeCell rm_X10_takeCell).room s m ([.ref (am 0)] : List Value).toArray below meth c H locs 0 0 Q (F0 m 36 ls [.int fz]) := by
    intro fz vk H locs ls hP hD hS h36_0 h36_1 h36_2 h36_3 hl
    refine lv_istore_n (lv' := [(1, .int fz), (0, .ref (am 0)), (2, .int (o8_vm 35 0))]) hx hb dX10_takeCell_36 rfl hl (by decide) rfl (fun ls hl => ?_)
    refine lv_aload_n hx hb dX10_takeCell_37 rfl (lv_at hl 1 rfl) ?_
    refine lv_aload_n hx hb dX10_takeCell_38 rfl (lv_at hl 1 rfl) ?_
    refine va_get (D := eD E) (ci := 10) (v := .int (vk 37 0)) (C := RX10) (T := TX10) (N := 79) hx hb hts in_X10 hown hK hP 0 rfl rfl 37 (by decide) lk0 (fun _ h9 => h9) rfl dX10_takeCell_39 ?_
    refine lv_aload_n hx hb dX10_takeCell_42 rfl (lv_at hl 1 rfl) ?_
    refine va_get (D := eD E) (ci := 10) (v := .int (vk 35 0)) (C := RX10) (T := TX10) (N := 79) hx hb hts in_X10 hown hK hP 0 rfl rfl 35 (by decide) lk1 (fun _ h9 => h9) rfl dX10_takeCell_43 ?_
    refine lv_imul hx hb dX10_takeCell_46 ?_
    refine lv_topi (fun x46 e46 => ?_)
    rw [h36_0 37 (by decide) (by decide) (by decide) (by decide)] at e46
    refine lv_iload_n hx hb dX10_takeCell_47 rfl (lv_at hl 2 rfl) ?_
    refine lv_iadd hx hb dX10_takeCell_48 ?_
    refine lv_topi (fun x48 e48 => ?_)
    refine va_put (D := eD E) (ci := 10) (v := .int x48) (ty := .int) (C := RX10) (T := TX10) (N := 79) hx hb hts in_X10 tyX10 tyX10_ok nmX10 hown hK hP hD hS 0 rfl rfl 61 (by decide) lk2 (fun _ h9 => h9) rfl (by decide +kernel) rfl rfl (Nat.le_of_ble_eq_true rfl) dX10_takeCell_49 (fun H locs hP hD hS => ?_)
    have hP : va_P (eD E) vwCl (mdL E am (up2 vk 61 0 x48)) H := hP
    have hD : va_D A (mdL E am (up2 vk 61 0 x48)) := hD
    generalize hv49 : up2 vk 61 0 x48 = vm_49 at hP hD
    refine lv_iload_n hx hb dX10_takeCell_52 rfl (lv_at hl 0 rfl) ?_
    subst hQ
    exact W.iret (v := fz) hx hb hr (fun t ht hW => ⟨⟨fz, (vm_49), rfl, (show sc vm vm_49 ∧ atI vm_49 ∧ (vm 34 0).toInt ≤ (vm_49 34 0).toInt ∧ ((fz.toInt = 0 ∧ 0 ≤ (vm_49 61 0).toInt ∧ (vm_49 61 0).toInt ≤ 23) ∨ (1 ≤ fz.toInt ∧ fz.toInt ≤ 2)) from ⟨(by rw [← hv49]; exact h36_0.sc.up (by omega)), (by rw [← hv49]; exact h36_1), (by rw [← hv49]; exact h36_2), (by rw [← hv49]; exact h36_3.elim (fun q => Or.inl ⟨q.1, cellv hg1 hg3 e46 e48 q.2.1 q.2.2⟩) Or.inr)⟩), by rw [ht]; exact hP, hD⟩, hS.F ht⟩) hS.2.2 dX10_takeCell_53
  refine lv_if_le (tgt := 25) hx hb dX10_takeCell_18 (by decide) (fun c18 => ?_) (fun c18 => ?_)
  · have c18_ := i_le c18
    refine lv_aload_n hx hb dX10_takeCell_25 rfl (lv_at hl 2 rfl) ?_
    refine lv_iconst (v := 0) hx hb dX10_takeCell_26 (by decide) ?_
    refine lv_aload_n hx hb dX10_takeCell_27 rfl (lv_at hl 2 rfl) ?_
    refine va_get (D := eD E) (ci := 10) (v := .int (o8_vm 38 0)) (C := RX10) (T := TX10) (N := 79) hx hb hts in_X10 hown hK hP 0 rfl rfl 38 (by decide) lk3 (fun _ h9 => h9) rfl dX10_takeCell_28 ?_
    have sv31_o8_vm380 : 1 ≤ (o8_vm 38 0).toInt ∧ (o8_vm 38 0).toInt ≤ 6 := by omega
    refine lv_iconst (v := 1) hx hb dX10_takeCell_31 (by decide) ?_
    refine lv_isub hx hb dX10_takeCell_32 ?_
    refine lv_topi (fun x32 e32 => ?_)
    have t32 := i_sub e32 (by omega)
    refine mt_Vi (w1 := fun (u : Vf) => mdL E am u) (wf := fun (u : Vf) => mdL E am u) (wr := []) (As := [.int 0, .int x32]) (rest := []) (C := RX10) (ci := 10) ⟨hx, hb, hml, hown, hts⟩ (c_X10_takeNumber l E H.size am o8_vm 0 x32 hMI hat) (cwV 2 hts gX10_takeCell_X10_takeNumber rfl rfl rfl (by decide +kernel) ⟨Nat.le_of_ble_eq_true rfl, Nat.le_of_ble_eq_true rfl⟩) hE hS hA hP hD [0, 1, 2, 3, 4, 5, 6, 7, 8, 9, 10, 11, 12, 13, 14, 15, 16, 17, 18, 19, 20, 21, 22, 23, 24, 25, 26, 27, 28, 29, 30, 31, 32, 33, 34, 35, 36, 37, 38, 39, 40, 41, 42, 43, 44, 45] [] rfl rfl (by decide) (by decide) (by decide) [0, 1, 2, 3, 4, 5, 6, 7, 8, 9, 10, 11, 12, 13, 14, 15, 16, 17, 18, 19, 20, 21, 22, 23, 24, 25, 26, 27, 28, 29, 30, 31, 32, 33, 34, 35, 36, 37, 38, 39, 40, 41, 42, 43, 44, 45] (by decide) (fun u => rfl) rfl rfl rfl rfl hl.1 rfl (Nat.le_of_ble_eq_true rfl) dX10_takeCell_33 ⟨Nat.zero_le _, Nat.zero_le _⟩ (fun r33 u33 H locs h33 hP hD hS => ?_)
    generalize u33 = o33_vm at hP hD h33
    try dsimp only at h33
    have hP : va_P (eD E) vwCl (mdL E am o33_vm) H := hP
    have hD : va_D A (mdL E am o33_vm) := hD
    exact K36 r33 o33_vm _ _ ls hP hD hS (by first | exact h8.1 | exact h8.1.tr h33.1) (by first | exact hat | exact h33.2.1) (by omega) (by omega) (lv_sub hl [2, 1, 0] rfl)
  · have c18_ := i_nle c18
    refine lv_iload_n hx hb dX10_takeCell_21 rfl (lv_at hl 1 rfl) ?_
    refine lv_goto (tgt := 36) hx hb dX10_takeCell_22 (by decide) ?_
    exact K36 r8 o8_vm _ _ ls hP hD hS (by first | exact h8.1 | exact h8.1.tr h33.1) (by first | exact hat | exact h33.2.1) (by omega) (by omega) (lv_sub hl [2, 1, 0] rfl)
def rm_X10_takeNewCell_42 : Room := { frames := 3, cells := 0, slots := 0, locals := 70 }
set_option maxHeartbeats 4000000 in
set_option maxRecDepth 100000 in
theorem c_X10_takeNewCell_42 (l : Launch) (E : Ev) (sz : Nat) (am : Nat → Nat) (vm : Vf) (k : Int32) (hMI : MdI vm) (hat : atI vm) (hrG : rdG vm) (hw1 : 1 ≤ (vm 37 0).toInt) (hd1 : 1 ≤ (vm 38 0).toInt) (hk : 0 ≤ k.toInt ∧ k.toInt ≤ 11) : Met l yX10_takeNewCell wsX10_takeNewCell rm_X10_takeNewCell_42 (MtP E sz [.ref (am 0), .ref (am 42), .int k] (mdL E am vm)) (va_Qi (fun (r : Int32) (u : Vf) => scK 42 vm u ∧ (bnd (vm 42) 12 0 23 → bnd (u 42) 12 0 23) ∧ atI u ∧ (vm 34 0).toInt ≤ (u 34 0).toInt ∧ ((r.toInt = 0 ∧ 0 ≤ (u 61 0).toInt ∧ (u 61 0).toInt ≤ 23) ∨ (1 ≤ r.toInt ∧ r.toInt ≤ 4))) (MtB E (va_A (mdL E am vm) sz) (fun u => mdL E am u)) (va_A (mdL E am vm) sz)) 0 0 (va_A (mdL E am vm) sz) := by
  refine Met.ofW (cc := cX10_takeNewCell) (maxL := 4) (ret := (some .int)) (by decide) rfl ?_
  intro p e s m args below meth c s₁ B hml hv
  obtain ⟨rfl, hsz, hE, hP, hD0⟩ := hv
  subst hsz
  have hD := hD0.self (sz := s.heap.size)
  generalize hAe : va_A (mdL E am vm) s.heap.size = A at hD hE ⊢
  have hA : ∀ q : Nat, s.heap.size ≤ q → A q := fun q h => by rw [← hAe]; exact Or.inr h
  have hS : va_S A s.heap s.heap [] := va_S.rf
  have hx := B.exec
  have hb := B.bytes
  have hr := B.returns
  have hts := atoms_spec (ws := wsX10_takeNewCell) B.pre
  have hown : s.vm.findClass RX10 = some m.cls := findClass_of_methodNamed B.named
  have hlocks := B.notSynchronized
  have hK := hE.1
  have in_X10 : ∀ w ∈ u_ws RX10 TX10 79, w ∈ wsX10_takeNewCell := fun w h => List.mem_cons_of_mem _ (List.mem_append_right _ h)
  have lk0 := hts (.fieldLink RX10 210 "TidedGroundModel" "cellRead" "I") (by decide +kernel)
  have lk1 := hts (.fieldLink RX10 195 "TidedGroundModel" "numberAt" "I") (by decide +kernel)
  have n_0 : (0 : Int32).toInt = 0 := by decide
  have n_4 : (4 : Int32).toInt = 4 := by decide
  have hl := lv_entry ([.ref (am 0), .ref (am 42), .int k]) (n := 4) (Nat.le_of_ble_eq_true rfl)
  rw [lg_entry_eq]
  generalize (lg_sl ([.ref (am 0), .ref (am 42), .int k]) ++ List.replicate (4 - (lg_sl ([.ref (am 0), .ref (am 42), .int k])).length) Slot.unset).toArray = ls at hl ⊢
  have hl : lv_has ls 4 [(0, .ref (am 0)), (1, .ref (am 42)), (2, .int k)] := hl
  refine W_abs (fun Q hQ => ?_)
  have hH := hMI.1
  obtain ⟨hT1, hT2, hT3, hT4, hT5⟩ := id hH.2.2.2.2.2.2
  obtain ⟨ha1, ha2⟩ := id hat
  refine lv_aload_n hx hb dX10_takeNewCell_0 rfl (lv_at hl 0 rfl) ?_
  refine mt_Vi (w1 := fun (u : Vf) => mdL E am u) (wf := fun (u : Vf) => mdL E am u) (wr := []) (As := []) (rest := []) (C := RX10) (ci := 10) ⟨hx, hb, hml, hown, hts⟩ (c_X10_takeCell l E s.heap.size am vm hMI hat hrG (by omega) (by omega)) (cwV 0 hts gX10_takeNewCell_X10_takeCell rfl rfl rfl (by decide +kernel) ⟨Nat.le_of_ble_eq_true rfl, Nat.le_of_ble_eq_true rfl⟩) hE hS hA hP hD [0, 1, 2, 3, 4, 5, 6, 7, 8, 9, 10, 11, 12, 13, 14, 15, 16, 17, 18, 19, 20, 21, 22, 23, 24, 25, 26, 27, 28, 29, 30, 31, 32, 33, 34, 35, 36, 37, 38, 39, 40, 41, 42, 43, 44, 45] [] rfl rfl (by decide) (by decide) (by decide) [0, 1, 2, 3, 4, 5, 6, 7, 8, 9, 10, 11, 12, 13, 14, 15, 16, 17, 18, 19, 20, 21, 22, 23, 24, 25, 26, 27, 28, 29, 30, 31, 32, 33, 34, 35, 36, 37, 38, 39, 40, 41, 42, 43, 44, 45] (by decide) (fun u => rfl) rfl rfl rfl rfl hl.1 rfl (Nat.le_of_ble_eq_true rfl) dX10_takeNewCell_1 ⟨Nat.zero_le _, Nat.zero_le _⟩ (fun r1 u1 H locs h1 hP hD hS => ?_)
  generalize u1 = o1_vm at hP hD h1
  try dsimp only at h1
  have hP : va_P (eD E) vwCl (mdL E am o1_vm) H := hP
  have hD : va_D A (mdL E am o1_vm) := hD
  refine lv_istore_n (lv' := [(3, .int r1), (0, .ref (am 0)), (1, .ref (am 42)), (2, .int k)]) hx hb dX10_takeNewCell_4 rfl hl (by decide) rfl (fun ls hl => ?_)
  refine lv_iload_n hx hb dX10_takeNewCell_5 rfl (lv_at hl 0 rfl) ?_
  refine lv_if_le (tgt := 11) hx hb dX10_takeNewCell_6 (by decide) (fun c6 => ?_) (fun c6 => ?_)
  · have c6_ := i_le c6
    refine lv_aload_n hx hb dX10_takeNewCell_11 rfl (lv_at hl 2 rfl) ?_
    refine lv_iload_n hx hb dX10_takeNewCell_12 rfl (lv_at hl 3 rfl) ?_
    refine lv_aload_n hx hb dX10_takeNewCell_13 rfl (lv_at hl 1 rfl) ?_
    refine va_get (D := eD E) (ci := 10) (v := .int (o1_vm 61 0)) (C := RX10) (T := TX10) (N := 79) hx hb hts in_X10 hown hK hP 0 rfl rfl 61 (by decide) lk0 (fun _ h9 => h9) rfl dX10_takeNewCell_14 ?_
    refine va_iast hx hb hK hP hD hS 22 0 rfl rfl (n := 12) (f := (o1_vm 42)) (i_in (by omega) (by omega)) dX10_takeNewCell_17 (fun H locs hP hD hS => ?_)
    have hP : va_P (eD E) vwCl (mdL E am (up2 o1_vm 42 k.toNatClampNeg (o1_vm 61 0))) H := hP
    have hD : va_D A (mdL E am (up2 o1_vm 42 k.toNatClampNeg (o1_vm 61 0))) := hD
    generalize hv17 : up2 o1_vm 42 k.toNatClampNeg (o1_vm 61 0) = vm_17 at hP hD
    have hk17 : scK 42 vm vm_17 := fun t a1 a2 a3 a4 a5 a6 => by rw [← hv17, up2_ne a6]; exact h1.1 t a1 a2 a3 a4 a5
    have hb17 : bnd (vm 42) 12 0 23 → bnd (vm_17 42) 12 0 23 := fun q => by rw [← hv17]; show bnd (upd (o1_vm 42) _ _) 12 0 23; rw [h1.1 42 (by decide) (by decide) (by decide) (by decide) (by decide)]; exact upd_b q (by omega) (by omega)
    have hat17 : atI vm_17 := by rw [← hv17]; exact h1.2.1
    have hq17 : (vm_17 34 0).toInt = (o1_vm 34 0).toInt := by rw [← hv17]; rfl
    have hc17 : (vm_17 61 0).toInt = (o1_vm 61 0).toInt := by rw [← hv17]; rfl
    refine lv_aload_n hx hb dX10_takeNewCell_18 rfl (lv_at hl 2 rfl) ?_
    refine lv_iload_n hx hb dX10_takeNewCell_19 rfl (lv_at hl 3 rfl) ?_
    refine lv_aload_n hx hb dX10_takeNewCell_20 rfl (lv_at hl 1 rfl) ?_
    refine va_get (D := eD E) (ci := 10) (v := .int (vm_17 61 0)) (C := RX10) (T := TX10) (N := 79) hx hb hts in_X10 hown hK hP 0 rfl rfl 61 (by decide) lk0 (fun _ h9 => h9) rfl dX10_takeNewCell_21 ?_
    refine rd_S (As := [.ref (am 42), .int k, .int (vm_17 61 0)]) (rest := []) ⟨hx, hb, hml, hown, hts⟩ (c_X10_isAmong_12 l E A (am 42) (vm_17 42) k (vm_17 61 0) (by omega)) (va_cwS 3 hts gX10_takeNewCell_X10_isAmong rfl rfl rfl (by decide +kernel) ⟨Nat.le_of_ble_eq_true rfl, Nat.le_of_ble_eq_true rfl⟩) (hE.kept hS.2.1) (hP.sub (ws' := [((am 42), .inl (eI E, 12, .inl (vm_17 42)))]) [22] rfl) rfl hl.1 rfl (Nat.le_of_ble_eq_true rfl) dX10_takeNewCell_24 ⟨Nat.zero_le _, Nat.zero_le _⟩ (fun r24 h24 => ?_)
    refine lv_if_eq (tgt := 42) hx hb dX10_takeNewCell_27 (by decide) (fun c27 => ?_) (fun c27 => ?_)
    · have c27_ := i_eq c27
      refine lv_iconst (v := 0) hx hb dX10_takeNewCell_42 (by decide) ?_
      subst hQ
      exact W.iret (v := 0) hx hb hr (fun t ht hW => ⟨⟨0, (vm_17), rfl, (show scK 42 vm vm_17 ∧ (bnd (vm 42) 12 0 23 → bnd (vm_17 42) 12 0 23) ∧ atI vm_17 ∧ (vm 34 0).toInt ≤ (vm_17 34 0).toInt ∧ (((0 : Int32).toInt = 0 ∧ 0 ≤ (vm_17 61 0).toInt ∧ (vm_17 61 0).toInt ≤ 23) ∨ (1 ≤ (0 : Int32).toInt ∧ (0 : Int32).toInt ≤ 4)) from ⟨hk17, hb17, hat17, by omega, by omega⟩), by rw [ht]; exact hP, hD⟩, hS.F ht⟩) hS.2.2 dX10_takeNewCell_43
    · have c27_ := i_ne c27
      refine lv_aload_n hx hb dX10_takeNewCell_30 rfl (lv_at hl 1 rfl) ?_
      refine lv_iconst (v := 4) hx hb dX10_takeNewCell_31 (by decide) ?_
      refine lv_aload_n hx hb dX10_takeNewCell_32 rfl (lv_at hl 1 rfl) ?_
      refine va_get (D := eD E) (ci := 10) (v := .int (vm_17 36 0)) (C := RX10) (T := TX10) (N := 79) hx hb hts in_X10 hown hK hP 0 rfl rfl 36 (by decide) lk1 (fun _ h9 => h9) rfl dX10_takeNewCell_33 ?_
      refine mt_Vi (w1 := fun (u : Vf) => mdL E am u) (wf := fun (u : Vf) => mdL E am u) (wr := []) (As := [.int 4, .int (vm_17 36 0)]) (rest := []) (C := RX10) (ci := 10) ⟨hx, hb, hml, hown, hts⟩ (c_X10_fails l E H.size am vm_17 4 (vm_17 36 0)) (cwV 2 hts gX10_takeNewCell_X10_fails rfl rfl rfl (by decide +kernel) ⟨Nat.le_of_ble_eq_true rfl, Nat.le_of_ble_eq_true rfl⟩) hE hS hA hP hD [0, 1, 2, 3, 4, 5, 6, 7, 8, 9, 10, 11, 12, 13, 14, 15, 16, 17, 18, 19, 20, 21, 22, 23, 24, 25, 26, 27, 28, 29, 30, 31, 32, 33, 34, 35, 36, 37, 38, 39, 40, 41, 42, 43, 44, 45] [] rfl rfl (by decide) (by decide) (by decide) [0, 1, 2, 3, 4, 5, 6, 7, 8, 9, 10, 11, 12, 13, 14, 15, 16, 17, 18, 19, 20, 21, 22, 23, 24, 25, 26, 27, 28, 29, 30, 31, 32, 33, 34, 35, 36, 37, 38, 39, 40, 41, 42, 43, 44, 45] (by decide) (fun u => rfl) rfl rfl rfl rfl hl.1 rfl (Nat.le_of_ble_eq_true rfl) dX10_takeNewCell_36 ⟨Nat.zero_le _, Nat.zero_le _⟩ (fun r36 u36 H locs h36 hP hD hS => ?_)
      generalize u36 = o36_vm at hP hD h36
      try dsimp only at h36
      have hP : va_P (eD E) vwCl (mdL E am o36_vm) H := hP
      have hD : va_D A (mdL E am o36_vm) := hD
      have hq36 : (o36_vm 34 0).toInt = (vm_17 34 0).toInt := by rw [h36.2.2]
      have hr36 : r36.toInt = 4 := by rw [h36.1]; decide
      refine lv_goto (tgt := 43) hx hb dX10_takeNewCell_39 (by decide) ?_
      subst hQ
      exact W.iret (v := r36) hx hb hr (fun t ht hW => ⟨⟨r36, (o36_vm), rfl, (show scK 42 vm o36_vm ∧ (bnd (vm 42) 12 0 23 → bnd (o36_vm 42) 12 0 23) ∧ atI o36_vm ∧ (vm 34 0).toInt ≤ (o36_vm 34 0).toInt ∧ ((r36.toInt = 0 ∧ 0 ≤ (o36_vm 61 0).toInt ∧ (o36_vm 61 0).toInt ≤ 23) ∨ (1 ≤ r36.toInt ∧ r36.toInt ≤ 4)) from ⟨(fun t a1 a2 a3 a4 a5 a6 => (h36.2.1 t a1 a2 a3 a4).trans (hk17 t a1 a2 a3 a4 a5 a6)), (fun q => by rw [h36.2.1 42 (by decide) (by decide) (by decide) (by decide)]; exact hb17 q), hat17.of h36.2.2 (h36.2.1 32 (by decide) (by decide) (by decide) (by decide)), by omega, by omega⟩), by rw [ht]; exact hP, hD⟩, hS.F ht⟩) hS.2.2 dX10_takeNewCell_43
  · have c6_ := i_nle c6
    refine lv_iload_n hx hb dX10_takeNewCell_9 rfl (lv_at hl 0 rfl) ?_
    subst hQ
    exact W.iret (v := r1) hx hb hr (fun t ht hW => ⟨⟨r1, (o1_vm), rfl, (show scK 42 vm o1_vm ∧ (bnd (vm 42) 12 0 23 → bnd (o1_vm 42) 12 0 23) ∧ atI o1_vm ∧ (vm 34 0).toInt ≤ (o1_vm 34 0).toInt ∧ ((r1.toInt = 0 ∧ 0 ≤ (o1_vm 61 0).toInt ∧ (o1_vm 61 0).toInt ≤ 23) ∨ (1 ≤ r1.toInt ∧ r1.toInt ≤ 4)) from ⟨(fun t a1 a2 a3 a4 a5 a6 => h1.1 t a1 a2 a3 a4 a5), (fun q => by rw [h1.1 42 (by decide) (by decide) (by decide) (by decide) (by decide)]; exact q), h1.2.1, by omega, by omega⟩), by rw [ht]; exact hP, hD⟩, hS.F ht⟩) hS.2.2 dX10_takeNewCell_10
def rm_X10_takeNewCell_49 : Room := { frames := 3, cells := 0, slots := 0, locals := 70 }
set_option maxHeartbeats 4000000 in
set_option maxRecDepth 100000 in
theorem c_X10_takeNewCell_49 (l : Launch) (E : Ev) (sz : Nat) (am : Nat → Nat) (vm : Vf) (k : Int32) (hMI : MdI vm) (hat : atI vm) (hrG : rdG vm) (hw1 : 1 ≤ (vm 37 0).toInt) (hd1 : 1 ≤ (vm 38 0).toInt) (hk : 0 ≤ k.toInt ∧ k.toInt ≤ 5) : Met l yX10_takeNewCell wsX10_takeNewCell rm_X10_takeNewCell_49 (MtP E sz [.ref (am 0), .ref (am 49), .int k] (mdL E am vm)) (va_Qi (fun (r : Int32) (u : Vf) => scK 49 vm u ∧ (bnd (vm 49) 6 0 23 → bnd (u 49) 6 0 23) ∧ atI u ∧ (vm 34 0).toInt ≤ (u 34 0).toInt ∧ ((r.toInt = 0 ∧ 0 ≤ (u 61 0).toInt ∧ (u 61 0).toInt ≤ 23) ∨ (1 ≤ r.toInt ∧ r.toInt ≤ 4))) (MtB E (va_A (mdL E am vm) sz) (fun u => mdL E am u)) (va_A (mdL E am vm) sz)) 0 0 (va_A (mdL E am vm) sz) := by
  refine Met.ofW (cc := cX10_takeNewCell) (maxL := 4) (ret := (some .int)) (by decide) rfl ?_
  intro p e s m args below meth c s₁ B hml hv
  obtain ⟨rfl, hsz, hE, hP, hD0⟩ := hv
  subst hsz
  have hD := hD0.self (sz := s.heap.size)
  generalize hAe : va_A (mdL E am vm) s.heap.size = A at hD hE ⊢
  have hA : ∀ q : Nat, s.heap.size ≤ q → A q := fun q h => by rw [← hAe]; exact Or.inr h
  have hS : va_S A s.heap s.heap [] := va_S.rf
  have hx := B.exec
  have hb := B.bytes
  have hr := B.returns
  have hts := atoms_spec (ws := wsX10_takeNewCell) B.pre
  have hown : s.vm.findClass RX10 = some m.cls := findClass_of_methodNamed B.named
  have hlocks := B.notSynchronized
  have hK := hE.1
  have in_X10 : ∀ w ∈ u_ws RX10 TX10 79, w ∈ wsX10_takeNewCell := fun w h => List.mem_cons_of_mem _ (List.mem_append_right _ h)
  have lk0 := hts (.fieldLink RX10 210 "TidedGroundModel" "cellRead" "I") (by decide +kernel)
  have lk1 := hts (.fieldLink RX10 195 "TidedGroundModel" "numberAt" "I") (by decide +kernel)
  have n_0 : (0 : Int32).toInt = 0 := by decide
  have n_4 : (4 : Int32).toInt = 4 := by decide
  have hl := lv_entry ([.ref (am 0), .ref (am 49), .int k]) (n := 4) (Nat.le_of_ble_eq_true rfl)
  rw [lg_entry_eq]
  generalize (lg_sl ([.ref (am 0), .ref (am 49), .int k]) ++ List.replicate (4 - (lg_sl ([.ref (am 0), .ref (am 49), .int k])).length) Slot.unset).toArray = ls at hl ⊢
  have hl : lv_has ls 4 [(0, .ref (am 0)), (1, .ref (am 49)), (2, .int k)] := hl
  refine W_abs (fun Q hQ => ?_)
  have hH := hMI.1
  obtain ⟨hT1, hT2, hT3, hT4, hT5⟩ := id hH.2.2.2.2.2.2
  obtain ⟨ha1, ha2⟩ := id hat
  refine lv_aload_n hx hb dX10_takeNewCell_0 rfl (lv_at hl 0 rfl) ?_
  refine mt_Vi (w1 := fun (u : Vf) => mdL E am u) (wf := fun (u : Vf) => mdL E am u) (wr := []) (As := []) (rest := []) (C := RX10) (ci := 10) ⟨hx, hb, hml, hown, hts⟩ (c_X10_takeCell l E s.heap.size am vm hMI hat hrG (by omega) (by omega)) (cwV 0 hts gX10_takeNewCell_X10_takeCell rfl rfl rfl (by decide +kernel) ⟨Nat.le_of_ble_eq_true rfl, Nat.le_of_ble_eq_true rfl⟩) hE hS hA hP hD [0, 1, 2, 3, 4, 5, 6, 7, 8, 9, 10, 11, 12, 13, 14, 15, 16, 17, 18, 19, 20, 21, 22, 23, 24, 25, 26, 27, 28, 29, 30, 31, 32, 33, 34, 35, 36, 37, 38, 39, 40, 41, 42, 43, 44, 45] [] rfl rfl (by decide) (by decide) (by decide) [0, 1, 2, 3, 4, 5, 6, 7, 8, 9, 10, 11, 12, 13, 14, 15, 16, 17, 18, 19, 20, 21, 22, 23, 24, 25, 26, 27, 28, 29, 30, 31, 32, 33, 34, 35, 36, 37, 38, 39, 40, 41, 42, 43, 44, 45] (by decide) (fun u => rfl) rfl rfl rfl rfl hl.1 rfl (Nat.le_of_ble_eq_true rfl) dX10_takeNewCell_1 ⟨Nat.zero_le _, Nat.zero_le _⟩ (fun r1 u1 H locs h1 hP hD hS => ?_)
  generalize u1 = o1_vm at hP hD h1
  try dsimp only at h1
  have hP : va_P (eD E) vwCl (mdL E am o1_vm) H := hP
  have hD : va_D A (mdL E am o1_vm) := hD
  refine lv_istore_n (lv' := [(3, .int r1), (0, .ref (am 0)), (1, .ref (am 49)), (2, .int k)]) hx hb dX10_takeNewCell_4 rfl hl (by decide) rfl (fun ls hl => ?_)
  refine lv_iload_n hx hb dX10_takeNewCell_5 rfl (lv_at hl 0 rfl) ?_
  refine lv_if_le (tgt := 11) hx hb dX10_takeNewCell_6 (by decide) (fun c6 => ?_) (fun c6 => ?_)
  · have c6_ := i_le c6
    refine lv_aload_n hx hb dX10_takeNewCell_11 rfl (lv_at hl 2 rfl) ?_
    refine lv_iload_n hx hb dX10_takeNewCell_12 rfl (lv_at hl 3 rfl) ?_
    refine lv_aload_n hx hb dX10_takeNewCell_13 rfl (lv_at hl 1 rfl) ?_
    refine va_get (D := eD E) (ci := 10) (v := .int (o1_vm 61 0)) (C := RX10) (T := TX10) (N := 79) hx hb hts in_X10 hown hK hP 0 rfl rfl 61 (by decide) lk0 (fun _ h9 => h9) rfl dX10_takeNewCell_14 ?_
    refine va_iast hx hb hK hP hD hS 27 0 rfl rfl (n := 6) (f := (o1_vm 49)) (i_in (by omega) (by omega)) dX10_takeNewCell_17 (fun H locs hP hD hS => ?_)
    have hP : va_P (eD E) vwCl (mdL E am (up2 o1_vm 49 k.toNatClampNeg (o1_vm 61 0))) H := hP
    have hD : va_D A (mdL E am (up2 o1_vm 49 k.toNatClampNeg (o1_vm 61 0))) := hD
    generalize hv17 : up2 o1_vm 49 k.toNatClampNeg (o1_vm 61 0) = vm_17 at hP hD
    have hk17 : scK 49 vm vm_17 := fun t a1 a2 a3 a4 a5 a6 => by rw [← hv17, up2_ne a6]; exact h1.1 t a1 a2 a3 a4 a5
    have hb17 : bnd (vm 49) 6 0 23 → bnd (vm_17 49) 6 0 23 := fun q => by rw [← hv17]; show bnd (upd (o1_vm 49) _ _) 6 0 23; rw [h1.1 49 (by decide) (by decide) (by decide) (by decide) (by decide)]; exact upd_b q (by omega) (by omega)
    have hat17 : atI vm_17 := by rw [← hv17]; exact h1.2.1
    have hq17 : (vm_17 34 0).toInt = (o1_vm 34 0).toInt := by rw [← hv17]; rfl
    have hc17 : (vm_17 61 0).toInt = (o1_vm 61 0).toInt := by rw [← hv17]; rfl
    refine lv_aload_n hx hb dX10_takeNewCell_18 rfl (lv_at hl 2 rfl) ?_
    refine lv_iload_n hx hb dX10_takeNewCell_19 rfl (lv_at hl 3 rfl) ?_
    refine lv_aload_n hx hb dX10_takeNewCell_20 rfl (lv_at hl 1 rfl) ?_
    refine va_get (D := eD E) (ci := 10) (v := .int (vm_17 61 0)) (C := RX10) (T := TX10) (N := 79) hx hb hts in_X10 hown hK hP 0 rfl rfl 61 (by decide) lk0 (fun _ h9 => h9) rfl dX10_takeNewCell_21 ?_
    refine rd_S (As := [.ref (am 49), .int k, .int (vm_17 61 0)]) (rest := []) ⟨hx, hb, hml, hown, hts⟩ (c_X10_isAmong_6 l E A (am 49) (vm_17 49) k (vm_17 61 0) (by omega)) (va_cwS 3 hts gX10_takeNewCell_X10_isAmong rfl rfl rfl (by decide +kernel) ⟨Nat.le_of_ble_eq_true rfl, Nat.le_of_ble_eq_true rfl⟩) (hE.kept hS.2.1) (hP.sub (ws' := [((am 49), .inl (eI E, 6, .inl (vm_17 49)))]) [27] rfl) rfl hl.1 rfl (Nat.le_of_ble_eq_true rfl) dX10_takeNewCell_24 ⟨Nat.zero_le _, Nat.zero_le _⟩ (fun r24 h24 => ?_)
    refine lv_if_eq (tgt := 42) hx hb dX10_takeNewCell_27 (by decide) (fun c27 => ?_) (fun c27 => ?_)
    · have c27_ := i_eq c27
      refine lv_iconst (v := 0) hx hb dX10_takeNewCell_42 (by decide) ?_
      subst hQ
      exact W.iret (v := 0) hx hb hr (fun t ht hW => ⟨⟨0, (vm_17), rfl, (show scK 49 vm vm_17 ∧ (bnd (vm 49) 6 0 23 → bnd (vm_17 49) 6 0 23) ∧ atI vm_17 ∧ (vm 34 0).toInt ≤ (vm_17 34 0).toInt ∧ (((0 : Int32).toInt = 0 ∧ 0 ≤ (vm_17 61 0).toInt ∧ (vm_17 61 0).toInt ≤ 23) ∨ (1 ≤ (0 : Int32).toInt ∧ (0 : Int32).toInt ≤ 4)) from ⟨hk17, hb17, hat17, by omega, by omega⟩), by rw [ht]; exact hP, hD⟩, hS.F ht⟩) hS.2.2 dX10_takeNewCell_43
    · have c27_ := i_ne c27
      refine lv_aload_n hx hb dX10_takeNewCell_30 rfl (lv_at hl 1 rfl) ?_
      refine lv_iconst (v := 4) hx hb dX10_takeNewCell_31 (by decide) ?_
      refine lv_aload_n hx hb dX10_takeNewCell_32 rfl (lv_at hl 1 rfl) ?_
      refine va_get (D := eD E) (ci := 10) (v := .int (vm_17 36 0)) (C := RX10) (T := TX10) (N := 79) hx hb hts in_X10 hown hK hP 0 rfl rfl 36 (by decide) lk1 (fun _ h9 => h9) rfl dX10_takeNewCell_33 ?_
      refine mt_Vi (w1 := fun (u : Vf) => mdL E am u) (wf := fun (u : Vf) => mdL E am u) (wr := []) (As := [.int 4, .int (vm_17 36 0)]) (rest := []) (C := RX10) (ci := 10) ⟨hx, hb, hml, hown, hts⟩ (c_X10_fails l E H.size am vm_17 4 (vm_17 36 0)) (cwV 2 hts gX10_takeNewCell_X10_fails rfl rfl rfl (by decide +kernel) ⟨Nat.le_of_ble_eq_true rfl, Nat.le_of_ble_eq_true rfl⟩) hE hS hA hP hD [0, 1, 2, 3, 4, 5, 6, 7, 8, 9, 10, 11, 12, 13, 14, 15, 16, 17, 18, 19, 20, 21, 22, 23, 24, 25, 26, 27, 28, 29, 30, 31, 32, 33, 34, 35, 36, 37, 38, 39, 40, 41, 42, 43, 44, 45] [] rfl rfl (by decide) (by decide) (by decide) [0, 1, 2, 3, 4, 5, 6, 7, 8, 9, 10, 11, 12, 13, 14, 15, 16, 17, 18, 19, 20, 21, 22, 23, 24, 25, 26, 27, 28, 29, 30, 31, 32, 33, 34, 35, 36, 37, 38, 39, 40, 41, 42, 43, 44, 45] (by decide) (fun u => rfl) rfl rfl rfl rfl hl.1 rfl (Nat.le_of_ble_eq_true rfl) dX10_takeNewCell_36 ⟨Nat.zero_le _, Nat.zero_le _⟩ (fun r36 u36 H locs h36 hP hD hS => ?_)
      generalize u36 = o36_vm at hP hD h36
      try dsimp only at h36
      have hP : va_P (eD E) vwCl (mdL E am o36_vm) H := hP
      have hD : va_D A (mdL E am o36_vm) := hD
      have hq36 : (o36_vm 34 0).toInt = (vm_17 34 0).toInt := by rw [h36.2.2]
      have hr36 : r36.toInt = 4 := by rw [h36.1]; decide
      refine lv_goto (tgt := 43) hx hb dX10_takeNewCell_39 (by decide) ?_
      subst hQ
      exact W.iret (v := r36) hx hb hr (fun t ht hW => ⟨⟨r36, (o36_vm), rfl, (show scK 49 vm o36_vm ∧ (bnd (vm 49) 6 0 23 → bnd (o36_vm 49) 6 0 23) ∧ atI o36_vm ∧ (vm 34 0).toInt ≤ (o36_vm 34 0).toInt ∧ ((r36.toInt = 0 ∧ 0 ≤ (o36_vm 61 0).toInt ∧ (o36_vm 61 0).toInt ≤ 23) ∨ (1 ≤ r36.toInt ∧ r36.toInt ≤ 4)) from ⟨(fun t a1 a2 a3 a4 a5 a6 => (h36.2.1 t a1 a2 a3 a4).trans (hk17 t a1 a2 a3 a4 a5 a6)), (fun q => by rw [h36.2.1 49 (by decide) (by decide) (by decide) (by decide)]; exact hb17 q), hat17.of h36.2.2 (h36.2.1 32 (by decide) (by decide) (by decide) (by decide)), by omega, by omega⟩), by rw [ht]; exact hP, hD⟩, hS.F ht⟩) hS.2.2 dX10_takeNewCell_43
  · have c6_ := i_nle c6
    refine lv_iload_n hx hb dX10_takeNewCell_9 rfl (lv_at hl 0 rfl) ?_
    subst hQ
    exact W.iret (v := r1) hx hb hr (fun t ht hW => ⟨⟨r1, (o1_vm), rfl, (show scK 49 vm o1_vm ∧ (bnd (vm 49) 6 0 23 → bnd (o1_vm 49) 6 0 23) ∧ atI o1_vm ∧ (vm 34 0).toInt ≤ (o1_vm 34 0).toInt ∧ ((r1.toInt = 0 ∧ 0 ≤ (o1_vm 61 0).toInt ∧ (o1_vm 61 0).toInt ≤ 23) ∨ (1 ≤ r1.toInt ∧ r1.toInt ≤ 4)) from ⟨(fun t a1 a2 a3 a4 a5 a6 => h1.1 t a1 a2 a3 a4 a5), (fun q => by rw [h1.1 49 (by decide) (by decide) (by decide) (by decide) (by decide)]; exact q), h1.2.1, by omega, by omega⟩), by rw [ht]; exact hP, hD⟩, hS.F ht⟩) hS.2.2 dX10_takeNewCell_10
def rm_X10_takeNewCell_56 : Room := { frames := 3, cells := 0, slots := 0, locals := 70 }
set_option maxHeartbeats 4000000 in
set_option maxRecDepth 100000 in
theorem c_X10_takeNewCell_56 (l : Launch) (E : Ev) (sz : Nat) (am : Nat → Nat) (vm : Vf) (k : Int32) (hMI : MdI vm) (hat : atI vm) (hrG : rdG vm) (hw1 : 1 ≤ (vm 37 0).toInt) (hd1 : 1 ≤ (vm 38 0).toInt) (hk : 0 ≤ k.toInt ∧ k.toInt ≤ 4) : Met l yX10_takeNewCell wsX10_takeNewCell rm_X10_takeNewCell_56 (MtP E sz [.ref (am 0), .ref (am 56), .int k] (mdL E am vm)) (va_Qi (fun (r : Int32) (u : Vf) => scK 56 vm u ∧ (bnd (vm 56) 5 0 23 → bnd (u 56) 5 0 23) ∧ atI u ∧ (vm 34 0).toInt ≤ (u 34 0).toInt ∧ ((r.toInt = 0 ∧ 0 ≤ (u 61 0).toInt ∧ (u 61 0).toInt ≤ 23) ∨ (1 ≤ r.toInt ∧ r.toInt ≤ 4))) (MtB E (va_A (mdL E am vm) sz) (fun u => mdL E am u)) (va_A (mdL E am vm) sz)) 0 0 (va_A (mdL E am vm) sz) := by
  refine Met.ofW (cc := cX10_takeNewCell) (maxL := 4) (ret := (some .int)) (by decide) rfl ?_
  intro p e s m args below meth c s₁ B hml hv
  obtain ⟨rfl, hsz, hE, hP, hD0⟩ := hv
  subst hsz
  have hD := hD0.self (sz := s.heap.size)
  generalize hAe : va_A (mdL E am vm) s.heap.size = A at hD hE ⊢
  have hA : ∀ q : Nat, s.heap.size ≤ q → A q := fun q h => by rw [← hAe]; exact Or.inr h
  have hS : va_S A s.heap s.heap [] := va_S.rf
  have hx := B.exec
  have hb := B.bytes
  have hr := B.returns
  have hts := atoms_spec (ws := wsX10_takeNewCell) B.pre
  have hown : s.vm.findClass RX10 = some m.cls := findClass_of_methodNamed B.named
  have hlocks := B.notSynchronized
  have hK := hE.1
  have in_X10 : ∀ w ∈ u_ws RX10 TX10 79, w ∈ wsX10_takeNewCell := fun w h => List.mem_cons_of_mem _ (List.mem_append_right _ h)
  have lk0 := hts (.fieldLink RX10 210 "TidedGroundModel" "cellRead" "I") (by decide +kernel)
  have lk1 := hts (.fieldLink RX10 195 "TidedGroundModel" "numberAt" "I") (by decide +kernel)
  have n_0 : (0 : Int32).toInt = 0 := by decide
  have n_4 : (4 : Int32).toInt = 4 := by decide
  have hl := lv_entry ([.ref (am 0), .ref (am 56), .int k]) (n := 4) (Nat.le_of_ble_eq_true rfl)
  rw [lg_entry_eq]
  generalize (lg_sl ([.ref (am 0), .ref (am 56), .int k]) ++ List.replicate (4 - (lg_sl ([.ref (am 0), .ref (am 56), .int k])).length) Slot.unset).toArray = ls at hl ⊢
  have hl : lv_has ls 4 [(0, .ref (am 0)), (1, .ref (am 56)), (2, .int k)] := hl
  refine W_abs (fun Q hQ => ?_)
  have hH := hMI.1
  obtain ⟨hT1, hT2, hT3, hT4, hT5⟩ := id hH.2.2.2.2.2.2
  obtain ⟨ha1, ha2⟩ := id hat
  refine lv_aload_n hx hb dX10_takeNewCell_0 rfl (lv_at hl 0 rfl) ?_
  refine mt_Vi (w1 := fun (u : Vf) => mdL E am u) (wf := fun (u : Vf) => mdL E am u) (wr := []) (As := []) (rest := []) (C := RX10) (ci := 10) ⟨hx, hb, hml, hown, hts⟩ (c_X10_takeCell l E s.heap.size am vm hMI hat hrG (by omega) (by omega)) (cwV 0 hts gX10_takeNewCell_X10_takeCell rfl rfl rfl (by decide +kernel) ⟨Nat.le_of_ble_eq_true rfl, Nat.le_of_ble_eq_true rfl⟩) hE hS hA hP hD [0, 1, 2, 3, 4, 5, 6, 7, 8, 9, 10, 11, 12, 13, 14, 15, 16, 17, 18, 19, 20, 21, 22, 23, 24, 25, 26, 27, 28, 29, 30, 31, 32, 33, 34, 35, 36, 37, 38, 39, 40, 41, 42, 43, 44, 45] [] rfl rfl (by decide) (by decide) (by decide) [0, 1, 2, 3, 4, 5, 6, 7, 8, 9, 10, 11, 12, 13, 14, 15, 16, 17, 18, 19, 20, 21, 22, 23, 24, 25, 26, 27, 28, 29, 30, 31, 32, 33, 34, 35, 36, 37, 38, 39, 40, 41, 42, 43, 44, 45] (by decide) (fun u => rfl) rfl rfl rfl rfl hl.1 rfl (Nat.le_of_ble_eq_true rfl) dX10_takeNewCell_1 ⟨Nat.zero_le _, Nat.zero_le _⟩ (fun r1 u1 H locs h1 hP hD hS => ?_)
  generalize u1 = o1_vm at hP hD h1
  try dsimp only at h1
  have hP : va_P (eD E) vwCl (mdL E am o1_vm) H := hP
  have hD : va_D A (mdL E am o1_vm) := hD
  refine lv_istore_n (lv' := [(3, .int r1), (0, .ref (am 0)), (1, .ref (am 56)), (2, .int k)]) hx hb dX10_takeNewCell_4 rfl hl (by decide) rfl (fun ls hl => ?_)
  refine lv_iload_n hx hb dX10_takeNewCell_5 rfl (lv_at hl 0 rfl) ?_
  refine lv_if_le (tgt := 11) hx hb dX10_takeNewCell_6 (by decide) (fun c6 => ?_) (fun c6 => ?_)
  · have c6_ := i_le c6
    refine lv_aload_n hx hb dX10_takeNewCell_11 rfl (lv_at hl 2 rfl) ?_
    refine lv_iload_n hx hb dX10_takeNewCell_12 rfl (lv_at hl 3 rfl) ?_
    refine lv_aload_n hx hb dX10_takeNewCell_13 rfl (lv_at hl 1 rfl) ?_
    refine va_get (D := eD E) (ci := 10) (v := .int (o1_vm 61 0)) (C := RX10) (T := TX10) (N := 79) hx hb hts in_X10 hown hK hP 0 rfl rfl 61 (by decide) lk0 (fun _ h9 => h9) rfl dX10_takeNewCell_14 ?_
    refine va_iast hx hb hK hP hD hS 32 0 rfl rfl (n := 5) (f := (o1_vm 56)) (i_in (by omega) (by omega)) dX10_takeNewCell_17 (fun H locs hP hD hS => ?_)
    have hP : va_P (eD E) vwCl (mdL E am (up2 o1_vm 56 k.toNatClampNeg (o1_vm 61 0))) H := hP
    have hD : va_D A (mdL E am (up2 o1_vm 56 k.toNatClampNeg (o1_vm 61 0))) := hD
    generalize hv17 : up2 o1_vm 56 k.toNatClampNeg (o1_vm 61 0) = vm_17 at hP hD
    have hk17 : scK 56 vm vm_17 := fun t a1 a2 a3 a4 a5 a6 => by rw [← hv17, up2_ne a6]; exact h1.1 t a1 a2 a3 a4 a5
    have hb17 : bnd (vm 56) 5 0 23 → bnd (vm_17 56) 5 0 23 := fun q => by rw [← hv17]; show bnd (upd (o1_vm 56) _ _) 5 0 23; rw [h1.1 56 (by decide) (by decide) (by decide) (by decide) (by decide)]; exact upd_b q (by omega) (by omega)
    have hat17 : atI vm_17 := by rw [← hv17]; exact h1.2.1
    have hq17 : (vm_17 34 0).toInt = (o1_vm 34 0).toInt := by rw [← hv17]; rfl
    have hc17 : (vm_17 61 0).toInt = (o1_vm 61 0).toInt := by rw [← hv17]; rfl
    refine lv_aload_n hx hb dX10_takeNewCell_18 rfl (lv_at hl 2 rfl) ?_
    refine lv_iload_n hx hb dX10_takeNewCell_19 rfl (lv_at hl 3 rfl) ?_
    refine lv_aload_n hx hb dX10_takeNewCell_20 rfl (lv_at hl 1 rfl) ?_
    refine va_get (D := eD E) (ci := 10) (v := .int (vm_17 61 0)) (C := RX10) (T := TX10) (N := 79) hx hb hts in_X10 hown hK hP 0 rfl rfl 61 (by decide) lk0 (fun _ h9 => h9) rfl dX10_takeNewCell_21 ?_
    refine rd_S (As := [.ref (am 56), .int k, .int (vm_17 61 0)]) (rest := []) ⟨hx, hb, hml, hown, hts⟩ (c_X10_isAmong_5 l E A (am 56) (vm_17 56) k (vm_17 61 0) (by omega)) (va_cwS 3 hts gX10_takeNewCell_X10_isAmong rfl rfl rfl (by decide +kernel) ⟨Nat.le_of_ble_eq_true rfl, Nat.le_of_ble_eq_true rfl⟩) (hE.kept hS.2.1) (hP.sub (ws' := [((am 56), .inl (eI E, 5, .inl (vm_17 56)))]) [32] rfl) rfl hl.1 rfl (Nat.le_of_ble_eq_true rfl) dX10_takeNewCell_24 ⟨Nat.zero_le _, Nat.zero_le _⟩ (fun r24 h24 => ?_)
    refine lv_if_eq (tgt := 42) hx hb dX10_takeNewCell_27 (by decide) (fun c27 => ?_) (fun c27 => ?_)
    · have c27_ := i_eq c27
      refine lv_iconst (v := 0) hx hb dX10_takeNewCell_42 (by decide) ?_
      subst hQ
      exact W.iret (v := 0) hx hb hr (fun t ht hW => ⟨⟨0, (vm_17), rfl, (show scK 56 vm vm_17 ∧ (bnd (vm 56) 5 0 23 → bnd (vm_17 56) 5 0 23) ∧ atI vm_17 ∧ (vm 34 0).toInt ≤ (vm_17 34 0).toInt ∧ (((0 : Int32).toInt = 0 ∧ 0 ≤ (vm_17 61 0).toInt ∧ (vm_17 61 0).toInt ≤ 23) ∨ (1 ≤ (0 : Int32).toInt ∧ (0 : Int32).toInt ≤ 4)) from ⟨hk17, hb17, hat17, by omega, by omega⟩), by rw [ht]; exact hP, hD⟩, hS.F ht⟩) hS.2.2 dX10_takeNewCell_43
    · have c27_ := i_ne c27
      refine lv_aload_n hx hb dX10_takeNewCell_30 rfl (lv_at hl 1 rfl) ?_
      refine lv_iconst (v := 4) hx hb dX10_takeNewCell_31 (by decide) ?_
      refine lv_aload_n hx hb dX10_takeNewCell_32 rfl (lv_at hl 1 rfl) ?_
      refine va_get (D := eD E) (ci := 10) (v := .int (vm_17 36 0)) (C := RX10) (T := TX10) (N := 79) hx hb hts in_X10 hown hK hP 0 rfl rfl 36 (by decide) lk1 (fun _ h9 => h9) rfl dX10_takeNewCell_33 ?_
      refine mt_Vi (w1 := fun (u : Vf) => mdL E am u) (wf := fun (u : Vf) => mdL E am u) (wr := []) (As := [.int 4, .int (vm_17 36 0)]) (rest := []) (C := RX10) (ci := 10) ⟨hx, hb, hml, hown, hts⟩ (c_X10_fails l E H.size am vm_17 4 (vm_17 36 0)) (cwV 2 hts gX10_takeNewCell_X10_fails rfl rfl rfl (by decide +kernel) ⟨Nat.le_of_ble_eq_true rfl, Nat.le_of_ble_eq_true rfl⟩) hE hS hA hP hD [0, 1, 2, 3, 4, 5, 6, 7, 8, 9, 10, 11, 12, 13, 14, 15, 16, 17, 18, 19, 20, 21, 22, 23, 24, 25, 26, 27, 28, 29, 30, 31, 32, 33, 34, 35, 36, 37, 38, 39, 40, 41, 42, 43, 44, 45] [] rfl rfl (by decide) (by decide) (by decide) [0, 1, 2, 3, 4, 5, 6, 7, 8, 9, 10, 11, 12, 13, 14, 15, 16, 17, 18, 19, 20, 21, 22, 23, 24, 25, 26, 27, 28, 29, 30, 31, 32, 33, 34, 35, 36, 37, 38, 39, 40, 41, 42, 43, 44, 45] (by decide) (fun u => rfl) rfl rfl rfl rfl hl.1 rfl (Nat.le_of_ble_eq_true rfl) dX10_takeNewCell_36 ⟨Nat.zero_le _, Nat.zero_le _⟩ (fun r36 u36 H locs h36 hP hD hS => ?_)
      generalize u36 = o36_vm at hP hD h36
      try dsimp only at h36
      have hP : va_P (eD E) vwCl (mdL E am o36_vm) H := hP
      have hD : va_D A (mdL E am o36_vm) := hD
      have hq36 : (o36_vm 34 0).toInt = (vm_17 34 0).toInt := by rw [h36.2.2]
      have hr36 : r36.toInt = 4 := by rw [h36.1]; decide
      refine lv_goto (tgt := 43) hx hb dX10_takeNewCell_39 (by decide) ?_
      subst hQ
      exact W.iret (v := r36) hx hb hr (fun t ht hW => ⟨⟨r36, (o36_vm), rfl, (show scK 56 vm o36_vm ∧ (bnd (vm 56) 5 0 23 → bnd (o36_vm 56) 5 0 23) ∧ atI o36_vm ∧ (vm 34 0).toInt ≤ (o36_vm 34 0).toInt ∧ ((r36.toInt = 0 ∧ 0 ≤ (o36_vm 61 0).toInt ∧ (o36_vm 61 0).toInt ≤ 23) ∨ (1 ≤ r36.toInt ∧ r36.toInt ≤ 4)) from ⟨(fun t a1 a2 a3 a4 a5 a6 => (h36.2.1 t a1 a2 a3 a4).trans (hk17 t a1 a2 a3 a4 a5 a6)), (fun q => by rw [h36.2.1 56 (by decide) (by decide) (by decide) (by decide)]; exact hb17 q), hat17.of h36.2.2 (h36.2.1 32 (by decide) (by decide) (by decide) (by decide)), by omega, by omega⟩), by rw [ht]; exact hP, hD⟩, hS.F ht⟩) hS.2.2 dX10_takeNewCell_43
  · have c6_ := i_nle c6
    refine lv_iload_n hx hb dX10_takeNewCell_9 rfl (lv_at hl 0 rfl) ?_
    subst hQ
    exact W.iret (v := r1) hx hb hr (fun t ht hW => ⟨⟨r1, (o1_vm), rfl, (show scK 56 vm o1_vm ∧ (bnd (vm 56) 5 0 23 → bnd (o1_vm 56) 5 0 23) ∧ atI o1_vm ∧ (vm 34 0).toInt ≤ (o1_vm 34 0).toInt ∧ ((r1.toInt = 0 ∧ 0 ≤ (o1_vm 61 0).toInt ∧ (o1_vm 61 0).toInt ≤ 23) ∨ (1 ≤ r1.toInt ∧ r1.toInt ≤ 4)) from ⟨(fun t a1 a2 a3 a4 a5 a6 => h1.1 t a1 a2 a3 a4 a5), (fun q => by rw [h1.1 56 (by decide) (by decide) (by decide) (by decide) (by decide)]; exact q), h1.2.1, by omega, by omega⟩), by rw [ht]; exact hP, hD⟩, hS.F ht⟩) hS.2.2 dX10_takeNewCell_10
def rm_X10_takeOne : Room := { frames := 4, cells := 0, slots := 0, locals := 93 }
set_option maxHeartbeats 4000000 in
set_option maxRecDepth 100000 in
theorem c_X10_takeOne (l : Launch) (E : Ev) (sz : Nat) (am : Nat → Nat) (vm : Vf) (hMI : MdI vm) (hat : atI vm) (hRd : RdM vm) (hw1 : 1 ≤ (vm 37 0).toInt) (hcn : (vm 41 0).toInt ≤ 11) : Met l yX10_takeOne wsX10_takeOne rm_X10_takeOne (MtP E sz [.ref (am 0)] (mdL E am vm)) (va_Qi (fun (r : Int32) (u : Vf) => MdI u ∧ atI u ∧ (vm 34 0).toInt ≤ (u 34 0).toInt ∧ (0 ≤ r.toInt ∧ r.toInt ≤ 4) ∧ (r.toInt = 0 → RdM u)) (MtB E (va_A (mdL E am vm) sz) (fun u => mdL E am u)) (va_A (mdL E am vm) sz)) 0 0 (va_A (mdL E am vm) sz) := by
  refine Met.ofW (cc := cX10_takeOne) (maxL := 3) (ret := (some .int)) (by decide) rfl ?_
  intro p e s m args below meth c s₁ B hml hv
  obtain ⟨rfl, hsz, hE, hP, hD0⟩ := hv
  subst hsz
  have hD := hD0.self (sz := s.heap.size)
  generalize hAe : va_A (mdL E am vm) s.heap.size = A at hD hE ⊢
  have hA : ∀ q : Nat, s.heap.size ≤ q → A q := fun q h => by rw [← hAe]; exact Or.inr h
  have hS : va_S A s.heap s.heap [] := va_S.rf
  have hx := B.exec
  have hb := B.bytes
  have hr := B.returns
  have hts := atoms_spec (ws := wsX10_takeOne) B.pre
  have hown : s.vm.findClass RX10 = some m.cls := findClass_of_methodNamed B.named
  have hlocks := B.notSynchronized
  have hK := hE.1
  have in_X10 : ∀ w ∈ u_ws RX10 TX10 79, w ∈ wsX10_takeOne := fun w h => List.mem_cons_of_mem _ (List.mem_append_right _ h)
  have lk0 := hts (.fieldLink RX10 220 "TidedGroundModel" "readTold" "I") (by decide +kernel)
  have lk1 := hts (.fieldLink RX10 83 "TidedGroundModel" "toldCell" "[I") (by decide +kernel)
  have lk2 := hts (.fieldLink RX10 210 "TidedGroundModel" "cellRead" "I") (by decide +kernel)
  have lk3 := hts (.fieldLink RX10 80 "TidedGroundModel" "readSoft" "[I") (by decide +kernel)
  have lk4 := hts (.fieldLink RX10 77 "TidedGroundModel" "readBase" "[I") (by decide +kernel)
  have n_0 : (0 : Int32).toInt = 0 := by decide
  have n_1 : (1 : Int32).toInt = 1 := by decide
  have n_9 : (9 : Int32).toInt = 9 := by decide
  have n_99 : (99 : Int32).toInt = 99 := by decide
  have hl := lv_entry ([.ref (am 0)]) (n := 3) (Nat.le_of_ble_eq_true rfl)
  rw [lg_entry_eq]
  generalize (lg_sl ([.ref (am 0)]) ++ List.replicate (3 - (lg_sl ([.ref (am 0)])).length) Slot.unset).toArray = ls at hl ⊢
  have hl : lv_has ls 3 [(0, .ref (am 0))] := hl
  refine W_abs (fun Q hQ => ?_)
  have hH := hMI.1
  obtain ⟨hT1, hT2, hT3, hT4, hT5⟩ := id hH.2.2.2.2.2.2
  obtain ⟨ha1, ha2⟩ := id hat
  obtain ⟨hrG, hrC, hrZ, hrMo, hrB, hrD⟩ := id hRd
  obtain ⟨hrc1, hrc2, hrc3, hrc4, hrc5, hrc6⟩ := id hrC
  have hd1 : 1 ≤ (vm 38 0).toInt := by rcases hrZ with q | q <;> omega
  refine lv_aload_n hx hb dX10_takeOne_0 rfl (lv_at hl 0 rfl) ?_
  refine lv_dup hx hb dX10_takeOne_1 rfl ?_
  refine va_get (D := eD E) (ci := 10) (v := .int (vm 41 0)) (C := RX10) (T := TX10) (N := 79) hx hb hts in_X10 hown hK hP 0 rfl rfl 41 (by decide) lk0 (fun _ h9 => h9) rfl dX10_takeOne_2 ?_
  refine lv_iconst (v := 1) hx hb dX10_takeOne_5 (by decide) ?_
  refine lv_iadd hx hb dX10_takeOne_6 ?_
  refine lv_topi (fun x6 e6 => ?_)
  have t6 := i_add e6 (by omega)
  refine va_put (D := eD E) (ci := 10) (v := .int x6) (ty := .int) (C := RX10) (T := TX10) (N := 79) hx hb hts in_X10 tyX10 tyX10_ok nmX10 hown hK hP hD hS 0 rfl rfl 41 (by decide) lk0 (fun _ h9 => h9) rfl (by decide +kernel) rfl rfl (Nat.le_of_ble_eq_true rfl) dX10_takeOne_7 (fun H locs hP hD hS => ?_)
  have hP : va_P (eD E) vwCl (mdL E am (up2 vm 41 0 x6)) H := hP
  have hD : va_D A (mdL E am (up2 vm 41 0 x6)) := hD
  generalize hv7 : up2 vm 41 0 x6 = vm_7 at hP hD
  have hMI : MdI vm_7 := by rw [← hv7]; exact hMI
  have hat : atI vm_7 := by rw [← hv7]; exact hat
  have hq7 : (vm_7 41 0).toInt = x6.toInt := by rw [← hv7]; rfl
  have hq7_37 : (vm_7 37 0).toInt = (vm 37 0).toInt := by rw [← hv7]; rfl
  have hq7_38 : (vm_7 38 0).toInt = (vm 38 0).toInt := by rw [← hv7]; rfl
  have hq7_34 : (vm_7 34 0).toInt = (vm 34 0).toInt := by rw [← hv7]; rfl
  have hRd : RdM vm_7 := by rw [← hv7]; exact rd_told hRd (by omega)
  have hrG : rdG vm_7 := by rw [← hv7]; exact hrG
  refine lv_aload_n hx hb dX10_takeOne_10 rfl (lv_at hl 0 rfl) ?_
  refine lv_aload_n hx hb dX10_takeOne_11 rfl (lv_at hl 0 rfl) ?_
  refine va_get (D := eD E) (ci := 10) (v := .ref (am 42)) (C := RX10) (T := TX10) (N := 79) hx hb hts in_X10 hown hK hP 0 rfl rfl 42 (by decide) lk1 (fun _ h9 => h9) rfl dX10_takeOne_12 ?_
  refine lv_aload_n hx hb dX10_takeOne_15 rfl (lv_at hl 0 rfl) ?_
  refine va_get (D := eD E) (ci := 10) (v := .int (vm_7 41 0)) (C := RX10) (T := TX10) (N := 79) hx hb hts in_X10 hown hK hP 0 rfl rfl 41 (by decide) lk0 (fun _ h9 => h9) rfl dX10_takeOne_16 ?_
  have sv19_vm_7410 : 1 ≤ (vm_7 41 0).toInt ∧ (vm_7 41 0).toInt ≤ 12 := by omega
  refine lv_iconst (v := 1) hx hb dX10_takeOne_19 (by decide) ?_
  refine lv_isub hx hb dX10_takeOne_20 ?_
  refine lv_topi (fun x20 e20 => ?_)
  have t20 := i_sub e20 (by omega)
  refine mt_Vi (w1 := fun (u : Vf) => mdL E am u) (wf := fun (u : Vf) => mdL E am u) (wr := []) (As := [.ref (am 42), .int x20]) (rest := []) (C := RX10) (ci := 10) ⟨hx, hb, hml, hown, hts⟩ (c_X10_takeNewCell_42 l E H.size am vm_7 x20 hMI hat hrG (by omega) (by omega) (by omega)) (cwV 2 hts gX10_takeOne_X10_takeNewCell rfl rfl rfl (by decide +kernel) ⟨Nat.le_of_ble_eq_true rfl, Nat.le_of_ble_eq_true rfl⟩) hE hS hA hP hD [0, 1, 2, 3, 4, 5, 6, 7, 8, 9, 10, 11, 12, 13, 14, 15, 16, 17, 18, 19, 20, 21, 22, 23, 24, 25, 26, 27, 28, 29, 30, 31, 32, 33, 34, 35, 36, 37, 38, 39, 40, 41, 42, 43, 44, 45] [] rfl rfl (by decide) (by decide) (by decide) [0, 1, 2, 3, 4, 5, 6, 7, 8, 9, 10, 11, 12, 13, 14, 15, 16, 17, 18, 19, 20, 21, 22, 23, 24, 25, 26, 27, 28, 29, 30, 31, 32, 33, 34, 35, 36, 37, 38, 39, 40, 41, 42, 43, 44, 45] (by decide) (fun u => rfl) rfl rfl rfl rfl hl.1 rfl (Nat.le_of_ble_eq_true rfl) dX10_takeOne_21 ⟨Nat.zero_le _, Nat.zero_le _⟩ (fun r21 u21 H locs h21 hP hD hS => ?_)
  generalize u21 = o21_vm at hP hD h21
  try dsimp only at h21
  have hP : va_P (eD E) vwCl (mdL E am o21_vm) H := hP
  have hD : va_D A (mdL E am o21_vm) := hD
  have hMI : MdI o21_vm := hMI.on (h21.1.mem (by decide))
  have hRd : RdM o21_vm := hRd.on (h21.1.mem (by decide))
  have hat := h21.2.2.1
  refine lv_istore_n (lv' := [(1, .int r21), (0, .ref (am 0))]) hx hb dX10_takeOne_24 rfl hl (by decide) rfl (fun ls hl => ?_)
  refine lv_aload_n hx hb dX10_takeOne_25 rfl (lv_at hl 1 rfl) ?_
  refine va_get (D := eD E) (ci := 10) (v := .int (o21_vm 61 0)) (C := RX10) (T := TX10) (N := 79) hx hb hts in_X10 hown hK hP 0 rfl rfl 61 (by decide) lk2 (fun _ h9 => h9) rfl dX10_takeOne_26 ?_
  refine lv_istore_n (lv' := [(2, .int (o21_vm 61 0)), (1, .int r21), (0, .ref (am 0))]) hx hb dX10_takeOne_29 rfl hl (by decide) rfl (fun ls hl => ?_)
  refine lv_iload_n hx hb dX10_takeOne_30 rfl (lv_at hl 1 rfl) ?_
  have K50 : ∀  (fz : Int32) (vk : Vf) (H : Heap) (locs : List Loc) (ls : Array Slot), va_P (eD E) vwCl (mdL E am vk) H → va_D A (mdL E am vk) → va_S A s.heap H locs → (MdI vk) → (atI vk) → ((vm 34 0).toInt ≤ (vk 34 0).toInt) → ((fz.toInt = 0 ∧ 0 ≤ (o21_vm 61 0).toInt ∧ (o21_vm 61 0).toInt ≤ 23) ∨ (1 ≤ fz.toInt ∧ fz.toInt ≤ 4)) → (fz.toInt = 0 → RdM vk) → lv_has ls 3 [(0, .ref (am 0)), (1, .int r21), (2, .int (o21_vm 61 0))] → W p l e (headSpec wsX10_takeOne rm_X10_takeOne).room s m ([.ref (am 0)] : List Value).toArray below meth c H locs 0 0 Q (F0 m 50 ls [.int fz]) := by
    intro fz vk H locs ls hP hD hS h50_0 h50_1 h50_2 h50_3 h50_4 hl
    have hMI := h50_0
    have hat := h50_1
    refine lv_istore_n (lv' := [(1, .int fz), (0, .ref (am 0)), (2, .int (o21_vm 61 0))]) hx hb dX10_takeOne_50 rfl hl (by decide) rfl (fun ls hl => ?_)
    refine lv_iload_n hx hb dX10_takeOne_51 rfl (lv_at hl 0 rfl) ?_
    refine lv_if_le (tgt := 59) hx hb dX10_takeOne_52 (by decide) (fun c52 => ?_) (fun c52 => ?_)
    · have c52_ := i_le c52
      refine lv_aload_n hx hb dX10_takeOne_59 rfl (lv_at hl 1 rfl) ?_
      refine lv_aload_n hx hb dX10_takeOne_60 rfl (lv_at hl 1 rfl) ?_
      refine va_get (D := eD E) (ci := 10) (v := .ref (am 40)) (C := RX10) (T := TX10) (N := 79) hx hb hts in_X10 hown hK hP 0 rfl rfl 40 (by decide) lk3 (fun _ h9 => h9) rfl dX10_takeOne_61 ?_
      refine lv_iload_n hx hb dX10_takeOne_64 rfl (lv_at hl 2 rfl) ?_
      refine lv_iconst (v := 0) hx hb dX10_takeOne_65 (by decide) ?_
      refine lv_bipush (v := 9) hx hb dX10_takeOne_66 (by decide) ?_
      refine mt_Vi (w1 := fun (u : Vf) => mdL E am u) (wf := fun (u : Vf) => mdL E am u) (wr := []) (As := [.ref (am 40), .int (o21_vm 61 0), .int 0, .int 9]) (rest := []) (C := RX10) (ci := 10) ⟨hx, hb, hml, hown, hts⟩ (c_X10_into_40 l E H.size am vk (o21_vm 61 0) 0 9 hMI hat (by omega)) (cwV 4 hts gX10_takeOne_X10_into rfl rfl rfl (by decide +kernel) ⟨Nat.le_of_ble_eq_true rfl, Nat.le_of_ble_eq_true rfl⟩) hE hS hA hP hD [0, 1, 2, 3, 4, 5, 6, 7, 8, 9, 10, 11, 12, 13, 14, 15, 16, 17, 18, 19, 20, 21, 22, 23, 24, 25, 26, 27, 28, 29, 30, 31, 32, 33, 34, 35, 36, 37, 38, 39, 40, 41, 42, 43, 44, 45] [] rfl rfl (by decide) (by decide) (by decide) [0, 1, 2, 3, 4, 5, 6, 7, 8, 9, 10, 11, 12, 13, 14, 15, 16, 17, 18, 19, 20, 21, 22, 23, 24, 25, 26, 27, 28, 29, 30, 31, 32, 33, 34, 35, 36, 37, 38, 39, 40, 41, 42, 43, 44, 45] (by decide) (fun u => rfl) rfl rfl rfl rfl hl.1 rfl (Nat.le_of_ble_eq_true rfl) dX10_takeOne_68 ⟨Nat.zero_le _, Nat.zero_le _⟩ (fun r68 u68 H locs h68 hP hD hS => ?_)
      generalize u68 = o68_vm at hP hD h68
      try dsimp only at h68
      have hP : va_P (eD E) vwCl (mdL E am o68_vm) H := hP
      have hD : va_D A (mdL E am o68_vm) := hD
      have hMI : MdI o68_vm := hMI.on (h68.1.mem (by decide))
      obtain ⟨y68, hy68, hr68⟩ := id h68.2.1
      have hm68 := h68.2.2.2
      subst hQ
      exact W.iret (v := r68) hx hb hr (fun t ht hW => ⟨⟨r68, (o68_vm), rfl, (show MdI o68_vm ∧ atI o68_vm ∧ (vm 34 0).toInt ≤ (o68_vm 34 0).toInt ∧ (0 ≤ r68.toInt ∧ r68.toInt ≤ 4) ∧ (r68.toInt = 0 → RdM o68_vm) from ⟨hMI, h68.2.2.1, by omega, by omega, fun q => rd_soft (h50_4 (by omega)) h68.1 hy68 (by omega)⟩), by rw [ht]; exact hP, hD⟩, hS.F ht⟩) hS.2.2 dX10_takeOne_71
    · have c52_ := i_nle c52
      refine lv_iload_n hx hb dX10_takeOne_55 rfl (lv_at hl 0 rfl) ?_
      refine lv_goto (tgt := 71) hx hb dX10_takeOne_56 (by decide) ?_
      subst hQ
      exact W.iret (v := fz) hx hb hr (fun t ht hW => ⟨⟨fz, (vk), rfl, (show MdI vk ∧ atI vk ∧ (vm 34 0).toInt ≤ (vk 34 0).toInt ∧ (0 ≤ fz.toInt ∧ fz.toInt ≤ 4) ∧ (fz.toInt = 0 → RdM vk) from ⟨hMI, hat, by omega, by omega, fun q => absurd q (by omega)⟩), by rw [ht]; exact hP, hD⟩, hS.F ht⟩) hS.2.2 dX10_takeOne_71
  refine lv_if_le (tgt := 38) hx hb dX10_takeOne_31 (by decide) (fun c31 => ?_) (fun c31 => ?_)
  · have c31_ := i_le c31
    refine lv_aload_n hx hb dX10_takeOne_38 rfl (lv_at hl 2 rfl) ?_
    refine lv_aload_n hx hb dX10_takeOne_39 rfl (lv_at hl 2 rfl) ?_
    refine va_get (D := eD E) (ci := 10) (v := .ref (am 39)) (C := RX10) (T := TX10) (N := 79) hx hb hts in_X10 hown hK hP 0 rfl rfl 39 (by decide) lk4 (fun _ h9 => h9) rfl dX10_takeOne_40 ?_
    refine lv_iload_n hx hb dX10_takeOne_43 rfl (lv_at hl 0 rfl) ?_
    refine lv_iconst (v := 0) hx hb dX10_takeOne_44 (by decide) ?_
    refine lv_bipush (v := 99) hx hb dX10_takeOne_45 (by decide) ?_
    refine mt_Vi (w1 := fun (u : Vf) => mdL E am u) (wf := fun (u : Vf) => mdL E am u) (wr := []) (As := [.ref (am 39), .int (o21_vm 61 0), .int 0, .int 99]) (rest := []) (C := RX10) (ci := 10) ⟨hx, hb, hml, hown, hts⟩ (c_X10_into_39 l E H.size am o21_vm (o21_vm 61 0) 0 99 hMI hat (by omega)) (cwV 4 hts gX10_takeOne_X10_into rfl rfl rfl (by decide +kernel) ⟨Nat.le_of_ble_eq_true rfl, Nat.le_of_ble_eq_true rfl⟩) hE hS hA hP hD [0, 1, 2, 3, 4, 5, 6, 7, 8, 9, 10, 11, 12, 13, 14, 15, 16, 17, 18, 19, 20, 21, 22, 23, 24, 25, 26, 27, 28, 29, 30, 31, 32, 33, 34, 35, 36, 37, 38, 39, 40, 41, 42, 43, 44, 45] [] rfl rfl (by decide) (by decide) (by decide) [0, 1, 2, 3, 4, 5, 6, 7, 8, 9, 10, 11, 12, 13, 14, 15, 16, 17, 18, 19, 20, 21, 22, 23, 24, 25, 26, 27, 28, 29, 30, 31, 32, 33, 34, 35, 36, 37, 38, 39, 40, 41, 42, 43, 44, 45] (by decide) (fun u => rfl) rfl rfl rfl rfl hl.1 rfl (Nat.le_of_ble_eq_true rfl) dX10_takeOne_47 ⟨Nat.zero_le _, Nat.zero_le _⟩ (fun r47 u47 H locs h47 hP hD hS => ?_)
    generalize u47 = o47_vm at hP hD h47
    try dsimp only at h47
    have hP : va_P (eD E) vwCl (mdL E am o47_vm) H := hP
    have hD : va_D A (mdL E am o47_vm) := hD
    have hMI : MdI o47_vm := hMI.on (h47.1.mem (by decide))
    have hat := h47.2.2.1
    obtain ⟨y47, hy47, hr47⟩ := id h47.2.1
    have hRd47 : r47.toInt = 0 → RdM o47_vm := fun q => rd_base hRd h47.1 hy47 (by omega)
    have hm47 := h47.2.2.2
    exact K50 r47 o47_vm _ _ ls hP hD hS hMI hat (by omega) (by omega) (by first | exact fun q => absurd q (by omega) | exact hRd47) (lv_sub hl [2, 1, 0] rfl)
  · have c31_ := i_nle c31
    refine lv_iload_n hx hb dX10_takeOne_34 rfl (lv_at hl 1 rfl) ?_
    refine lv_goto (tgt := 50) hx hb dX10_takeOne_35 (by decide) ?_
    exact K50 r21 o21_vm _ _ ls hP hD hS hMI hat (by omega) (by omega) (by first | exact fun q => absurd q (by omega) | exact hRd47) (lv_sub hl [2, 1, 0] rfl)
def rm_X10_takeMoon : Room := { frames := 3, cells := 0, slots := 0, locals := 73 }
set_option maxHeartbeats 4000000 in
set_option maxRecDepth 100000 in
theorem c_X10_takeMoon (l : Launch) (E : Ev) (sz : Nat) (am : Nat → Nat) (vm : Vf) (hMI : MdI vm) (hat : atI vm) (hRd : RdM vm) (hw1 : 1 ≤ (vm 37 0).toInt) (hcn : (vm 43 0).toInt ≤ 2) : Met l yX10_takeMoon wsX10_takeMoon rm_X10_takeMoon (MtP E sz [.ref (am 0)] (mdL E am vm)) (va_Qi (fun (r : Int32) (u : Vf) => MdI u ∧ atI u ∧ (vm 34 0).toInt ≤ (u 34 0).toInt ∧ (0 ≤ r.toInt ∧ r.toInt ≤ 4) ∧ (r.toInt = 0 → RdM u)) (MtB E (va_A (mdL E am vm) sz) (fun u => mdL E am u)) (va_A (mdL E am vm) sz)) 0 0 (va_A (mdL E am vm) sz) := by
  refine Met.ofW (cc := cX10_takeMoon) (maxL := 4) (ret := (some .int)) (by decide) rfl ?_
  intro p e s m args below meth c s₁ B hml hv
  obtain ⟨rfl, hsz, hE, hP, hD0⟩ := hv
  subst hsz
  have hD := hD0.self (sz := s.heap.size)
  generalize hAe : va_A (mdL E am vm) s.heap.size = A at hD hE ⊢
  have hA : ∀ q : Nat, s.heap.size ≤ q → A q := fun q h => by rw [← hAe]; exact Or.inr h
  have hS : va_S A s.heap s.heap [] := va_S.rf
  have hx := B.exec
  have hb := B.bytes
  have hr := B.returns
  have hts := atoms_spec (ws := wsX10_takeMoon) B.pre
  have hown : s.vm.findClass RX10 = some m.cls := findClass_of_methodNamed B.named
  have hlocks := B.notSynchronized
  have hK := hE.1
  have in_X10 : ∀ w ∈ u_ws RX10 TX10 79, w ∈ wsX10_takeMoon := fun w h => List.mem_cons_of_mem _ (List.mem_append_right _ h)
  have lk0 := hts (.fieldLink RX10 231 "TidedGroundModel" "readMoons" "I") (by decide +kernel)
  have lk1 := hts (.fieldLink RX10 89 "TidedGroundModel" "readLateX" "[I") (by decide +kernel)
  have lk2 := hts (.fieldLink RX10 86 "TidedGroundModel" "readMany" "[I") (by decide +kernel)
  have lk3 := hts (.fieldLink RX10 95 "TidedGroundModel" "readParts" "[I") (by decide +kernel)
  have lk4 := hts (.fieldLink RX10 198 "TidedGroundModel" "number" "I") (by decide +kernel)
  have lk5 := hts (.fieldLink RX10 180 "TidedGroundModel" "at0" "I") (by decide +kernel)
  have lk6 := hts (.fieldLink RX10 92 "TidedGroundModel" "readLateY" "[I") (by decide +kernel)
  have n_0 : (0 : Int32).toInt = 0 := by decide
  have n_1 : (1 : Int32).toInt = 1 := by decide
  have n_2 : (2 : Int32).toInt = 2 := by decide
  have n_8 : (8 : Int32).toInt = 8 := by decide
  have n_9 : (9 : Int32).toInt = 9 := by decide
  have n_18 : (18 : Int32).toInt = 18 := by decide
  have n_44 : (44 : Int32).toInt = 44 := by decide
  have hl := lv_entry ([.ref (am 0)]) (n := 4) (Nat.le_of_ble_eq_true rfl)
  rw [lg_entry_eq]
  generalize (lg_sl ([.ref (am 0)]) ++ List.replicate (4 - (lg_sl ([.ref (am 0)])).length) Slot.unset).toArray = ls at hl ⊢
  have hl : lv_has ls 4 [(0, .ref (am 0))] := hl
  refine W_abs (fun Q hQ => ?_)
  have hH := hMI.1
  obtain ⟨hT1, hT2, hT3, hT4, hT5⟩ := id hH.2.2.2.2.2.2
  obtain ⟨ha1, ha2⟩ := id hat
  obtain ⟨hrG, hrC, hrZ, hrMo, hrB, hrD⟩ := id hRd
  obtain ⟨hrc1, hrc2, hrc3, hrc4, hrc5, hrc6⟩ := id hrC
  have hd1 : 1 ≤ (vm 38 0).toInt := by rcases hrZ with q | q <;> omega
  refine lv_aload_n hx hb dX10_takeMoon_0 rfl (lv_at hl 0 rfl) ?_
  refine va_get (D := eD E) (ci := 10) (v := .int (vm 43 0)) (C := RX10) (T := TX10) (N := 79) hx hb hts in_X10 hown hK hP 0 rfl rfl 43 (by decide) lk0 (fun _ h9 => h9) rfl dX10_takeMoon_1 ?_
  refine lv_istore_n (lv' := [(1, .int (vm 43 0)), (0, .ref (am 0))]) hx hb dX10_takeMoon_4 rfl hl (by decide) rfl (fun ls hl => ?_)
  refine lv_aload_n hx hb dX10_takeMoon_5 rfl (lv_at hl 1 rfl) ?_
  refine lv_dup hx hb dX10_takeMoon_6 rfl ?_
  refine va_get (D := eD E) (ci := 10) (v := .int (vm 43 0)) (C := RX10) (T := TX10) (N := 79) hx hb hts in_X10 hown hK hP 0 rfl rfl 43 (by decide) lk0 (fun _ h9 => h9) rfl dX10_takeMoon_7 ?_
  refine lv_iconst (v := 1) hx hb dX10_takeMoon_10 (by decide) ?_
  refine lv_iadd hx hb dX10_takeMoon_11 ?_
  refine lv_topi (fun x11 e11 => ?_)
  have t11 := i_add e11 (by omega)
  refine va_put (D := eD E) (ci := 10) (v := .int x11) (ty := .int) (C := RX10) (T := TX10) (N := 79) hx hb hts in_X10 tyX10 tyX10_ok nmX10 hown hK hP hD hS 0 rfl rfl 43 (by decide) lk0 (fun _ h9 => h9) rfl (by decide +kernel) rfl rfl (Nat.le_of_ble_eq_true rfl) dX10_takeMoon_12 (fun H locs hP hD hS => ?_)
  have hP : va_P (eD E) vwCl (mdL E am (up2 vm 43 0 x11)) H := hP
  have hD : va_D A (mdL E am (up2 vm 43 0 x11)) := hD
  generalize hv12 : up2 vm 43 0 x11 = vm_12 at hP hD
  have hMI : MdI vm_12 := by rw [← hv12]; exact hMI
  have hat : atI vm_12 := by rw [← hv12]; exact hat
  have hq12 : (vm_12 43 0).toInt = x11.toInt := by rw [← hv12]; rfl
  have hq12_34 : (vm_12 34 0).toInt = (vm 34 0).toInt := by rw [← hv12]; rfl
  have hmo : moF (vm 43 0).toNatClampNeg vm vm_12 := (by rw [← hv12]; exact moF.rf.up (by omega))
  refine lv_aload_n hx hb dX10_takeMoon_15 rfl (lv_at hl 1 rfl) ?_
  refine lv_aload_n hx hb dX10_takeMoon_16 rfl (lv_at hl 1 rfl) ?_
  refine va_get (D := eD E) (ci := 10) (v := .ref (am 45)) (C := RX10) (T := TX10) (N := 79) hx hb hts in_X10 hown hK hP 0 rfl rfl 45 (by decide) lk1 (fun _ h9 => h9) rfl dX10_takeMoon_17 ?_
  refine lv_iload_n hx hb dX10_takeMoon_20 rfl (lv_at hl 0 rfl) ?_
  refine lv_iconst (v := 0) hx hb dX10_takeMoon_21 (by decide) ?_
  refine lv_bipush (v := 8) hx hb dX10_takeMoon_22 (by decide) ?_
  refine mt_Vi (w1 := fun (u : Vf) => mdL E am u) (wf := fun (u : Vf) => mdL E am u) (wr := []) (As := [.ref (am 45), .int (vm 43 0), .int 0, .int 8]) (rest := []) (C := RX10) (ci := 10) ⟨hx, hb, hml, hown, hts⟩ (c_X10_into_45 l E H.size am vm_12 (vm 43 0) 0 8 hMI hat (by omega)) (cwV 4 hts gX10_takeMoon_X10_into rfl rfl rfl (by decide +kernel) ⟨Nat.le_of_ble_eq_true rfl, Nat.le_of_ble_eq_true rfl⟩) hE hS hA hP hD [0, 1, 2, 3, 4, 5, 6, 7, 8, 9, 10, 11, 12, 13, 14, 15, 16, 17, 18, 19, 20, 21, 22, 23, 24, 25, 26, 27, 28, 29, 30, 31, 32, 33, 34, 35, 36, 37, 38, 39, 40, 41, 42, 43, 44, 45] [] rfl rfl (by decide) (by decide) (by decide) [0, 1, 2, 3, 4, 5, 6, 7, 8, 9, 10, 11, 12, 13, 14, 15, 16, 17, 18, 19, 20, 21, 22, 23, 24, 25, 26, 27, 28, 29, 30, 31, 32, 33, 34, 35, 36, 37, 38, 39, 40, 41, 42, 43, 44, 45] (by decide) (fun u => rfl) rfl rfl rfl rfl hl.1 rfl (Nat.le_of_ble_eq_true rfl) dX10_takeMoon_24 ⟨Nat.zero_le _, Nat.zero_le _⟩ (fun r24 u24 H locs h24 hP hD hS => ?_)
  generalize u24 = o24_vm at hP hD h24
  try dsimp only at h24
  have hP : va_P (eD E) vwCl (mdL E am o24_vm) H := hP
  have hD : va_D A (mdL E am o24_vm) := hD
  have hMI : MdI o24_vm := hMI.on (h24.1.mem (by decide))
  have hat := h24.2.2.1
  obtain ⟨y24, hy24, hr24⟩ := id h24.2.1
  have hm24 := h24.2.2.2
  have hmo : moF (vm 43 0).toNatClampNeg vm o24_vm := hmo.k45 h24.1 hy24
  have hq24 : (o24_vm 43 0).toInt = (vm_12 43 0).toInt := by rw [h24.1 43 (by decide) (by decide) (by decide) (by decide) (by decide) (by decide)]
  have hv24 : o24_vm 45 (vm 43 0).toNatClampNeg = y24 := by rw [hy24]; exact upd_at
  have hb45 : r24.toInt = 0 → 0 ≤ (o24_vm 45 (vm 43 0).toNatClampNeg).toInt ∧ (o24_vm 45 (vm 43 0).toNatClampNeg).toInt ≤ 8 := fun q => by rw [hv24]; omega
  refine lv_istore_n (lv' := [(2, .int r24), (1, .int (vm 43 0)), (0, .ref (am 0))]) hx hb dX10_takeMoon_27 rfl hl (by decide) rfl (fun ls hl => ?_)
  refine lv_iload_n hx hb dX10_takeMoon_28 rfl (lv_at hl 0 rfl) ?_
  have K48 : ∀  (fz : Int32) (vk : Vf) (H : Heap) (locs : List Loc) (ls : Array Slot), va_P (eD E) vwCl (mdL E am vk) H → va_D A (mdL E am vk) → va_S A s.heap H locs → (MdI vk) → (atI vk) → ((vm 34 0).toInt ≤ (vk 34 0).toInt) → (0 ≤ fz.toInt ∧ fz.toInt ≤ 2) → (fz.toInt = 0 → (0 ≤ (vk 45 (vm 43 0).toNatClampNeg).toInt ∧ (vk 45 (vm 43 0).toNatClampNeg).toInt ≤ 8) ∧ (0 ≤ (vk 46 (vm 43 0).toNatClampNeg).toInt ∧ (vk 46 (vm 43 0).toNatClampNeg).toInt ≤ 8)) → (moF (vm 43 0).toNatClampNeg vm vk) → ((vk 43 0).toInt = (vm 43 0).toInt + 1) → lv_has ls 4 [(0, .ref (am 0)), (1, .int (vm 43 0)), (2, .int r24)] → W p l e (headSpec wsX10_takeMoon rm_X10_takeMoon).room s m ([.ref (am 0)] : List Value).toArray below meth c H locs 0 0 Q (F0 m 48 ls [.int fz]) := by
    intro fz vk H locs ls hP hD hS h48_0 h48_1 h48_2 h48_3 h48_4 h48_5 h48_6 hl
    have hMI := h48_0
    have hat := h48_1
    refine lv_istore_n (lv' := [(2, .int fz), (0, .ref (am 0)), (1, .int (vm 43 0))]) hx hb dX10_takeMoon_48 rfl hl (by decide) rfl (fun ls hl => ?_)
    refine lv_iload_n hx hb dX10_takeMoon_49 rfl (lv_at hl 0 rfl) ?_
    refine lv_if_le (tgt := 55) hx hb dX10_takeMoon_50 (by decide) (fun c50 => ?_) (fun c50 => ?_)
    · have c50_ := i_le c50
      have hb45 := (h48_4 (by omega)).1
      have hb46 := (h48_4 (by omega)).2
      have hmo := h48_5
      refine lv_aload_n hx hb dX10_takeMoon_55 rfl (lv_at hl 1 rfl) ?_
      refine va_get (D := eD E) (ci := 10) (v := .ref (am 44)) (C := RX10) (T := TX10) (N := 79) hx hb hts in_X10 hown hK hP 0 rfl rfl 44 (by decide) lk2 (fun _ h9 => h9) rfl dX10_takeMoon_56 ?_
      refine lv_iload_n hx hb dX10_takeMoon_59 rfl (lv_at hl 2 rfl) ?_
      refine lv_iconst (v := 0) hx hb dX10_takeMoon_60 (by decide) ?_
      refine va_iast hx hb hK hP hD hS 23 0 rfl rfl (n := 3) (f := (vk 44)) (i_in (by omega) (by omega)) dX10_takeMoon_61 (fun H locs hP hD hS => ?_)
      have hP : va_P (eD E) vwCl (mdL E am (up2 vk 44 ((vm 43 0).toNatClampNeg) 0)) H := hP
      have hD : va_D A (mdL E am (up2 vk 44 ((vm 43 0).toNatClampNeg) 0)) := hD
      generalize hv61 : up2 vk 44 ((vm 43 0).toNatClampNeg) 0 = vm_61 at hP hD
      have hMI : MdI vm_61 := by rw [← hv61]; exact hMI
      have hq61_43 : (vm_61 43 0).toInt = (vk 43 0).toInt := by rw [← hv61]; rfl
      have hq61_34 : (vm_61 34 0).toInt = (vk 34 0).toInt := by rw [← hv61]; rfl
      have hat : atI vm_61 := by rw [← hv61]; exact hat
      have hb45 : 0 ≤ (vm_61 45 (vm 43 0).toNatClampNeg).toInt ∧ (vm_61 45 (vm 43 0).toNatClampNeg).toInt ≤ 8 := (by rw [← hv61]; exact hb45)
      have hb46 : 0 ≤ (vm_61 46 (vm 43 0).toNatClampNeg).toInt ∧ (vm_61 46 (vm 43 0).toNatClampNeg).toInt ≤ 8 := (by rw [← hv61]; exact hb46)
      have hmo : moF (vm 43 0).toNatClampNeg vm vm_61 := (by rw [← hv61]; exact hmo.m44)
      have hn61 : vm_61 44 (vm 43 0).toNatClampNeg = 0 := by rw [← hv61]; exact upd_at
      have hn61t : (vm_61 44 (vm 43 0).toNatClampNeg).toInt = 0 := by rw [hn61]; decide
      refine lv_iconst (v := 1) hx hb dX10_takeMoon_62 (by decide) ?_
      refine lv_istore_n (lv' := [(3, .int 1), (2, .int fz), (0, .ref (am 0)), (1, .int (vm 43 0))]) hx hb dX10_takeMoon_63 rfl hl (by decide) rfl (fun ls hl => ?_)
      have K64 : ∀ (μ : Nat) (mr : Int32) (vn : Vf) (H : Heap) (locs : List Loc) (ls : Array Slot), (20 - (vn 44 (vm 43 0).toNatClampNeg).toInt).toNat < μ → va_P (eD E) vwCl (mdL E am vn) H → va_D A (mdL E am vn) → va_S A s.heap H locs → (MdI vn) → (atI vn) → ((vm 34 0).toInt ≤ (vn 34 0).toInt) → ((mr.toInt = 1 ∧ 0 ≤ (vn 44 (vm 43 0).toNatClampNeg).toInt ∧ (vn 44 (vm 43 0).toNatClampNeg).toInt ≤ 8) ∨ (mr.toInt = 0 ∧ 2 ≤ (vn 44 (vm 43 0).toNatClampNeg).toInt ∧ (vn 44 (vm 43 0).toNatClampNeg).toInt ≤ 9)) → (moF (vm 43 0).toNatClampNeg vm vn) → ((vn 43 0).toInt = (vm 43 0).toInt + 1) → (0 ≤ (vn 45 (vm 43 0).toNatClampNeg).toInt ∧ (vn 45 (vm 43 0).toNatClampNeg).toInt ≤ 8) → (0 ≤ (vn 46 (vm 43 0).toNatClampNeg).toInt ∧ (vn 46 (vm 43 0).toNatClampNeg).toInt ≤ 8) → lv_has ls 4 [(0, .ref (am 0)), (1, .int (vm 43 0)), (3, .int mr)] → W p l e (headSpec wsX10_takeMoon rm_X10_takeMoon).room s m ([.ref (am 0)] : List Value).toArray below meth c H locs 0 0 Q (F0 m 64 ls []) := by
        intro μ
        induction μ with
        | zero =>
          intro mr vn H locs ls hμ64
          exact absurd hμ64 (Nat.not_lt_zero _)
        | succ μ ih64 =>
          intro mr vn H locs ls hμ64 hP hD hS h64_0 h64_1 h64_2 h64_3 h64_4 h64_5 h64_6 h64_7 hl
          have hMI := h64_0
          have hat := h64_1
          have hmo := h64_4
          have hb45 := h64_6
          have hb46 := h64_7
          refine lv_iload_n hx hb dX10_takeMoon_64 rfl (lv_at hl 2 rfl) ?_
          refine lv_if_eq (tgt := 189) hx hb dX10_takeMoon_65 (by decide) (fun c65 => ?_) (fun c65 => ?_)
          · have c65_ := i_eq c65
            refine lv_iconst (v := 0) hx hb dX10_takeMoon_189 (by decide) ?_
            subst hQ
            exact W.iret (v := 0) hx hb hr (fun t ht hW => ⟨⟨0, (vn), rfl, (show MdI vn ∧ atI vn ∧ (vm 34 0).toInt ≤ (vn 34 0).toInt ∧ (0 ≤ (0 : Int32).toInt ∧ (0 : Int32).toInt ≤ 4) ∧ ((0 : Int32).toInt = 0 → RdM vn) from ⟨hMI, hat, by omega, by omega, fun _ => rd_moon hRd hmo ⟨by omega, by omega⟩ (by omega) (by omega) (by omega) hb45 hb46⟩), by rw [ht]; exact hP, hD⟩, hS.F ht⟩) hS.2.2 dX10_takeMoon_190
          · have c65_ := i_ne c65
            refine lv_aload_n hx hb dX10_takeMoon_68 rfl (lv_at hl 0 rfl) ?_
            refine lv_iconst (v := 0) hx hb dX10_takeMoon_69 (by decide) ?_
            refine lv_bipush (v := 18) hx hb dX10_takeMoon_70 (by decide) ?_
            refine mt_Vi (w1 := fun (u : Vf) => mdL E am u) (wf := fun (u : Vf) => mdL E am u) (wr := []) (As := [.int 0, .int 18]) (rest := []) (C := RX10) (ci := 10) ⟨hx, hb, hml, hown, hts⟩ (c_X10_takeNumber l E H.size am vn 0 18 hMI hat) (cwV 2 hts gX10_takeMoon_X10_takeNumber rfl rfl rfl (by decide +kernel) ⟨Nat.le_of_ble_eq_true rfl, Nat.le_of_ble_eq_true rfl⟩) hE hS hA hP hD [0, 1, 2, 3, 4, 5, 6, 7, 8, 9, 10, 11, 12, 13, 14, 15, 16, 17, 18, 19, 20, 21, 22, 23, 24, 25, 26, 27, 28, 29, 30, 31, 32, 33, 34, 35, 36, 37, 38, 39, 40, 41, 42, 43, 44, 45] [] rfl rfl (by decide) (by decide) (by decide) [0, 1, 2, 3, 4, 5, 6, 7, 8, 9, 10, 11, 12, 13, 14, 15, 16, 17, 18, 19, 20, 21, 22, 23, 24, 25, 26, 27, 28, 29, 30, 31, 32, 33, 34, 35, 36, 37, 38, 39, 40, 41, 42, 43, 44, 45] (by decide) (fun u => rfl) rfl rfl rfl rfl hl.1 rfl (Nat.le_of_ble_eq_true rfl) dX10_takeMoon_72 ⟨Nat.zero_le _, Nat.zero_le _⟩ (fun r72 u72 H locs h72 hP hD hS => ?_)
            generalize u72 = o72_vm at hP hD h72
            try dsimp only at h72
            have hP : va_P (eD E) vwCl (mdL E am o72_vm) H := hP
            have hD : va_D A (mdL E am o72_vm) := hD
            have hMI : MdI o72_vm := hMI.sn h72.1
            have hat := h72.2.1
            have hmo : moF (vm 43 0).toNatClampNeg vm o72_vm := hmo.sn h72.1
            have hq72_43 : (o72_vm 43 0).toInt = (vn 43 0).toInt := by rw [h72.1 43 (by decide) (by decide) (by decide) (by decide)]
            have hq72_44 : (o72_vm 44 (vm 43 0).toNatClampNeg).toInt = (vn 44 (vm 43 0).toNatClampNeg).toInt := by rw [h72.1 44 (by decide) (by decide) (by decide) (by decide)]
            have hb45 : 0 ≤ (o72_vm 45 (vm 43 0).toNatClampNeg).toInt ∧ (o72_vm 45 (vm 43 0).toNatClampNeg).toInt ≤ 8 := (by rw [h72.1 45 (by decide) (by decide) (by decide) (by decide)]; exact hb45)
            have hb46 : 0 ≤ (o72_vm 46 (vm 43 0).toNatClampNeg).toInt ∧ (o72_vm 46 (vm 43 0).toNatClampNeg).toInt ≤ 8 := (by rw [h72.1 46 (by decide) (by decide) (by decide) (by decide)]; exact hb46)
            refine lv_istore_n (lv' := [(2, .int r72), (0, .ref (am 0)), (1, .int (vm 43 0)), (3, .int mr)]) hx hb dX10_takeMoon_75 rfl hl (by decide) rfl (fun ls hl => ?_)
            refine lv_iload_n hx hb dX10_takeMoon_76 rfl (lv_at hl 0 rfl) ?_
            refine lv_if_le (tgt := 82) hx hb dX10_takeMoon_77 (by decide) (fun c77 => ?_) (fun c77 => ?_)
            · have c77_ := i_le c77
              refine lv_aload_n hx hb dX10_takeMoon_82 rfl (lv_at hl 1 rfl) ?_
              refine va_get (D := eD E) (ci := 10) (v := .ref (am 47)) (C := RX10) (T := TX10) (N := 79) hx hb hts in_X10 hown hK hP 0 rfl rfl 47 (by decide) lk3 (fun _ h9 => h9) rfl dX10_takeMoon_83 ?_
              refine lv_bipush (v := 9) hx hb dX10_takeMoon_86 (by decide) ?_
              refine lv_iload_n hx hb dX10_takeMoon_88 rfl (lv_at hl 2 rfl) ?_
              refine lv_imul hx hb dX10_takeMoon_89 ?_
              refine lv_topi (fun x89 e89 => ?_)
              have t89 := i_mul e89 (by rw [n_9]; omega)
              rw [n_9] at t89
              refine lv_aload_n hx hb dX10_takeMoon_90 rfl (lv_at hl 1 rfl) ?_
              refine va_get (D := eD E) (ci := 10) (v := .ref (am 44)) (C := RX10) (T := TX10) (N := 79) hx hb hts in_X10 hown hK hP 0 rfl rfl 44 (by decide) lk2 (fun _ h9 => h9) rfl dX10_takeMoon_91 ?_
              refine lv_iload_n hx hb dX10_takeMoon_94 rfl (lv_at hl 2 rfl) ?_
              refine va_iald hx hb hK hP 23 0 rfl rfl (n := 3) (f := (o72_vm 44)) (i_in (by omega) (by omega)) dX10_takeMoon_95 ?_
              refine lv_topi (fun x95 e95 => ?_)
              have t95 : x95.toInt = (vn 44 (vm 43 0).toNatClampNeg).toInt := by rw [e95]; exact hq72_44
              have sv96_x95 : 0 ≤ x95.toInt ∧ x95.toInt ≤ 8 := by omega
              refine lv_iadd hx hb dX10_takeMoon_96 ?_
              refine lv_topi (fun x96 e96 => ?_)
              have t96 := i_add e96 (by omega)
              refine lv_aload_n hx hb dX10_takeMoon_97 rfl (lv_at hl 1 rfl) ?_
              refine va_get (D := eD E) (ci := 10) (v := .int (o72_vm 35 0)) (C := RX10) (T := TX10) (N := 79) hx hb hts in_X10 hown hK hP 0 rfl rfl 35 (by decide) lk4 (fun _ h9 => h9) rfl dX10_takeMoon_98 ?_
              refine lv_bipush (v := 9) hx hb dX10_takeMoon_101 (by decide) ?_
              have sv103_o72_vm350 : 0 ≤ (o72_vm 35 0).toInt ∧ (o72_vm 35 0).toInt ≤ 18 := by omega
              refine lv_isub hx hb dX10_takeMoon_103 ?_
              refine lv_topi (fun x103 e103 => ?_)
              have t103 := i_sub e103 (by omega)
              refine va_iast hx hb hK hP hD hS 26 0 rfl rfl (n := 27) (f := (o72_vm 47)) (i_in (by omega) (by omega)) dX10_takeMoon_104 (fun H locs hP hD hS => ?_)
              have hP : va_P (eD E) vwCl (mdL E am (up2 o72_vm 47 x96.toNatClampNeg x103)) H := hP
              have hD : va_D A (mdL E am (up2 o72_vm 47 x96.toNatClampNeg x103)) := hD
              generalize hv104 : up2 o72_vm 47 x96.toNatClampNeg x103 = vm_104 at hP hD
              have hMI : MdI vm_104 := by rw [← hv104]; exact hMI.on4 (fun t ht => up2_ne (fun q => absurd (q ▸ ht) (by decide))) (upd_b hMI.2.2.2.2.1 (by omega) (by omega)) hMI.2.2.2.2.2.1 hMI.2.2.2.2.2.2.1 hMI.2.2.2.2.2.2.2
              have hq104_43 : (vm_104 43 0).toInt = (o72_vm 43 0).toInt := by rw [← hv104]; rfl
              have hq104_34 : (vm_104 34 0).toInt = (o72_vm 34 0).toInt := by rw [← hv104]; rfl
              have hat : atI vm_104 := by rw [← hv104]; exact hat
              have hb45 : 0 ≤ (vm_104 45 (vm 43 0).toNatClampNeg).toInt ∧ (vm_104 45 (vm 43 0).toNatClampNeg).toInt ≤ 8 := (by rw [← hv104]; exact hb45)
              have hb46 : 0 ≤ (vm_104 46 (vm 43 0).toNatClampNeg).toInt ∧ (vm_104 46 (vm 43 0).toNatClampNeg).toInt ≤ 8 := (by rw [← hv104]; exact hb46)
              have hmo : moF (vm 43 0).toNatClampNeg vm vm_104 := (by rw [← hv104]; exact hmo.up (by omega))
              have hq104_44 : vm_104 44 = o72_vm 44 := by rw [← hv104]; rfl
              refine lv_aload_n hx hb dX10_takeMoon_105 rfl (lv_at hl 1 rfl) ?_
              refine va_get (D := eD E) (ci := 10) (v := .ref (am 44)) (C := RX10) (T := TX10) (N := 79) hx hb hts in_X10 hown hK hP 0 rfl rfl 44 (by decide) lk2 (fun _ h9 => h9) rfl dX10_takeMoon_106 ?_
              refine lv_iload_n hx hb dX10_takeMoon_109 rfl (lv_at hl 2 rfl) ?_
              refine lv_dup2_11 hx hb dX10_takeMoon_110 rfl rfl ?_
              refine va_iald hx hb hK hP 23 0 rfl rfl (n := 3) (f := (vm_104 44)) (i_in (by omega) (by omega)) dX10_takeMoon_111 ?_
              refine lv_topi (fun x111 e111 => ?_)
              have t111 : x111.toInt = x95.toInt := by rw [e111, e95, hq104_44]
              refine lv_iconst (v := 1) hx hb dX10_takeMoon_112 (by decide) ?_
              have sv113_x111 : 0 ≤ x111.toInt ∧ x111.toInt ≤ 8 := by omega
              refine lv_iadd hx hb dX10_takeMoon_113 ?_
              refine lv_topi (fun x113 e113 => ?_)
              have t113 := i_add e113 (by omega)
              refine va_iast hx hb hK hP hD hS 23 0 rfl rfl (n := 3) (f := (vm_104 44)) (i_in (by omega) (by omega)) dX10_takeMoon_114 (fun H locs hP hD hS => ?_)
              have hP : va_P (eD E) vwCl (mdL E am (up2 vm_104 44 ((vm 43 0).toNatClampNeg) x113)) H := hP
              have hD : va_D A (mdL E am (up2 vm_104 44 ((vm 43 0).toNatClampNeg) x113)) := hD
              generalize hv114 : up2 vm_104 44 ((vm 43 0).toNatClampNeg) x113 = vm_114 at hP hD
              have hMI : MdI vm_114 := by rw [← hv114]; exact hMI
              have hq114_43 : (vm_114 43 0).toInt = (vm_104 43 0).toInt := by rw [← hv114]; rfl
              have hq114_34 : (vm_114 34 0).toInt = (vm_104 34 0).toInt := by rw [← hv114]; rfl
              have hat : atI vm_114 := by rw [← hv114]; exact hat
              have hb45 : 0 ≤ (vm_114 45 (vm 43 0).toNatClampNeg).toInt ∧ (vm_114 45 (vm 43 0).toNatClampNeg).toInt ≤ 8 := (by rw [← hv114]; exact hb45)
              have hb46 : 0 ≤ (vm_114 46 (vm 43 0).toNatClampNeg).toInt ∧ (vm_114 46 (vm 43 0).toNatClampNeg).toInt ≤ 8 := (by rw [← hv114]; exact hb46)
              have hmo : moF (vm 43 0).toNatClampNeg vm vm_114 := (by rw [← hv114]; exact hmo.m44)
              have hn114 : vm_114 44 (vm 43 0).toNatClampNeg = x113 := by rw [← hv114]; exact upd_at
              refine lv_aload_n hx hb dX10_takeMoon_115 rfl (lv_at hl 1 rfl) ?_
              refine mt_Vi (w1 := fun (u : Vf) => mdL E am u) (wf := fun (u : Vf) => mdL E am u) (wr := []) (As := []) (rest := []) (C := RX10) (ci := 10) ⟨hx, hb, hml, hown, hts⟩ (c_X10_here l E H.size am vm_114 hMI hat) (cwV 0 hts gX10_takeMoon_X10_here rfl rfl rfl (by decide +kernel) ⟨Nat.le_of_ble_eq_true rfl, Nat.le_of_ble_eq_true rfl⟩) hE hS hA hP hD [0, 1, 2, 3, 4, 5, 6, 7, 8, 9, 10, 11, 12, 13, 14, 15, 16, 17, 18, 19, 20, 21, 22, 23, 24, 25, 26, 27, 28, 29, 30, 31, 32, 33, 34, 35, 36, 37, 38, 39, 40, 41, 42, 43, 44, 45] [] rfl rfl (by decide) (by decide) (by decide) [0, 1, 2, 3, 4, 5, 6, 7, 8, 9, 10, 11, 12, 13, 14, 15, 16, 17, 18, 19, 20, 21, 22, 23, 24, 25, 26, 27, 28, 29, 30, 31, 32, 33, 34, 35, 36, 37, 38, 39, 40, 41, 42, 43, 44, 45] (by decide) (fun u => rfl) rfl rfl rfl rfl hl.1 rfl (Nat.le_of_ble_eq_true rfl) dX10_takeMoon_116 ⟨Nat.zero_le _, Nat.zero_le _⟩ (fun r116 u116 H locs h116 hP hD hS => ?_)
              generalize u116 = o116_vm at hP hD h116
              try dsimp only at h116
              have hP : va_P (eD E) vwCl (mdL E am o116_vm) H := hP
              have hD : va_D A (mdL E am o116_vm) := hD
              have hMI : MdI o116_vm := hMI.sn h116.1
              have hat := h116.2.1
              obtain ⟨hat1, hat2⟩ := id hat
              have hmo : moF (vm 43 0).toNatClampNeg vm o116_vm := hmo.sn h116.1
              have hq116_43 : (o116_vm 43 0).toInt = (vm_114 43 0).toInt := by rw [h116.1 43 (by decide) (by decide) (by decide) (by decide)]
              have hn116 : (o116_vm 44 (vm 43 0).toNatClampNeg).toInt = x113.toInt := by rw [h116.1 44 (by decide) (by decide) (by decide) (by decide), hn114]
              have hT116 := hMI.1.2.2.2.2.2.2.1
              have hq116_32 : (o116_vm 32 0).toInt = (vm_114 32 0).toInt := by rw [h116.1 32 (by decide) (by decide) (by decide) (by decide)]
              have hb45 : 0 ≤ (o116_vm 45 (vm 43 0).toNatClampNeg).toInt ∧ (o116_vm 45 (vm 43 0).toNatClampNeg).toInt ≤ 8 := (by rw [h116.1 45 (by decide) (by decide) (by decide) (by decide)]; exact hb45)
              have hb46 : 0 ≤ (o116_vm 46 (vm 43 0).toNatClampNeg).toInt ∧ (o116_vm 46 (vm 43 0).toNatClampNeg).toInt ≤ 8 := (by rw [h116.1 46 (by decide) (by decide) (by decide) (by decide)]; exact hb46)
              refine lv_bipush (v := 44) hx hb dX10_takeMoon_119 (by decide) ?_
              refine lv_icmp_ne (tgt := 128) hx hb dX10_takeMoon_121 (by decide) (fun c121 => ?_) (fun c121 => ?_)
              · have c121_ := i_ne c121
                refine lv_iconst (v := 0) hx hb dX10_takeMoon_128 (by decide) ?_
                refine lv_istore_n (lv' := [(3, .int 0), (2, .int r72), (0, .ref (am 0)), (1, .int (vm 43 0))]) hx hb dX10_takeMoon_129 rfl hl (by decide) rfl (fun ls hl => ?_)
                refine lv_iload_n hx hb dX10_takeMoon_130 rfl (lv_at hl 0 rfl) ?_
                refine lv_if_eq (tgt := 148) hx hb dX10_takeMoon_131 (by decide) (fun _ => ?_) (fun q => absurd q (by decide))
                refine lv_aload_n hx hb dX10_takeMoon_148 rfl (lv_at hl 2 rfl) ?_
                refine va_get (D := eD E) (ci := 10) (v := .ref (am 44)) (C := RX10) (T := TX10) (N := 79) hx hb hts in_X10 hown hK hP 0 rfl rfl 44 (by decide) lk2 (fun _ h9 => h9) rfl dX10_takeMoon_149 ?_
                refine lv_iload_n hx hb dX10_takeMoon_152 rfl (lv_at hl 3 rfl) ?_
                refine va_iald hx hb hK hP 23 0 rfl rfl (n := 3) (f := (o116_vm 44)) (i_in (by omega) (by omega)) dX10_takeMoon_153 ?_
                refine lv_topi (fun x153 e153 => ?_)
                have t153 : x153.toInt = x113.toInt := by rw [e153]; exact hn116
                refine lv_iconst (v := 2) hx hb dX10_takeMoon_154 (by decide) ?_
                refine lv_icmp_ge (tgt := 168) hx hb dX10_takeMoon_155 (by decide) (fun c155 => ?_) (fun c155 => ?_)
                · have c155_ := i_le c155
                  refine lv_aload_n hx hb dX10_takeMoon_168 rfl (lv_at hl 2 rfl) ?_
                  refine lv_dup hx hb dX10_takeMoon_169 rfl ?_
                  refine va_get (D := eD E) (ci := 10) (v := .int (o116_vm 34 0)) (C := RX10) (T := TX10) (N := 79) hx hb hts in_X10 hown hK hP 0 rfl rfl 34 (by decide) lk5 (fun _ h9 => h9) rfl dX10_takeMoon_170 ?_
                  refine lv_iload_n hx hb dX10_takeMoon_173 rfl (lv_at hl 0 rfl) ?_
                  refine lv_if_eq (tgt := 181) hx hb dX10_takeMoon_174 (by decide) (fun _ => ?_) (fun q => absurd q (by decide))
                  refine lv_iconst (v := 0) hx hb dX10_takeMoon_181 (by decide) ?_
                  refine lv_iadd hx hb dX10_takeMoon_182 ?_
                  refine lv_topi (fun x182 e182 => ?_)
                  have t182 := i_add e182 (by omega)
                  refine va_put (D := eD E) (ci := 10) (v := .int x182) (ty := .int) (C := RX10) (T := TX10) (N := 79) hx hb hts in_X10 tyX10 tyX10_ok nmX10 hown hK hP hD hS 0 rfl rfl 34 (by decide) lk5 (fun _ h9 => h9) rfl (by decide +kernel) rfl rfl (Nat.le_of_ble_eq_true rfl) dX10_takeMoon_183 (fun H locs hP hD hS => ?_)
                  have hP : va_P (eD E) vwCl (mdL E am (up2 o116_vm 34 0 x182)) H := hP
                  have hD : va_D A (mdL E am (up2 o116_vm 34 0 x182)) := hD
                  generalize hv183 : up2 o116_vm 34 0 x182 = vm_183 at hP hD
                  have hMI : MdI vm_183 := by rw [← hv183]; exact hMI
                  have hq183_43 : (vm_183 43 0).toInt = (o116_vm 43 0).toInt := by rw [← hv183]; rfl
                  have hq183_34 : (vm_183 34 0).toInt = x182.toInt := by rw [← hv183]; rfl
                  have hn183 : (vm_183 44 (vm 43 0).toNatClampNeg).toInt = x113.toInt := by rw [← hv183]; exact hn116
                  have hat : atI vm_183 := by rw [← hv183]; exact (show 0 ≤ x182.toInt ∧ x182.toInt ≤ (o116_vm 32 0).toInt by omega)
                  have hmo : moF (vm 43 0).toNatClampNeg vm vm_183 := (by rw [← hv183]; exact hmo.up (by omega))
                  have hb45 : 0 ≤ (vm_183 45 (vm 43 0).toNatClampNeg).toInt ∧ (vm_183 45 (vm 43 0).toNatClampNeg).toInt ≤ 8 := (by rw [← hv183]; exact hb45)
                  have hb46 : 0 ≤ (vm_183 46 (vm 43 0).toNatClampNeg).toInt ∧ (vm_183 46 (vm 43 0).toNatClampNeg).toInt ≤ 8 := (by rw [← hv183]; exact hb46)
                  refine lv_goto (tgt := 64) hx hb dX10_takeMoon_186 (by decide) ?_
                  exact ih64 0 vm_183 _ _ ls (by omega) hP hD hS hMI hat (by omega) (by omega) hmo (by omega) hb45 hb46 (lv_sub hl [2, 3, 0] rfl)
                · have c155_ := i_nle c155
                  refine lv_aload_n hx hb dX10_takeMoon_158 rfl (lv_at hl 2 rfl) ?_
                  refine lv_iconst (v := 1) hx hb dX10_takeMoon_159 (by decide) ?_
                  refine lv_aload_n hx hb dX10_takeMoon_160 rfl (lv_at hl 2 rfl) ?_
                  refine va_get (D := eD E) (ci := 10) (v := .int (o116_vm 34 0)) (C := RX10) (T := TX10) (N := 79) hx hb hts in_X10 hown hK hP 0 rfl rfl 34 (by decide) lk5 (fun _ h9 => h9) rfl dX10_takeMoon_161 ?_
                  refine mt_Vi (w1 := fun (u : Vf) => mdL E am u) (wf := fun (u : Vf) => mdL E am u) (wr := []) (As := [.int 1, .int (o116_vm 34 0)]) (rest := []) (C := RX10) (ci := 10) ⟨hx, hb, hml, hown, hts⟩ (c_X10_fails l E H.size am o116_vm 1 (o116_vm 34 0)) (cwV 2 hts gX10_takeMoon_X10_fails rfl rfl rfl (by decide +kernel) ⟨Nat.le_of_ble_eq_true rfl, Nat.le_of_ble_eq_true rfl⟩) hE hS hA hP hD [0, 1, 2, 3, 4, 5, 6, 7, 8, 9, 10, 11, 12, 13, 14, 15, 16, 17, 18, 19, 20, 21, 22, 23, 24, 25, 26, 27, 28, 29, 30, 31, 32, 33, 34, 35, 36, 37, 38, 39, 40, 41, 42, 43, 44, 45] [] rfl rfl (by decide) (by decide) (by decide) [0, 1, 2, 3, 4, 5, 6, 7, 8, 9, 10, 11, 12, 13, 14, 15, 16, 17, 18, 19, 20, 21, 22, 23, 24, 25, 26, 27, 28, 29, 30, 31, 32, 33, 34, 35, 36, 37, 38, 39, 40, 41, 42, 43, 44, 45] (by decide) (fun u => rfl) rfl rfl rfl rfl hl.1 rfl (Nat.le_of_ble_eq_true rfl) dX10_takeMoon_164 ⟨Nat.zero_le _, Nat.zero_le _⟩ (fun r164 u164 H locs h164 hP hD hS => ?_)
                  generalize u164 = o164_vm at hP hD h164
                  try dsimp only at h164
                  have hP : va_P (eD E) vwCl (mdL E am o164_vm) H := hP
                  have hD : va_D A (mdL E am o164_vm) := hD
                  have hr164 : r164.toInt = 1 := by rw [h164.1]; decide
                  have hq164 : (o164_vm 34 0).toInt = (o116_vm 34 0).toInt := by rw [h164.2.2]
                  subst hQ
                  exact W.iret (v := r164) hx hb hr (fun t ht hW => ⟨⟨r164, (o164_vm), rfl, (show MdI o164_vm ∧ atI o164_vm ∧ (vm 34 0).toInt ≤ (o164_vm 34 0).toInt ∧ (0 ≤ r164.toInt ∧ r164.toInt ≤ 4) ∧ (r164.toInt = 0 → RdM o164_vm) from ⟨hMI.sn h164.2.1, hat.of h164.2.2 (h164.2.1 32 (by decide) (by decide) (by decide) (by decide)), by omega, by omega, fun q => absurd q (by omega)⟩), by rw [ht]; exact hP, hD⟩, hS.F ht⟩) hS.2.2 dX10_takeMoon_167
              · have c121_ := i_eq c121
                refine lv_iconst (v := 1) hx hb dX10_takeMoon_124 (by decide) ?_
                refine lv_goto (tgt := 129) hx hb dX10_takeMoon_125 (by decide) ?_
                refine lv_istore_n (lv' := [(3, .int 1), (2, .int r72), (0, .ref (am 0)), (1, .int (vm 43 0))]) hx hb dX10_takeMoon_129 rfl hl (by decide) rfl (fun ls hl => ?_)
                refine lv_iload_n hx hb dX10_takeMoon_130 rfl (lv_at hl 0 rfl) ?_
                refine lv_if_eq (tgt := 148) hx hb dX10_takeMoon_131 (by decide) (fun q => absurd q (by decide)) (fun _ => ?_)
                refine lv_aload_n hx hb dX10_takeMoon_134 rfl (lv_at hl 2 rfl) ?_
                refine va_get (D := eD E) (ci := 10) (v := .ref (am 44)) (C := RX10) (T := TX10) (N := 79) hx hb hts in_X10 hown hK hP 0 rfl rfl 44 (by decide) lk2 (fun _ h9 => h9) rfl dX10_takeMoon_135 ?_
                refine lv_iload_n hx hb dX10_takeMoon_138 rfl (lv_at hl 3 rfl) ?_
                refine va_iald hx hb hK hP 23 0 rfl rfl (n := 3) (f := (o116_vm 44)) (i_in (by omega) (by omega)) dX10_takeMoon_139 ?_
                refine lv_topi (fun x139 e139 => ?_)
                have t139 : x139.toInt = x113.toInt := by rw [e139]; exact hn116
                refine lv_bipush (v := 9) hx hb dX10_takeMoon_140 (by decide) ?_
                refine lv_icmp_ne (tgt := 168) hx hb dX10_takeMoon_142 (by decide) (fun c142 => ?_) (fun c142 => ?_)
                · have c142_ := i_ne c142
                  refine lv_aload_n hx hb dX10_takeMoon_168 rfl (lv_at hl 2 rfl) ?_
                  refine lv_dup hx hb dX10_takeMoon_169 rfl ?_
                  refine va_get (D := eD E) (ci := 10) (v := .int (o116_vm 34 0)) (C := RX10) (T := TX10) (N := 79) hx hb hts in_X10 hown hK hP 0 rfl rfl 34 (by decide) lk5 (fun _ h9 => h9) rfl dX10_takeMoon_170 ?_
                  refine lv_iload_n hx hb dX10_takeMoon_173 rfl (lv_at hl 0 rfl) ?_
                  refine lv_if_eq (tgt := 181) hx hb dX10_takeMoon_174 (by decide) (fun q => absurd q (by decide)) (fun _ => ?_)
                  refine lv_iconst (v := 1) hx hb dX10_takeMoon_177 (by decide) ?_
                  refine lv_goto (tgt := 182) hx hb dX10_takeMoon_178 (by decide) ?_
                  refine lv_iadd hx hb dX10_takeMoon_182 ?_
                  refine lv_topi (fun x182 e182 => ?_)
                  have t182 := i_add e182 (by omega)
                  refine va_put (D := eD E) (ci := 10) (v := .int x182) (ty := .int) (C := RX10) (T := TX10) (N := 79) hx hb hts in_X10 tyX10 tyX10_ok nmX10 hown hK hP hD hS 0 rfl rfl 34 (by decide) lk5 (fun _ h9 => h9) rfl (by decide +kernel) rfl rfl (Nat.le_of_ble_eq_true rfl) dX10_takeMoon_183 (fun H locs hP hD hS => ?_)
                  have hP : va_P (eD E) vwCl (mdL E am (up2 o116_vm 34 0 x182)) H := hP
                  have hD : va_D A (mdL E am (up2 o116_vm 34 0 x182)) := hD
                  generalize hv183 : up2 o116_vm 34 0 x182 = vm_183 at hP hD
                  have hMI : MdI vm_183 := by rw [← hv183]; exact hMI
                  have hq183_43 : (vm_183 43 0).toInt = (o116_vm 43 0).toInt := by rw [← hv183]; rfl
                  have hq183_34 : (vm_183 34 0).toInt = x182.toInt := by rw [← hv183]; rfl
                  have hn183 : (vm_183 44 (vm 43 0).toNatClampNeg).toInt = x113.toInt := by rw [← hv183]; exact hn116
                  have hat : atI vm_183 := by rw [← hv183]; exact (show 0 ≤ x182.toInt ∧ x182.toInt ≤ (o116_vm 32 0).toInt by omega)
                  have hmo : moF (vm 43 0).toNatClampNeg vm vm_183 := (by rw [← hv183]; exact hmo.up (by omega))
                  have hb45 : 0 ≤ (vm_183 45 (vm 43 0).toNatClampNeg).toInt ∧ (vm_183 45 (vm 43 0).toNatClampNeg).toInt ≤ 8 := (by rw [← hv183]; exact hb45)
                  have hb46 : 0 ≤ (vm_183 46 (vm 43 0).toNatClampNeg).toInt ∧ (vm_183 46 (vm 43 0).toNatClampNeg).toInt ≤ 8 := (by rw [← hv183]; exact hb46)
                  refine lv_goto (tgt := 64) hx hb dX10_takeMoon_186 (by decide) ?_
                  exact ih64 1 vm_183 _ _ ls (by omega) hP hD hS hMI hat (by omega) (by omega) hmo (by omega) hb45 hb46 (lv_sub hl [2, 3, 0] rfl)
                · have c142_ := i_eq c142
                  refine lv_goto (tgt := 158) hx hb dX10_takeMoon_145 (by decide) ?_
                  refine lv_aload_n hx hb dX10_takeMoon_158 rfl (lv_at hl 2 rfl) ?_
                  refine lv_iconst (v := 1) hx hb dX10_takeMoon_159 (by decide) ?_
                  refine lv_aload_n hx hb dX10_takeMoon_160 rfl (lv_at hl 2 rfl) ?_
                  refine va_get (D := eD E) (ci := 10) (v := .int (o116_vm 34 0)) (C := RX10) (T := TX10) (N := 79) hx hb hts in_X10 hown hK hP 0 rfl rfl 34 (by decide) lk5 (fun _ h9 => h9) rfl dX10_takeMoon_161 ?_
                  refine mt_Vi (w1 := fun (u : Vf) => mdL E am u) (wf := fun (u : Vf) => mdL E am u) (wr := []) (As := [.int 1, .int (o116_vm 34 0)]) (rest := []) (C := RX10) (ci := 10) ⟨hx, hb, hml, hown, hts⟩ (c_X10_fails l E H.size am o116_vm 1 (o116_vm 34 0)) (cwV 2 hts gX10_takeMoon_X10_fails rfl rfl rfl (by decide +kernel) ⟨Nat.le_of_ble_eq_true rfl, Nat.le_of_ble_eq_true rfl⟩) hE hS hA hP hD [0, 1, 2, 3, 4, 5, 6, 7, 8, 9, 10, 11, 12, 13, 14, 15, 16, 17, 18, 19, 20, 21, 22, 23, 24, 25, 26, 27, 28, 29, 30, 31, 32, 33, 34, 35, 36, 37, 38, 39, 40, 41, 42, 43, 44, 45] [] rfl rfl (by decide) (by decide) (by decide) [0, 1, 2, 3, 4, 5, 6, 7, 8, 9, 10, 11, 12, 13, 14, 15, 16, 17, 18, 19, 20, 21, 22, 23, 24, 25, 26, 27, 28, 29, 30, 31, 32, 33, 34, 35, 36, 37, 38, 39, 40, 41, 42, 43, 44, 45] (by decide) (fun u => rfl) rfl rfl rfl rfl hl.1 rfl (Nat.le_of_ble_eq_true rfl) dX10_takeMoon_164 ⟨Nat.zero_le _, Nat.zero_le _⟩ (fun r164 u164 H locs h164 hP hD hS => ?_)
                  generalize u164 = o164_vm at hP hD h164
                  try dsimp only at h164
                  have hP : va_P (eD E) vwCl (mdL E am o164_vm) H := hP
                  have hD : va_D A (mdL E am o164_vm) := hD
                  have hr164 : r164.toInt = 1 := by rw [h164.1]; decide
                  have hq164 : (o164_vm 34 0).toInt = (o116_vm 34 0).toInt := by rw [h164.2.2]
                  subst hQ
                  exact W.iret (v := r164) hx hb hr (fun t ht hW => ⟨⟨r164, (o164_vm), rfl, (show MdI o164_vm ∧ atI o164_vm ∧ (vm 34 0).toInt ≤ (o164_vm 34 0).toInt ∧ (0 ≤ r164.toInt ∧ r164.toInt ≤ 4) ∧ (r164.toInt = 0 → RdM o164_vm) from ⟨hMI.sn h164.2.1, hat.of h164.2.2 (h164.2.1 32 (by decide) (by decide) (by decide) (by decide)), by omega, by omega, fun q => absurd q (by omega)⟩), by rw [ht]; exact hP, hD⟩, hS.F ht⟩) hS.2.2 dX10_takeMoon_167
            · have c77_ := i_nle c77
              refine lv_iload_n hx hb dX10_takeMoon_80 rfl (lv_at hl 0 rfl) ?_
              subst hQ
              exact W.iret (v := r72) hx hb hr (fun t ht hW => ⟨⟨r72, (o72_vm), rfl, (show MdI o72_vm ∧ atI o72_vm ∧ (vm 34 0).toInt ≤ (o72_vm 34 0).toInt ∧ (0 ≤ r72.toInt ∧ r72.toInt ≤ 4) ∧ (r72.toInt = 0 → RdM o72_vm) from ⟨hMI, hat, by omega, by omega, fun q => absurd q (by omega)⟩), by rw [ht]; exact hP, hD⟩, hS.F ht⟩) hS.2.2 dX10_takeMoon_81
      exact K64 _ 1 vm_61 _ _ ls (Nat.lt_succ_self _) hP hD hS hMI hat (by omega) (by omega) hmo (by omega) hb45 hb46 (lv_sub hl [2, 3, 0] rfl)
    · have c50_ := i_nle c50
      refine lv_iload_n hx hb dX10_takeMoon_53 rfl (lv_at hl 0 rfl) ?_
      subst hQ
      exact W.iret (v := fz) hx hb hr (fun t ht hW => ⟨⟨fz, (vk), rfl, (show MdI vk ∧ atI vk ∧ (vm 34 0).toInt ≤ (vk 34 0).toInt ∧ (0 ≤ fz.toInt ∧ fz.toInt ≤ 4) ∧ (fz.toInt = 0 → RdM vk) from ⟨hMI, hat, by omega, by omega, fun q => absurd q (by omega)⟩), by rw [ht]; exact hP, hD⟩, hS.F ht⟩) hS.2.2 dX10_takeMoon_54
  refine lv_if_le (tgt := 36) hx hb dX10_takeMoon_29 (by decide) (fun c29 => ?_) (fun c29 => ?_)
  · have c29_ := i_le c29
    refine lv_aload_n hx hb dX10_takeMoon_36 rfl (lv_at hl 2 rfl) ?_
    refine lv_aload_n hx hb dX10_takeMoon_37 rfl (lv_at hl 2 rfl) ?_
    refine va_get (D := eD E) (ci := 10) (v := .ref (am 46)) (C := RX10) (T := TX10) (N := 79) hx hb hts in_X10 hown hK hP 0 rfl rfl 46 (by decide) lk6 (fun _ h9 => h9) rfl dX10_takeMoon_38 ?_
    refine lv_iload_n hx hb dX10_takeMoon_41 rfl (lv_at hl 1 rfl) ?_
    refine lv_iconst (v := 0) hx hb dX10_takeMoon_42 (by decide) ?_
    refine lv_bipush (v := 8) hx hb dX10_takeMoon_43 (by decide) ?_
    refine mt_Vi (w1 := fun (u : Vf) => mdL E am u) (wf := fun (u : Vf) => mdL E am u) (wr := []) (As := [.ref (am 46), .int (vm 43 0), .int 0, .int 8]) (rest := []) (C := RX10) (ci := 10) ⟨hx, hb, hml, hown, hts⟩ (c_X10_into_46 l E H.size am o24_vm (vm 43 0) 0 8 hMI hat (by omega)) (cwV 4 hts gX10_takeMoon_X10_into rfl rfl rfl (by decide +kernel) ⟨Nat.le_of_ble_eq_true rfl, Nat.le_of_ble_eq_true rfl⟩) hE hS hA hP hD [0, 1, 2, 3, 4, 5, 6, 7, 8, 9, 10, 11, 12, 13, 14, 15, 16, 17, 18, 19, 20, 21, 22, 23, 24, 25, 26, 27, 28, 29, 30, 31, 32, 33, 34, 35, 36, 37, 38, 39, 40, 41, 42, 43, 44, 45] [] rfl rfl (by decide) (by decide) (by decide) [0, 1, 2, 3, 4, 5, 6, 7, 8, 9, 10, 11, 12, 13, 14, 15, 16, 17, 18, 19, 20, 21, 22, 23, 24, 25, 26, 27, 28, 29, 30, 31, 32, 33, 34, 35, 36, 37, 38, 39, 40, 41, 42, 43, 44, 45] (by decide) (fun u => rfl) rfl rfl rfl rfl hl.1 rfl (Nat.le_of_ble_eq_true rfl) dX10_takeMoon_45 ⟨Nat.zero_le _, Nat.zero_le _⟩ (fun r45 u45 H locs h45 hP hD hS => ?_)
    generalize u45 = o45_vm at hP hD h45
    try dsimp only at h45
    have hP : va_P (eD E) vwCl (mdL E am o45_vm) H := hP
    have hD : va_D A (mdL E am o45_vm) := hD
    have hMI : MdI o45_vm := hMI.on (h45.1.mem (by decide))
    have hat := h45.2.2.1
    obtain ⟨y45, hy45, hr45⟩ := id h45.2.1
    have hm45 := h45.2.2.2
    have hmo : moF (vm 43 0).toNatClampNeg vm o45_vm := hmo.k46 h45.1 hy45
    have hq45 : (o45_vm 43 0).toInt = (o24_vm 43 0).toInt := by rw [h45.1 43 (by decide) (by decide) (by decide) (by decide) (by decide) (by decide)]
    have hv45 : o45_vm 46 (vm 43 0).toNatClampNeg = y45 := by rw [hy45]; exact upd_at
    have hb6 : r45.toInt = 0 → (0 ≤ (o45_vm 45 (vm 43 0).toNatClampNeg).toInt ∧ (o45_vm 45 (vm 43 0).toNatClampNeg).toInt ≤ 8) ∧ (0 ≤ (o45_vm 46 (vm 43 0).toNatClampNeg).toInt ∧ (o45_vm 46 (vm 43 0).toNatClampNeg).toInt ≤ 8) := fun q => ⟨by rw [h45.1 45 (by decide) (by decide) (by decide) (by decide) (by decide) (by decide)]; exact hb45 (by omega), by rw [hv45]; omega⟩
    exact K48 r45 o45_vm _ _ ls hP hD hS hMI hat (by omega) (by omega) (by first | exact fun q => absurd q (by omega) | exact hb6) hmo (by omega) (lv_sub hl [2, 1, 0] rfl)
  · have c29_ := i_nle c29
    refine lv_iload_n hx hb dX10_takeMoon_32 rfl (lv_at hl 0 rfl) ?_
    refine lv_goto (tgt := 48) hx hb dX10_takeMoon_33 (by decide) ?_
    exact K48 r24 o24_vm _ _ ls hP hD hS hMI hat (by omega) (by omega) (by first | exact fun q => absurd q (by omega) | exact hb6) hmo (by omega) (lv_sub hl [2, 1, 0] rfl)
def rm_X10_takeHouse : Room := { frames := 4, cells := 0, slots := 0, locals := 93 }
set_option maxHeartbeats 4000000 in
set_option maxRecDepth 100000 in
theorem c_X10_takeHouse (l : Launch) (E : Ev) (sz : Nat) (am : Nat → Nat) (vm : Vf) (hMI : MdI vm) (hat : atI vm) (hRd : RdM vm) (hw1 : 1 ≤ (vm 37 0).toInt) (hcn : (vm 48 0).toInt ≤ 5) : Met l yX10_takeHouse wsX10_takeHouse rm_X10_takeHouse (MtP E sz [.ref (am 0)] (mdL E am vm)) (va_Qi (fun (r : Int32) (u : Vf) => MdI u ∧ atI u ∧ (vm 34 0).toInt ≤ (u 34 0).toInt ∧ (0 ≤ r.toInt ∧ r.toInt ≤ 4) ∧ (r.toInt = 0 → RdM u)) (MtB E (va_A (mdL E am vm) sz) (fun u => mdL E am u)) (va_A (mdL E am vm) sz)) 0 0 (va_A (mdL E am vm) sz) := by
  refine Met.ofW (cc := cX10_takeHouse) (maxL := 2) (ret := (some .int)) (by decide) rfl ?_
  intro p e s m args below meth c s₁ B hml hv
  obtain ⟨rfl, hsz, hE, hP, hD0⟩ := hv
  subst hsz
  have hD := hD0.self (sz := s.heap.size)
  generalize hAe : va_A (mdL E am vm) s.heap.size = A at hD hE ⊢
  have hA : ∀ q : Nat, s.heap.size ≤ q → A q := fun q h => by rw [← hAe]; exact Or.inr h
  have hS : va_S A s.heap s.heap [] := va_S.rf
  have hx := B.exec
  have hb := B.bytes
  have hr := B.returns
  have hts := atoms_spec (ws := wsX10_takeHouse) B.pre
  have hown : s.vm.findClass RX10 = some m.cls := findClass_of_methodNamed B.named
  have hlocks := B.notSynchronized
  have hK := hE.1
  have in_X10 : ∀ w ∈ u_ws RX10 TX10 79, w ∈ wsX10_takeHouse := fun w h => List.mem_cons_of_mem _ (List.mem_append_right _ h)
  have lk0 := hts (.fieldLink RX10 234 "TidedGroundModel" "readHouses" "I") (by decide +kernel)
  have lk1 := hts (.fieldLink RX10 98 "TidedGroundModel" "readHouseAt" "[I") (by decide +kernel)
  have lk2 := hts (.fieldLink RX10 101 "TidedGroundModel" "readHinge" "[I") (by decide +kernel)
  have n_0 : (0 : Int32).toInt = 0 := by decide
  have n_1 : (1 : Int32).toInt = 1 := by decide
  have n_99 : (99 : Int32).toInt = 99 := by decide
  have hl := lv_entry ([.ref (am 0)]) (n := 2) (Nat.le_of_ble_eq_true rfl)
  rw [lg_entry_eq]
  generalize (lg_sl ([.ref (am 0)]) ++ List.replicate (2 - (lg_sl ([.ref (am 0)])).length) Slot.unset).toArray = ls at hl ⊢
  have hl : lv_has ls 2 [(0, .ref (am 0))] := hl
  refine W_abs (fun Q hQ => ?_)
  have hH := hMI.1
  obtain ⟨hT1, hT2, hT3, hT4, hT5⟩ := id hH.2.2.2.2.2.2
  obtain ⟨ha1, ha2⟩ := id hat
  obtain ⟨hrG, hrC, hrZ, hrMo, hrB, hrD⟩ := id hRd
  obtain ⟨hrc1, hrc2, hrc3, hrc4, hrc5, hrc6⟩ := id hrC
  have hd1 : 1 ≤ (vm 38 0).toInt := by rcases hrZ with q | q <;> omega
  refine lv_aload_n hx hb dX10_takeHouse_0 rfl (lv_at hl 0 rfl) ?_
  refine lv_dup hx hb dX10_takeHouse_1 rfl ?_
  refine va_get (D := eD E) (ci := 10) (v := .int (vm 48 0)) (C := RX10) (T := TX10) (N := 79) hx hb hts in_X10 hown hK hP 0 rfl rfl 48 (by decide) lk0 (fun _ h9 => h9) rfl dX10_takeHouse_2 ?_
  refine lv_iconst (v := 1) hx hb dX10_takeHouse_5 (by decide) ?_
  refine lv_iadd hx hb dX10_takeHouse_6 ?_
  refine lv_topi (fun x6 e6 => ?_)
  have t6 := i_add e6 (by omega)
  refine va_put (D := eD E) (ci := 10) (v := .int x6) (ty := .int) (C := RX10) (T := TX10) (N := 79) hx hb hts in_X10 tyX10 tyX10_ok nmX10 hown hK hP hD hS 0 rfl rfl 48 (by decide) lk0 (fun _ h9 => h9) rfl (by decide +kernel) rfl rfl (Nat.le_of_ble_eq_true rfl) dX10_takeHouse_7 (fun H locs hP hD hS => ?_)
  have hP : va_P (eD E) vwCl (mdL E am (up2 vm 48 0 x6)) H := hP
  have hD : va_D A (mdL E am (up2 vm 48 0 x6)) := hD
  generalize hv7 : up2 vm 48 0 x6 = vm_7 at hP hD
  have hMI : MdI vm_7 := by rw [← hv7]; exact hMI
  have hat : atI vm_7 := by rw [← hv7]; exact hat
  have hq7 : (vm_7 48 0).toInt = x6.toInt := by rw [← hv7]; rfl
  have hq7_37 : (vm_7 37 0).toInt = (vm 37 0).toInt := by rw [← hv7]; rfl
  have hq7_38 : (vm_7 38 0).toInt = (vm 38 0).toInt := by rw [← hv7]; rfl
  have hq7_34 : (vm_7 34 0).toInt = (vm 34 0).toInt := by rw [← hv7]; rfl
  have hRd : RdM vm_7 := by rw [← hv7]; exact rd_house hRd ⟨by omega, by omega⟩ (by omega)
  have hrG : rdG vm_7 := by rw [← hv7]; exact hrG
  refine lv_aload_n hx hb dX10_takeHouse_10 rfl (lv_at hl 0 rfl) ?_
  refine lv_aload_n hx hb dX10_takeHouse_11 rfl (lv_at hl 0 rfl) ?_
  refine va_get (D := eD E) (ci := 10) (v := .ref (am 49)) (C := RX10) (T := TX10) (N := 79) hx hb hts in_X10 hown hK hP 0 rfl rfl 49 (by decide) lk1 (fun _ h9 => h9) rfl dX10_takeHouse_12 ?_
  refine lv_aload_n hx hb dX10_takeHouse_15 rfl (lv_at hl 0 rfl) ?_
  refine va_get (D := eD E) (ci := 10) (v := .int (vm_7 48 0)) (C := RX10) (T := TX10) (N := 79) hx hb hts in_X10 hown hK hP 0 rfl rfl 48 (by decide) lk0 (fun _ h9 => h9) rfl dX10_takeHouse_16 ?_
  have sv19_vm_7480 : 1 ≤ (vm_7 48 0).toInt ∧ (vm_7 48 0).toInt ≤ 6 := by omega
  refine lv_iconst (v := 1) hx hb dX10_takeHouse_19 (by decide) ?_
  refine lv_isub hx hb dX10_takeHouse_20 ?_
  refine lv_topi (fun x20 e20 => ?_)
  have t20 := i_sub e20 (by omega)
  refine mt_Vi (w1 := fun (u : Vf) => mdL E am u) (wf := fun (u : Vf) => mdL E am u) (wr := []) (As := [.ref (am 49), .int x20]) (rest := []) (C := RX10) (ci := 10) ⟨hx, hb, hml, hown, hts⟩ (c_X10_takeNewCell_49 l E H.size am vm_7 x20 hMI hat hrG (by omega) (by omega) (by omega)) (cwV 2 hts gX10_takeHouse_X10_takeNewCell rfl rfl rfl (by decide +kernel) ⟨Nat.le_of_ble_eq_true rfl, Nat.le_of_ble_eq_true rfl⟩) hE hS hA hP hD [0, 1, 2, 3, 4, 5, 6, 7, 8, 9, 10, 11, 12, 13, 14, 15, 16, 17, 18, 19, 20, 21, 22, 23, 24, 25, 26, 27, 28, 29, 30, 31, 32, 33, 34, 35, 36, 37, 38, 39, 40, 41, 42, 43, 44, 45] [] rfl rfl (by decide) (by decide) (by decide) [0, 1, 2, 3, 4, 5, 6, 7, 8, 9, 10, 11, 12, 13, 14, 15, 16, 17, 18, 19, 20, 21, 22, 23, 24, 25, 26, 27, 28, 29, 30, 31, 32, 33, 34, 35, 36, 37, 38, 39, 40, 41, 42, 43, 44, 45] (by decide) (fun u => rfl) rfl rfl rfl rfl hl.1 rfl (Nat.le_of_ble_eq_true rfl) dX10_takeHouse_21 ⟨Nat.zero_le _, Nat.zero_le _⟩ (fun r21 u21 H locs h21 hP hD hS => ?_)
  generalize u21 = o21_vm at hP hD h21
  try dsimp only at h21
  have hP : va_P (eD E) vwCl (mdL E am o21_vm) H := hP
  have hD : va_D A (mdL E am o21_vm) := hD
  have hMI : MdI o21_vm := hMI.on4 (h21.1.mem (by decide)) (by rw [h21.1 47 (by decide) (by decide) (by decide) (by decide) (by decide) (by decide)]; exact hMI.2.2.2.2.1) (h21.2.1 hMI.2.2.2.2.2.1) (by rw [h21.1 52 (by decide) (by decide) (by decide) (by decide) (by decide) (by decide)]; exact hMI.2.2.2.2.2.2.1) (by rw [h21.1 56 (by decide) (by decide) (by decide) (by decide) (by decide) (by decide)]; exact hMI.2.2.2.2.2.2.2)
  have hRd : RdM o21_vm := hRd.on (h21.1.mem (by decide))
  have hat := h21.2.2.1
  have hq21 : (o21_vm 48 0).toInt = (vm_7 48 0).toInt := by rw [h21.1 48 (by decide) (by decide) (by decide) (by decide) (by decide) (by decide)]
  refine lv_istore_n (lv' := [(1, .int r21), (0, .ref (am 0))]) hx hb dX10_takeHouse_24 rfl hl (by decide) rfl (fun ls hl => ?_)
  refine lv_iload_n hx hb dX10_takeHouse_25 rfl (lv_at hl 0 rfl) ?_
  refine lv_if_le (tgt := 33) hx hb dX10_takeHouse_26 (by decide) (fun c26 => ?_) (fun c26 => ?_)
  · have c26_ := i_le c26
    refine lv_aload_n hx hb dX10_takeHouse_33 rfl (lv_at hl 1 rfl) ?_
    refine lv_aload_n hx hb dX10_takeHouse_34 rfl (lv_at hl 1 rfl) ?_
    refine va_get (D := eD E) (ci := 10) (v := .ref (am 50)) (C := RX10) (T := TX10) (N := 79) hx hb hts in_X10 hown hK hP 0 rfl rfl 50 (by decide) lk2 (fun _ h9 => h9) rfl dX10_takeHouse_35 ?_
    refine lv_aload_n hx hb dX10_takeHouse_38 rfl (lv_at hl 1 rfl) ?_
    refine va_get (D := eD E) (ci := 10) (v := .int (o21_vm 48 0)) (C := RX10) (T := TX10) (N := 79) hx hb hts in_X10 hown hK hP 0 rfl rfl 48 (by decide) lk0 (fun _ h9 => h9) rfl dX10_takeHouse_39 ?_
    have sv42_o21_vm480 : 1 ≤ (o21_vm 48 0).toInt ∧ (o21_vm 48 0).toInt ≤ 6 := by omega
    refine lv_iconst (v := 1) hx hb dX10_takeHouse_42 (by decide) ?_
    refine lv_isub hx hb dX10_takeHouse_43 ?_
    refine lv_topi (fun x43 e43 => ?_)
    have t43 := i_sub e43 (by omega)
    refine lv_iconst (v := 0) hx hb dX10_takeHouse_44 (by decide) ?_
    refine lv_bipush (v := 99) hx hb dX10_takeHouse_45 (by decide) ?_
    refine mt_Vi (w1 := fun (u : Vf) => mdL E am u) (wf := fun (u : Vf) => mdL E am u) (wr := []) (As := [.ref (am 50), .int x43, .int 0, .int 99]) (rest := []) (C := RX10) (ci := 10) ⟨hx, hb, hml, hown, hts⟩ (c_X10_into_50 l E H.size am o21_vm x43 0 99 hMI hat (by omega)) (cwV 4 hts gX10_takeHouse_X10_into rfl rfl rfl (by decide +kernel) ⟨Nat.le_of_ble_eq_true rfl, Nat.le_of_ble_eq_true rfl⟩) hE hS hA hP hD [0, 1, 2, 3, 4, 5, 6, 7, 8, 9, 10, 11, 12, 13, 14, 15, 16, 17, 18, 19, 20, 21, 22, 23, 24, 25, 26, 27, 28, 29, 30, 31, 32, 33, 34, 35, 36, 37, 38, 39, 40, 41, 42, 43, 44, 45] [] rfl rfl (by decide) (by decide) (by decide) [0, 1, 2, 3, 4, 5, 6, 7, 8, 9, 10, 11, 12, 13, 14, 15, 16, 17, 18, 19, 20, 21, 22, 23, 24, 25, 26, 27, 28, 29, 30, 31, 32, 33, 34, 35, 36, 37, 38, 39, 40, 41, 42, 43, 44, 45] (by decide) (fun u => rfl) rfl rfl rfl rfl hl.1 rfl (Nat.le_of_ble_eq_true rfl) dX10_takeHouse_47 ⟨Nat.zero_le _, Nat.zero_le _⟩ (fun r47 u47 H locs h47 hP hD hS => ?_)
    generalize u47 = o47_vm at hP hD h47
    try dsimp only at h47
    have hP : va_P (eD E) vwCl (mdL E am o47_vm) H := hP
    have hD : va_D A (mdL E am o47_vm) := hD
    have hMI : MdI o47_vm := hMI.on (h47.1.mem (by decide))
    obtain ⟨y47, hy47, hr47⟩ := id h47.2.1
    have hm47 := h47.2.2.2
    subst hQ
    exact W.iret (v := r47) hx hb hr (fun t ht hW => ⟨⟨r47, (o47_vm), rfl, (show MdI o47_vm ∧ atI o47_vm ∧ (vm 34 0).toInt ≤ (o47_vm 34 0).toInt ∧ (0 ≤ r47.toInt ∧ r47.toInt ≤ 4) ∧ (r47.toInt = 0 → RdM o47_vm) from ⟨hMI, h47.2.2.1, by omega, by omega, fun q => hRd.on (h47.1.mem (by decide))⟩), by rw [ht]; exact hP, hD⟩, hS.F ht⟩) hS.2.2 dX10_takeHouse_50
  · have c26_ := i_nle c26
    refine lv_iload_n hx hb dX10_takeHouse_29 rfl (lv_at hl 0 rfl) ?_
    refine lv_goto (tgt := 50) hx hb dX10_takeHouse_30 (by decide) ?_
    subst hQ
    exact W.iret (v := r21) hx hb hr (fun t ht hW => ⟨⟨r21, (o21_vm), rfl, (show MdI o21_vm ∧ atI o21_vm ∧ (vm 34 0).toInt ≤ (o21_vm 34 0).toInt ∧ (0 ≤ r21.toInt ∧ r21.toInt ≤ 4) ∧ (r21.toInt = 0 → RdM o21_vm) from ⟨hMI, hat, by omega, by omega, fun q => absurd q (by omega)⟩), by rw [ht]; exact hP, hD⟩, hS.F ht⟩) hS.2.2 dX10_takeHouse_50
def rm_X10_takeWell : Room := { frames := 4, cells := 0, slots := 0, locals := 93 }
set_option maxHeartbeats 4000000 in
set_option maxRecDepth 100000 in
theorem c_X10_takeWell (l : Launch) (E : Ev) (sz : Nat) (am : Nat → Nat) (vm : Vf) (hMI : MdI vm) (hat : atI vm) (hRd : RdM vm) (hw1 : 1 ≤ (vm 37 0).toInt) (hcn : (vm 55 0).toInt ≤ 4) : Met l yX10_takeWell wsX10_takeWell rm_X10_takeWell (MtP E sz [.ref (am 0)] (mdL E am vm)) (va_Qi (fun (r : Int32) (u : Vf) => MdI u ∧ atI u ∧ (vm 34 0).toInt ≤ (u 34 0).toInt ∧ (0 ≤ r.toInt ∧ r.toInt ≤ 4) ∧ (r.toInt = 0 → RdM u)) (MtB E (va_A (mdL E am vm) sz) (fun u => mdL E am u)) (va_A (mdL E am vm) sz)) 0 0 (va_A (mdL E am vm) sz) := by
  refine Met.ofW (cc := cX10_takeWell) (maxL := 2) (ret := (some .int)) (by decide) rfl ?_
  intro p e s m args below meth c s₁ B hml hv
  obtain ⟨rfl, hsz, hE, hP, hD0⟩ := hv
  subst hsz
  have hD := hD0.self (sz := s.heap.size)
  generalize hAe : va_A (mdL E am vm) s.heap.size = A at hD hE ⊢
  have hA : ∀ q : Nat, s.heap.size ≤ q → A q := fun q h => by rw [← hAe]; exact Or.inr h
  have hS : va_S A s.heap s.heap [] := va_S.rf
  have hx := B.exec
  have hb := B.bytes
  have hr := B.returns
  have hts := atoms_spec (ws := wsX10_takeWell) B.pre
  have hown : s.vm.findClass RX10 = some m.cls := findClass_of_methodNamed B.named
  have hlocks := B.notSynchronized
  have hK := hE.1
  have in_X10 : ∀ w ∈ u_ws RX10 TX10 79, w ∈ wsX10_takeWell := fun w h => List.mem_cons_of_mem _ (List.mem_append_right _ h)
  have lk0 := hts (.fieldLink RX10 240 "TidedGroundModel" "readWells" "I") (by decide +kernel)
  have lk1 := hts (.fieldLink RX10 113 "TidedGroundModel" "readWellAt" "[I") (by decide +kernel)
  have lk2 := hts (.fieldLink RX10 116 "TidedGroundModel" "readWellDeep" "[I") (by decide +kernel)
  have n_0 : (0 : Int32).toInt = 0 := by decide
  have n_1 : (1 : Int32).toInt = 1 := by decide
  have n_99 : (99 : Int32).toInt = 99 := by decide
  have hl := lv_entry ([.ref (am 0)]) (n := 2) (Nat.le_of_ble_eq_true rfl)
  rw [lg_entry_eq]
  generalize (lg_sl ([.ref (am 0)]) ++ List.replicate (2 - (lg_sl ([.ref (am 0)])).length) Slot.unset).toArray = ls at hl ⊢
  have hl : lv_has ls 2 [(0, .ref (am 0))] := hl
  refine W_abs (fun Q hQ => ?_)
  have hH := hMI.1
  obtain ⟨hT1, hT2, hT3, hT4, hT5⟩ := id hH.2.2.2.2.2.2
  obtain ⟨ha1, ha2⟩ := id hat
  obtain ⟨hrG, hrC, hrZ, hrMo, hrB, hrD⟩ := id hRd
  obtain ⟨hrc1, hrc2, hrc3, hrc4, hrc5, hrc6⟩ := id hrC
  have hd1 : 1 ≤ (vm 38 0).toInt := by rcases hrZ with q | q <;> omega
  refine lv_aload_n hx hb dX10_takeWell_0 rfl (lv_at hl 0 rfl) ?_
  refine lv_dup hx hb dX10_takeWell_1 rfl ?_
  refine va_get (D := eD E) (ci := 10) (v := .int (vm 55 0)) (C := RX10) (T := TX10) (N := 79) hx hb hts in_X10 hown hK hP 0 rfl rfl 55 (by decide) lk0 (fun _ h9 => h9) rfl dX10_takeWell_2 ?_
  refine lv_iconst (v := 1) hx hb dX10_takeWell_5 (by decide) ?_
  refine lv_iadd hx hb dX10_takeWell_6 ?_
  refine lv_topi (fun x6 e6 => ?_)
  have t6 := i_add e6 (by omega)
  refine va_put (D := eD E) (ci := 10) (v := .int x6) (ty := .int) (C := RX10) (T := TX10) (N := 79) hx hb hts in_X10 tyX10 tyX10_ok nmX10 hown hK hP hD hS 0 rfl rfl 55 (by decide) lk0 (fun _ h9 => h9) rfl (by decide +kernel) rfl rfl (Nat.le_of_ble_eq_true rfl) dX10_takeWell_7 (fun H locs hP hD hS => ?_)
  have hP : va_P (eD E) vwCl (mdL E am (up2 vm 55 0 x6)) H := hP
  have hD : va_D A (mdL E am (up2 vm 55 0 x6)) := hD
  generalize hv7 : up2 vm 55 0 x6 = vm_7 at hP hD
  have hMI : MdI vm_7 := by rw [← hv7]; exact hMI
  have hat : atI vm_7 := by rw [← hv7]; exact hat
  have hq7 : (vm_7 55 0).toInt = x6.toInt := by rw [← hv7]; rfl
  have hq7_37 : (vm_7 37 0).toInt = (vm 37 0).toInt := by rw [← hv7]; rfl
  have hq7_38 : (vm_7 38 0).toInt = (vm 38 0).toInt := by rw [← hv7]; rfl
  have hq7_34 : (vm_7 34 0).toInt = (vm 34 0).toInt := by rw [← hv7]; rfl
  have hrG : rdG vm_7 := by rw [← hv7]; exact hrG
  have hsl : scL lWe vm vm_7 := by rw [← hv7]; exact scL.rf.up (by decide)
  refine lv_aload_n hx hb dX10_takeWell_10 rfl (lv_at hl 0 rfl) ?_
  refine lv_aload_n hx hb dX10_takeWell_11 rfl (lv_at hl 0 rfl) ?_
  refine va_get (D := eD E) (ci := 10) (v := .ref (am 56)) (C := RX10) (T := TX10) (N := 79) hx hb hts in_X10 hown hK hP 0 rfl rfl 56 (by decide) lk1 (fun _ h9 => h9) rfl dX10_takeWell_12 ?_
  refine lv_aload_n hx hb dX10_takeWell_15 rfl (lv_at hl 0 rfl) ?_
  refine va_get (D := eD E) (ci := 10) (v := .int (vm_7 55 0)) (C := RX10) (T := TX10) (N := 79) hx hb hts in_X10 hown hK hP 0 rfl rfl 55 (by decide) lk0 (fun _ h9 => h9) rfl dX10_takeWell_16 ?_
  have sv19_vm_7550 : 1 ≤ (vm_7 55 0).toInt ∧ (vm_7 55 0).toInt ≤ 5 := by omega
  refine lv_iconst (v := 1) hx hb dX10_takeWell_19 (by decide) ?_
  refine lv_isub hx hb dX10_takeWell_20 ?_
  refine lv_topi (fun x20 e20 => ?_)
  have t20 := i_sub e20 (by omega)
  refine mt_Vi (w1 := fun (u : Vf) => mdL E am u) (wf := fun (u : Vf) => mdL E am u) (wr := []) (As := [.ref (am 56), .int x20]) (rest := []) (C := RX10) (ci := 10) ⟨hx, hb, hml, hown, hts⟩ (c_X10_takeNewCell_56 l E H.size am vm_7 x20 hMI hat hrG (by omega) (by omega) (by omega)) (cwV 2 hts gX10_takeWell_X10_takeNewCell rfl rfl rfl (by decide +kernel) ⟨Nat.le_of_ble_eq_true rfl, Nat.le_of_ble_eq_true rfl⟩) hE hS hA hP hD [0, 1, 2, 3, 4, 5, 6, 7, 8, 9, 10, 11, 12, 13, 14, 15, 16, 17, 18, 19, 20, 21, 22, 23, 24, 25, 26, 27, 28, 29, 30, 31, 32, 33, 34, 35, 36, 37, 38, 39, 40, 41, 42, 43, 44, 45] [] rfl rfl (by decide) (by decide) (by decide) [0, 1, 2, 3, 4, 5, 6, 7, 8, 9, 10, 11, 12, 13, 14, 15, 16, 17, 18, 19, 20, 21, 22, 23, 24, 25, 26, 27, 28, 29, 30, 31, 32, 33, 34, 35, 36, 37, 38, 39, 40, 41, 42, 43, 44, 45] (by decide) (fun u => rfl) rfl rfl rfl rfl hl.1 rfl (Nat.le_of_ble_eq_true rfl) dX10_takeWell_21 ⟨Nat.zero_le _, Nat.zero_le _⟩ (fun r21 u21 H locs h21 hP hD hS => ?_)
  generalize u21 = o21_vm at hP hD h21
  try dsimp only at h21
  have hP : va_P (eD E) vwCl (mdL E am o21_vm) H := hP
  have hD : va_D A (mdL E am o21_vm) := hD
  have hMI : MdI o21_vm := hMI.on4 (h21.1.mem (by decide)) (by rw [h21.1 47 (by decide) (by decide) (by decide) (by decide) (by decide) (by decide)]; exact hMI.2.2.2.2.1) (by rw [h21.1 49 (by decide) (by decide) (by decide) (by decide) (by decide) (by decide)]; exact hMI.2.2.2.2.2.1) (by rw [h21.1 52 (by decide) (by decide) (by decide) (by decide) (by decide) (by decide)]; exact hMI.2.2.2.2.2.2.1) (h21.2.1 hMI.2.2.2.2.2.2.2)
  have hat := h21.2.2.1
  have hq21 : (o21_vm 55 0).toInt = (vm_7 55 0).toInt := by rw [h21.1 55 (by decide) (by decide) (by decide) (by decide) (by decide) (by decide)]
  have hsl : scL lWe vm o21_vm := hsl.K h21.1 (by decide)
  have hq21_57 : o21_vm 57 = vm 57 := by rw [h21.1 57 (by decide) (by decide) (by decide) (by decide) (by decide) (by decide), ← hv7]; rfl
  refine lv_istore_n (lv' := [(1, .int r21), (0, .ref (am 0))]) hx hb dX10_takeWell_24 rfl hl (by decide) rfl (fun ls hl => ?_)
  refine lv_iload_n hx hb dX10_takeWell_25 rfl (lv_at hl 0 rfl) ?_
  refine lv_if_le (tgt := 33) hx hb dX10_takeWell_26 (by decide) (fun c26 => ?_) (fun c26 => ?_)
  · have c26_ := i_le c26
    refine lv_aload_n hx hb dX10_takeWell_33 rfl (lv_at hl 1 rfl) ?_
    refine lv_aload_n hx hb dX10_takeWell_34 rfl (lv_at hl 1 rfl) ?_
    refine va_get (D := eD E) (ci := 10) (v := .ref (am 57)) (C := RX10) (T := TX10) (N := 79) hx hb hts in_X10 hown hK hP 0 rfl rfl 57 (by decide) lk2 (fun _ h9 => h9) rfl dX10_takeWell_35 ?_
    refine lv_aload_n hx hb dX10_takeWell_38 rfl (lv_at hl 1 rfl) ?_
    refine va_get (D := eD E) (ci := 10) (v := .int (o21_vm 55 0)) (C := RX10) (T := TX10) (N := 79) hx hb hts in_X10 hown hK hP 0 rfl rfl 55 (by decide) lk0 (fun _ h9 => h9) rfl dX10_takeWell_39 ?_
    have sv42_o21_vm550 : 1 ≤ (o21_vm 55 0).toInt ∧ (o21_vm 55 0).toInt ≤ 5 := by omega
    refine lv_iconst (v := 1) hx hb dX10_takeWell_42 (by decide) ?_
    refine lv_isub hx hb dX10_takeWell_43 ?_
    refine lv_topi (fun x43 e43 => ?_)
    have t43 := i_sub e43 (by omega)
    refine lv_iconst (v := 0) hx hb dX10_takeWell_44 (by decide) ?_
    refine lv_bipush (v := 99) hx hb dX10_takeWell_45 (by decide) ?_
    refine mt_Vi (w1 := fun (u : Vf) => mdL E am u) (wf := fun (u : Vf) => mdL E am u) (wr := []) (As := [.ref (am 57), .int x43, .int 0, .int 99]) (rest := []) (C := RX10) (ci := 10) ⟨hx, hb, hml, hown, hts⟩ (c_X10_into_57 l E H.size am o21_vm x43 0 99 hMI hat (by omega)) (cwV 4 hts gX10_takeWell_X10_into rfl rfl rfl (by decide +kernel) ⟨Nat.le_of_ble_eq_true rfl, Nat.le_of_ble_eq_true rfl⟩) hE hS hA hP hD [0, 1, 2, 3, 4, 5, 6, 7, 8, 9, 10, 11, 12, 13, 14, 15, 16, 17, 18, 19, 20, 21, 22, 23, 24, 25, 26, 27, 28, 29, 30, 31, 32, 33, 34, 35, 36, 37, 38, 39, 40, 41, 42, 43, 44, 45] [] rfl rfl (by decide) (by decide) (by decide) [0, 1, 2, 3, 4, 5, 6, 7, 8, 9, 10, 11, 12, 13, 14, 15, 16, 17, 18, 19, 20, 21, 22, 23, 24, 25, 26, 27, 28, 29, 30, 31, 32, 33, 34, 35, 36, 37, 38, 39, 40, 41, 42, 43, 44, 45] (by decide) (fun u => rfl) rfl rfl rfl rfl hl.1 rfl (Nat.le_of_ble_eq_true rfl) dX10_takeWell_47 ⟨Nat.zero_le _, Nat.zero_le _⟩ (fun r47 u47 H locs h47 hP hD hS => ?_)
    generalize u47 = o47_vm at hP hD h47
    try dsimp only at h47
    have hP : va_P (eD E) vwCl (mdL E am o47_vm) H := hP
    have hD : va_D A (mdL E am o47_vm) := hD
    have hMI : MdI o47_vm := hMI.on (h47.1.mem (by decide))
    obtain ⟨y47, hy47, hr47⟩ := id h47.2.1
    have hm47 := h47.2.2.2
    have hsl : scL lWe vm o47_vm := hsl.K h47.1 (by decide)
    have hq47 : (o47_vm 55 0).toInt = (o21_vm 55 0).toInt := by rw [h47.1 55 (by decide) (by decide) (by decide) (by decide) (by decide) (by decide)]
    rw [hq21_57, show x43 = vm 55 0 from i_eqr (by omega)] at hy47
    subst hQ
    exact W.iret (v := r47) hx hb hr (fun t ht hW => ⟨⟨r47, (o47_vm), rfl, (show MdI o47_vm ∧ atI o47_vm ∧ (vm 34 0).toInt ≤ (o47_vm 34 0).toInt ∧ (0 ≤ r47.toInt ∧ r47.toInt ≤ 4) ∧ (r47.toInt = 0 → RdM o47_vm) from ⟨hMI, h47.2.2.1, by omega, by omega, fun q => rd_well hRd hsl ⟨by omega, by omega⟩ (by omega) (by omega) hy47 (by omega)⟩), by rw [ht]; exact hP, hD⟩, hS.F ht⟩) hS.2.2 dX10_takeWell_50
  · have c26_ := i_nle c26
    refine lv_iload_n hx hb dX10_takeWell_29 rfl (lv_at hl 0 rfl) ?_
    refine lv_goto (tgt := 50) hx hb dX10_takeWell_30 (by decide) ?_
    subst hQ
    exact W.iret (v := r21) hx hb hr (fun t ht hW => ⟨⟨r21, (o21_vm), rfl, (show MdI o21_vm ∧ atI o21_vm ∧ (vm 34 0).toInt ≤ (o21_vm 34 0).toInt ∧ (0 ≤ r21.toInt ∧ r21.toInt ≤ 4) ∧ (r21.toInt = 0 → RdM o21_vm) from ⟨hMI, hat, by omega, by omega, fun q => absurd q (by omega)⟩), by rw [ht]; exact hP, hD⟩, hS.F ht⟩) hS.2.2 dX10_takeWell_50
def rm_X10_takeCrack : Room := { frames := 3, cells := 0, slots := 0, locals := 73 }
set_option maxHeartbeats 4000000 in
set_option maxRecDepth 100000 in
theorem c_X10_takeCrack (l : Launch) (E : Ev) (sz : Nat) (am : Nat → Nat) (vm : Vf) (hMI : MdI vm) (hat : atI vm) (hRd : RdM vm) (hw1 : 1 ≤ (vm 37 0).toInt) (hcn : (vm 51 0).toInt ≤ 5) : Met l yX10_takeCrack wsX10_takeCrack rm_X10_takeCrack (MtP E sz [.ref (am 0)] (mdL E am vm)) (va_Qi (fun (r : Int32) (u : Vf) => MdI u ∧ atI u ∧ (vm 34 0).toInt ≤ (u 34 0).toInt ∧ (0 ≤ r.toInt ∧ r.toInt ≤ 4) ∧ (r.toInt = 0 → RdM u)) (MtB E (va_A (mdL E am vm) sz) (fun u => mdL E am u)) (va_A (mdL E am vm) sz)) 0 0 (va_A (mdL E am vm) sz) := by
  refine Met.ofW (cc := cX10_takeCrack) (maxL := 6) (ret := (some .int)) (by decide) rfl ?_
  intro p e s m args below meth c s₁ B hml hv
  obtain ⟨rfl, hsz, hE, hP, hD0⟩ := hv
  subst hsz
  have hD := hD0.self (sz := s.heap.size)
  generalize hAe : va_A (mdL E am vm) s.heap.size = A at hD hE ⊢
  have hA : ∀ q : Nat, s.heap.size ≤ q → A q := fun q h => by rw [← hAe]; exact Or.inr h
  have hS : va_S A s.heap s.heap [] := va_S.rf
  have hx := B.exec
  have hb := B.bytes
  have hr := B.returns
  have hts := atoms_spec (ws := wsX10_takeCrack) B.pre
  have hown : s.vm.findClass RX10 = some m.cls := findClass_of_methodNamed B.named
  have hlocks := B.notSynchronized
  have hK := hE.1
  have in_X10 : ∀ w ∈ u_ws RX10 TX10 79, w ∈ wsX10_takeCrack := fun w h => List.mem_cons_of_mem _ (List.mem_append_right _ h)
  have lk0 := hts (.fieldLink RX10 237 "TidedGroundModel" "readCracks" "I") (by decide +kernel)
  have lk1 := hts (.fieldLink RX10 198 "TidedGroundModel" "number" "I") (by decide +kernel)
  have lk2 := hts (.fieldLink RX10 104 "TidedGroundModel" "readCrackAt" "[I") (by decide +kernel)
  have lk3 := hts (.fieldLink RX10 210 "TidedGroundModel" "cellRead" "I") (by decide +kernel)
  have lk4 := hts (.fieldLink RX10 107 "TidedGroundModel" "readCrackWay" "[I") (by decide +kernel)
  have lk5 := hts (.fieldLink RX10 110 "TidedGroundModel" "readCrackOpen" "[I") (by decide +kernel)
  have lk6 := hts (.fieldLink RX10 195 "TidedGroundModel" "numberAt" "I") (by decide +kernel)
  have lk7 := hts (.fieldLink RX10 204 "TidedGroundModel" "readWide" "I") (by decide +kernel)
  have lk8 := hts (.fieldLink RX10 207 "TidedGroundModel" "readDeep" "I") (by decide +kernel)
  have n_0 : (0 : Int32).toInt = 0 := by decide
  have n_1 : (1 : Int32).toInt = 1 := by decide
  have n_2 : (2 : Int32).toInt = 2 := by decide
  have n_4 : (4 : Int32).toInt = 4 := by decide
  have n_60 : (60 : Int32).toInt = 60 := by decide
  have hl := lv_entry ([.ref (am 0)]) (n := 6) (Nat.le_of_ble_eq_true rfl)
  rw [lg_entry_eq]
  generalize (lg_sl ([.ref (am 0)]) ++ List.replicate (6 - (lg_sl ([.ref (am 0)])).length) Slot.unset).toArray = ls at hl ⊢
  have hl : lv_has ls 6 [(0, .ref (am 0))] := hl
  refine W_abs (fun Q hQ => ?_)
  have hH := hMI.1
  obtain ⟨hT1, hT2, hT3, hT4, hT5⟩ := id hH.2.2.2.2.2.2
  obtain ⟨ha1, ha2⟩ := id hat
  obtain ⟨hrG, hrC, hrZ, hrMo, hrB, hrD⟩ := id hRd
  obtain ⟨hrc1, hrc2, hrc3, hrc4, hrc5, hrc6⟩ := id hrC
  have hd1 : 1 ≤ (vm 38 0).toInt := by rcases hrZ with q | q <;> omega
  refine lv_aload_n hx hb dX10_takeCrack_0 rfl (lv_at hl 0 rfl) ?_
  refine va_get (D := eD E) (ci := 10) (v := .int (vm 51 0)) (C := RX10) (T := TX10) (N := 79) hx hb hts in_X10 hown hK hP 0 rfl rfl 51 (by decide) lk0 (fun _ h9 => h9) rfl dX10_takeCrack_1 ?_
  refine lv_istore_n (lv' := [(1, .int (vm 51 0)), (0, .ref (am 0))]) hx hb dX10_takeCrack_4 rfl hl (by decide) rfl (fun ls hl => ?_)
  refine lv_aload_n hx hb dX10_takeCrack_5 rfl (lv_at hl 1 rfl) ?_
  refine lv_dup hx hb dX10_takeCrack_6 rfl ?_
  refine va_get (D := eD E) (ci := 10) (v := .int (vm 51 0)) (C := RX10) (T := TX10) (N := 79) hx hb hts in_X10 hown hK hP 0 rfl rfl 51 (by decide) lk0 (fun _ h9 => h9) rfl dX10_takeCrack_7 ?_
  refine lv_iconst (v := 1) hx hb dX10_takeCrack_10 (by decide) ?_
  refine lv_iadd hx hb dX10_takeCrack_11 ?_
  refine lv_topi (fun x11 e11 => ?_)
  have t11 := i_add e11 (by omega)
  refine va_put (D := eD E) (ci := 10) (v := .int x11) (ty := .int) (C := RX10) (T := TX10) (N := 79) hx hb hts in_X10 tyX10 tyX10_ok nmX10 hown hK hP hD hS 0 rfl rfl 51 (by decide) lk0 (fun _ h9 => h9) rfl (by decide +kernel) rfl rfl (Nat.le_of_ble_eq_true rfl) dX10_takeCrack_12 (fun H locs hP hD hS => ?_)
  have hP : va_P (eD E) vwCl (mdL E am (up2 vm 51 0 x11)) H := hP
  have hD : va_D A (mdL E am (up2 vm 51 0 x11)) := hD
  generalize hv12 : up2 vm 51 0 x11 = vm_12 at hP hD
  have hMI : MdI vm_12 := by rw [← hv12]; exact hMI
  have hat : atI vm_12 := by rw [← hv12]; exact hat
  have hq12 : (vm_12 51 0).toInt = x11.toInt := by rw [← hv12]; rfl
  have hq12_37 : (vm_12 37 0).toInt = (vm 37 0).toInt := by rw [← hv12]; rfl
  have hq12_38 : (vm_12 38 0).toInt = (vm 38 0).toInt := by rw [← hv12]; rfl
  have hq12_34 : (vm_12 34 0).toInt = (vm 34 0).toInt := by rw [← hv12]; rfl
  have hRd : RdM vm_12 := by rw [← hv12]; exact rd_crack hRd ⟨by omega, by omega⟩ (by omega)
  have hrG : rdG vm_12 := by rw [← hv12]; exact hrG
  refine lv_aload_n hx hb dX10_takeCrack_15 rfl (lv_at hl 1 rfl) ?_
  refine mt_Vi (w1 := fun (u : Vf) => mdL E am u) (wf := fun (u : Vf) => mdL E am u) (wr := []) (As := []) (rest := []) (C := RX10) (ci := 10) ⟨hx, hb, hml, hown, hts⟩ (c_X10_takeCell l E H.size am vm_12 hMI hat hrG (by omega) (by omega)) (cwV 0 hts gX10_takeCrack_X10_takeCell rfl rfl rfl (by decide +kernel) ⟨Nat.le_of_ble_eq_true rfl, Nat.le_of_ble_eq_true rfl⟩) hE hS hA hP hD [0, 1, 2, 3, 4, 5, 6, 7, 8, 9, 10, 11, 12, 13, 14, 15, 16, 17, 18, 19, 20, 21, 22, 23, 24, 25, 26, 27, 28, 29, 30, 31, 32, 33, 34, 35, 36, 37, 38, 39, 40, 41, 42, 43, 44, 45] [] rfl rfl (by decide) (by decide) (by decide) [0, 1, 2, 3, 4, 5, 6, 7, 8, 9, 10, 11, 12, 13, 14, 15, 16, 17, 18, 19, 20, 21, 22, 23, 24, 25, 26, 27, 28, 29, 30, 31, 32, 33, 34, 35, 36, 37, 38, 39, 40, 41, 42, 43, 44, 45] (by decide) (fun u => rfl) rfl rfl rfl rfl hl.1 rfl (Nat.le_of_ble_eq_true rfl) dX10_takeCrack_16 ⟨Nat.zero_le _, Nat.zero_le _⟩ (fun r16 u16 H locs h16 hP hD hS => ?_)
  generalize u16 = o16_vm at hP hD h16
  try dsimp only at h16
  have hP : va_P (eD E) vwCl (mdL E am o16_vm) H := hP
  have hD : va_D A (mdL E am o16_vm) := hD
  have hMI : MdI o16_vm := hMI.sc h16.1
  have hRd : RdM o16_vm := hRd.sc h16.1
  have hat := h16.2.1
  have hq16 : (o16_vm 37 0).toInt = (vm 37 0).toInt := by rw [h16.1 37 (by decide) (by decide) (by decide) (by decide) (by decide)]; omega
  refine lv_istore_n (lv' := [(2, .int r16), (1, .int (vm 51 0)), (0, .ref (am 0))]) hx hb dX10_takeCrack_19 rfl hl (by decide) rfl (fun ls hl => ?_)
  refine lv_iload_n hx hb dX10_takeCrack_20 rfl (lv_at hl 0 rfl) ?_
  have K34 : ∀  (fz : Int32) (vk : Vf) (H : Heap) (locs : List Loc) (ls : Array Slot), va_P (eD E) vwCl (mdL E am vk) H → va_D A (mdL E am vk) → va_S A s.heap H locs → (MdI vk) → (atI vk) → ((vm 34 0).toInt ≤ (vk 34 0).toInt) → (RdM vk) → ((fz.toInt = 0 ∧ 0 ≤ (vk 61 0).toInt ∧ (vk 61 0).toInt ≤ 23) ∨ (1 ≤ fz.toInt ∧ fz.toInt ≤ 2)) → ((vk 37 0).toInt = (vm 37 0).toInt) → lv_has ls 6 [(0, .ref (am 0)), (1, .int (vm 51 0)), (2, .int r16)] → W p l e (headSpec wsX10_takeCrack rm_X10_takeCrack).room s m ([.ref (am 0)] : List Value).toArray below meth c H locs 0 0 Q (F0 m 34 ls [.int fz]) := by
    intro fz vk H locs ls hP hD hS h34_0 h34_1 h34_2 h34_3 h34_4 h34_5 hl
    have hMI := h34_0
    have hat := h34_1
    have hRd := h34_3
    refine lv_istore_n (lv' := [(2, .int fz), (0, .ref (am 0)), (1, .int (vm 51 0))]) hx hb dX10_takeCrack_34 rfl hl (by decide) rfl (fun ls hl => ?_)
    refine lv_iload_n hx hb dX10_takeCrack_35 rfl (lv_at hl 0 rfl) ?_
    refine lv_if_le (tgt := 41) hx hb dX10_takeCrack_36 (by decide) (fun c36 => ?_) (fun c36 => ?_)
    · have c36_ := i_le c36
      refine lv_aload_n hx hb dX10_takeCrack_41 rfl (lv_at hl 1 rfl) ?_
      refine va_get (D := eD E) (ci := 10) (v := .int (vk 35 0)) (C := RX10) (T := TX10) (N := 79) hx hb hts in_X10 hown hK hP 0 rfl rfl 35 (by decide) lk1 (fun _ h9 => h9) rfl dX10_takeCrack_42 ?_
      have K97 : ∀  (off : Int32) (H : Heap) (locs : List Loc) (ls : Array Slot), va_P (eD E) vwCl (mdL E am vk) H → va_D A (mdL E am vk) → va_S A s.heap H locs → lv_has ls 6 [(0, .ref (am 0)), (1, .int (vm 51 0)), (2, .int fz)] → W p l e (headSpec wsX10_takeCrack rm_X10_takeCrack).room s m ([.ref (am 0)] : List Value).toArray below meth c H locs 0 0 Q (F0 m 97 ls [.int off]) := by
        intro off H locs ls hP hD hS hl
        refine lv_istore_n (lv' := [(3, .int off), (0, .ref (am 0)), (1, .int (vm 51 0)), (2, .int fz)]) hx hb dX10_takeCrack_97 rfl hl (by decide) rfl (fun ls hl => ?_)
        refine lv_iload_n hx hb dX10_takeCrack_98 rfl (lv_at hl 0 rfl) ?_
        refine lv_if_eq (tgt := 112) hx hb dX10_takeCrack_99 (by decide) (fun c99 => ?_) (fun c99 => ?_)
        · have c99_ := i_eq c99
          refine lv_iconst (v := 0) hx hb dX10_takeCrack_112 (by decide) ?_
          refine lv_istore (lv' := [(4, .int 0), (3, .int off), (0, .ref (am 0)), (1, .int (vm 51 0)), (2, .int fz)]) hx hb dX10_takeCrack_113 hl (by decide) rfl (fun ls hl => ?_)
          refine lv_iconst (v := 0) hx hb dX10_takeCrack_115 (by decide) ?_
          refine lv_istore (lv' := [(5, .int 0), (4, .int 0), (3, .int off), (0, .ref (am 0)), (1, .int (vm 51 0)), (2, .int fz)]) hx hb dX10_takeCrack_116 hl (by decide) rfl (fun ls hl => ?_)
          have K118 : ∀ (μ : Nat) (ag : Int32) (i : Int32) (H : Heap) (locs : List Loc) (ls : Array Slot), (6 - i.toInt).toNat < μ → va_P (eD E) vwCl (mdL E am vk) H → va_D A (mdL E am vk) → va_S A s.heap H locs → (0 ≤ i.toInt ∧ i.toInt ≤ 6) → lv_has ls 6 [(0, .ref (am 0)), (1, .int (vm 51 0)), (2, .int fz), (3, .int off), (4, .int ag), (5, .int i)] → W p l e (headSpec wsX10_takeCrack rm_X10_takeCrack).room s m ([.ref (am 0)] : List Value).toArray below meth c H locs 0 0 Q (F0 m 118 ls []) := by
            intro μ
            induction μ with
            | zero =>
              intro ag i H locs ls hμ118
              exact absurd hμ118 (Nat.not_lt_zero _)
            | succ μ ih118 =>
              intro ag i H locs ls hμ118 hP hD hS h118_0 hl
              refine lv_iload hx hb dX10_takeCrack_118 (lv_at hl 5 rfl) ?_
              refine lv_iload_n hx hb dX10_takeCrack_120 rfl (lv_at hl 1 rfl) ?_
              refine lv_icmp_ge (tgt := 170) hx hb dX10_takeCrack_121 (by decide) (fun c121 => ?_) (fun c121 => ?_)
              · have c121_ := i_le c121
                refine lv_iload hx hb dX10_takeCrack_170 (lv_at hl 4 rfl) ?_
                refine lv_if_eq (tgt := 185) hx hb dX10_takeCrack_172 (by decide) (fun c172 => ?_) (fun c172 => ?_)
                · have c172_ := i_eq c172
                  refine lv_aload_n hx hb dX10_takeCrack_185 rfl (lv_at hl 0 rfl) ?_
                  refine va_get (D := eD E) (ci := 10) (v := .ref (am 52)) (C := RX10) (T := TX10) (N := 79) hx hb hts in_X10 hown hK hP 0 rfl rfl 52 (by decide) lk2 (fun _ h9 => h9) rfl dX10_takeCrack_186 ?_
                  refine lv_iload_n hx hb dX10_takeCrack_189 rfl (lv_at hl 1 rfl) ?_
                  refine lv_aload_n hx hb dX10_takeCrack_190 rfl (lv_at hl 0 rfl) ?_
                  refine va_get (D := eD E) (ci := 10) (v := .int (vk 61 0)) (C := RX10) (T := TX10) (N := 79) hx hb hts in_X10 hown hK hP 0 rfl rfl 61 (by decide) lk3 (fun _ h9 => h9) rfl dX10_takeCrack_191 ?_
                  refine va_iast hx hb hK hP hD hS 29 0 rfl rfl (n := 6) (f := (vk 52)) (i_in (by omega) (by omega)) dX10_takeCrack_194 (fun H locs hP hD hS => ?_)
                  have hP : va_P (eD E) vwCl (mdL E am (up2 vk 52 ((vm 51 0).toNatClampNeg) (vk 61 0))) H := hP
                  have hD : va_D A (mdL E am (up2 vk 52 ((vm 51 0).toNatClampNeg) (vk 61 0))) := hD
                  generalize hv194 : up2 vk 52 ((vm 51 0).toNatClampNeg) (vk 61 0) = vm_194 at hP hD
                  have hMI : MdI vm_194 := by rw [← hv194]; exact hMI.on4 (fun t ht => up2_ne (fun q => absurd (q ▸ ht) (by decide))) hMI.2.2.2.2.1 hMI.2.2.2.2.2.1 (upd_b hMI.2.2.2.2.2.2.1 (by omega) (by omega)) hMI.2.2.2.2.2.2.2
                  have hRd : RdM vm_194 := by rw [← hv194]; exact hRd
                  have hat : atI vm_194 := by rw [← hv194]; exact hat
                  have hq194 : (vm_194 34 0).toInt = (vk 34 0).toInt := by rw [← hv194]; rfl
                  refine lv_aload_n hx hb dX10_takeCrack_195 rfl (lv_at hl 0 rfl) ?_
                  refine va_get (D := eD E) (ci := 10) (v := .ref (am 53)) (C := RX10) (T := TX10) (N := 79) hx hb hts in_X10 hown hK hP 0 rfl rfl 53 (by decide) lk4 (fun _ h9 => h9) rfl dX10_takeCrack_196 ?_
                  refine lv_iload_n hx hb dX10_takeCrack_199 rfl (lv_at hl 1 rfl) ?_
                  refine lv_aload_n hx hb dX10_takeCrack_200 rfl (lv_at hl 0 rfl) ?_
                  refine va_get (D := eD E) (ci := 10) (v := .int (vm_194 35 0)) (C := RX10) (T := TX10) (N := 79) hx hb hts in_X10 hown hK hP 0 rfl rfl 35 (by decide) lk1 (fun _ h9 => h9) rfl dX10_takeCrack_201 ?_
                  refine va_iast hx hb hK hP hD hS 30 0 rfl rfl (n := 6) (f := (vm_194 53)) (i_in (by omega) (by omega)) dX10_takeCrack_204 (fun H locs hP hD hS => ?_)
                  have hP : va_P (eD E) vwCl (mdL E am (up2 vm_194 53 ((vm 51 0).toNatClampNeg) (vm_194 35 0))) H := hP
                  have hD : va_D A (mdL E am (up2 vm_194 53 ((vm 51 0).toNatClampNeg) (vm_194 35 0))) := hD
                  generalize hv204 : up2 vm_194 53 ((vm 51 0).toNatClampNeg) (vm_194 35 0) = vm_204 at hP hD
                  have hMI : MdI vm_204 := by rw [← hv204]; exact hMI
                  have hRd : RdM vm_204 := by rw [← hv204]; exact hRd
                  have hat : atI vm_204 := by rw [← hv204]; exact hat
                  have hq204 : (vm_204 34 0).toInt = (vm_194 34 0).toInt := by rw [← hv204]; rfl
                  refine lv_aload_n hx hb dX10_takeCrack_205 rfl (lv_at hl 0 rfl) ?_
                  refine lv_aload_n hx hb dX10_takeCrack_206 rfl (lv_at hl 0 rfl) ?_
                  refine va_get (D := eD E) (ci := 10) (v := .ref (am 54)) (C := RX10) (T := TX10) (N := 79) hx hb hts in_X10 hown hK hP 0 rfl rfl 54 (by decide) lk5 (fun _ h9 => h9) rfl dX10_takeCrack_207 ?_
                  refine lv_iload_n hx hb dX10_takeCrack_210 rfl (lv_at hl 1 rfl) ?_
                  refine lv_iconst (v := 0) hx hb dX10_takeCrack_211 (by decide) ?_
                  refine lv_bipush (v := 60) hx hb dX10_takeCrack_212 (by decide) ?_
                  refine mt_Vi (w1 := fun (u : Vf) => mdL E am u) (wf := fun (u : Vf) => mdL E am u) (wr := []) (As := [.ref (am 54), .int (vm 51 0), .int 0, .int 60]) (rest := []) (C := RX10) (ci := 10) ⟨hx, hb, hml, hown, hts⟩ (c_X10_into_54 l E H.size am vm_204 (vm 51 0) 0 60 hMI hat (by omega)) (cwV 4 hts gX10_takeCrack_X10_into rfl rfl rfl (by decide +kernel) ⟨Nat.le_of_ble_eq_true rfl, Nat.le_of_ble_eq_true rfl⟩) hE hS hA hP hD [0, 1, 2, 3, 4, 5, 6, 7, 8, 9, 10, 11, 12, 13, 14, 15, 16, 17, 18, 19, 20, 21, 22, 23, 24, 25, 26, 27, 28, 29, 30, 31, 32, 33, 34, 35, 36, 37, 38, 39, 40, 41, 42, 43, 44, 45] [] rfl rfl (by decide) (by decide) (by decide) [0, 1, 2, 3, 4, 5, 6, 7, 8, 9, 10, 11, 12, 13, 14, 15, 16, 17, 18, 19, 20, 21, 22, 23, 24, 25, 26, 27, 28, 29, 30, 31, 32, 33, 34, 35, 36, 37, 38, 39, 40, 41, 42, 43, 44, 45] (by decide) (fun u => rfl) rfl rfl rfl rfl hl.1 rfl (Nat.le_of_ble_eq_true rfl) dX10_takeCrack_214 ⟨Nat.zero_le _, Nat.zero_le _⟩ (fun r214 u214 H locs h214 hP hD hS => ?_)
                  generalize u214 = o214_vm at hP hD h214
                  try dsimp only at h214
                  have hP : va_P (eD E) vwCl (mdL E am o214_vm) H := hP
                  have hD : va_D A (mdL E am o214_vm) := hD
                  have hMI : MdI o214_vm := hMI.on (h214.1.mem (by decide))
                  obtain ⟨y214, hy214, hr214⟩ := id h214.2.1
                  have hm214 := h214.2.2.2
                  subst hQ
                  exact W.iret (v := r214) hx hb hr (fun t ht hW => ⟨⟨r214, (o214_vm), rfl, (show MdI o214_vm ∧ atI o214_vm ∧ (vm 34 0).toInt ≤ (o214_vm 34 0).toInt ∧ (0 ≤ r214.toInt ∧ r214.toInt ≤ 4) ∧ (r214.toInt = 0 → RdM o214_vm) from ⟨hMI, h214.2.2.1, by omega, by omega, fun q => hRd.on (h214.1.mem (by decide))⟩), by rw [ht]; exact hP, hD⟩, hS.F ht⟩) hS.2.2 dX10_takeCrack_217
                · have c172_ := i_ne c172
                  refine lv_aload_n hx hb dX10_takeCrack_175 rfl (lv_at hl 0 rfl) ?_
                  refine lv_iconst (v := 4) hx hb dX10_takeCrack_176 (by decide) ?_
                  refine lv_aload_n hx hb dX10_takeCrack_177 rfl (lv_at hl 0 rfl) ?_
                  refine va_get (D := eD E) (ci := 10) (v := .int (vk 36 0)) (C := RX10) (T := TX10) (N := 79) hx hb hts in_X10 hown hK hP 0 rfl rfl 36 (by decide) lk6 (fun _ h9 => h9) rfl dX10_takeCrack_178 ?_
                  refine mt_Vi (w1 := fun (u : Vf) => mdL E am u) (wf := fun (u : Vf) => mdL E am u) (wr := []) (As := [.int 4, .int (vk 36 0)]) (rest := []) (C := RX10) (ci := 10) ⟨hx, hb, hml, hown, hts⟩ (c_X10_fails l E H.size am vk 4 (vk 36 0)) (cwV 2 hts gX10_takeCrack_X10_fails rfl rfl rfl (by decide +kernel) ⟨Nat.le_of_ble_eq_true rfl, Nat.le_of_ble_eq_true rfl⟩) hE hS hA hP hD [0, 1, 2, 3, 4, 5, 6, 7, 8, 9, 10, 11, 12, 13, 14, 15, 16, 17, 18, 19, 20, 21, 22, 23, 24, 25, 26, 27, 28, 29, 30, 31, 32, 33, 34, 35, 36, 37, 38, 39, 40, 41, 42, 43, 44, 45] [] rfl rfl (by decide) (by decide) (by decide) [0, 1, 2, 3, 4, 5, 6, 7, 8, 9, 10, 11, 12, 13, 14, 15, 16, 17, 18, 19, 20, 21, 22, 23, 24, 25, 26, 27, 28, 29, 30, 31, 32, 33, 34, 35, 36, 37, 38, 39, 40, 41, 42, 43, 44, 45] (by decide) (fun u => rfl) rfl rfl rfl rfl hl.1 rfl (Nat.le_of_ble_eq_true rfl) dX10_takeCrack_181 ⟨Nat.zero_le _, Nat.zero_le _⟩ (fun r181 u181 H locs h181 hP hD hS => ?_)
                  generalize u181 = o181_vm at hP hD h181
                  try dsimp only at h181
                  have hP : va_P (eD E) vwCl (mdL E am o181_vm) H := hP
                  have hD : va_D A (mdL E am o181_vm) := hD
                  have hr181 : r181.toInt = 4 := by rw [h181.1]; decide
                  have hq181 : (o181_vm 34 0).toInt = (vk 34 0).toInt := by rw [h181.2.2]
                  subst hQ
                  exact W.iret (v := r181) hx hb hr (fun t ht hW => ⟨⟨r181, (o181_vm), rfl, (show MdI o181_vm ∧ atI o181_vm ∧ (vm 34 0).toInt ≤ (o181_vm 34 0).toInt ∧ (0 ≤ r181.toInt ∧ r181.toInt ≤ 4) ∧ (r181.toInt = 0 → RdM o181_vm) from ⟨hMI.sn h181.2.1, hat.of h181.2.2 (h181.2.1 32 (by decide) (by decide) (by decide) (by decide)), by omega, by omega, fun q => absurd q (by omega)⟩), by rw [ht]; exact hP, hD⟩, hS.F ht⟩) hS.2.2 dX10_takeCrack_184
              · have c121_ := i_nle c121
                refine lv_iload hx hb dX10_takeCrack_124 (lv_at hl 4 rfl) ?_
                have K162 : ∀  (ag2 : Int32) (H : Heap) (locs : List Loc) (ls : Array Slot), va_P (eD E) vwCl (mdL E am vk) H → va_D A (mdL E am vk) → va_S A s.heap H locs → lv_has ls 6 [(0, .ref (am 0)), (1, .int (vm 51 0)), (2, .int fz), (3, .int off), (4, .int ag), (5, .int i)] → W p l e (headSpec wsX10_takeCrack rm_X10_takeCrack).room s m ([.ref (am 0)] : List Value).toArray below meth c H locs 0 0 Q (F0 m 162 ls [.int ag2]) := by
                  intro ag2 H locs ls hP hD hS hl
                  refine lv_istore (lv' := [(4, .int ag2), (0, .ref (am 0)), (1, .int (vm 51 0)), (2, .int fz), (3, .int off), (5, .int i)]) hx hb dX10_takeCrack_162 hl (by decide) rfl (fun ls hl => ?_)
                  obtain ⟨x164, e164⟩ : ∃ y : Int32, y = i + 1 := ⟨_, rfl⟩
                  refine lv_iinc (v := x164) (lv' := [(5, .int x164), (4, .int ag2), (0, .ref (am 0)), (1, .int (vm 51 0)), (2, .int fz), (3, .int off)]) hx hb dX10_takeCrack_164 hl (k := 5) rfl (by rw [e164]; rfl) (by decide) rfl (fun ls hl => ?_)
                  have t164 := i_add e164 (by omega)
                  refine lv_goto (tgt := 118) hx hb dX10_takeCrack_167 (by decide) ?_
                  exact ih118 ag2 x164 _ _ ls (by omega) hP hD hS (by omega) (lv_sub hl [2, 3, 4, 5, 1, 0] rfl)
                refine lv_if_ne (tgt := 157) hx hb dX10_takeCrack_126 (by decide) (fun c126 => ?_) (fun c126 => ?_)
                · have c126_ := i_ne c126
                  refine lv_iconst (v := 1) hx hb dX10_takeCrack_157 (by decide) ?_
                  refine lv_goto (tgt := 162) hx hb dX10_takeCrack_158 (by decide) ?_
                  exact K162 1 _ _ ls hP hD hS (lv_sub hl [0, 1, 2, 3, 4, 5] rfl)
                · have c126_ := i_eq c126
                  refine lv_aload_n hx hb dX10_takeCrack_129 rfl (lv_at hl 0 rfl) ?_
                  refine va_get (D := eD E) (ci := 10) (v := .ref (am 52)) (C := RX10) (T := TX10) (N := 79) hx hb hts in_X10 hown hK hP 0 rfl rfl 52 (by decide) lk2 (fun _ h9 => h9) rfl dX10_takeCrack_130 ?_
                  refine lv_iload hx hb dX10_takeCrack_133 (lv_at hl 5 rfl) ?_
                  refine va_iald hx hb hK hP 29 0 rfl rfl (n := 6) (f := (vk 52)) (i_in (by omega) (by omega)) dX10_takeCrack_135 ?_
                  refine lv_topi (fun x135 e135 => ?_)
                  refine lv_aload_n hx hb dX10_takeCrack_136 rfl (lv_at hl 0 rfl) ?_
                  refine va_get (D := eD E) (ci := 10) (v := .int (vk 61 0)) (C := RX10) (T := TX10) (N := 79) hx hb hts in_X10 hown hK hP 0 rfl rfl 61 (by decide) lk3 (fun _ h9 => h9) rfl dX10_takeCrack_137 ?_
                  refine lv_icmp_ne (tgt := 161) hx hb dX10_takeCrack_140 (by decide) (fun c140 => ?_) (fun c140 => ?_)
                  · have c140_ := i_ne c140
                    refine lv_iconst (v := 0) hx hb dX10_takeCrack_161 (by decide) ?_
                    exact K162 0 _ _ ls hP hD hS (lv_sub hl [0, 1, 2, 3, 4, 5] rfl)
                  · have c140_ := i_eq c140
                    refine lv_aload_n hx hb dX10_takeCrack_143 rfl (lv_at hl 0 rfl) ?_
                    refine va_get (D := eD E) (ci := 10) (v := .ref (am 53)) (C := RX10) (T := TX10) (N := 79) hx hb hts in_X10 hown hK hP 0 rfl rfl 53 (by decide) lk4 (fun _ h9 => h9) rfl dX10_takeCrack_144 ?_
                    refine lv_iload hx hb dX10_takeCrack_147 (lv_at hl 5 rfl) ?_
                    refine va_iald hx hb hK hP 30 0 rfl rfl (n := 6) (f := (vk 53)) (i_in (by omega) (by omega)) dX10_takeCrack_149 ?_
                    refine lv_topi (fun x149 e149 => ?_)
                    refine lv_aload_n hx hb dX10_takeCrack_150 rfl (lv_at hl 0 rfl) ?_
                    refine va_get (D := eD E) (ci := 10) (v := .int (vk 35 0)) (C := RX10) (T := TX10) (N := 79) hx hb hts in_X10 hown hK hP 0 rfl rfl 35 (by decide) lk1 (fun _ h9 => h9) rfl dX10_takeCrack_151 ?_
                    refine lv_icmp_ne (tgt := 161) hx hb dX10_takeCrack_154 (by decide) (fun c154 => ?_) (fun c154 => ?_)
                    · have c154_ := i_ne c154
                      refine lv_iconst (v := 0) hx hb dX10_takeCrack_161 (by decide) ?_
                      exact K162 0 _ _ ls hP hD hS (lv_sub hl [0, 1, 2, 3, 4, 5] rfl)
                    · have c154_ := i_eq c154
                      refine lv_iconst (v := 1) hx hb dX10_takeCrack_157 (by decide) ?_
                      refine lv_goto (tgt := 162) hx hb dX10_takeCrack_158 (by decide) ?_
                      exact K162 1 _ _ ls hP hD hS (lv_sub hl [0, 1, 2, 3, 4, 5] rfl)
          exact K118 _ 0 0 _ _ ls (Nat.lt_succ_self _) hP hD hS (by omega) (lv_sub hl [3, 4, 5, 2, 1, 0] rfl)
        · have c99_ := i_ne c99
          refine lv_aload_n hx hb dX10_takeCrack_102 rfl (lv_at hl 1 rfl) ?_
          refine lv_iconst (v := 2) hx hb dX10_takeCrack_103 (by decide) ?_
          refine lv_aload_n hx hb dX10_takeCrack_104 rfl (lv_at hl 1 rfl) ?_
          refine va_get (D := eD E) (ci := 10) (v := .int (vk 36 0)) (C := RX10) (T := TX10) (N := 79) hx hb hts in_X10 hown hK hP 0 rfl rfl 36 (by decide) lk6 (fun _ h9 => h9) rfl dX10_takeCrack_105 ?_
          refine mt_Vi (w1 := fun (u : Vf) => mdL E am u) (wf := fun (u : Vf) => mdL E am u) (wr := []) (As := [.int 2, .int (vk 36 0)]) (rest := []) (C := RX10) (ci := 10) ⟨hx, hb, hml, hown, hts⟩ (c_X10_fails l E H.size am vk 2 (vk 36 0)) (cwV 2 hts gX10_takeCrack_X10_fails rfl rfl rfl (by decide +kernel) ⟨Nat.le_of_ble_eq_true rfl, Nat.le_of_ble_eq_true rfl⟩) hE hS hA hP hD [0, 1, 2, 3, 4, 5, 6, 7, 8, 9, 10, 11, 12, 13, 14, 15, 16, 17, 18, 19, 20, 21, 22, 23, 24, 25, 26, 27, 28, 29, 30, 31, 32, 33, 34, 35, 36, 37, 38, 39, 40, 41, 42, 43, 44, 45] [] rfl rfl (by decide) (by decide) (by decide) [0, 1, 2, 3, 4, 5, 6, 7, 8, 9, 10, 11, 12, 13, 14, 15, 16, 17, 18, 19, 20, 21, 22, 23, 24, 25, 26, 27, 28, 29, 30, 31, 32, 33, 34, 35, 36, 37, 38, 39, 40, 41, 42, 43, 44, 45] (by decide) (fun u => rfl) rfl rfl rfl rfl hl.1 rfl (Nat.le_of_ble_eq_true rfl) dX10_takeCrack_108 ⟨Nat.zero_le _, Nat.zero_le _⟩ (fun r108 u108 H locs h108 hP hD hS => ?_)
          generalize u108 = o108_vm at hP hD h108
          try dsimp only at h108
          have hP : va_P (eD E) vwCl (mdL E am o108_vm) H := hP
          have hD : va_D A (mdL E am o108_vm) := hD
          have hr108 : r108.toInt = 2 := by rw [h108.1]; decide
          have hq108 : (o108_vm 34 0).toInt = (vk 34 0).toInt := by rw [h108.2.2]
          subst hQ
          exact W.iret (v := r108) hx hb hr (fun t ht hW => ⟨⟨r108, (o108_vm), rfl, (show MdI o108_vm ∧ atI o108_vm ∧ (vm 34 0).toInt ≤ (o108_vm 34 0).toInt ∧ (0 ≤ r108.toInt ∧ r108.toInt ≤ 4) ∧ (r108.toInt = 0 → RdM o108_vm) from ⟨hMI.sn h108.2.1, hat.of h108.2.2 (h108.2.1 32 (by decide) (by decide) (by decide) (by decide)), by omega, by omega, fun q => absurd q (by omega)⟩), by rw [ht]; exact hP, hD⟩, hS.F ht⟩) hS.2.2 dX10_takeCrack_111
      refine lv_if_ne (tgt := 74) hx hb dX10_takeCrack_45 (by decide) (fun c45 => ?_) (fun c45 => ?_)
      · have c45_ := i_ne c45
        refine lv_aload_n hx hb dX10_takeCrack_74 rfl (lv_at hl 1 rfl) ?_
        refine va_get (D := eD E) (ci := 10) (v := .int (vk 61 0)) (C := RX10) (T := TX10) (N := 79) hx hb hts in_X10 hown hK hP 0 rfl rfl 61 (by decide) lk3 (fun _ h9 => h9) rfl dX10_takeCrack_75 ?_
        refine lv_aload_n hx hb dX10_takeCrack_78 rfl (lv_at hl 1 rfl) ?_
        refine va_get (D := eD E) (ci := 10) (v := .int (vk 37 0)) (C := RX10) (T := TX10) (N := 79) hx hb hts in_X10 hown hK hP 0 rfl rfl 37 (by decide) lk7 (fun _ h9 => h9) rfl dX10_takeCrack_79 ?_
        refine lv_idiv hx hb dX10_takeCrack_82 (i_ne0 (by omega)) ?_
        refine lv_topi (fun x82 e82 => ?_)
        refine lv_aload_n hx hb dX10_takeCrack_83 rfl (lv_at hl 1 rfl) ?_
        refine va_get (D := eD E) (ci := 10) (v := .int (vk 38 0)) (C := RX10) (T := TX10) (N := 79) hx hb hts in_X10 hown hK hP 0 rfl rfl 38 (by decide) lk8 (fun _ h9 => h9) rfl dX10_takeCrack_84 ?_
        refine lv_iconst (v := 1) hx hb dX10_takeCrack_87 (by decide) ?_
        refine lv_isub hx hb dX10_takeCrack_88 ?_
        refine lv_topi (fun x88 e88 => ?_)
        refine lv_icmp_ne (tgt := 96) hx hb dX10_takeCrack_89 (by decide) (fun c89 => ?_) (fun c89 => ?_)
        · have c89_ := i_ne c89
          refine lv_iconst (v := 0) hx hb dX10_takeCrack_96 (by decide) ?_
          exact K97 0 _ _ ls hP hD hS (lv_sub hl [1, 2, 0] rfl)
        · have c89_ := i_eq c89
          refine lv_iconst (v := 1) hx hb dX10_takeCrack_92 (by decide) ?_
          refine lv_goto (tgt := 97) hx hb dX10_takeCrack_93 (by decide) ?_
          exact K97 1 _ _ ls hP hD hS (lv_sub hl [1, 2, 0] rfl)
      · have c45_ := i_eq c45
        refine lv_aload_n hx hb dX10_takeCrack_48 rfl (lv_at hl 1 rfl) ?_
        refine va_get (D := eD E) (ci := 10) (v := .int (vk 61 0)) (C := RX10) (T := TX10) (N := 79) hx hb hts in_X10 hown hK hP 0 rfl rfl 61 (by decide) lk3 (fun _ h9 => h9) rfl dX10_takeCrack_49 ?_
        refine lv_aload_n hx hb dX10_takeCrack_52 rfl (lv_at hl 1 rfl) ?_
        refine va_get (D := eD E) (ci := 10) (v := .int (vk 37 0)) (C := RX10) (T := TX10) (N := 79) hx hb hts in_X10 hown hK hP 0 rfl rfl 37 (by decide) lk7 (fun _ h9 => h9) rfl dX10_takeCrack_53 ?_
        refine lv_irem hx hb dX10_takeCrack_56 (i_ne0 (by omega)) ?_
        refine lv_topi (fun x56 e56 => ?_)
        refine lv_aload_n hx hb dX10_takeCrack_57 rfl (lv_at hl 1 rfl) ?_
        refine va_get (D := eD E) (ci := 10) (v := .int (vk 37 0)) (C := RX10) (T := TX10) (N := 79) hx hb hts in_X10 hown hK hP 0 rfl rfl 37 (by decide) lk7 (fun _ h9 => h9) rfl dX10_takeCrack_58 ?_
        refine lv_iconst (v := 1) hx hb dX10_takeCrack_61 (by decide) ?_
        refine lv_isub hx hb dX10_takeCrack_62 ?_
        refine lv_topi (fun x62 e62 => ?_)
        refine lv_icmp_ne (tgt := 70) hx hb dX10_takeCrack_63 (by decide) (fun c63 => ?_) (fun c63 => ?_)
        · have c63_ := i_ne c63
          refine lv_iconst (v := 0) hx hb dX10_takeCrack_70 (by decide) ?_
          refine lv_goto (tgt := 97) hx hb dX10_takeCrack_71 (by decide) ?_
          exact K97 0 _ _ ls hP hD hS (lv_sub hl [1, 2, 0] rfl)
        · have c63_ := i_eq c63
          refine lv_iconst (v := 1) hx hb dX10_takeCrack_66 (by decide) ?_
          refine lv_goto (tgt := 97) hx hb dX10_takeCrack_67 (by decide) ?_
          exact K97 1 _ _ ls hP hD hS (lv_sub hl [1, 2, 0] rfl)
    · have c36_ := i_nle c36
      refine lv_iload_n hx hb dX10_takeCrack_39 rfl (lv_at hl 0 rfl) ?_
      subst hQ
      exact W.iret (v := fz) hx hb hr (fun t ht hW => ⟨⟨fz, (vk), rfl, (show MdI vk ∧ atI vk ∧ (vm 34 0).toInt ≤ (vk 34 0).toInt ∧ (0 ≤ fz.toInt ∧ fz.toInt ≤ 4) ∧ (fz.toInt = 0 → RdM vk) from ⟨hMI, hat, by omega, by omega, fun q => absurd q (by omega)⟩), by rw [ht]; exact hP, hD⟩, hS.F ht⟩) hS.2.2 dX10_takeCrack_40
  refine lv_if_le (tgt := 28) hx hb dX10_takeCrack_21 (by decide) (fun c21 => ?_) (fun c21 => ?_)
  · have c21_ := i_le c21
    refine lv_aload_n hx hb dX10_takeCrack_28 rfl (lv_at hl 2 rfl) ?_
    refine lv_iconst (v := 0) hx hb dX10_takeCrack_29 (by decide) ?_
    refine lv_iconst (v := 1) hx hb dX10_takeCrack_30 (by decide) ?_
    refine mt_Vi (w1 := fun (u : Vf) => mdL E am u) (wf := fun (u : Vf) => mdL E am u) (wr := []) (As := [.int 0, .int 1]) (rest := []) (C := RX10) (ci := 10) ⟨hx, hb, hml, hown, hts⟩ (c_X10_takeNumber l E H.size am o16_vm 0 1 hMI hat) (cwV 2 hts gX10_takeCrack_X10_takeNumber rfl rfl rfl (by decide +kernel) ⟨Nat.le_of_ble_eq_true rfl, Nat.le_of_ble_eq_true rfl⟩) hE hS hA hP hD [0, 1, 2, 3, 4, 5, 6, 7, 8, 9, 10, 11, 12, 13, 14, 15, 16, 17, 18, 19, 20, 21, 22, 23, 24, 25, 26, 27, 28, 29, 30, 31, 32, 33, 34, 35, 36, 37, 38, 39, 40, 41, 42, 43, 44, 45] [] rfl rfl (by decide) (by decide) (by decide) [0, 1, 2, 3, 4, 5, 6, 7, 8, 9, 10, 11, 12, 13, 14, 15, 16, 17, 18, 19, 20, 21, 22, 23, 24, 25, 26, 27, 28, 29, 30, 31, 32, 33, 34, 35, 36, 37, 38, 39, 40, 41, 42, 43, 44, 45] (by decide) (fun u => rfl) rfl rfl rfl rfl hl.1 rfl (Nat.le_of_ble_eq_true rfl) dX10_takeCrack_31 ⟨Nat.zero_le _, Nat.zero_le _⟩ (fun r31 u31 H locs h31 hP hD hS => ?_)
    generalize u31 = o31_vm at hP hD h31
    try dsimp only at h31
    have hP : va_P (eD E) vwCl (mdL E am o31_vm) H := hP
    have hD : va_D A (mdL E am o31_vm) := hD
    have hMI : MdI o31_vm := hMI.sn h31.1
    have hRd : RdM o31_vm := hRd.sn h31.1
    have hat := h31.2.1
    have hq31 : (o31_vm 37 0).toInt = (o16_vm 37 0).toInt := by rw [h31.1 37 (by decide) (by decide) (by decide) (by decide)]
    have hq31c : (o31_vm 61 0).toInt = (o16_vm 61 0).toInt := by rw [h31.1 61 (by decide) (by decide) (by decide) (by decide)]
    exact K34 r31 o31_vm _ _ ls hP hD hS hMI hat (by omega) hRd (by omega) (by omega) (lv_sub hl [2, 1, 0] rfl)
  · have c21_ := i_nle c21
    refine lv_iload_n hx hb dX10_takeCrack_24 rfl (lv_at hl 0 rfl) ?_
    refine lv_goto (tgt := 34) hx hb dX10_takeCrack_25 (by decide) ?_
    exact K34 r16 o16_vm _ _ ls hP hD hS hMI hat (by omega) hRd (by omega) (by omega) (lv_sub hl [2, 1, 0] rfl)
def rm_X10_takeDeed : Room := { frames := 3, cells := 0, slots := 0, locals := 73 }
set_option maxHeartbeats 4000000 in
set_option maxRecDepth 100000 in
theorem c_X10_takeDeed (l : Launch) (E : Ev) (sz : Nat) (am : Nat → Nat) (vm : Vf) (hMI : MdI vm) (hat : atI vm) (hRd : RdM vm) (hcn : (vm 58 0).toInt ≤ 3) : Met l yX10_takeDeed wsX10_takeDeed rm_X10_takeDeed (MtP E sz [.ref (am 0)] (mdL E am vm)) (va_Qi (fun (r : Int32) (u : Vf) => MdI u ∧ atI u ∧ (vm 34 0).toInt ≤ (u 34 0).toInt ∧ (0 ≤ r.toInt ∧ r.toInt ≤ 4) ∧ (r.toInt = 0 → RdM u)) (MtB E (va_A (mdL E am vm) sz) (fun u => mdL E am u)) (va_A (mdL E am vm) sz)) 0 0 (va_A (mdL E am vm) sz) := by
  refine Met.ofW (cc := cX10_takeDeed) (maxL := 3) (ret := (some .int)) (by decide) rfl ?_
  intro p e s m args below meth c s₁ B hml hv
  obtain ⟨rfl, hsz, hE, hP, hD0⟩ := hv
  subst hsz
  have hD := hD0.self (sz := s.heap.size)
  generalize hAe : va_A (mdL E am vm) s.heap.size = A at hD hE ⊢
  have hA : ∀ q : Nat, s.heap.size ≤ q → A q := fun q h => by rw [← hAe]; exact Or.inr h
  have hS : va_S A s.heap s.heap [] := va_S.rf
  have hx := B.exec
  have hb := B.bytes
  have hr := B.returns
  have hts := atoms_spec (ws := wsX10_takeDeed) B.pre
  have hown : s.vm.findClass RX10 = some m.cls := findClass_of_methodNamed B.named
  have hlocks := B.notSynchronized
  have hK := hE.1
  have in_X10 : ∀ w ∈ u_ws RX10 TX10 79, w ∈ wsX10_takeDeed := fun w h => List.mem_cons_of_mem _ (List.mem_append_right _ h)
  have lk0 := hts (.fieldLink RX10 243 "TidedGroundModel" "readDeeds" "I") (by decide +kernel)
  have lk1 := hts (.fieldLink RX10 119 "TidedGroundModel" "readDeedLow" "[I") (by decide +kernel)
  have lk2 := hts (.fieldLink RX10 122 "TidedGroundModel" "readDeedHigh" "[I") (by decide +kernel)
  have lk3 := hts (.fieldLink RX10 195 "TidedGroundModel" "numberAt" "I") (by decide +kernel)
  have n_0 : (0 : Int32).toInt = 0 := by decide
  have n_1 : (1 : Int32).toInt = 1 := by decide
  have n_4 : (4 : Int32).toInt = 4 := by decide
  have n_300 : (300 : Int32).toInt = 300 := by decide
  have hl := lv_entry ([.ref (am 0)]) (n := 3) (Nat.le_of_ble_eq_true rfl)
  rw [lg_entry_eq]
  generalize (lg_sl ([.ref (am 0)]) ++ List.replicate (3 - (lg_sl ([.ref (am 0)])).length) Slot.unset).toArray = ls at hl ⊢
  have hl : lv_has ls 3 [(0, .ref (am 0))] := hl
  refine W_abs (fun Q hQ => ?_)
  have hH := hMI.1
  obtain ⟨hT1, hT2, hT3, hT4, hT5⟩ := id hH.2.2.2.2.2.2
  obtain ⟨ha1, ha2⟩ := id hat
  obtain ⟨hrG, hrC, hrZ, hrMo, hrB, hrD⟩ := id hRd
  obtain ⟨hrc1, hrc2, hrc3, hrc4, hrc5, hrc6⟩ := id hrC
  refine lv_aload_n hx hb dX10_takeDeed_0 rfl (lv_at hl 0 rfl) ?_
  refine va_get (D := eD E) (ci := 10) (v := .int (vm 58 0)) (C := RX10) (T := TX10) (N := 79) hx hb hts in_X10 hown hK hP 0 rfl rfl 58 (by decide) lk0 (fun _ h9 => h9) rfl dX10_takeDeed_1 ?_
  refine lv_istore_n (lv' := [(1, .int (vm 58 0)), (0, .ref (am 0))]) hx hb dX10_takeDeed_4 rfl hl (by decide) rfl (fun ls hl => ?_)
  refine lv_aload_n hx hb dX10_takeDeed_5 rfl (lv_at hl 1 rfl) ?_
  refine lv_dup hx hb dX10_takeDeed_6 rfl ?_
  refine va_get (D := eD E) (ci := 10) (v := .int (vm 58 0)) (C := RX10) (T := TX10) (N := 79) hx hb hts in_X10 hown hK hP 0 rfl rfl 58 (by decide) lk0 (fun _ h9 => h9) rfl dX10_takeDeed_7 ?_
  refine lv_iconst (v := 1) hx hb dX10_takeDeed_10 (by decide) ?_
  refine lv_iadd hx hb dX10_takeDeed_11 ?_
  refine lv_topi (fun x11 e11 => ?_)
  have t11 := i_add e11 (by omega)
  refine va_put (D := eD E) (ci := 10) (v := .int x11) (ty := .int) (C := RX10) (T := TX10) (N := 79) hx hb hts in_X10 tyX10 tyX10_ok nmX10 hown hK hP hD hS 0 rfl rfl 58 (by decide) lk0 (fun _ h9 => h9) rfl (by decide +kernel) rfl rfl (Nat.le_of_ble_eq_true rfl) dX10_takeDeed_12 (fun H locs hP hD hS => ?_)
  have hP : va_P (eD E) vwCl (mdL E am (up2 vm 58 0 x11)) H := hP
  have hD : va_D A (mdL E am (up2 vm 58 0 x11)) := hD
  generalize hv12 : up2 vm 58 0 x11 = vm_12 at hP hD
  have hMI : MdI vm_12 := by rw [← hv12]; exact hMI
  have hat : atI vm_12 := by rw [← hv12]; exact hat
  have hq12 : (vm_12 58 0).toInt = x11.toInt := by rw [← hv12]; rfl
  have hq12_37 : (vm_12 37 0).toInt = (vm 37 0).toInt := by rw [← hv12]; rfl
  have hq12_38 : (vm_12 38 0).toInt = (vm 38 0).toInt := by rw [← hv12]; rfl
  have hq12_34 : (vm_12 34 0).toInt = (vm 34 0).toInt := by rw [← hv12]; rfl
  have hRd : RdM vm_12 := by rw [← hv12]; exact rd_deed hRd (by omega)
  have hrG : rdG vm_12 := by rw [← hv12]; exact hrG
  refine lv_aload_n hx hb dX10_takeDeed_15 rfl (lv_at hl 1 rfl) ?_
  refine lv_aload_n hx hb dX10_takeDeed_16 rfl (lv_at hl 1 rfl) ?_
  refine va_get (D := eD E) (ci := 10) (v := .ref (am 59)) (C := RX10) (T := TX10) (N := 79) hx hb hts in_X10 hown hK hP 0 rfl rfl 59 (by decide) lk1 (fun _ h9 => h9) rfl dX10_takeDeed_17 ?_
  refine lv_iload_n hx hb dX10_takeDeed_20 rfl (lv_at hl 0 rfl) ?_
  refine lv_iconst (v := 0) hx hb dX10_takeDeed_21 (by decide) ?_
  refine lv_sipush (v := 300) hx hb dX10_takeDeed_22 (by decide) ?_
  refine mt_Vi (w1 := fun (u : Vf) => mdL E am u) (wf := fun (u : Vf) => mdL E am u) (wr := []) (As := [.ref (am 59), .int (vm 58 0), .int 0, .int 300]) (rest := []) (C := RX10) (ci := 10) ⟨hx, hb, hml, hown, hts⟩ (c_X10_into_59 l E H.size am vm_12 (vm 58 0) 0 300 hMI hat (by omega)) (cwV 4 hts gX10_takeDeed_X10_into rfl rfl rfl (by decide +kernel) ⟨Nat.le_of_ble_eq_true rfl, Nat.le_of_ble_eq_true rfl⟩) hE hS hA hP hD [0, 1, 2, 3, 4, 5, 6, 7, 8, 9, 10, 11, 12, 13, 14, 15, 16, 17, 18, 19, 20, 21, 22, 23, 24, 25, 26, 27, 28, 29, 30, 31, 32, 33, 34, 35, 36, 37, 38, 39, 40, 41, 42, 43, 44, 45] [] rfl rfl (by decide) (by decide) (by decide) [0, 1, 2, 3, 4, 5, 6, 7, 8, 9, 10, 11, 12, 13, 14, 15, 16, 17, 18, 19, 20, 21, 22, 23, 24, 25, 26, 27, 28, 29, 30, 31, 32, 33, 34, 35, 36, 37, 38, 39, 40, 41, 42, 43, 44, 45] (by decide) (fun u => rfl) rfl rfl rfl rfl hl.1 rfl (Nat.le_of_ble_eq_true rfl) dX10_takeDeed_25 ⟨Nat.zero_le _, Nat.zero_le _⟩ (fun r25 u25 H locs h25 hP hD hS => ?_)
  generalize u25 = o25_vm at hP hD h25
  try dsimp only at h25
  have hP : va_P (eD E) vwCl (mdL E am o25_vm) H := hP
  have hD : va_D A (mdL E am o25_vm) := hD
  have hMI : MdI o25_vm := hMI.on (h25.1.mem (by decide))
  have hRd : RdM o25_vm := hRd.on (h25.1.mem (by decide))
  have hat := h25.2.2.1
  obtain ⟨y25, hy25, hr25⟩ := id h25.2.1
  have hm25 := h25.2.2.2
  refine lv_istore_n (lv' := [(2, .int r25), (1, .int (vm 58 0)), (0, .ref (am 0))]) hx hb dX10_takeDeed_28 rfl hl (by decide) rfl (fun ls hl => ?_)
  refine lv_iload_n hx hb dX10_takeDeed_29 rfl (lv_at hl 0 rfl) ?_
  have K50 : ∀  (fz : Int32) (vk : Vf) (H : Heap) (locs : List Loc) (ls : Array Slot), va_P (eD E) vwCl (mdL E am vk) H → va_D A (mdL E am vk) → va_S A s.heap H locs → (MdI vk) → (atI vk) → ((vm 34 0).toInt ≤ (vk 34 0).toInt) → (RdM vk) → (0 ≤ fz.toInt ∧ fz.toInt ≤ 2) → lv_has ls 3 [(0, .ref (am 0)), (1, .int (vm 58 0)), (2, .int r25)] → W p l e (headSpec wsX10_takeDeed rm_X10_takeDeed).room s m ([.ref (am 0)] : List Value).toArray below meth c H locs 0 0 Q (F0 m 50 ls [.int fz]) := by
    intro fz vk H locs ls hP hD hS h50_0 h50_1 h50_2 h50_3 h50_4 hl
    have hMI := h50_0
    have hat := h50_1
    have hRd := h50_3
    refine lv_istore_n (lv' := [(2, .int fz), (0, .ref (am 0)), (1, .int (vm 58 0))]) hx hb dX10_takeDeed_50 rfl hl (by decide) rfl (fun ls hl => ?_)
    refine lv_iload_n hx hb dX10_takeDeed_51 rfl (lv_at hl 0 rfl) ?_
    refine lv_if_ne (tgt := 82) hx hb dX10_takeDeed_52 (by decide) (fun c52 => ?_) (fun c52 => ?_)
    · have c52_ := i_ne c52
      refine lv_iload_n hx hb dX10_takeDeed_82 rfl (lv_at hl 0 rfl) ?_
      subst hQ
      exact W.iret (v := fz) hx hb hr (fun t ht hW => ⟨⟨fz, (vk), rfl, (show MdI vk ∧ atI vk ∧ (vm 34 0).toInt ≤ (vk 34 0).toInt ∧ (0 ≤ fz.toInt ∧ fz.toInt ≤ 4) ∧ (fz.toInt = 0 → RdM vk) from ⟨hMI, hat, by omega, by omega, fun _ => hRd⟩), by rw [ht]; exact hP, hD⟩, hS.F ht⟩) hS.2.2 dX10_takeDeed_83
    · have c52_ := i_eq c52
      refine lv_aload_n hx hb dX10_takeDeed_55 rfl (lv_at hl 1 rfl) ?_
      refine va_get (D := eD E) (ci := 10) (v := .ref (am 60)) (C := RX10) (T := TX10) (N := 79) hx hb hts in_X10 hown hK hP 0 rfl rfl 60 (by decide) lk2 (fun _ h9 => h9) rfl dX10_takeDeed_56 ?_
      refine lv_iload_n hx hb dX10_takeDeed_59 rfl (lv_at hl 2 rfl) ?_
      refine va_iald hx hb hK hP 35 0 rfl rfl (n := 4) (f := (vk 60)) (i_in (by omega) (by omega)) dX10_takeDeed_60 ?_
      refine lv_topi (fun x60 e60 => ?_)
      refine lv_aload_n hx hb dX10_takeDeed_61 rfl (lv_at hl 1 rfl) ?_
      refine va_get (D := eD E) (ci := 10) (v := .ref (am 59)) (C := RX10) (T := TX10) (N := 79) hx hb hts in_X10 hown hK hP 0 rfl rfl 59 (by decide) lk1 (fun _ h9 => h9) rfl dX10_takeDeed_62 ?_
      refine lv_iload_n hx hb dX10_takeDeed_65 rfl (lv_at hl 2 rfl) ?_
      refine va_iald hx hb hK hP 34 0 rfl rfl (n := 4) (f := (vk 59)) (i_in (by omega) (by omega)) dX10_takeDeed_66 ?_
      refine lv_topi (fun x66 e66 => ?_)
      refine lv_icmp_ge (tgt := 82) hx hb dX10_takeDeed_67 (by decide) (fun c67 => ?_) (fun c67 => ?_)
      · have c67_ := i_le c67
        refine lv_iload_n hx hb dX10_takeDeed_82 rfl (lv_at hl 0 rfl) ?_
        subst hQ
        exact W.iret (v := fz) hx hb hr (fun t ht hW => ⟨⟨fz, (vk), rfl, (show MdI vk ∧ atI vk ∧ (vm 34 0).toInt ≤ (vk 34 0).toInt ∧ (0 ≤ fz.toInt ∧ fz.toInt ≤ 4) ∧ (fz.toInt = 0 → RdM vk) from ⟨hMI, hat, by omega, by omega, fun _ => hRd⟩), by rw [ht]; exact hP, hD⟩, hS.F ht⟩) hS.2.2 dX10_takeDeed_83
      · have c67_ := i_nle c67
        refine lv_aload_n hx hb dX10_takeDeed_70 rfl (lv_at hl 1 rfl) ?_
        refine lv_iconst (v := 4) hx hb dX10_takeDeed_71 (by decide) ?_
        refine lv_aload_n hx hb dX10_takeDeed_72 rfl (lv_at hl 1 rfl) ?_
        refine va_get (D := eD E) (ci := 10) (v := .int (vk 36 0)) (C := RX10) (T := TX10) (N := 79) hx hb hts in_X10 hown hK hP 0 rfl rfl 36 (by decide) lk3 (fun _ h9 => h9) rfl dX10_takeDeed_73 ?_
        refine mt_Vi (w1 := fun (u : Vf) => mdL E am u) (wf := fun (u : Vf) => mdL E am u) (wr := []) (As := [.int 4, .int (vk 36 0)]) (rest := []) (C := RX10) (ci := 10) ⟨hx, hb, hml, hown, hts⟩ (c_X10_fails l E H.size am vk 4 (vk 36 0)) (cwV 2 hts gX10_takeDeed_X10_fails rfl rfl rfl (by decide +kernel) ⟨Nat.le_of_ble_eq_true rfl, Nat.le_of_ble_eq_true rfl⟩) hE hS hA hP hD [0, 1, 2, 3, 4, 5, 6, 7, 8, 9, 10, 11, 12, 13, 14, 15, 16, 17, 18, 19, 20, 21, 22, 23, 24, 25, 26, 27, 28, 29, 30, 31, 32, 33, 34, 35, 36, 37, 38, 39, 40, 41, 42, 43, 44, 45] [] rfl rfl (by decide) (by decide) (by decide) [0, 1, 2, 3, 4, 5, 6, 7, 8, 9, 10, 11, 12, 13, 14, 15, 16, 17, 18, 19, 20, 21, 22, 23, 24, 25, 26, 27, 28, 29, 30, 31, 32, 33, 34, 35, 36, 37, 38, 39, 40, 41, 42, 43, 44, 45] (by decide) (fun u => rfl) rfl rfl rfl rfl hl.1 rfl (Nat.le_of_ble_eq_true rfl) dX10_takeDeed_76 ⟨Nat.zero_le _, Nat.zero_le _⟩ (fun r76 u76 H locs h76 hP hD hS => ?_)
        generalize u76 = o76_vm at hP hD h76
        try dsimp only at h76
        have hP : va_P (eD E) vwCl (mdL E am o76_vm) H := hP
        have hD : va_D A (mdL E am o76_vm) := hD
        have hr76 : r76.toInt = 4 := by rw [h76.1]; decide
        have hq76 : (o76_vm 34 0).toInt = (vk 34 0).toInt := by rw [h76.2.2]
        refine lv_goto (tgt := 83) hx hb dX10_takeDeed_79 (by decide) ?_
        subst hQ
        exact W.iret (v := r76) hx hb hr (fun t ht hW => ⟨⟨r76, (o76_vm), rfl, (show MdI o76_vm ∧ atI o76_vm ∧ (vm 34 0).toInt ≤ (o76_vm 34 0).toInt ∧ (0 ≤ r76.toInt ∧ r76.toInt ≤ 4) ∧ (r76.toInt = 0 → RdM o76_vm) from ⟨hMI.sn h76.2.1, hat.of h76.2.2 (h76.2.1 32 (by decide) (by decide) (by decide) (by decide)), by omega, by omega, fun q => absurd q (by omega)⟩), by rw [ht]; exact hP, hD⟩, hS.F ht⟩) hS.2.2 dX10_takeDeed_83
  refine lv_if_le (tgt := 37) hx hb dX10_takeDeed_30 (by decide) (fun c30 => ?_) (fun c30 => ?_)
  · have c30_ := i_le c30
    refine lv_aload_n hx hb dX10_takeDeed_37 rfl (lv_at hl 2 rfl) ?_
    refine lv_aload_n hx hb dX10_takeDeed_38 rfl (lv_at hl 2 rfl) ?_
    refine va_get (D := eD E) (ci := 10) (v := .ref (am 60)) (C := RX10) (T := TX10) (N := 79) hx hb hts in_X10 hown hK hP 0 rfl rfl 60 (by decide) lk2 (fun _ h9 => h9) rfl dX10_takeDeed_39 ?_
    refine lv_iload_n hx hb dX10_takeDeed_42 rfl (lv_at hl 1 rfl) ?_
    refine lv_iconst (v := 0) hx hb dX10_takeDeed_43 (by decide) ?_
    refine lv_sipush (v := 300) hx hb dX10_takeDeed_44 (by decide) ?_
    refine mt_Vi (w1 := fun (u : Vf) => mdL E am u) (wf := fun (u : Vf) => mdL E am u) (wr := []) (As := [.ref (am 60), .int (vm 58 0), .int 0, .int 300]) (rest := []) (C := RX10) (ci := 10) ⟨hx, hb, hml, hown, hts⟩ (c_X10_into_60 l E H.size am o25_vm (vm 58 0) 0 300 hMI hat (by omega)) (cwV 4 hts gX10_takeDeed_X10_into rfl rfl rfl (by decide +kernel) ⟨Nat.le_of_ble_eq_true rfl, Nat.le_of_ble_eq_true rfl⟩) hE hS hA hP hD [0, 1, 2, 3, 4, 5, 6, 7, 8, 9, 10, 11, 12, 13, 14, 15, 16, 17, 18, 19, 20, 21, 22, 23, 24, 25, 26, 27, 28, 29, 30, 31, 32, 33, 34, 35, 36, 37, 38, 39, 40, 41, 42, 43, 44, 45] [] rfl rfl (by decide) (by decide) (by decide) [0, 1, 2, 3, 4, 5, 6, 7, 8, 9, 10, 11, 12, 13, 14, 15, 16, 17, 18, 19, 20, 21, 22, 23, 24, 25, 26, 27, 28, 29, 30, 31, 32, 33, 34, 35, 36, 37, 38, 39, 40, 41, 42, 43, 44, 45] (by decide) (fun u => rfl) rfl rfl rfl rfl hl.1 rfl (Nat.le_of_ble_eq_true rfl) dX10_takeDeed_47 ⟨Nat.zero_le _, Nat.zero_le _⟩ (fun r47 u47 H locs h47 hP hD hS => ?_)
    generalize u47 = o47_vm at hP hD h47
    try dsimp only at h47
    have hP : va_P (eD E) vwCl (mdL E am o47_vm) H := hP
    have hD : va_D A (mdL E am o47_vm) := hD
    have hMI : MdI o47_vm := hMI.on (h47.1.mem (by decide))
    have hRd : RdM o47_vm := hRd.on (h47.1.mem (by decide))
    have hat := h47.2.2.1
    obtain ⟨y47, hy47, hr47⟩ := id h47.2.1
    have hm47 := h47.2.2.2
    exact K50 r47 o47_vm _ _ ls hP hD hS hMI hat (by omega) hRd (by omega) (lv_sub hl [2, 1, 0] rfl)
  · have c30_ := i_nle c30
    refine lv_iload_n hx hb dX10_takeDeed_33 rfl (lv_at hl 0 rfl) ?_
    refine lv_goto (tgt := 50) hx hb dX10_takeDeed_34 (by decide) ?_
    exact K50 r25 o25_vm _ _ ls hP hD hS hMI hat (by omega) hRd (by omega) (lv_sub hl [2, 1, 0] rfl)
