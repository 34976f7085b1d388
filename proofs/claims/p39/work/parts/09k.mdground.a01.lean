def rm_X10_ground : Room := { frames := 6, cells := 0, slots := 0, locals := 139 }
set_option maxHeartbeats 4000000 in
set_option maxRecDepth 100000 in
theorem c_X10_ground (l : Launch) (E : Ev) (sz : Nat) (am : Nat → Nat) (vm : Vf) (hMI : MdI vm) : Met l yX10_ground wsX10_ground rm_X10_ground (MtP E sz [.ref (am 0)] (mdL E am vm)) (va_Qi (fun (r : Int32) (u : Vf) => ((MdI u ∧ (u 32 0).toInt = 0) ∧ fr [0, 1, 2, 3, 4, 5, 6, 7, 8, 9, 10, 11, 12, 13, 14, 15, 16, 17, 18, 19, 20, 21, 22, 23, 24, 25, 26, 27, 28, 29, 32, 33, 34, 35, 36, 37, 38, 39, 40, 41, 42, 43, 44, 45, 46, 47, 48, 49, 50, 51, 52, 53, 54, 55, 56, 57, 58, 59, 60, 61, 67, 75, 78] vm u) ∧ (((∀ j : Nat, (j : Int) < (vm 32 0).toInt → 0 ≤ (vm 31 j).toInt) → GrM (textF (vm 31) (vm 32 0).toInt 251 0 (SI (gr0 vm))) r.toInt (u 33 0).toInt (fun S => RpM0 S u)) ∧ (GrD r vm u))) (MtB E (va_A (mdL E am vm) sz) (fun u => mdL E am u)) (va_A (mdL E am vm) sz)) 0 0 (va_A (mdL E am vm) sz) := by
  refine Met.ofW (cc := cX10_ground) (maxL := 2) (ret := (some .int)) (by decide) rfl ?_
  intro p e s m args below meth c s₁ B hml hv
  obtain ⟨rfl, hsz, hE, hP, hD0⟩ := hv
  subst hsz
  have hD := hD0.self (sz := s.heap.size)
  generalize hAe : va_A (mdL E am vm) s.heap.size = A at hD hE ⊢
  have hA : ∀ q : Nat, s.heap.size ≤ q → A q := fun q h => by rw [← hAe]; exact Or.inr h
  have hS : va_S A s.heap s.heap [] := va_S.rf
  have hx := B.exec
  have hb := B.bytes
  have hr := B.returns
  have hts := atoms_spec (ws := wsX10_ground) B.pre
  have hown : s.vm.findClass RX10 = some m.cls := findClass_of_methodNamed B.named
  have hlocks := B.notSynchronized
  have hK := hE.1
  have in_X10 : ∀ w ∈ u_ws RX10 TX10 79, w ∈ wsX10_ground := fun w h => List.mem_cons_of_mem _ (List.mem_append_right _ h)
  have lk0 := hts (.fieldLink RX10 74 "TidedGroundModel" "faultPlace" "I") (by decide +kernel)
  have lk1 := hts (.fieldLink RX10 180 "TidedGroundModel" "at0" "I") (by decide +kernel)
  have lk2 := hts (.fieldLink RX10 204 "TidedGroundModel" "readWide" "I") (by decide +kernel)
  have lk3 := hts (.fieldLink RX10 207 "TidedGroundModel" "readDeep" "I") (by decide +kernel)
  have lk4 := hts (.fieldLink RX10 220 "TidedGroundModel" "readTold" "I") (by decide +kernel)
  have lk5 := hts (.fieldLink RX10 231 "TidedGroundModel" "readMoons" "I") (by decide +kernel)
  have lk6 := hts (.fieldLink RX10 234 "TidedGroundModel" "readHouses" "I") (by decide +kernel)
  have lk7 := hts (.fieldLink RX10 237 "TidedGroundModel" "readCracks" "I") (by decide +kernel)
  have lk8 := hts (.fieldLink RX10 240 "TidedGroundModel" "readWells" "I") (by decide +kernel)
  have lk9 := hts (.fieldLink RX10 243 "TidedGroundModel" "readDeeds" "I") (by decide +kernel)
  have lk10 := hts (.fieldLink RX10 176 "TidedGroundModel" "texted" "I") (by decide +kernel)
  have lk11 := hts (.fieldLink RX10 291 "TidedGroundModel" "step" "I") (by decide +kernel)
  have lk12 := hts (.fieldLink RX10 294 "TidedGroundModel" "cart" "I") (by decide +kernel)
  have lk13 := hts (.fieldLink RX10 297 "TidedGroundModel" "pushed" "I") (by decide +kernel)
  have lk14 := hts (.fieldLink RX10 68 "TidedGroundModel" "steep" "I") (by decide +kernel)
  have lk15 := hts (.fieldLink RX10 300 "TidedGroundModel" "sights" "I") (by decide +kernel)
  have lk16 := hts (.fieldLink RX10 303 "TidedGroundModel" "booked" "I") (by decide +kernel)
  have lk17 := hts (.fieldLink RX10 155 "TidedGroundModel" "isKept" "[Z") (by decide +kernel)
  have n_m10 : ((-10) : Int32).toInt = -10 := by decide
  have n_m1 : ((-1) : Int32).toInt = -1 := by decide
  have n_0 : (0 : Int32).toInt = 0 := by decide
  have n_1 : (1 : Int32).toInt = 1 := by decide
  have n_20 : (20 : Int32).toInt = 20 := by decide
  have hl := lv_entry ([.ref (am 0)]) (n := 2) (Nat.le_of_ble_eq_true rfl)
  rw [lg_entry_eq]
  generalize (lg_sl ([.ref (am 0)]) ++ List.replicate (2 - (lg_sl ([.ref (am 0)])).length) Slot.unset).toArray = ls at hl ⊢
  have hl : lv_has ls 2 [(0, .ref (am 0))] := hl
  refine W_abs (fun Q hQ => ?_)
  have hH := hMI.1
  have hFz : fr [0, 1, 2, 3, 4, 5, 6, 7, 8, 9, 10, 11, 12, 13, 14, 15, 16, 17, 18, 19, 20, 21, 22, 23, 24, 25, 26, 27, 28, 29, 32, 33, 34, 35, 36, 37, 38, 39, 40, 41, 42, 43, 44, 45, 46, 47, 48, 49, 50, 51, 52, 53, 54, 55, 56, 57, 58, 59, 60, 61, 67, 75, 78] vm vm := fr.rf
  refine lv_aload_n hx hb dX10_ground_0 rfl (lv_at hl 0 rfl) ?_
  refine lv_iconst (v := (-1)) hx hb dX10_ground_1 (by decide) ?_
  refine va_put (D := eD E) (ci := 10) (v := .int (-1)) (ty := .int) (C := RX10) (T := TX10) (N := 79) hx hb hts in_X10 tyX10 tyX10_ok nmX10 hown hK hP hD hS 0 rfl rfl 33 (by decide) lk0 (fun _ h9 => h9) rfl (by decide +kernel) rfl rfl (Nat.le_of_ble_eq_true rfl) dX10_ground_2 (fun H locs hP hD hS => ?_)
  replace hP : va_P (eD E) vwCl (mdL E am (up2 vm 33 0 (-1))) H := hP
  replace hD : va_D A (mdL E am (up2 vm 33 0 (-1))) := hD
  generalize hv2 : up2 vm 33 0 (-1) = vm_2 at hP hD
  have hFz : fr [0, 1, 2, 3, 4, 5, 6, 7, 8, 9, 10, 11, 12, 13, 14, 15, 16, 17, 18, 19, 20, 21, 22, 23, 24, 25, 26, 27, 28, 29, 32, 33, 34, 35, 36, 37, 38, 39, 40, 41, 42, 43, 44, 45, 46, 47, 48, 49, 50, 51, 52, 53, 54, 55, 56, 57, 58, 59, 60, 61, 67, 75, 78] vm vm_2 := by first | exact hFz | (rw [← hv2]; exact hFz.up (by decide))
  refine lv_aload_n hx hb dX10_ground_5 rfl (lv_at hl 0 rfl) ?_
  refine lv_iconst (v := 0) hx hb dX10_ground_6 (by decide) ?_
  refine va_put (D := eD E) (ci := 10) (v := .int 0) (ty := .int) (C := RX10) (T := TX10) (N := 79) hx hb hts in_X10 tyX10 tyX10_ok nmX10 hown hK hP hD hS 0 rfl rfl 34 (by decide) lk1 (fun _ h9 => h9) rfl (by decide +kernel) rfl rfl (Nat.le_of_ble_eq_true rfl) dX10_ground_7 (fun H locs hP hD hS => ?_)
  replace hP : va_P (eD E) vwCl (mdL E am (up2 vm_2 34 0 0)) H := hP
  replace hD : va_D A (mdL E am (up2 vm_2 34 0 0)) := hD
  generalize hv7 : up2 vm_2 34 0 0 = vm_7 at hP hD
  have hFz : fr [0, 1, 2, 3, 4, 5, 6, 7, 8, 9, 10, 11, 12, 13, 14, 15, 16, 17, 18, 19, 20, 21, 22, 23, 24, 25, 26, 27, 28, 29, 32, 33, 34, 35, 36, 37, 38, 39, 40, 41, 42, 43, 44, 45, 46, 47, 48, 49, 50, 51, 52, 53, 54, 55, 56, 57, 58, 59, 60, 61, 67, 75, 78] vm vm_7 := by first | exact hFz | (rw [← hv7]; exact hFz.up (by decide))
  refine lv_aload_n hx hb dX10_ground_10 rfl (lv_at hl 0 rfl) ?_
  refine lv_iconst (v := 0) hx hb dX10_ground_11 (by decide) ?_
  refine va_put (D := eD E) (ci := 10) (v := .int 0) (ty := .int) (C := RX10) (T := TX10) (N := 79) hx hb hts in_X10 tyX10 tyX10_ok nmX10 hown hK hP hD hS 0 rfl rfl 37 (by decide) lk2 (fun _ h9 => h9) rfl (by decide +kernel) rfl rfl (Nat.le_of_ble_eq_true rfl) dX10_ground_12 (fun H locs hP hD hS => ?_)
  replace hP : va_P (eD E) vwCl (mdL E am (up2 vm_7 37 0 0)) H := hP
  replace hD : va_D A (mdL E am (up2 vm_7 37 0 0)) := hD
  generalize hv12 : up2 vm_7 37 0 0 = vm_12 at hP hD
  have hFz : fr [0, 1, 2, 3, 4, 5, 6, 7, 8, 9, 10, 11, 12, 13, 14, 15, 16, 17, 18, 19, 20, 21, 22, 23, 24, 25, 26, 27, 28, 29, 32, 33, 34, 35, 36, 37, 38, 39, 40, 41, 42, 43, 44, 45, 46, 47, 48, 49, 50, 51, 52, 53, 54, 55, 56, 57, 58, 59, 60, 61, 67, 75, 78] vm vm_12 := by first | exact hFz | (rw [← hv12]; exact hFz.up (by decide))
  refine lv_aload_n hx hb dX10_ground_15 rfl (lv_at hl 0 rfl) ?_
  refine lv_iconst (v := 0) hx hb dX10_ground_16 (by decide) ?_
  refine va_put (D := eD E) (ci := 10) (v := .int 0) (ty := .int) (C := RX10) (T := TX10) (N := 79) hx hb hts in_X10 tyX10 tyX10_ok nmX10 hown hK hP hD hS 0 rfl rfl 38 (by decide) lk3 (fun _ h9 => h9) rfl (by decide +kernel) rfl rfl (Nat.le_of_ble_eq_true rfl) dX10_ground_17 (fun H locs hP hD hS => ?_)
  replace hP : va_P (eD E) vwCl (mdL E am (up2 vm_12 38 0 0)) H := hP
  replace hD : va_D A (mdL E am (up2 vm_12 38 0 0)) := hD
  generalize hv17 : up2 vm_12 38 0 0 = vm_17 at hP hD
  have hFz : fr [0, 1, 2, 3, 4, 5, 6, 7, 8, 9, 10, 11, 12, 13, 14, 15, 16, 17, 18, 19, 20, 21, 22, 23, 24, 25, 26, 27, 28, 29, 32, 33, 34, 35, 36, 37, 38, 39, 40, 41, 42, 43, 44, 45, 46, 47, 48, 49, 50, 51, 52, 53, 54, 55, 56, 57, 58, 59, 60, 61, 67, 75, 78] vm vm_17 := by first | exact hFz | (rw [← hv17]; exact hFz.up (by decide))
  refine lv_aload_n hx hb dX10_ground_20 rfl (lv_at hl 0 rfl) ?_
  refine lv_iconst (v := 0) hx hb dX10_ground_21 (by decide) ?_
  refine va_put (D := eD E) (ci := 10) (v := .int 0) (ty := .int) (C := RX10) (T := TX10) (N := 79) hx hb hts in_X10 tyX10 tyX10_ok nmX10 hown hK hP hD hS 0 rfl rfl 41 (by decide) lk4 (fun _ h9 => h9) rfl (by decide +kernel) rfl rfl (Nat.le_of_ble_eq_true rfl) dX10_ground_22 (fun H locs hP hD hS => ?_)
  replace hP : va_P (eD E) vwCl (mdL E am (up2 vm_17 41 0 0)) H := hP
  replace hD : va_D A (mdL E am (up2 vm_17 41 0 0)) := hD
  generalize hv22 : up2 vm_17 41 0 0 = vm_22 at hP hD
  have hFz : fr [0, 1, 2, 3, 4, 5, 6, 7, 8, 9, 10, 11, 12, 13, 14, 15, 16, 17, 18, 19, 20, 21, 22, 23, 24, 25, 26, 27, 28, 29, 32, 33, 34, 35, 36, 37, 38, 39, 40, 41, 42, 43, 44, 45, 46, 47, 48, 49, 50, 51, 52, 53, 54, 55, 56, 57, 58, 59, 60, 61, 67, 75, 78] vm vm_22 := by first | exact hFz | (rw [← hv22]; exact hFz.up (by decide))
  refine lv_aload_n hx hb dX10_ground_25 rfl (lv_at hl 0 rfl) ?_
  refine lv_iconst (v := 0) hx hb dX10_ground_26 (by decide) ?_
  refine va_put (D := eD E) (ci := 10) (v := .int 0) (ty := .int) (C := RX10) (T := TX10) (N := 79) hx hb hts in_X10 tyX10 tyX10_ok nmX10 hown hK hP hD hS 0 rfl rfl 43 (by decide) lk5 (fun _ h9 => h9) rfl (by decide +kernel) rfl rfl (Nat.le_of_ble_eq_true rfl) dX10_ground_27 (fun H locs hP hD hS => ?_)
  replace hP : va_P (eD E) vwCl (mdL E am (up2 vm_22 43 0 0)) H := hP
  replace hD : va_D A (mdL E am (up2 vm_22 43 0 0)) := hD
  generalize hv27 : up2 vm_22 43 0 0 = vm_27 at hP hD
  have hFz : fr [0, 1, 2, 3, 4, 5, 6, 7, 8, 9, 10, 11, 12, 13, 14, 15, 16, 17, 18, 19, 20, 21, 22, 23, 24, 25, 26, 27, 28, 29, 32, 33, 34, 35, 36, 37, 38, 39, 40, 41, 42, 43, 44, 45, 46, 47, 48, 49, 50, 51, 52, 53, 54, 55, 56, 57, 58, 59, 60, 61, 67, 75, 78] vm vm_27 := by first | exact hFz | (rw [← hv27]; exact hFz.up (by decide))
  refine lv_aload_n hx hb dX10_ground_30 rfl (lv_at hl 0 rfl) ?_
  refine lv_iconst (v := 0) hx hb dX10_ground_31 (by decide) ?_
  refine va_put (D := eD E) (ci := 10) (v := .int 0) (ty := .int) (C := RX10) (T := TX10) (N := 79) hx hb hts in_X10 tyX10 tyX10_ok nmX10 hown hK hP hD hS 0 rfl rfl 48 (by decide) lk6 (fun _ h9 => h9) rfl (by decide +kernel) rfl rfl (Nat.le_of_ble_eq_true rfl) dX10_ground_32 (fun H locs hP hD hS => ?_)
  replace hP : va_P (eD E) vwCl (mdL E am (up2 vm_27 48 0 0)) H := hP
  replace hD : va_D A (mdL E am (up2 vm_27 48 0 0)) := hD
  generalize hv32 : up2 vm_27 48 0 0 = vm_32 at hP hD
  have hFz : fr [0, 1, 2, 3, 4, 5, 6, 7, 8, 9, 10, 11, 12, 13, 14, 15, 16, 17, 18, 19, 20, 21, 22, 23, 24, 25, 26, 27, 28, 29, 32, 33, 34, 35, 36, 37, 38, 39, 40, 41, 42, 43, 44, 45, 46, 47, 48, 49, 50, 51, 52, 53, 54, 55, 56, 57, 58, 59, 60, 61, 67, 75, 78] vm vm_32 := by first | exact hFz | (rw [← hv32]; exact hFz.up (by decide))
  refine lv_aload_n hx hb dX10_ground_35 rfl (lv_at hl 0 rfl) ?_
  refine lv_iconst (v := 0) hx hb dX10_ground_36 (by decide) ?_
  refine va_put (D := eD E) (ci := 10) (v := .int 0) (ty := .int) (C := RX10) (T := TX10) (N := 79) hx hb hts in_X10 tyX10 tyX10_ok nmX10 hown hK hP hD hS 0 rfl rfl 51 (by decide) lk7 (fun _ h9 => h9) rfl (by decide +kernel) rfl rfl (Nat.le_of_ble_eq_true rfl) dX10_ground_37 (fun H locs hP hD hS => ?_)
  replace hP : va_P (eD E) vwCl (mdL E am (up2 vm_32 51 0 0)) H := hP
  replace hD : va_D A (mdL E am (up2 vm_32 51 0 0)) := hD
  generalize hv37 : up2 vm_32 51 0 0 = vm_37 at hP hD
  have hFz : fr [0, 1, 2, 3, 4, 5, 6, 7, 8, 9, 10, 11, 12, 13, 14, 15, 16, 17, 18, 19, 20, 21, 22, 23, 24, 25, 26, 27, 28, 29, 32, 33, 34, 35, 36, 37, 38, 39, 40, 41, 42, 43, 44, 45, 46, 47, 48, 49, 50, 51, 52, 53, 54, 55, 56, 57, 58, 59, 60, 61, 67, 75, 78] vm vm_37 := by first | exact hFz | (rw [← hv37]; exact hFz.up (by decide))
  refine lv_aload_n hx hb dX10_ground_40 rfl (lv_at hl 0 rfl) ?_
  refine lv_iconst (v := 0) hx hb dX10_ground_41 (by decide) ?_
  refine va_put (D := eD E) (ci := 10) (v := .int 0) (ty := .int) (C := RX10) (T := TX10) (N := 79) hx hb hts in_X10 tyX10 tyX10_ok nmX10 hown hK hP hD hS 0 rfl rfl 55 (by decide) lk8 (fun _ h9 => h9) rfl (by decide +kernel) rfl rfl (Nat.le_of_ble_eq_true rfl) dX10_ground_42 (fun H locs hP hD hS => ?_)
  replace hP : va_P (eD E) vwCl (mdL E am (up2 vm_37 55 0 0)) H := hP
  replace hD : va_D A (mdL E am (up2 vm_37 55 0 0)) := hD
  generalize hv42 : up2 vm_37 55 0 0 = vm_42 at hP hD
  have hFz : fr [0, 1, 2, 3, 4, 5, 6, 7, 8, 9, 10, 11, 12, 13, 14, 15, 16, 17, 18, 19, 20, 21, 22, 23, 24, 25, 26, 27, 28, 29, 32, 33, 34, 35, 36, 37, 38, 39, 40, 41, 42, 43, 44, 45, 46, 47, 48, 49, 50, 51, 52, 53, 54, 55, 56, 57, 58, 59, 60, 61, 67, 75, 78] vm vm_42 := by first | exact hFz | (rw [← hv42]; exact hFz.up (by decide))
  refine lv_aload_n hx hb dX10_ground_45 rfl (lv_at hl 0 rfl) ?_
  refine lv_iconst (v := 0) hx hb dX10_ground_46 (by decide) ?_
  refine va_put (D := eD E) (ci := 10) (v := .int 0) (ty := .int) (C := RX10) (T := TX10) (N := 79) hx hb hts in_X10 tyX10 tyX10_ok nmX10 hown hK hP hD hS 0 rfl rfl 58 (by decide) lk9 (fun _ h9 => h9) rfl (by decide +kernel) rfl rfl (Nat.le_of_ble_eq_true rfl) dX10_ground_47 (fun H locs hP hD hS => ?_)
  replace hP : va_P (eD E) vwCl (mdL E am (up2 vm_42 58 0 0)) H := hP
  replace hD : va_D A (mdL E am (up2 vm_42 58 0 0)) := hD
  generalize hv47 : up2 vm_42 58 0 0 = vm_47 at hP hD
  have hFz : fr [0, 1, 2, 3, 4, 5, 6, 7, 8, 9, 10, 11, 12, 13, 14, 15, 16, 17, 18, 19, 20, 21, 22, 23, 24, 25, 26, 27, 28, 29, 32, 33, 34, 35, 36, 37, 38, 39, 40, 41, 42, 43, 44, 45, 46, 47, 48, 49, 50, 51, 52, 53, 54, 55, 56, 57, 58, 59, 60, 61, 67, 75, 78] vm vm_47 := by first | exact hFz | (rw [← hv47]; exact hFz.up (by decide))
  have hMI : MdI vm_47 := by rw [← hv47, ← hv42, ← hv37, ← hv32, ← hv27, ← hv22, ← hv17, ← hv12, ← hv7, ← hv2]; exact hMI
  have hRd : RdM vm_47 := by rw [← hv47, ← hv42, ← hv37, ← hv32, ← hv27, ← hv22, ← hv17, ← hv12, ← hv7, ← hv2]; exact rd_new
  have hT := hMI.1.2.2.2.2.2.2.1
  have hq47 : (vm_47 34 0).toInt = 0 := by rw [← hv47, ← hv42, ← hv37, ← hv32, ← hv27, ← hv22, ← hv17, ← hv12, ← hv7, ← hv2]; exact (by decide : (0 : Int32).toInt = 0)
  have hat : atI vm_47 := ⟨by omega, by omega⟩
  have hg47 : vm_47 = gr0 vm := by rw [← hv47, ← hv42, ← hv37, ← hv32, ← hv27, ← hv22, ← hv17, ← hv12, ← hv7, ← hv2]; rfl
  have hSM47 : SM (SI (gr0 vm)) vm_47 := by rw [hg47]; exact SM_SI
  have hT47 : vm_47 31 = vm 31 ∧ vm_47 32 = vm 32 ∧ (vm_47 33 0).toInt = -1 := by rw [hg47]; exact ⟨rfl, rfl, (by decide : (-1 : Int32).toInt = -1)⟩
  have hN47 : (vm_47 32 0).toInt = (vm 32 0).toInt := by rw [hT47.2.1]
  refine lv_iconst (v := 0) hx hb dX10_ground_50 (by decide) ?_
  refine lv_istore_n (lv' := [(1, .int 0), (0, .ref (am 0))]) hx hb dX10_ground_51 rfl hl (by decide) rfl (fun ls hl => ?_)
  have K52 : ∀ (μ : Nat) (f : Int32) (S : St0) (ig : Nat) (vk : Vf) (H : Heap) (locs : List Loc) (ls : Array Slot), (3000 - 10 * (vk 34 0).toInt - f.toInt).toNat < μ → va_P (eD E) vwCl (mdL E am vk) H → va_D A (mdL E am vk) → va_S A s.heap H locs → (MdI vk) → (0 ≤ f.toInt ∧ f.toInt ≤ 4) → (f.toInt = 0 → atI vk ∧ RdM vk) → (0 ≤ (vk 34 0).toInt ∧ (vk 34 0).toInt ≤ 251) → (fr [0, 1, 2, 3, 4, 5, 6, 7, 8, 9, 10, 11, 12, 13, 14, 15, 16, 17, 18, 19, 20, 21, 22, 23, 24, 25, 26, 27, 28, 29, 32, 33, 34, 35, 36, 37, 38, 39, 40, 41, 42, 43, 44, 45, 46, 47, 48, 49, 50, 51, 52, 53, 54, 55, 56, 57, 58, 59, 60, 61, 67, 75, 78] vm vk) → (TxM (vm 31) (vm 32 0).toInt (SI (gr0 vm)) ig (vk 34 0).toInt f.toInt (vk 33 0).toInt S vk) → (f.toInt = 0 → vk 31 = vm 31 ∧ vk 32 = vm 32) → (f.toInt ≠ 0 ∨ (ig : Int) ≤ (vk 34 0).toInt) → (f.toInt = 0 → SM S vk) → (fr lG10 vm vk) → lv_has ls 2 [(0, .ref (am 0)), (1, .int f)] → W p l e (headSpec wsX10_ground rm_X10_ground).room s m ([.ref (am 0)] : List Value).toArray below meth c H locs 0 0 Q (F0 m 52 ls []) := by
    intro μ
    induction μ with
    | zero =>
      intro f S ig vk H locs ls hμ52
      exact absurd hμ52 (Nat.not_lt_zero _)
    | succ μ ih52 =>
      intro f S ig vk H locs ls hμ52 hP hD hS h52_0 h52_1 h52_2 h52_3 h52_4 h52_5 h52_6 h52_7 h52_8 h52_9 hl
      have hx52_0 := h52_5
      clear h52_5
      have hx52_1 := h52_6
      clear h52_6
      have hx52_2 := h52_7
      clear h52_7
      have hx52_3 := h52_8
      clear h52_8
      have hx52_4 := h52_9
      clear h52_9
      have hMI := h52_0
      have hFz := h52_4
      refine lv_iload_n hx hb dX10_ground_52 rfl (lv_at hl 1 rfl) ?_
      have K71 : ∀  (vl : Vf) (H : Heap) (locs : List Loc) (ls : Array Slot), va_P (eD E) vwCl (mdL E am vl) H → va_D A (mdL E am vl) → va_S A s.heap H locs → (MdI vl) → (0 ≤ f.toInt ∧ f.toInt ≤ 4) → (f.toInt = 0 → RdM vl) → (fr [0, 1, 2, 3, 4, 5, 6, 7, 8, 9, 10, 11, 12, 13, 14, 15, 16, 17, 18, 19, 20, 21, 22, 23, 24, 25, 26, 27, 28, 29, 32, 33, 34, 35, 36, 37, 38, 39, 40, 41, 42, 43, 44, 45, 46, 47, 48, 49, 50, 51, 52, 53, 54, 55, 56, 57, 58, 59, 60, 61, 67, 75, 78] vm vl) → ((∀ j : Nat, (j : Int) < (vm 32 0).toInt → 0 ≤ (vm 31 j).toInt) → (f.toInt ≠ 0 ∧ textF (vm 31) (vm 32 0).toInt 251 0 (SI (gr0 vm)) = .inl (f.toInt, (vl 33 0).toInt)) ∨ (f.toInt = 0 ∧ (vl 33 0).toInt = -1 ∧ textF (vm 31) (vm 32 0).toInt 251 0 (SI (gr0 vm)) = .inr S ∧ SM S vl)) → (fr lG10 vm vl) → lv_has ls 2 [(0, .ref (am 0)), (1, .int f)] → W p l e (headSpec wsX10_ground rm_X10_ground).room s m ([.ref (am 0)] : List Value).toArray below meth c H locs 0 0 Q (F0 m 71 ls []) := by
        intro vl H locs ls hP hD hS h71_0 h71_1 h71_2 h71_3 h71_4 h71_5 hl
        have hx71_0 := h71_4
        clear h71_4
        have hx71_1 := h71_5
        clear h71_5
        have hMI := h71_0
        have hFz := h71_3
        refine lv_aload_n hx hb dX10_ground_71 rfl (lv_at hl 0 rfl) ?_
        refine lv_iconst (v := 0) hx hb dX10_ground_72 (by decide) ?_
        refine va_put (D := eD E) (ci := 10) (v := .int 0) (ty := .int) (C := RX10) (T := TX10) (N := 79) hx hb hts in_X10 tyX10 tyX10_ok nmX10 hown hK hP hD hS 0 rfl rfl 32 (by decide) lk10 (fun _ h9 => h9) rfl (by decide +kernel) rfl rfl (Nat.le_of_ble_eq_true rfl) dX10_ground_73 (fun H locs hP hD hS => ?_)
        replace hP : va_P (eD E) vwCl (mdL E am (up2 vl 32 0 0)) H := hP
        replace hD : va_D A (mdL E am (up2 vl 32 0 0)) := hD
        generalize hv73 : up2 vl 32 0 0 = vm_73 at hP hD
        have hFz : fr [0, 1, 2, 3, 4, 5, 6, 7, 8, 9, 10, 11, 12, 13, 14, 15, 16, 17, 18, 19, 20, 21, 22, 23, 24, 25, 26, 27, 28, 29, 32, 33, 34, 35, 36, 37, 38, 39, 40, 41, 42, 43, 44, 45, 46, 47, 48, 49, 50, 51, 52, 53, 54, 55, 56, 57, 58, 59, 60, 61, 67, 75, 78] vm vm_73 := by first | exact hFz | (rw [← hv73]; exact hFz.up (by decide))
        have hMI : MdI vm_73 := by rw [← hv73]; exact md_txt0 hMI
        have hz73 : vm_73 32 0 = 0 := by rw [← hv73]; rfl
        refine lv_iload_n hx hb dX10_ground_76 rfl (lv_at hl 1 rfl) ?_
        refine lv_if_le (tgt := 85) hx hb dX10_ground_77 (by decide) (fun c77 => ?_) (fun c77 => ?_)
        · have c77_ := i_le c77
          have hRd : RdM vm_73 := by rw [← hv73]; exact h71_2 (by omega)
          refine lv_aload_n hx hb dX10_ground_85 rfl (lv_at hl 0 rfl) ?_
          refine mt_Vv (w1 := fun (u : Vf) => mdL E am u) (wf := fun (u : Vf) => mdL E am u) (wr := []) (As := []) (rest := []) (C := RX10) (ci := 10) ⟨hx, hb, hml, hown, hts⟩ (c_X10_takeRead l E H.size am vm_73 hMI hRd) (cwV 0 hts gX10_ground_X10_takeRead rfl rfl rfl (by decide +kernel) ⟨Nat.le_of_ble_eq_true rfl, Nat.le_of_ble_eq_true rfl⟩) hE hS hA hP hD [0, 1, 2, 3, 4, 5, 6, 7, 8, 9, 10, 11, 12, 13, 14, 15, 16, 17, 18, 19, 20, 21, 22, 23, 24, 25, 26, 27, 28, 29, 30, 31, 32, 33, 34, 35, 36, 37, 38, 39, 40, 41, 42, 43, 44, 45] [] rfl rfl (by decide) (by decide) (by decide) [0, 1, 2, 3, 4, 5, 6, 7, 8, 9, 10, 11, 12, 13, 14, 15, 16, 17, 18, 19, 20, 21, 22, 23, 24, 25, 26, 27, 28, 29, 30, 31, 32, 33, 34, 35, 36, 37, 38, 39, 40, 41, 42, 43, 44, 45] (by decide) (fun u => rfl) rfl rfl rfl rfl hl.1 rfl (Nat.le_of_ble_eq_true rfl) dX10_ground_86 ⟨Nat.zero_le _, Nat.zero_le _⟩ (fun u86 H locs h86 hP hD hS => ?_)
          generalize u86 = o86_vm at hP hD h86
          try dsimp only at h86
          have hf86 := h86.2
          replace h86 := h86.1
          have hFn86 := h86.2
          replace h86 := h86.1
          replace hP : va_P (eD E) vwCl (mdL E am o86_vm) H := hP
          replace hD : va_D A (mdL E am o86_vm) := hD
          have hFz : fr [0, 1, 2, 3, 4, 5, 6, 7, 8, 9, 10, 11, 12, 13, 14, 15, 16, 17, 18, 19, 20, 21, 22, 23, 24, 25, 26, 27, 28, 29, 32, 33, 34, 35, 36, 37, 38, 39, 40, 41, 42, 43, 44, 45, 46, 47, 48, 49, 50, 51, 52, 53, 54, 55, 56, 57, 58, 59, 60, 61, 67, 75, 78] vm o86_vm := by first | exact hFz | exact hFz.tr hFn86 (by decide) | (rw [← hv86]; repeat' (first | exact hFz | refine fr.up ?_ (by decide) | refine fr.up3 ?_ (by decide)))
          have hz86 : o86_vm 32 0 = 0 := by rw [h86.1.1 32 (by omega)]; exact hz73
          have hq86 : o86_vm 33 = vl 33 ∧ o86_vm 0 0 = vl 37 0 ∧ o86_vm 1 0 = vl 38 0 := ⟨by rw [h86.1.1 33 (by omega), ← hv73]; rfl, by rw [h86.1.2.1.1, ← hv73]; rfl, by rw [h86.1.2.1.2.1, ← hv73]; rfl⟩
          have hq86h : o86_vm 9 0 = vl 48 0 := by rw [h86.1.2.1.2.2.2.1, ← hv73]; rfl
          refine lv_aload_n hx hb dX10_ground_89 rfl (lv_at hl 0 rfl) ?_
          refine lv_iconst (v := 0) hx hb dX10_ground_90 (by decide) ?_
          refine va_put (D := eD E) (ci := 10) (v := .int 0) (ty := .int) (C := RX10) (T := TX10) (N := 79) hx hb hts in_X10 tyX10 tyX10_ok nmX10 hown hK hP hD hS 0 rfl rfl 23 (by decide) lk11 (fun _ h9 => h9) rfl (by decide +kernel) rfl rfl (Nat.le_of_ble_eq_true rfl) dX10_ground_91 (fun H locs hP hD hS => ?_)
          replace hP : va_P (eD E) vwCl (mdL E am (up2 o86_vm 23 0 0)) H := hP
          replace hD : va_D A (mdL E am (up2 o86_vm 23 0 0)) := hD
          generalize hv91 : up2 o86_vm 23 0 0 = vm_91 at hP hD
          have hFz : fr [0, 1, 2, 3, 4, 5, 6, 7, 8, 9, 10, 11, 12, 13, 14, 15, 16, 17, 18, 19, 20, 21, 22, 23, 24, 25, 26, 27, 28, 29, 32, 33, 34, 35, 36, 37, 38, 39, 40, 41, 42, 43, 44, 45, 46, 47, 48, 49, 50, 51, 52, 53, 54, 55, 56, 57, 58, 59, 60, 61, 67, 75, 78] vm vm_91 := by first | exact hFz | (rw [← hv91]; exact hFz.up (by decide))
          refine lv_aload_n hx hb dX10_ground_94 rfl (lv_at hl 0 rfl) ?_
          refine lv_iconst (v := 0) hx hb dX10_ground_95 (by decide) ?_
          refine va_put (D := eD E) (ci := 10) (v := .int 0) (ty := .int) (C := RX10) (T := TX10) (N := 79) hx hb hts in_X10 tyX10 tyX10_ok nmX10 hown hK hP hD hS 0 rfl rfl 27 (by decide) lk12 (fun _ h9 => h9) rfl (by decide +kernel) rfl rfl (Nat.le_of_ble_eq_true rfl) dX10_ground_96 (fun H locs hP hD hS => ?_)
          replace hP : va_P (eD E) vwCl (mdL E am (up2 vm_91 27 0 0)) H := hP
          replace hD : va_D A (mdL E am (up2 vm_91 27 0 0)) := hD
          generalize hv96 : up2 vm_91 27 0 0 = vm_96 at hP hD
          have hFz : fr [0, 1, 2, 3, 4, 5, 6, 7, 8, 9, 10, 11, 12, 13, 14, 15, 16, 17, 18, 19, 20, 21, 22, 23, 24, 25, 26, 27, 28, 29, 32, 33, 34, 35, 36, 37, 38, 39, 40, 41, 42, 43, 44, 45, 46, 47, 48, 49, 50, 51, 52, 53, 54, 55, 56, 57, 58, 59, 60, 61, 67, 75, 78] vm vm_96 := by first | exact hFz | (rw [← hv96]; exact hFz.up (by decide))
          refine lv_aload_n hx hb dX10_ground_99 rfl (lv_at hl 0 rfl) ?_
          refine lv_iconst (v := 0) hx hb dX10_ground_100 (by decide) ?_
          refine va_put (D := eD E) (ci := 10) (v := .int 0) (ty := .int) (C := RX10) (T := TX10) (N := 79) hx hb hts in_X10 tyX10 tyX10_ok nmX10 hown hK hP hD hS 0 rfl rfl 28 (by decide) lk13 (fun _ h9 => h9) rfl (by decide +kernel) rfl rfl (Nat.le_of_ble_eq_true rfl) dX10_ground_101 (fun H locs hP hD hS => ?_)
          replace hP : va_P (eD E) vwCl (mdL E am (up2 vm_96 28 0 0)) H := hP
          replace hD : va_D A (mdL E am (up2 vm_96 28 0 0)) := hD
          generalize hv101 : up2 vm_96 28 0 0 = vm_101 at hP hD
          have hFz : fr [0, 1, 2, 3, 4, 5, 6, 7, 8, 9, 10, 11, 12, 13, 14, 15, 16, 17, 18, 19, 20, 21, 22, 23, 24, 25, 26, 27, 28, 29, 32, 33, 34, 35, 36, 37, 38, 39, 40, 41, 42, 43, 44, 45, 46, 47, 48, 49, 50, 51, 52, 53, 54, 55, 56, 57, 58, 59, 60, 61, 67, 75, 78] vm vm_101 := by first | exact hFz | (rw [← hv101]; exact hFz.up (by decide))
          refine lv_aload_n hx hb dX10_ground_104 rfl (lv_at hl 0 rfl) ?_
          refine lv_bipush (v := 20) hx hb dX10_ground_105 (by decide) ?_
          refine va_put (D := eD E) (ci := 10) (v := .int 20) (ty := .int) (C := RX10) (T := TX10) (N := 79) hx hb hts in_X10 tyX10 tyX10_ok nmX10 hown hK hP hD hS 0 rfl rfl 29 (by decide) lk14 (fun _ h9 => h9) rfl (by decide +kernel) rfl rfl (Nat.le_of_ble_eq_true rfl) dX10_ground_107 (fun H locs hP hD hS => ?_)
          replace hP : va_P (eD E) vwCl (mdL E am (up2 vm_101 29 0 20)) H := hP
          replace hD : va_D A (mdL E am (up2 vm_101 29 0 20)) := hD
          generalize hv107 : up2 vm_101 29 0 20 = vm_107 at hP hD
          have hFz : fr [0, 1, 2, 3, 4, 5, 6, 7, 8, 9, 10, 11, 12, 13, 14, 15, 16, 17, 18, 19, 20, 21, 22, 23, 24, 25, 26, 27, 28, 29, 32, 33, 34, 35, 36, 37, 38, 39, 40, 41, 42, 43, 44, 45, 46, 47, 48, 49, 50, 51, 52, 53, 54, 55, 56, 57, 58, 59, 60, 61, 67, 75, 78] vm vm_107 := by first | exact hFz | (rw [← hv107]; exact hFz.up (by decide))
          refine lv_aload_n hx hb dX10_ground_110 rfl (lv_at hl 0 rfl) ?_
          refine lv_iconst (v := 0) hx hb dX10_ground_111 (by decide) ?_
          refine va_put (D := eD E) (ci := 10) (v := .int 0) (ty := .int) (C := RX10) (T := TX10) (N := 79) hx hb hts in_X10 tyX10 tyX10_ok nmX10 hown hK hP hD hS 0 rfl rfl 67 (by decide) lk15 (fun _ h9 => h9) rfl (by decide +kernel) rfl rfl (Nat.le_of_ble_eq_true rfl) dX10_ground_112 (fun H locs hP hD hS => ?_)
          replace hP : va_P (eD E) vwCl (mdL E am (up2 vm_107 67 0 0)) H := hP
          replace hD : va_D A (mdL E am (up2 vm_107 67 0 0)) := hD
          generalize hv112 : up2 vm_107 67 0 0 = vm_112 at hP hD
          have hFz : fr [0, 1, 2, 3, 4, 5, 6, 7, 8, 9, 10, 11, 12, 13, 14, 15, 16, 17, 18, 19, 20, 21, 22, 23, 24, 25, 26, 27, 28, 29, 32, 33, 34, 35, 36, 37, 38, 39, 40, 41, 42, 43, 44, 45, 46, 47, 48, 49, 50, 51, 52, 53, 54, 55, 56, 57, 58, 59, 60, 61, 67, 75, 78] vm vm_112 := by first | exact hFz | (rw [← hv112]; exact hFz.up (by decide))
          refine lv_aload_n hx hb dX10_ground_115 rfl (lv_at hl 0 rfl) ?_
          refine lv_iconst (v := 0) hx hb dX10_ground_116 (by decide) ?_
          refine va_put (D := eD E) (ci := 10) (v := .int 0) (ty := .int) (C := RX10) (T := TX10) (N := 79) hx hb hts in_X10 tyX10 tyX10_ok nmX10 hown hK hP hD hS 0 rfl rfl 75 (by decide) lk16 (fun _ h9 => h9) rfl (by decide +kernel) rfl rfl (Nat.le_of_ble_eq_true rfl) dX10_ground_117 (fun H locs hP hD hS => ?_)
          replace hP : va_P (eD E) vwCl (mdL E am (up2 vm_112 75 0 0)) H := hP
          replace hD : va_D A (mdL E am (up2 vm_112 75 0 0)) := hD
          generalize hv117 : up2 vm_112 75 0 0 = vm_117 at hP hD
          have hFz : fr [0, 1, 2, 3, 4, 5, 6, 7, 8, 9, 10, 11, 12, 13, 14, 15, 16, 17, 18, 19, 20, 21, 22, 23, 24, 25, 26, 27, 28, 29, 32, 33, 34, 35, 36, 37, 38, 39, 40, 41, 42, 43, 44, 45, 46, 47, 48, 49, 50, 51, 52, 53, 54, 55, 56, 57, 58, 59, 60, 61, 67, 75, 78] vm vm_117 := by first | exact hFz | (rw [← hv117]; exact hFz.up (by decide))
          have hMI : MdI vm_117 := by rw [← hv117, ← hv112, ← hv107, ← hv101, ← hv96, ← hv91]; exact tr_fin hMI hRd h86.1 h86.2
          have hz117 : vm_117 32 0 = 0 := by rw [← hv117, ← hv112, ← hv107, ← hv101, ← hv96, ← hv91]; exact hz86
          refine lv_aload_n hx hb dX10_ground_120 rfl (lv_at hl 0 rfl) ?_
          refine va_get (D := eD E) (ci := 10) (v := .ref (am 78)) (C := RX10) (T := TX10) (N := 79) hx hb hts in_X10 hown hK hP 0 rfl rfl 78 (by decide) lk17 (fun _ h9 => h9) rfl dX10_ground_121 ?_
          refine lv_iconst (v := 0) hx hb dX10_ground_124 (by decide) ?_
          refine lv_iconst (v := 0) hx hb dX10_ground_125 (by decide) ?_
          refine va_zast hx hb hK hP hD hS 45 1 rfl rfl (n := 2) (f := (vm_117 78)) (i_in (by omega) (by omega)) dX10_ground_126 (fun H locs hP hD hS => ?_)
          replace hP : va_P (eD E) vwCl (mdL E am (up2 vm_117 78 0 0)) H := hP
          replace hD : va_D A (mdL E am (up2 vm_117 78 0 0)) := hD
          generalize hv126 : up2 vm_117 78 0 0 = vm_126 at hP hD
          have hFz : fr [0, 1, 2, 3, 4, 5, 6, 7, 8, 9, 10, 11, 12, 13, 14, 15, 16, 17, 18, 19, 20, 21, 22, 23, 24, 25, 26, 27, 28, 29, 32, 33, 34, 35, 36, 37, 38, 39, 40, 41, 42, 43, 44, 45, 46, 47, 48, 49, 50, 51, 52, 53, 54, 55, 56, 57, 58, 59, 60, 61, 67, 75, 78] vm vm_126 := by first | exact hFz | (rw [← hv126]; exact hFz.up (by decide))
          have hMI : MdI vm_126 := by rw [← hv126]; exact hMI
          refine lv_aload_n hx hb dX10_ground_127 rfl (lv_at hl 0 rfl) ?_
          refine va_get (D := eD E) (ci := 10) (v := .ref (am 78)) (C := RX10) (T := TX10) (N := 79) hx hb hts in_X10 hown hK hP 0 rfl rfl 78 (by decide) lk17 (fun _ h9 => h9) rfl dX10_ground_128 ?_
          refine lv_iconst (v := 1) hx hb dX10_ground_131 (by decide) ?_
          refine lv_iconst (v := 0) hx hb dX10_ground_132 (by decide) ?_
          refine va_zast hx hb hK hP hD hS 45 1 rfl rfl (n := 2) (f := (vm_126 78)) (i_in (by omega) (by omega)) dX10_ground_133 (fun H locs hP hD hS => ?_)
          replace hP : va_P (eD E) vwCl (mdL E am (up2 vm_126 78 1 0)) H := hP
          replace hD : va_D A (mdL E am (up2 vm_126 78 1 0)) := hD
          generalize hv133 : up2 vm_126 78 1 0 = vm_133 at hP hD
          have hFz : fr [0, 1, 2, 3, 4, 5, 6, 7, 8, 9, 10, 11, 12, 13, 14, 15, 16, 17, 18, 19, 20, 21, 22, 23, 24, 25, 26, 27, 28, 29, 32, 33, 34, 35, 36, 37, 38, 39, 40, 41, 42, 43, 44, 45, 46, 47, 48, 49, 50, 51, 52, 53, 54, 55, 56, 57, 58, 59, 60, 61, 67, 75, 78] vm vm_133 := by first | exact hFz | (rw [← hv133]; exact hFz.up (by decide))
          have hMI : MdI vm_133 := by rw [← hv133]; exact hMI
          have hH := hMI.1
          have hz133 : (vm_133 32 0).toInt = 0 := by rw [← hv133]; show (vm_126 32 0).toInt = 0; rw [← hv126]; show (vm_117 32 0).toInt = 0; rw [hz117]; decide
          have hq133 : vm_133 33 = vl 33 ∧ vm_133 0 0 = vl 37 0 ∧ vm_133 1 0 = vl 38 0 := by rw [← hv133, ← hv126, ← hv117, ← hv112, ← hv107, ← hv101, ← hv96, ← hv91]; exact hq86
          have hq133h : vm_133 9 0 = vl 48 0 := by rw [← hv133, ← hv126, ← hv117, ← hv112, ← hv107, ← hv101, ← hv96, ← hv91]; exact hq86h
          refine lv_aload_n hx hb dX10_ground_134 rfl (lv_at hl 0 rfl) ?_
          refine rd_V (As := []) (rest := []) (C := RX10) (ci := 10) ⟨hx, hb, hml, hown, hts⟩ (c_X10_cells l E A am vm_133 hH) (cwV 0 hts gX10_ground_X10_cells rfl rfl rfl (by decide +kernel) ⟨Nat.le_of_ble_eq_true rfl, Nat.le_of_ble_eq_true rfl⟩) (hE.kept hS.2.1) (hP.sub (ws' := mdL E am vm_133) [0, 1, 2, 3, 4, 5, 6, 7, 8, 9, 10, 11, 12, 13, 14, 15, 16, 17, 18, 19, 20, 21, 22, 23, 24, 25, 26, 27, 28, 29, 30, 31, 32, 33, 34, 35, 36, 37, 38, 39, 40, 41, 42, 43, 44, 45] rfl) rfl rfl rfl rfl hl.1 rfl (Nat.le_of_ble_eq_true rfl) dX10_ground_135 ⟨Nat.zero_le _, Nat.zero_le _⟩ (fun r135 h135 => ?_)
          subst hQ
          exact W.iret (v := r135) hx hb hr (fun t ht hW => ⟨⟨r135, (vm_133), rfl, (show ((MdI vm_133 ∧ (vm_133 32 0).toInt = 0) ∧ fr [0, 1, 2, 3, 4, 5, 6, 7, 8, 9, 10, 11, 12, 13, 14, 15, 16, 17, 18, 19, 20, 21, 22, 23, 24, 25, 26, 27, 28, 29, 32, 33, 34, 35, 36, 37, 38, 39, 40, 41, 42, 43, 44, 45, 46, 47, 48, 49, 50, 51, 52, 53, 54, 55, 56, 57, 58, 59, 60, 61, 67, 75, 78] vm vm_133) ∧ (((∀ j : Nat, (j : Int) < (vm 32 0).toInt → 0 ≤ (vm 31 j).toInt) → GrM (textF (vm 31) (vm 32 0).toInt 251 0 (SI (gr0 vm))) r135.toInt (vm_133 33 0).toInt (fun S => RpM0 S vm_133)) ∧ (GrD r135 vm vm_133)) from ⟨⟨⟨hMI, hz133⟩, hFz⟩, ⟨(fun hL => by have q := (hx71_0 hL).resolve_left (fun z => absurd z.1 (by omega)); exact Or.inr ⟨S, q.2.2.1, by rw [q.2.2.2 37 (by decide) 0, q.2.2.2 38 (by decide) 0, ← hq133.2.1, ← hq133.2.2]; exact h135.1, by rw [hq133.1]; exact q.2.1, (by rw [q.2.2.2 37 (by decide) 0, ← hq133.2.1]), (by rw [q.2.2.2 38 (by decide) 0, ← hq133.2.2]), (by rw [q.2.2.2 48 (by decide) 0, ← hq133h])⟩), (Or.inr ⟨h135.2.1, (by rw [← hv133, ← hv126, ← hv117, ← hv112, ← hv107, ← hv101, ← hv96, ← hv91]; exact ⟨rfl, hf86.1, hf86.2.1, hf86.2.2, rfl, rfl, rfl⟩), (by rw [← hv133, ← hv126, ← hv117, ← hv112, ← hv107, ← hv101, ← hv96, ← hv91]; exact ⟨rfl, rfl⟩), (by rw [← hv133, ← hv126, ← hv117, ← hv112, ← hv107, ← hv101, ← hv96, ← hv91]; exact ⟨rfl, rfl⟩)⟩)⟩⟩), by rw [ht]; exact hP, hD⟩, hS.F ht⟩) hS.2.2 dX10_ground_138
        · have c77_ := i_nle c77
          refine lv_bipush (v := (-10)) hx hb dX10_ground_80 (by decide) ?_
          refine lv_iload_n hx hb dX10_ground_82 rfl (lv_at hl 1 rfl) ?_
          refine lv_isub hx hb dX10_ground_83 ?_
          refine lv_topi (fun x83 e83 => ?_)
          have t83 := i_sub e83 (by omega)
          subst hQ
          exact W.iret (v := x83) hx hb hr (fun t ht hW => ⟨⟨x83, (vm_73), rfl, (show ((MdI vm_73 ∧ (vm_73 32 0).toInt = 0) ∧ fr [0, 1, 2, 3, 4, 5, 6, 7, 8, 9, 10, 11, 12, 13, 14, 15, 16, 17, 18, 19, 20, 21, 22, 23, 24, 25, 26, 27, 28, 29, 32, 33, 34, 35, 36, 37, 38, 39, 40, 41, 42, 43, 44, 45, 46, 47, 48, 49, 50, 51, 52, 53, 54, 55, 56, 57, 58, 59, 60, 61, 67, 75, 78] vm vm_73) ∧ (((∀ j : Nat, (j : Int) < (vm 32 0).toInt → 0 ≤ (vm 31 j).toInt) → GrM (textF (vm 31) (vm 32 0).toInt 251 0 (SI (gr0 vm))) x83.toInt (vm_73 33 0).toInt (fun S => RpM0 S vm_73)) ∧ (GrD x83 vm vm_73)) from ⟨⟨⟨hMI, by rw [hz73]; decide⟩, hFz⟩, ⟨(fun hL => by rw [← hv73]; exact Or.inl ⟨_, _, ((hx71_0 hL).resolve_right (fun z => absurd z.1 (by omega))).2, (by omega), rfl⟩), (Or.inl ⟨by omega, (by rw [← hv73]; exact hx71_1.up (by decide))⟩)⟩⟩), by rw [ht]; exact hP, hD⟩, hS.F ht⟩) hS.2.2 dX10_ground_84
      refine lv_if_ne (tgt := 71) hx hb dX10_ground_53 (by decide) (fun c53 => ?_) (fun c53 => ?_)
      · have c53_ := i_ne c53
        have hnz : f.toInt ≠ 0 := by omega
        exact K71  vk _ _ ls hP hD hS hMI (by omega) (by first | exact fun q => absurd q (by omega) | exact fun _ => hRd) hFz (by first | exact fun _ => Or.inl (hx52_0.resolve_right (fun z => absurd z.1 hnz)) | exact fun hL => Or.inr ⟨hz0, gend hL⟩) (by first | exact hx52_4.tr hFn57 (by decide) | exact hx52_4) (lv_sub hl [0, 1] rfl)
      · have c53_ := i_eq c53
        have hat := (h52_2 (by omega)).1
        have hRd := (h52_2 (by omega)).2
        refine lv_aload_n hx hb dX10_ground_56 rfl (lv_at hl 0 rfl) ?_
        refine mt_Vi (w1 := fun (u : Vf) => mdL E am u) (wf := fun (u : Vf) => mdL E am u) (wr := []) (As := []) (rest := []) (C := RX10) (ci := 10) ⟨hx, hb, hml, hown, hts⟩ (c_X10_here l E H.size am vk hMI hat) (cwV 0 hts gX10_ground_X10_here rfl rfl rfl (by decide +kernel) ⟨Nat.le_of_ble_eq_true rfl, Nat.le_of_ble_eq_true rfl⟩) hE hS hA hP hD [0, 1, 2, 3, 4, 5, 6, 7, 8, 9, 10, 11, 12, 13, 14, 15, 16, 17, 18, 19, 20, 21, 22, 23, 24, 25, 26, 27, 28, 29, 30, 31, 32, 33, 34, 35, 36, 37, 38, 39, 40, 41, 42, 43, 44, 45] [] rfl rfl (by decide) (by decide) (by decide) [0, 1, 2, 3, 4, 5, 6, 7, 8, 9, 10, 11, 12, 13, 14, 15, 16, 17, 18, 19, 20, 21, 22, 23, 24, 25, 26, 27, 28, 29, 30, 31, 32, 33, 34, 35, 36, 37, 38, 39, 40, 41, 42, 43, 44, 45] (by decide) (fun u => rfl) rfl rfl rfl rfl hl.1 rfl (Nat.le_of_ble_eq_true rfl) dX10_ground_57 ⟨Nat.zero_le _, Nat.zero_le _⟩ (fun r57 u57 H locs h57 hP hD hS => ?_)
        generalize u57 = o57_vm at hP hD h57
        try dsimp only at h57
        have hf57 := h57.2
        replace h57 := h57.1
        have hFn57 := h57.2
        replace h57 := h57.1
        replace hP : va_P (eD E) vwCl (mdL E am o57_vm) H := hP
        replace hD : va_D A (mdL E am o57_vm) := hD
        have hFz : fr [0, 1, 2, 3, 4, 5, 6, 7, 8, 9, 10, 11, 12, 13, 14, 15, 16, 17, 18, 19, 20, 21, 22, 23, 24, 25, 26, 27, 28, 29, 32, 33, 34, 35, 36, 37, 38, 39, 40, 41, 42, 43, 44, 45, 46, 47, 48, 49, 50, 51, 52, 53, 54, 55, 56, 57, 58, 59, 60, 61, 67, 75, 78] vm o57_vm := by first | exact hFz | exact hFz.tr hFn57 (by decide) | (rw [← hv57]; repeat' (first | exact hFz | refine fr.up ?_ (by decide) | refine fr.up3 ?_ (by decide)))
        have hMI : MdI o57_vm := hMI.sn h57.1
        have hat := h57.2.1
        have hRd : RdM o57_vm := hRd.sn h57.1
        have hm57 := h57.2.2.1
        have hp57 := hf57.1
        have hg57 := hf57.2.2
        have hfr57 := hf57.2.1
        rw [(hx52_1 (by omega)).1, (hx52_1 (by omega)).2] at hp57 hg57
        have hSM : SM S o57_vm := (hx52_3 (by omega)).sn h57.1
        have hT57 : o57_vm 31 = vm 31 ∧ o57_vm 32 = vm 32 := ⟨(h57.1 31 (by decide) (by decide) (by decide) (by decide)).trans (hx52_1 (by omega)).1, (h57.1 32 (by decide) (by decide) (by decide) (by decide)).trans (hx52_1 (by omega)).2⟩
        refine lv_if_lt (tgt := 71) hx hb dX10_ground_60 (by decide) (fun c60 => ?_) (fun c60 => ?_)
        · have c60_ := i_lt c60
          have hz0 : f.toInt = 0 := by omega
          have ha57 := hat.1
          have gend : (∀ j : Nat, (j : Int) < (vm 32 0).toInt → 0 ≤ (vm 31 j).toInt) → (o57_vm 33 0).toInt = -1 ∧ textF (vm 31) (vm 32 0).toInt 251 0 (SI (gr0 vm)) = .inr S ∧ SM S o57_vm := fun hL => by have hge : (vm 32 0).toInt ≤ (o57_vm 34 0).toInt := Int.not_lt.mp (fun q => by have z := hL (o57_vm 34 0).toInt.toNat (by omega); have z2 : tc (vm 31) (o57_vm 34 0).toInt = (vm 31 (o57_vm 34 0).toInt.toNat).toInt := rfl; omega); have z := hx52_0.fin hz0 (by rw [← hp57]; exact hge); exact ⟨by rw [hfr57.1]; exact z.1, z.2.1, hSM⟩
          exact K71  o57_vm _ _ ls hP hD hS hMI (by omega) (by first | exact fun q => absurd q (by omega) | exact fun _ => hRd) hFz (by first | exact fun _ => Or.inl (hx52_0.resolve_right (fun z => absurd z.1 hnz)) | exact fun hL => Or.inr ⟨hz0, gend hL⟩) (by first | exact hx52_4.tr hFn57 (by decide) | exact hx52_4) (lv_sub hl [0, 1] rfl)
        · have c60_ := i_nlt c60
          refine lv_aload_n hx hb dX10_ground_63 rfl (lv_at hl 0 rfl) ?_
          refine mt_Vi (w1 := fun (u : Vf) => mdL E am u) (wf := fun (u : Vf) => mdL E am u) (wr := []) (As := []) (rest := []) (C := RX10) (ci := 10) ⟨hx, hb, hml, hown, hts⟩ (c_X10_takeClause l E H.size am o57_vm S hMI hat hRd hSM) (cwV 0 hts gX10_ground_X10_takeClause rfl rfl rfl (by decide +kernel) ⟨Nat.le_of_ble_eq_true rfl, Nat.le_of_ble_eq_true rfl⟩) hE hS hA hP hD [0, 1, 2, 3, 4, 5, 6, 7, 8, 9, 10, 11, 12, 13, 14, 15, 16, 17, 18, 19, 20, 21, 22, 23, 24, 25, 26, 27, 28, 29, 30, 31, 32, 33, 34, 35, 36, 37, 38, 39, 40, 41, 42, 43, 44, 45] [] rfl rfl (by decide) (by decide) (by decide) [0, 1, 2, 3, 4, 5, 6, 7, 8, 9, 10, 11, 12, 13, 14, 15, 16, 17, 18, 19, 20, 21, 22, 23, 24, 25, 26, 27, 28, 29, 30, 31, 32, 33, 34, 35, 36, 37, 38, 39, 40, 41, 42, 43, 44, 45] (by decide) (fun u => rfl) rfl rfl rfl rfl hl.1 rfl (Nat.le_of_ble_eq_true rfl) dX10_ground_64 ⟨Nat.zero_le _, Nat.zero_le _⟩ (fun r64 u64 H locs h64 hP hD hS => ?_)
          generalize u64 = o64_vm at hP hD h64
          try dsimp only at h64
          have hf64 := h64.2
          replace h64 := h64.1
          have hFn64 := h64.2
          replace h64 := h64.1
          replace hP : va_P (eD E) vwCl (mdL E am o64_vm) H := hP
          replace hD : va_D A (mdL E am o64_vm) := hD
          have hFz : fr [0, 1, 2, 3, 4, 5, 6, 7, 8, 9, 10, 11, 12, 13, 14, 15, 16, 17, 18, 19, 20, 21, 22, 23, 24, 25, 26, 27, 28, 29, 32, 33, 34, 35, 36, 37, 38, 39, 40, 41, 42, 43, 44, 45, 46, 47, 48, 49, 50, 51, 52, 53, 54, 55, 56, 57, 58, 59, 60, 61, 67, 75, 78] vm o64_vm := by first | exact hFz | exact hFz.tr hFn64 (by decide) | (rw [← hv64]; repeat' (first | exact hFz | refine fr.up ?_ (by decide) | refine fr.up3 ?_ (by decide)))
          have hMI := h64.1
          have hz64 := h64.2.1
          have ha64 := h64.2.2.1
          have hb64 := h64.2.2.2.1
          have hs64 : r64.toInt ≠ 0 ∨ (o57_vm 34 0).toInt < (o64_vm 34 0).toInt := (Decidable.em (r64.toInt = 0)).elim (fun q => Or.inr (h64.2.2.2.2 q).2.2) Or.inl
          have hc64 := hf64.1
          rw [hT57.1, hT57.2, show skp (vm 31) (vm 32 0).toInt (o57_vm 34 0).toInt = (o57_vm 34 0).toInt by rw [hp57]; exact skp_skp] at hc64
          have hx64 : TxM (vm 31) (vm 32 0).toInt (SI (gr0 vm)) (ig + 1) (o64_vm 34 0).toInt r64.toInt (o64_vm 33 0).toInt (nextS (clauseF (vm 31) (vm 32 0).toInt S (o57_vm 34 0).toInt) S) o64_vm := TxM.next (z := (o57_vm 34 0).toInt) hx52_0 (by omega) (by omega) hp57 (by omega) (by rw [← hfr57.1]; exact hc64 (by omega))
          have hT64 : r64.toInt = 0 → o64_vm 31 = vm 31 ∧ o64_vm 32 = vm 32 := fun q => by have z := hf64.2 q; rw [hT57.1, hT57.2] at z; exact z
          refine lv_istore_n (lv' := [(1, .int r64), (0, .ref (am 0))]) hx hb dX10_ground_67 rfl hl (by decide) rfl (fun ls hl => ?_)
          refine lv_goto (tgt := 52) hx hb dX10_ground_68 (by decide) ?_
          exact ih52 r64 (nextS (clauseF (vm 31) (vm 32 0).toInt S (o57_vm 34 0).toInt) S) (ig + 1) o64_vm _ _ ls (by omega) hP hD hS hMI (by omega) (fun q => ⟨(h64.2.2.2.2 q).1, (h64.2.2.2.2 q).2.1⟩) (by omega) hFz hx64 hT64 (by omega) (fun q => (hx64.resolve_left (fun z => absurd q z.1)).2.2.2) ((hx52_4.tr hFn57 (by decide)).tr hFn64 (by decide)) (lv_sub hl [1, 0] rfl)
  exact K52 _ 0 (SI (gr0 vm)) 0 vm_47 _ _ ls (Nat.lt_succ_self _) hP hD hS hMI (by omega) (fun _ => ⟨hat, hRd⟩) (by omega) hFz (Or.inr ⟨n_0, hT47.2.2, by rw [hq47], hSM47⟩) (fun _ => ⟨hT47.1, hT47.2.1⟩) (by omega) (fun _ => hSM47) (by rw [hg47]; unfold gr0; repeat' (first | exact fr.rf | refine fr.up ?_ (by decide))) (lv_sub hl [1, 0] rfl)
