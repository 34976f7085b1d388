def rm_X5_init : Room := { frames := 1, cells := 3, slots := 18, locals := 20 }
set_option maxHeartbeats 8000000 in
set_option maxRecDepth 100000 in
theorem c_X5_init (l : Launch) (E : Ev) (sz : Nat) (q : Nat) : Met l yX5_init wsX5_init rm_X5_init (CtP E sz [.ref q] [(q, .inr (5, [.int 0, .null, .null, .null]))]) (va_Qv (fun (u : Nat × Nat × Nat) => True) (MtB E (va_A [(q, .inr (5, [.int 0, .null, .null, .null]))] sz) (fun u => [(q, .inr (5, [.int 0, .ref u.1, .ref u.2.1, .ref u.2.2])), (u.1, .inl (eI E, 6, .inl (fun _ => 0))), (u.2.1, .inl (eI E, 6, .inl (fun _ => 0))), (u.2.2, .inl (eI E, 6, .inl (fun _ => 0)))])) (va_A [(q, .inr (5, [.int 0, .null, .null, .null]))] sz)) 3 18 (va_A [(q, .inr (5, [.int 0, .null, .null, .null]))] sz) := by
  refine Met.ofW (cc := cX5_init) (maxL := 1) (ret := none) (by decide) rfl ?_
  intro p e s m args below meth c s₁ B hml hv
  obtain ⟨rfl, hsz, hC, hP, hD0⟩ := hv
  subst hsz
  have hD := hD0.self (sz := s.heap.size)
  generalize hAe : va_A [(q, .inr (5, [.int 0, .null, .null, .null]))] s.heap.size = A at hD hC ⊢
  have hA : ∀ q : Nat, s.heap.size ≤ q → A q := fun q h => by rw [← hAe]; exact Or.inr h
  have hS : va_S A s.heap s.heap [] := va_S.rf
  have hx := B.exec
  have hb := B.bytes
  have hr := B.returns
  have hts := atoms_spec (ws := wsX5_init) B.pre
  have hown : s.vm.findClass RX5 = some m.cls := findClass_of_methodNamed B.named
  have hlocks := B.notSynchronized
  have hin : meth.name = "<init>" := (name_of_methodNamed B.named B.method).1
  have hE := hC.1
  have hK := hE.1
  replace hP : va_P (eD E) vwCl [(q, .inr (5, [.int 0, .null, .null, .null]))] s.heap := hP
  have in_X5 : ∀ w ∈ u_ws RX5 TX5 4, w ∈ wsX5_init := fun w h => List.mem_cons_of_mem _ (List.mem_append_right _ h)
  have lk0 := hts (.methodLink RX5 3 objectInit) (List.mem_of_getElem? (i := 1) rfl)
  have lk1 := hts (.instanceMethod objectInit) (List.mem_of_getElem? (i := 2) rfl)
  have lk2 := hts (.code objectInit ⟨#[0xb1]⟩ 1 none) (List.mem_of_getElem? (i := 3) rfl)
  have lk3 := hts (.arrayClass .int) (List.mem_of_getElem? (i := 4) rfl)
  have lk4 := hts (.fieldLink RX5 9 "TidedGround$Sites" "cell" "[I") (List.mem_of_getElem? (i := 5) rfl)
  have lk5 := hts (.fieldLink RX5 15 "TidedGround$Sites" "first" "[I") (List.mem_of_getElem? (i := 6) rfl)
  have lk6 := hts (.fieldLink RX5 18 "TidedGround$Sites" "second" "[I") (List.mem_of_getElem? (i := 7) rfl)
  have n_6 : (6 : Int32).toInt = 6 := by decide
  have hl := lv_entry ([.ref q]) (n := 1) (Nat.le_of_ble_eq_true rfl)
  rw [lg_entry_eq]
  generalize (lg_sl ([.ref q]) ++ List.replicate (1 - (lg_sl ([.ref q])).length) Slot.unset).toArray = ls at hl ⊢
  have hl : lv_has ls 1 [(0, .ref q)] := hl
  refine W_abs (fun Q hQ => ?_)
  refine lv_aload_n hx hb dX5_init_0 rfl (lv_at hl 0 rfl) ?_
  refine W.objInit hx hb hown lk0 lk1 lk2 rfl (by rw [hml]; exact hl.1) rfl dX5_init_1 (Nat.le_of_ble_eq_true rfl) (Nat.le_of_ble_eq_true rfl) ?_
  refine W.eq (g2 := F0 m 4 ls []) rfl ?_
  refine lv_aload_n hx hb dX5_init_4 rfl (lv_at hl 0 rfl) ?_
  refine lv_bipush (v := 6) hx hb dX5_init_5 (by decide) ?_
  refine ct_newI hx hb lk3 hK hP hD hS hA 6 (by decide) (by decide) (by decide) (Nat.le_of_ble_eq_true rfl) (Nat.le_of_ble_eq_true rfl) dX5_init_7 (fun q7 H hPn hDn hSn => ?_)
  clear hP hD hS
  replace hP := hPn
  replace hD := hDn
  replace hS := hSn
  clear hPn hDn hSn
  replace hP : va_P (eD E) vwCl [(q, .inr (5, [.int 0, .null, .null, .null])), (q7, .inl (eI E, 6, .inl (fun _ => 0)))] H := hP
  replace hD := wd_re hP hD
  refine W.widen (k := 1) (n := 6) (Nat.le_of_ble_eq_true rfl) (Nat.le_of_ble_eq_true rfl) ?_
  refine va_putF (D := eD E) (ci := 5) (v := .ref q7) (ty := (.array .int)) (C := RX5) (T := TX5) (N := 4) hx hb hts in_X5 tyX5 tyX5_ok nmX5 hown hK hP hD hS 0 rfl rfl 1 (by decide) lk4 (fun _ h9 => h9) rfl hin rfl (by decide +kernel) rfl rfl (Nat.le_of_ble_eq_true rfl) dX5_init_9 (fun H locs hPn hDn hSn => ?_)
  clear hP hD hS
  replace hP := hPn
  replace hD := hDn
  replace hS := hSn
  clear hPn hDn hSn
  replace hP : va_P (eD E) vwCl [(q, .inr (5, [.int 0, .ref q7, .null, .null])), (q7, .inl (eI E, 6, .inl (fun _ => 0)))] H := hP
  replace hD := wd_re hP hD
  refine lv_aload_n hx hb dX5_init_12 rfl (lv_at hl 0 rfl) ?_
  refine lv_bipush (v := 6) hx hb dX5_init_13 (by decide) ?_
  refine ct_newI hx hb lk3 hK hP hD hS hA 6 (by decide) (by decide) (by decide) (Nat.le_of_ble_eq_true rfl) (Nat.le_of_ble_eq_true rfl) dX5_init_15 (fun q15 H hPn hDn hSn => ?_)
  clear hP hD hS
  replace hP := hPn
  replace hD := hDn
  replace hS := hSn
  clear hPn hDn hSn
  replace hP : va_P (eD E) vwCl [(q, .inr (5, [.int 0, .ref q7, .null, .null])), (q7, .inl (eI E, 6, .inl (fun _ => 0))), (q15, .inl (eI E, 6, .inl (fun _ => 0)))] H := hP
  replace hD := wd_re hP hD
  refine W.widen (k := 2) (n := 12) (Nat.le_of_ble_eq_true rfl) (Nat.le_of_ble_eq_true rfl) ?_
  refine va_putF (D := eD E) (ci := 5) (v := .ref q15) (ty := (.array .int)) (C := RX5) (T := TX5) (N := 4) hx hb hts in_X5 tyX5 tyX5_ok nmX5 hown hK hP hD hS 0 rfl rfl 2 (by decide) lk5 (fun _ h9 => h9) rfl hin rfl (by decide +kernel) rfl rfl (Nat.le_of_ble_eq_true rfl) dX5_init_17 (fun H locs hPn hDn hSn => ?_)
  clear hP hD hS
  replace hP := hPn
  replace hD := hDn
  replace hS := hSn
  clear hPn hDn hSn
  replace hP : va_P (eD E) vwCl [(q, .inr (5, [.int 0, .ref q7, .ref q15, .null])), (q7, .inl (eI E, 6, .inl (fun _ => 0))), (q15, .inl (eI E, 6, .inl (fun _ => 0)))] H := hP
  replace hD := wd_re hP hD
  refine lv_aload_n hx hb dX5_init_20 rfl (lv_at hl 0 rfl) ?_
  refine lv_bipush (v := 6) hx hb dX5_init_21 (by decide) ?_
  refine ct_newI hx hb lk3 hK hP hD hS hA 6 (by decide) (by decide) (by decide) (Nat.le_of_ble_eq_true rfl) (Nat.le_of_ble_eq_true rfl) dX5_init_23 (fun q23 H hPn hDn hSn => ?_)
  clear hP hD hS
  replace hP := hPn
  replace hD := hDn
  replace hS := hSn
  clear hPn hDn hSn
  replace hP : va_P (eD E) vwCl [(q, .inr (5, [.int 0, .ref q7, .ref q15, .null])), (q7, .inl (eI E, 6, .inl (fun _ => 0))), (q15, .inl (eI E, 6, .inl (fun _ => 0))), (q23, .inl (eI E, 6, .inl (fun _ => 0)))] H := hP
  replace hD := wd_re hP hD
  refine W.widen (k := 3) (n := 18) (Nat.le_of_ble_eq_true rfl) (Nat.le_of_ble_eq_true rfl) ?_
  refine va_putF (D := eD E) (ci := 5) (v := .ref q23) (ty := (.array .int)) (C := RX5) (T := TX5) (N := 4) hx hb hts in_X5 tyX5 tyX5_ok nmX5 hown hK hP hD hS 0 rfl rfl 3 (by decide) lk6 (fun _ h9 => h9) rfl hin rfl (by decide +kernel) rfl rfl (Nat.le_of_ble_eq_true rfl) dX5_init_25 (fun H locs hPn hDn hSn => ?_)
  clear hP hD hS
  replace hP := hPn
  replace hD := hDn
  replace hS := hSn
  clear hPn hDn hSn
  replace hP : va_P (eD E) vwCl [(q, .inr (5, [.int 0, .ref q7, .ref q15, .ref q23])), (q7, .inl (eI E, 6, .inl (fun _ => 0))), (q15, .inl (eI E, 6, .inl (fun _ => 0))), (q23, .inl (eI E, 6, .inl (fun _ => 0)))] H := hP
  replace hD := wd_re hP hD
  have hP9 : va_P (eD E) vwCl ([(q, .inr (5, [.int 0, .ref q7, .ref q15, .ref q23])), (q7, .inl (eI E, 6, .inl (fun _ => 0))), (q15, .inl (eI E, 6, .inl (fun _ => 0))), (q23, .inl (eI E, 6, .inl (fun _ => 0)))]) H := hP.sub [0, 1, 2, 3] rfl
  have hD9 : va_D A ([(q, .inr (5, [.int 0, .ref q7, .ref q15, .ref q23])), (q7, .inl (eI E, 6, .inl (fun _ => 0))), (q15, .inl (eI E, 6, .inl (fun _ => 0))), (q23, .inl (eI E, 6, .inl (fun _ => 0)))]) := hD.sub [0, 1, 2, 3] (by decide) rfl
  refine W.widen (k := 3) (n := 18) (Nat.le_of_ble_eq_true rfl) (Nat.le_of_ble_eq_true rfl) ?_
  subst hQ
  exact W.vret hx hb hr (fun t ht hW => ⟨⟨(q7, q15, q23), rfl, trivial, by rw [ht]; exact hP9, hD9⟩, hS.F ht⟩) hS.2.2 dX5_init_28
def rm_X0_init : Room := { frames := 1, cells := 2, slots := 42, locals := 20 }
set_option maxHeartbeats 8000000 in
set_option maxRecDepth 100000 in
theorem c_X0_init (l : Launch) (E : Ev) (sz : Nat) (q : Nat) : Met l yX0_init wsX0_init rm_X0_init (CtP E sz [.ref q] [(q, .inr (0, [.int 0, .int 0, .int 0, .null, .null]))]) (va_Qv (fun (u : Nat × Nat) => True) (MtB E (va_A [(q, .inr (0, [.int 0, .int 0, .int 0, .null, .null]))] sz) (fun u => [(q, .inr (0, [.int 0, .int 0, .int 0, .ref u.1, .ref u.2])), (u.1, .inl (eI E, 18, .inl (fun _ => 0))), (u.2, .inl (eI E, 24, .inl (fun _ => 0)))])) (va_A [(q, .inr (0, [.int 0, .int 0, .int 0, .null, .null]))] sz)) 2 42 (va_A [(q, .inr (0, [.int 0, .int 0, .int 0, .null, .null]))] sz) := by
  refine Met.ofW (cc := cX0_init) (maxL := 1) (ret := none) (by decide) rfl ?_
  intro p e s m args below meth c s₁ B hml hv
  obtain ⟨rfl, hsz, hC, hP, hD0⟩ := hv
  subst hsz
  have hD := hD0.self (sz := s.heap.size)
  generalize hAe : va_A [(q, .inr (0, [.int 0, .int 0, .int 0, .null, .null]))] s.heap.size = A at hD hC ⊢
  have hA : ∀ q : Nat, s.heap.size ≤ q → A q := fun q h => by rw [← hAe]; exact Or.inr h
  have hS : va_S A s.heap s.heap [] := va_S.rf
  have hx := B.exec
  have hb := B.bytes
  have hr := B.returns
  have hts := atoms_spec (ws := wsX0_init) B.pre
  have hown : s.vm.findClass RX0 = some m.cls := findClass_of_methodNamed B.named
  have hlocks := B.notSynchronized
  have hin : meth.name = "<init>" := (name_of_methodNamed B.named B.method).1
  have hE := hC.1
  have hK := hE.1
  replace hP : va_P (eD E) vwCl [(q, .inr (0, [.int 0, .int 0, .int 0, .null, .null]))] s.heap := hP
  have in_X0 : ∀ w ∈ u_ws RX0 TX0 5, w ∈ wsX0_init := fun w h => List.mem_cons_of_mem _ (List.mem_append_right _ h)
  have lk0 := hts (.methodLink RX0 3 objectInit) (List.mem_of_getElem? (i := 1) rfl)
  have lk1 := hts (.instanceMethod objectInit) (List.mem_of_getElem? (i := 2) rfl)
  have lk2 := hts (.code objectInit ⟨#[0xb1]⟩ 1 none) (List.mem_of_getElem? (i := 3) rfl)
  have lk3 := hts (.arrayClass .int) (List.mem_of_getElem? (i := 4) rfl)
  have lk4 := hts (.fieldLink RX0 9 "TidedGround$Moon" "row" "[I") (List.mem_of_getElem? (i := 5) rfl)
  have lk5 := hts (.fieldLink RX0 15 "TidedGround$Moon" "ahead" "[I") (List.mem_of_getElem? (i := 6) rfl)
  have n_18 : (18 : Int32).toInt = 18 := by decide
  have n_24 : (24 : Int32).toInt = 24 := by decide
  have hl := lv_entry ([.ref q]) (n := 1) (Nat.le_of_ble_eq_true rfl)
  rw [lg_entry_eq]
  generalize (lg_sl ([.ref q]) ++ List.replicate (1 - (lg_sl ([.ref q])).length) Slot.unset).toArray = ls at hl ⊢
  have hl : lv_has ls 1 [(0, .ref q)] := hl
  refine W_abs (fun Q hQ => ?_)
  refine lv_aload_n hx hb dX0_init_0 rfl (lv_at hl 0 rfl) ?_
  refine W.objInit hx hb hown lk0 lk1 lk2 rfl (by rw [hml]; exact hl.1) rfl dX0_init_1 (Nat.le_of_ble_eq_true rfl) (Nat.le_of_ble_eq_true rfl) ?_
  refine W.eq (g2 := F0 m 4 ls []) rfl ?_
  refine lv_aload_n hx hb dX0_init_4 rfl (lv_at hl 0 rfl) ?_
  refine lv_bipush (v := 18) hx hb dX0_init_5 (by decide) ?_
  refine ct_newI hx hb lk3 hK hP hD hS hA 18 (by decide) (by decide) (by decide) (Nat.le_of_ble_eq_true rfl) (Nat.le_of_ble_eq_true rfl) dX0_init_7 (fun q7 H hPn hDn hSn => ?_)
  clear hP hD hS
  replace hP := hPn
  replace hD := hDn
  replace hS := hSn
  clear hPn hDn hSn
  replace hP : va_P (eD E) vwCl [(q, .inr (0, [.int 0, .int 0, .int 0, .null, .null])), (q7, .inl (eI E, 18, .inl (fun _ => 0)))] H := hP
  replace hD := wd_re hP hD
  refine W.widen (k := 1) (n := 18) (Nat.le_of_ble_eq_true rfl) (Nat.le_of_ble_eq_true rfl) ?_
  refine va_putF (D := eD E) (ci := 0) (v := .ref q7) (ty := (.array .int)) (C := RX0) (T := TX0) (N := 5) hx hb hts in_X0 tyX0 tyX0_ok nmX0 hown hK hP hD hS 0 rfl rfl 3 (by decide) lk4 (fun _ h9 => h9) rfl hin rfl (by decide +kernel) rfl rfl (Nat.le_of_ble_eq_true rfl) dX0_init_9 (fun H locs hPn hDn hSn => ?_)
  clear hP hD hS
  replace hP := hPn
  replace hD := hDn
  replace hS := hSn
  clear hPn hDn hSn
  replace hP : va_P (eD E) vwCl [(q, .inr (0, [.int 0, .int 0, .int 0, .ref q7, .null])), (q7, .inl (eI E, 18, .inl (fun _ => 0)))] H := hP
  replace hD := wd_re hP hD
  refine lv_aload_n hx hb dX0_init_12 rfl (lv_at hl 0 rfl) ?_
  refine lv_bipush (v := 24) hx hb dX0_init_13 (by decide) ?_
  refine ct_newI hx hb lk3 hK hP hD hS hA 24 (by decide) (by decide) (by decide) (Nat.le_of_ble_eq_true rfl) (Nat.le_of_ble_eq_true rfl) dX0_init_15 (fun q15 H hPn hDn hSn => ?_)
  clear hP hD hS
  replace hP := hPn
  replace hD := hDn
  replace hS := hSn
  clear hPn hDn hSn
  replace hP : va_P (eD E) vwCl [(q, .inr (0, [.int 0, .int 0, .int 0, .ref q7, .null])), (q7, .inl (eI E, 18, .inl (fun _ => 0))), (q15, .inl (eI E, 24, .inl (fun _ => 0)))] H := hP
  replace hD := wd_re hP hD
  refine W.widen (k := 2) (n := 42) (Nat.le_of_ble_eq_true rfl) (Nat.le_of_ble_eq_true rfl) ?_
  refine va_putF (D := eD E) (ci := 0) (v := .ref q15) (ty := (.array .int)) (C := RX0) (T := TX0) (N := 5) hx hb hts in_X0 tyX0 tyX0_ok nmX0 hown hK hP hD hS 0 rfl rfl 4 (by decide) lk5 (fun _ h9 => h9) rfl hin rfl (by decide +kernel) rfl rfl (Nat.le_of_ble_eq_true rfl) dX0_init_17 (fun H locs hPn hDn hSn => ?_)
  clear hP hD hS
  replace hP := hPn
  replace hD := hDn
  replace hS := hSn
  clear hPn hDn hSn
  replace hP : va_P (eD E) vwCl [(q, .inr (0, [.int 0, .int 0, .int 0, .ref q7, .ref q15])), (q7, .inl (eI E, 18, .inl (fun _ => 0))), (q15, .inl (eI E, 24, .inl (fun _ => 0)))] H := hP
  replace hD := wd_re hP hD
  have hP9 : va_P (eD E) vwCl ([(q, .inr (0, [.int 0, .int 0, .int 0, .ref q7, .ref q15])), (q7, .inl (eI E, 18, .inl (fun _ => 0))), (q15, .inl (eI E, 24, .inl (fun _ => 0)))]) H := hP.sub [0, 1, 2] rfl
  have hD9 : va_D A ([(q, .inr (0, [.int 0, .int 0, .int 0, .ref q7, .ref q15])), (q7, .inl (eI E, 18, .inl (fun _ => 0))), (q15, .inl (eI E, 24, .inl (fun _ => 0)))]) := hD.sub [0, 1, 2] (by decide) rfl
  refine W.widen (k := 2) (n := 42) (Nat.le_of_ble_eq_true rfl) (Nat.le_of_ble_eq_true rfl) ?_
  subst hQ
  exact W.vret hx hb hr (fun t ht hW => ⟨⟨(q7, q15), rfl, trivial, by rw [ht]; exact hP9, hD9⟩, hS.F ht⟩) hS.2.2 dX0_init_20
def rm_X2_init : Room := { frames := 1, cells := 0, slots := 0, locals := 20 }
set_option maxHeartbeats 8000000 in
set_option maxRecDepth 100000 in
theorem c_X2_init (l : Launch) (E : Ev) (sz : Nat) (q : Nat) : Met l yX2_init wsX2_init rm_X2_init (CtP E sz [.ref q] [(q, .inr (2, [.null, .int 0, .int 0, .null, .int 0, .int 0, .int 0, .int 0, .int 0]))]) (va_Qv (fun (u : Unit) => True) (MtB E (va_A [(q, .inr (2, [.null, .int 0, .int 0, .null, .int 0, .int 0, .int 0, .int 0, .int 0]))] sz) (fun u => [(q, .inr (2, [.null, .int 0, .int 0, .null, .int 0, .int 0, .int 0, .int 0, .int 0]))])) (va_A [(q, .inr (2, [.null, .int 0, .int 0, .null, .int 0, .int 0, .int 0, .int 0, .int 0]))] sz)) 0 0 (va_A [(q, .inr (2, [.null, .int 0, .int 0, .null, .int 0, .int 0, .int 0, .int 0, .int 0]))] sz) := by
  refine Met.ofW (cc := cX2_init) (maxL := 1) (ret := none) (by decide) rfl ?_
  intro p e s m args below meth c s₁ B hml hv
  obtain ⟨rfl, hsz, hC, hP, hD0⟩ := hv
  subst hsz
  have hD := hD0.self (sz := s.heap.size)
  generalize hAe : va_A [(q, .inr (2, [.null, .int 0, .int 0, .null, .int 0, .int 0, .int 0, .int 0, .int 0]))] s.heap.size = A at hD hC ⊢
  have hA : ∀ q : Nat, s.heap.size ≤ q → A q := fun q h => by rw [← hAe]; exact Or.inr h
  have hS : va_S A s.heap s.heap [] := va_S.rf
  have hx := B.exec
  have hb := B.bytes
  have hr := B.returns
  have hts := atoms_spec (ws := wsX2_init) B.pre
  have hown : s.vm.findClass RX2 = some m.cls := findClass_of_methodNamed B.named
  have hlocks := B.notSynchronized
  have hin : meth.name = "<init>" := (name_of_methodNamed B.named B.method).1
  have hE := hC.1
  have hK := hE.1
  replace hP : va_P (eD E) vwCl [(q, .inr (2, [.null, .int 0, .int 0, .null, .int 0, .int 0, .int 0, .int 0, .int 0]))] s.heap := hP
  have lk0 := hts (.methodLink RX2 3 objectInit) (List.mem_of_getElem? (i := 1) rfl)
  have lk1 := hts (.instanceMethod objectInit) (List.mem_of_getElem? (i := 2) rfl)
  have lk2 := hts (.code objectInit ⟨#[0xb1]⟩ 1 none) (List.mem_of_getElem? (i := 3) rfl)
  have hl := lv_entry ([.ref q]) (n := 1) (Nat.le_of_ble_eq_true rfl)
  rw [lg_entry_eq]
  generalize (lg_sl ([.ref q]) ++ List.replicate (1 - (lg_sl ([.ref q])).length) Slot.unset).toArray = ls at hl ⊢
  have hl : lv_has ls 1 [(0, .ref q)] := hl
  refine W_abs (fun Q hQ => ?_)
  refine lv_aload_n hx hb dX2_init_0 rfl (lv_at hl 0 rfl) ?_
  refine W.objInit hx hb hown lk0 lk1 lk2 rfl (by rw [hml]; exact hl.1) rfl dX2_init_1 (Nat.le_of_ble_eq_true rfl) (Nat.le_of_ble_eq_true rfl) ?_
  refine W.eq (g2 := F0 m 4 ls []) rfl ?_
  have hP9 : va_P (eD E) vwCl ([(q, .inr (2, [.null, .int 0, .int 0, .null, .int 0, .int 0, .int 0, .int 0, .int 0]))]) s.heap := hP.sub [0] rfl
  have hD9 : va_D A ([(q, .inr (2, [.null, .int 0, .int 0, .null, .int 0, .int 0, .int 0, .int 0, .int 0]))]) := hD.sub [0] (by decide) rfl
  refine W.widen (k := 0) (n := 0) (Nat.le_of_ble_eq_true rfl) (Nat.le_of_ble_eq_true rfl) ?_
  subst hQ
  exact W.vret hx hb hr (fun t ht hW => ⟨⟨(), rfl, trivial, by rw [ht]; exact hP9, hD9⟩, hS.F ht⟩) hS.2.2 dX2_init_4
def rm_X8_init : Room := { frames := 1, cells := 0, slots := 0, locals := 20 }
set_option maxHeartbeats 8000000 in
set_option maxRecDepth 100000 in
theorem c_X8_init (l : Launch) (E : Ev) (sz : Nat) (q : Nat) (pl : Nat) (nw : Nat) : Met l yX8_init wsX8_init rm_X8_init (CtP E sz [.ref q, .ref pl, .ref nw] [(q, .inr (8, [.null, .null]))]) (va_Qv (fun (u : Unit) => True) (MtB E (va_A [(q, .inr (8, [.null, .null]))] sz) (fun u => [(q, .inr (8, [.ref pl, .ref nw]))])) (va_A [(q, .inr (8, [.null, .null]))] sz)) 0 0 (va_A [(q, .inr (8, [.null, .null]))] sz) := by
  refine Met.ofW (cc := cX8_init) (maxL := 3) (ret := none) (by decide) rfl ?_
  intro p e s m args below meth c s₁ B hml hv
  obtain ⟨rfl, hsz, hC, hP, hD0⟩ := hv
  subst hsz
  have hD := hD0.self (sz := s.heap.size)
  generalize hAe : va_A [(q, .inr (8, [.null, .null]))] s.heap.size = A at hD hC ⊢
  have hA : ∀ q : Nat, s.heap.size ≤ q → A q := fun q h => by rw [← hAe]; exact Or.inr h
  have hS : va_S A s.heap s.heap [] := va_S.rf
  have hx := B.exec
  have hb := B.bytes
  have hr := B.returns
  have hts := atoms_spec (ws := wsX8_init) B.pre
  have hown : s.vm.findClass RX8 = some m.cls := findClass_of_methodNamed B.named
  have hlocks := B.notSynchronized
  have hin : meth.name = "<init>" := (name_of_methodNamed B.named B.method).1
  have hE := hC.1
  have hK := hE.1
  replace hP : va_P (eD E) vwCl [(q, .inr (8, [.null, .null]))] s.heap := hP
  have in_X8 : ∀ w ∈ u_ws RX8 TX8 2, w ∈ wsX8_init := fun w h => List.mem_cons_of_mem _ (List.mem_append_right _ h)
  have lk0 := hts (.methodLink RX8 3 objectInit) (List.mem_of_getElem? (i := 1) rfl)
  have lk1 := hts (.instanceMethod objectInit) (List.mem_of_getElem? (i := 2) rfl)
  have lk2 := hts (.code objectInit ⟨#[0xb1]⟩ 1 none) (List.mem_of_getElem? (i := 3) rfl)
  have lk3 := hts (.fieldLink RX8 9 "TidedGround$World" "plan" "LTidedGround$Plan;") (List.mem_of_getElem? (i := 4) rfl)
  have lk4 := hts (.fieldLink RX8 15 "TidedGround$World" "now" "LTidedGround$State;") (List.mem_of_getElem? (i := 5) rfl)
  have hl := lv_entry ([.ref q, .ref pl, .ref nw]) (n := 3) (Nat.le_of_ble_eq_true rfl)
  rw [lg_entry_eq]
  generalize (lg_sl ([.ref q, .ref pl, .ref nw]) ++ List.replicate (3 - (lg_sl ([.ref q, .ref pl, .ref nw])).length) Slot.unset).toArray = ls at hl ⊢
  have hl : lv_has ls 3 [(0, .ref q), (1, .ref pl), (2, .ref nw)] := hl
  refine W_abs (fun Q hQ => ?_)
  refine lv_aload_n hx hb dX8_init_0 rfl (lv_at hl 0 rfl) ?_
  refine W.objInit hx hb hown lk0 lk1 lk2 rfl (by rw [hml]; exact hl.1) rfl dX8_init_1 (Nat.le_of_ble_eq_true rfl) (Nat.le_of_ble_eq_true rfl) ?_
  refine W.eq (g2 := F0 m 4 ls []) rfl ?_
  refine lv_aload_n hx hb dX8_init_4 rfl (lv_at hl 0 rfl) ?_
  refine lv_aload_n hx hb dX8_init_5 rfl (lv_at hl 1 rfl) ?_
  refine va_put (D := eD E) (ci := 8) (v := .ref pl) (ty := (.object "TidedGround$Plan")) (C := RX8) (T := TX8) (N := 2) hx hb hts in_X8 tyX8 tyX8_ok nmX8 hown hK hP hD hS 0 rfl rfl 0 (by decide) lk3 (fun _ h9 => h9) rfl (by decide +kernel) rfl rfl (Nat.le_of_ble_eq_true rfl) dX8_init_6 (fun H locs hPn hDn hSn => ?_)
  clear hP hD hS
  replace hP := hPn
  replace hD := hDn
  replace hS := hSn
  clear hPn hDn hSn
  replace hP : va_P (eD E) vwCl [(q, .inr (8, [.ref pl, .null]))] H := hP
  replace hD := wd_re hP hD
  refine lv_aload_n hx hb dX8_init_9 rfl (lv_at hl 0 rfl) ?_
  refine lv_aload_n hx hb dX8_init_10 rfl (lv_at hl 2 rfl) ?_
  refine va_putF (D := eD E) (ci := 8) (v := .ref nw) (ty := (.object "TidedGround$State")) (C := RX8) (T := TX8) (N := 2) hx hb hts in_X8 tyX8 tyX8_ok nmX8 hown hK hP hD hS 0 rfl rfl 1 (by decide) lk4 (fun _ h9 => h9) rfl hin rfl (by decide +kernel) rfl rfl (Nat.le_of_ble_eq_true rfl) dX8_init_11 (fun H locs hPn hDn hSn => ?_)
  clear hP hD hS
  replace hP := hPn
  replace hD := hDn
  replace hS := hSn
  clear hPn hDn hSn
  replace hP : va_P (eD E) vwCl [(q, .inr (8, [.ref pl, .ref nw]))] H := hP
  replace hD := wd_re hP hD
  have hP9 : va_P (eD E) vwCl ([(q, .inr (8, [.ref pl, .ref nw]))]) H := hP.sub [0] rfl
  have hD9 : va_D A ([(q, .inr (8, [.ref pl, .ref nw]))]) := hD.sub [0] (by decide) rfl
  refine W.widen (k := 0) (n := 0) (Nat.le_of_ble_eq_true rfl) (Nat.le_of_ble_eq_true rfl) ?_
  subst hQ
  exact W.vret hx hb hr (fun t ht hW => ⟨⟨(), rfl, trivial, by rw [ht]; exact hP9, hD9⟩, hS.F ht⟩) hS.2.2 dX8_init_14
def rm_X3_init : Room := { frames := 1, cells := 3, slots := 1008, locals := 20 }
set_option maxHeartbeats 8000000 in
set_option maxRecDepth 100000 in
theorem c_X3_init (l : Launch) (E : Ev) (sz : Nat) (q : Nat) (qw : Nat) : Met l yX3_init wsX3_init rm_X3_init (CtP E sz [.ref q, .ref qw] [(q, .inr (3, [.null, .null, .null, .null]))]) (va_Qv (fun (u : Nat × Nat × Nat) => True) (MtB E (va_A [(q, .inr (3, [.null, .null, .null, .null]))] sz) (fun u => [(q, .inr (3, [.ref qw, .ref u.1, .ref u.2.1, .ref u.2.2])), (u.1, .inl (eI E, 24, .inl (fun _ => 0))), (u.2.1, .inl (eI E, 24, .inl (fun _ => 0))), (u.2.2, .inl (eI E, 960, .inl (fun _ => 0)))])) (va_A [(q, .inr (3, [.null, .null, .null, .null]))] sz)) 3 1008 (va_A [(q, .inr (3, [.null, .null, .null, .null]))] sz) := by
  refine Met.ofW (cc := cX3_init) (maxL := 2) (ret := none) (by decide) rfl ?_
  intro p e s m args below meth c s₁ B hml hv
  obtain ⟨rfl, hsz, hC, hP, hD0⟩ := hv
  subst hsz
  have hD := hD0.self (sz := s.heap.size)
  generalize hAe : va_A [(q, .inr (3, [.null, .null, .null, .null]))] s.heap.size = A at hD hC ⊢
  have hA : ∀ q : Nat, s.heap.size ≤ q → A q := fun q h => by rw [← hAe]; exact Or.inr h
  have hS : va_S A s.heap s.heap [] := va_S.rf
  have hx := B.exec
  have hb := B.bytes
  have hr := B.returns
  have hts := atoms_spec (ws := wsX3_init) B.pre
  have hown : s.vm.findClass RX3 = some m.cls := findClass_of_methodNamed B.named
  have hlocks := B.notSynchronized
  have hin : meth.name = "<init>" := (name_of_methodNamed B.named B.method).1
  have hE := hC.1
  have hK := hE.1
  replace hP : va_P (eD E) vwCl [(q, .inr (3, [.null, .null, .null, .null]))] s.heap := hP
  have in_X3 : ∀ w ∈ u_ws RX3 TX3 4, w ∈ wsX3_init := fun w h => List.mem_cons_of_mem _ (List.mem_append_right _ h)
  have lk0 := hts (.methodLink RX3 3 objectInit) (List.mem_of_getElem? (i := 1) rfl)
  have lk1 := hts (.instanceMethod objectInit) (List.mem_of_getElem? (i := 2) rfl)
  have lk2 := hts (.code objectInit ⟨#[0xb1]⟩ 1 none) (List.mem_of_getElem? (i := 3) rfl)
  have lk3 := hts (.arrayClass .int) (List.mem_of_getElem? (i := 4) rfl)
  have lk4 := hts (.fieldLink RX3 9 "TidedGround$Routes" "cost" "[I") (List.mem_of_getElem? (i := 5) rfl)
  have lk5 := hts (.fieldLink RX3 15 "TidedGround$Routes" "nextCost" "[I") (List.mem_of_getElem? (i := 6) rfl)
  have lk6 := hts (.fieldLink RX3 18 "TidedGround$Routes" "choice" "[I") (List.mem_of_getElem? (i := 7) rfl)
  have lk7 := hts (.fieldLink RX3 21 "TidedGround$Routes" "world" "LTidedGround$World;") (List.mem_of_getElem? (i := 8) rfl)
  have n_24 : (24 : Int32).toInt = 24 := by decide
  have n_960 : (960 : Int32).toInt = 960 := by decide
  have hl := lv_entry ([.ref q, .ref qw]) (n := 2) (Nat.le_of_ble_eq_true rfl)
  rw [lg_entry_eq]
  generalize (lg_sl ([.ref q, .ref qw]) ++ List.replicate (2 - (lg_sl ([.ref q, .ref qw])).length) Slot.unset).toArray = ls at hl ⊢
  have hl : lv_has ls 2 [(0, .ref q), (1, .ref qw)] := hl
  refine W_abs (fun Q hQ => ?_)
  refine lv_aload_n hx hb dX3_init_0 rfl (lv_at hl 0 rfl) ?_
  refine W.objInit hx hb hown lk0 lk1 lk2 rfl (by rw [hml]; exact hl.1) rfl dX3_init_1 (Nat.le_of_ble_eq_true rfl) (Nat.le_of_ble_eq_true rfl) ?_
  refine W.eq (g2 := F0 m 4 ls []) rfl ?_
  refine lv_aload_n hx hb dX3_init_4 rfl (lv_at hl 0 rfl) ?_
  refine lv_bipush (v := 24) hx hb dX3_init_5 (by decide) ?_
  refine ct_newI hx hb lk3 hK hP hD hS hA 24 (by decide) (by decide) (by decide) (Nat.le_of_ble_eq_true rfl) (Nat.le_of_ble_eq_true rfl) dX3_init_7 (fun q7 H hPn hDn hSn => ?_)
  clear hP hD hS
  replace hP := hPn
  replace hD := hDn
  replace hS := hSn
  clear hPn hDn hSn
  replace hP : va_P (eD E) vwCl [(q, .inr (3, [.null, .null, .null, .null])), (q7, .inl (eI E, 24, .inl (fun _ => 0)))] H := hP
  replace hD := wd_re hP hD
  refine W.widen (k := 1) (n := 24) (Nat.le_of_ble_eq_true rfl) (Nat.le_of_ble_eq_true rfl) ?_
  refine va_put (D := eD E) (ci := 3) (v := .ref q7) (ty := (.array .int)) (C := RX3) (T := TX3) (N := 4) hx hb hts in_X3 tyX3 tyX3_ok nmX3 hown hK hP hD hS 0 rfl rfl 1 (by decide) lk4 (fun _ h9 => h9) rfl (by decide +kernel) rfl rfl (Nat.le_of_ble_eq_true rfl) dX3_init_9 (fun H locs hPn hDn hSn => ?_)
  clear hP hD hS
  replace hP := hPn
  replace hD := hDn
  replace hS := hSn
  clear hPn hDn hSn
  replace hP : va_P (eD E) vwCl [(q, .inr (3, [.null, .ref q7, .null, .null])), (q7, .inl (eI E, 24, .inl (fun _ => 0)))] H := hP
  replace hD := wd_re hP hD
  refine lv_aload_n hx hb dX3_init_12 rfl (lv_at hl 0 rfl) ?_
  refine lv_bipush (v := 24) hx hb dX3_init_13 (by decide) ?_
  refine ct_newI hx hb lk3 hK hP hD hS hA 24 (by decide) (by decide) (by decide) (Nat.le_of_ble_eq_true rfl) (Nat.le_of_ble_eq_true rfl) dX3_init_15 (fun q15 H hPn hDn hSn => ?_)
  clear hP hD hS
  replace hP := hPn
  replace hD := hDn
  replace hS := hSn
  clear hPn hDn hSn
  replace hP : va_P (eD E) vwCl [(q, .inr (3, [.null, .ref q7, .null, .null])), (q7, .inl (eI E, 24, .inl (fun _ => 0))), (q15, .inl (eI E, 24, .inl (fun _ => 0)))] H := hP
  replace hD := wd_re hP hD
  refine W.widen (k := 2) (n := 48) (Nat.le_of_ble_eq_true rfl) (Nat.le_of_ble_eq_true rfl) ?_
  refine va_put (D := eD E) (ci := 3) (v := .ref q15) (ty := (.array .int)) (C := RX3) (T := TX3) (N := 4) hx hb hts in_X3 tyX3 tyX3_ok nmX3 hown hK hP hD hS 0 rfl rfl 2 (by decide) lk5 (fun _ h9 => h9) rfl (by decide +kernel) rfl rfl (Nat.le_of_ble_eq_true rfl) dX3_init_17 (fun H locs hPn hDn hSn => ?_)
  clear hP hD hS
  replace hP := hPn
  replace hD := hDn
  replace hS := hSn
  clear hPn hDn hSn
  replace hP : va_P (eD E) vwCl [(q, .inr (3, [.null, .ref q7, .ref q15, .null])), (q7, .inl (eI E, 24, .inl (fun _ => 0))), (q15, .inl (eI E, 24, .inl (fun _ => 0)))] H := hP
  replace hD := wd_re hP hD
  refine lv_aload_n hx hb dX3_init_20 rfl (lv_at hl 0 rfl) ?_
  refine lv_sipush (v := 960) hx hb dX3_init_21 (by decide) ?_
  refine ct_newI hx hb lk3 hK hP hD hS hA 960 (by decide) (by decide) (by decide) (Nat.le_of_ble_eq_true rfl) (Nat.le_of_ble_eq_true rfl) dX3_init_24 (fun q24 H hPn hDn hSn => ?_)
  clear hP hD hS
  replace hP := hPn
  replace hD := hDn
  replace hS := hSn
  clear hPn hDn hSn
  replace hP : va_P (eD E) vwCl [(q, .inr (3, [.null, .ref q7, .ref q15, .null])), (q7, .inl (eI E, 24, .inl (fun _ => 0))), (q15, .inl (eI E, 24, .inl (fun _ => 0))), (q24, .inl (eI E, 960, .inl (fun _ => 0)))] H := hP
  replace hD := wd_re hP hD
  refine W.widen (k := 3) (n := 1008) (Nat.le_of_ble_eq_true rfl) (Nat.le_of_ble_eq_true rfl) ?_
  refine va_putF (D := eD E) (ci := 3) (v := .ref q24) (ty := (.array .int)) (C := RX3) (T := TX3) (N := 4) hx hb hts in_X3 tyX3 tyX3_ok nmX3 hown hK hP hD hS 0 rfl rfl 3 (by decide) lk6 (fun _ h9 => h9) rfl hin rfl (by decide +kernel) rfl rfl (Nat.le_of_ble_eq_true rfl) dX3_init_26 (fun H locs hPn hDn hSn => ?_)
  clear hP hD hS
  replace hP := hPn
  replace hD := hDn
  replace hS := hSn
  clear hPn hDn hSn
  replace hP : va_P (eD E) vwCl [(q, .inr (3, [.null, .ref q7, .ref q15, .ref q24])), (q7, .inl (eI E, 24, .inl (fun _ => 0))), (q15, .inl (eI E, 24, .inl (fun _ => 0))), (q24, .inl (eI E, 960, .inl (fun _ => 0)))] H := hP
  replace hD := wd_re hP hD
  refine lv_aload_n hx hb dX3_init_29 rfl (lv_at hl 0 rfl) ?_
  refine lv_aload_n hx hb dX3_init_30 rfl (lv_at hl 1 rfl) ?_
  refine va_putF (D := eD E) (ci := 3) (v := .ref qw) (ty := (.object "TidedGround$World")) (C := RX3) (T := TX3) (N := 4) hx hb hts in_X3 tyX3 tyX3_ok nmX3 hown hK hP hD hS 0 rfl rfl 0 (by decide) lk7 (fun _ h9 => h9) rfl hin rfl (by decide +kernel) rfl rfl (Nat.le_of_ble_eq_true rfl) dX3_init_31 (fun H locs hPn hDn hSn => ?_)
  clear hP hD hS
  replace hP := hPn
  replace hD := hDn
  replace hS := hSn
  clear hPn hDn hSn
  replace hP : va_P (eD E) vwCl [(q, .inr (3, [.ref qw, .ref q7, .ref q15, .ref q24])), (q7, .inl (eI E, 24, .inl (fun _ => 0))), (q15, .inl (eI E, 24, .inl (fun _ => 0))), (q24, .inl (eI E, 960, .inl (fun _ => 0)))] H := hP
  replace hD := wd_re hP hD
  have hP9 : va_P (eD E) vwCl ([(q, .inr (3, [.ref qw, .ref q7, .ref q15, .ref q24])), (q7, .inl (eI E, 24, .inl (fun _ => 0))), (q15, .inl (eI E, 24, .inl (fun _ => 0))), (q24, .inl (eI E, 960, .inl (fun _ => 0)))]) H := hP.sub [0, 1, 2, 3] rfl
  have hD9 : va_D A ([(q, .inr (3, [.ref qw, .ref q7, .ref q15, .ref q24])), (q7, .inl (eI E, 24, .inl (fun _ => 0))), (q15, .inl (eI E, 24, .inl (fun _ => 0))), (q24, .inl (eI E, 960, .inl (fun _ => 0)))]) := hD.sub [0, 1, 2, 3] (by decide) rfl
  refine W.widen (k := 3) (n := 1008) (Nat.le_of_ble_eq_true rfl) (Nat.le_of_ble_eq_true rfl) ?_
  subst hQ
  exact W.vret hx hb hr (fun t ht hW => ⟨⟨(q7, q15, q24), rfl, trivial, by rw [ht]; exact hP9, hD9⟩, hS.F ht⟩) hS.2.2 dX3_init_34
def rm_X7_init : Room := { frames := 1, cells := 2, slots := 10, locals := 20 }
set_option maxHeartbeats 8000000 in
set_option maxRecDepth 100000 in
theorem c_X7_init (l : Launch) (E : Ev) (sz : Nat) (q : Nat) (qw : Nat) : Met l yX7_init wsX7_init rm_X7_init (CtP E sz [.ref q, .ref qw] [(q, .inr (7, [.null, .null, .null, .int 0, .int 0]))]) (va_Qv (fun (u : Nat × Nat) => True) (MtB E (va_A [(q, .inr (7, [.null, .null, .null, .int 0, .int 0]))] sz) (fun u => [(q, .inr (7, [.ref qw, .ref u.1, .ref u.2, .int 0, .int 1])), (u.1, .inl (eI E, 5, .inl (fun _ => 0))), (u.2, .inl (eI E, 5, .inl (fun _ => 0)))])) (va_A [(q, .inr (7, [.null, .null, .null, .int 0, .int 0]))] sz)) 2 10 (va_A [(q, .inr (7, [.null, .null, .null, .int 0, .int 0]))] sz) := by
  refine Met.ofW (cc := cX7_init) (maxL := 2) (ret := none) (by decide) rfl ?_
  intro p e s m args below meth c s₁ B hml hv
  obtain ⟨rfl, hsz, hC, hP, hD0⟩ := hv
  subst hsz
  have hD := hD0.self (sz := s.heap.size)
  generalize hAe : va_A [(q, .inr (7, [.null, .null, .null, .int 0, .int 0]))] s.heap.size = A at hD hC ⊢
  have hA : ∀ q : Nat, s.heap.size ≤ q → A q := fun q h => by rw [← hAe]; exact Or.inr h
  have hS : va_S A s.heap s.heap [] := va_S.rf
  have hx := B.exec
  have hb := B.bytes
  have hr := B.returns
  have hts := atoms_spec (ws := wsX7_init) B.pre
  have hown : s.vm.findClass RX7 = some m.cls := findClass_of_methodNamed B.named
  have hlocks := B.notSynchronized
  have hin : meth.name = "<init>" := (name_of_methodNamed B.named B.method).1
  have hE := hC.1
  have hK := hE.1
  replace hP : va_P (eD E) vwCl [(q, .inr (7, [.null, .null, .null, .int 0, .int 0]))] s.heap := hP
  have in_X7 : ∀ w ∈ u_ws RX7 TX7 5, w ∈ wsX7_init := fun w h => List.mem_cons_of_mem _ (List.mem_append_right _ h)
  have lk0 := hts (.methodLink RX7 3 objectInit) (List.mem_of_getElem? (i := 1) rfl)
  have lk1 := hts (.instanceMethod objectInit) (List.mem_of_getElem? (i := 2) rfl)
  have lk2 := hts (.code objectInit ⟨#[0xb1]⟩ 1 none) (List.mem_of_getElem? (i := 3) rfl)
  have lk3 := hts (.arrayClass .int) (List.mem_of_getElem? (i := 4) rfl)
  have lk4 := hts (.fieldLink RX7 9 "TidedGround$Wells" "floors" "[I") (List.mem_of_getElem? (i := 5) rfl)
  have lk5 := hts (.fieldLink RX7 15 "TidedGround$Wells" "sorted" "[I") (List.mem_of_getElem? (i := 6) rfl)
  have lk6 := hts (.fieldLink RX7 18 "TidedGround$Wells" "world" "LTidedGround$World;") (List.mem_of_getElem? (i := 7) rfl)
  have lk7 := hts (.fieldLink RX7 22 "TidedGround$Wells" "below" "I") (List.mem_of_getElem? (i := 8) rfl)
  have n_1 : (1 : Int32).toInt = 1 := by decide
  have n_5 : (5 : Int32).toInt = 5 := by decide
  have hl := lv_entry ([.ref q, .ref qw]) (n := 2) (Nat.le_of_ble_eq_true rfl)
  rw [lg_entry_eq]
  generalize (lg_sl ([.ref q, .ref qw]) ++ List.replicate (2 - (lg_sl ([.ref q, .ref qw])).length) Slot.unset).toArray = ls at hl ⊢
  have hl : lv_has ls 2 [(0, .ref q), (1, .ref qw)] := hl
  refine W_abs (fun Q hQ => ?_)
  refine lv_aload_n hx hb dX7_init_0 rfl (lv_at hl 0 rfl) ?_
  refine W.objInit hx hb hown lk0 lk1 lk2 rfl (by rw [hml]; exact hl.1) rfl dX7_init_1 (Nat.le_of_ble_eq_true rfl) (Nat.le_of_ble_eq_true rfl) ?_
  refine W.eq (g2 := F0 m 4 ls []) rfl ?_
  refine lv_aload_n hx hb dX7_init_4 rfl (lv_at hl 0 rfl) ?_
  refine lv_iconst (v := 5) hx hb dX7_init_5 (by decide) ?_
  refine ct_newI hx hb lk3 hK hP hD hS hA 5 (by decide) (by decide) (by decide) (Nat.le_of_ble_eq_true rfl) (Nat.le_of_ble_eq_true rfl) dX7_init_6 (fun q6 H hPn hDn hSn => ?_)
  clear hP hD hS
  replace hP := hPn
  replace hD := hDn
  replace hS := hSn
  clear hPn hDn hSn
  replace hP : va_P (eD E) vwCl [(q, .inr (7, [.null, .null, .null, .int 0, .int 0])), (q6, .inl (eI E, 5, .inl (fun _ => 0)))] H := hP
  replace hD := wd_re hP hD
  refine W.widen (k := 1) (n := 5) (Nat.le_of_ble_eq_true rfl) (Nat.le_of_ble_eq_true rfl) ?_
  refine va_putF (D := eD E) (ci := 7) (v := .ref q6) (ty := (.array .int)) (C := RX7) (T := TX7) (N := 5) hx hb hts in_X7 tyX7 tyX7_ok nmX7 hown hK hP hD hS 0 rfl rfl 1 (by decide) lk4 (fun _ h9 => h9) rfl hin rfl (by decide +kernel) rfl rfl (Nat.le_of_ble_eq_true rfl) dX7_init_8 (fun H locs hPn hDn hSn => ?_)
  clear hP hD hS
  replace hP := hPn
  replace hD := hDn
  replace hS := hSn
  clear hPn hDn hSn
  replace hP : va_P (eD E) vwCl [(q, .inr (7, [.null, .ref q6, .null, .int 0, .int 0])), (q6, .inl (eI E, 5, .inl (fun _ => 0)))] H := hP
  replace hD := wd_re hP hD
  refine lv_aload_n hx hb dX7_init_11 rfl (lv_at hl 0 rfl) ?_
  refine lv_iconst (v := 5) hx hb dX7_init_12 (by decide) ?_
  refine ct_newI hx hb lk3 hK hP hD hS hA 5 (by decide) (by decide) (by decide) (Nat.le_of_ble_eq_true rfl) (Nat.le_of_ble_eq_true rfl) dX7_init_13 (fun q13 H hPn hDn hSn => ?_)
  clear hP hD hS
  replace hP := hPn
  replace hD := hDn
  replace hS := hSn
  clear hPn hDn hSn
  replace hP : va_P (eD E) vwCl [(q, .inr (7, [.null, .ref q6, .null, .int 0, .int 0])), (q6, .inl (eI E, 5, .inl (fun _ => 0))), (q13, .inl (eI E, 5, .inl (fun _ => 0)))] H := hP
  replace hD := wd_re hP hD
  refine W.widen (k := 2) (n := 10) (Nat.le_of_ble_eq_true rfl) (Nat.le_of_ble_eq_true rfl) ?_
  refine va_putF (D := eD E) (ci := 7) (v := .ref q13) (ty := (.array .int)) (C := RX7) (T := TX7) (N := 5) hx hb hts in_X7 tyX7 tyX7_ok nmX7 hown hK hP hD hS 0 rfl rfl 2 (by decide) lk5 (fun _ h9 => h9) rfl hin rfl (by decide +kernel) rfl rfl (Nat.le_of_ble_eq_true rfl) dX7_init_15 (fun H locs hPn hDn hSn => ?_)
  clear hP hD hS
  replace hP := hPn
  replace hD := hDn
  replace hS := hSn
  clear hPn hDn hSn
  replace hP : va_P (eD E) vwCl [(q, .inr (7, [.null, .ref q6, .ref q13, .int 0, .int 0])), (q6, .inl (eI E, 5, .inl (fun _ => 0))), (q13, .inl (eI E, 5, .inl (fun _ => 0)))] H := hP
  replace hD := wd_re hP hD
  refine lv_aload_n hx hb dX7_init_18 rfl (lv_at hl 0 rfl) ?_
  refine lv_aload_n hx hb dX7_init_19 rfl (lv_at hl 1 rfl) ?_
  refine va_putF (D := eD E) (ci := 7) (v := .ref qw) (ty := (.object "TidedGround$World")) (C := RX7) (T := TX7) (N := 5) hx hb hts in_X7 tyX7 tyX7_ok nmX7 hown hK hP hD hS 0 rfl rfl 0 (by decide) lk6 (fun _ h9 => h9) rfl hin rfl (by decide +kernel) rfl rfl (Nat.le_of_ble_eq_true rfl) dX7_init_20 (fun H locs hPn hDn hSn => ?_)
  clear hP hD hS
  replace hP := hPn
  replace hD := hDn
  replace hS := hSn
  clear hPn hDn hSn
  replace hP : va_P (eD E) vwCl [(q, .inr (7, [.ref qw, .ref q6, .ref q13, .int 0, .int 0])), (q6, .inl (eI E, 5, .inl (fun _ => 0))), (q13, .inl (eI E, 5, .inl (fun _ => 0)))] H := hP
  replace hD := wd_re hP hD
  refine lv_aload_n hx hb dX7_init_23 rfl (lv_at hl 0 rfl) ?_
  refine lv_iconst (v := 1) hx hb dX7_init_24 (by decide) ?_
  refine va_put (D := eD E) (ci := 7) (v := .int 1) (ty := .int) (C := RX7) (T := TX7) (N := 5) hx hb hts in_X7 tyX7 tyX7_ok nmX7 hown hK hP hD hS 0 rfl rfl 4 (by decide) lk7 (fun _ h9 => h9) rfl (by decide +kernel) rfl rfl (Nat.le_of_ble_eq_true rfl) dX7_init_25 (fun H locs hPn hDn hSn => ?_)
  clear hP hD hS
  replace hP := hPn
  replace hD := hDn
  replace hS := hSn
  clear hPn hDn hSn
  replace hP : va_P (eD E) vwCl [(q, .inr (7, [.ref qw, .ref q6, .ref q13, .int 0, .int 1])), (q6, .inl (eI E, 5, .inl (fun _ => 0))), (q13, .inl (eI E, 5, .inl (fun _ => 0)))] H := hP
  replace hD := wd_re hP hD
  have hP9 : va_P (eD E) vwCl ([(q, .inr (7, [.ref qw, .ref q6, .ref q13, .int 0, .int 1])), (q6, .inl (eI E, 5, .inl (fun _ => 0))), (q13, .inl (eI E, 5, .inl (fun _ => 0)))]) H := hP.sub [0, 1, 2] rfl
  have hD9 : va_D A ([(q, .inr (7, [.ref qw, .ref q6, .ref q13, .int 0, .int 1])), (q6, .inl (eI E, 5, .inl (fun _ => 0))), (q13, .inl (eI E, 5, .inl (fun _ => 0)))]) := hD.sub [0, 1, 2] (by decide) rfl
  refine W.widen (k := 2) (n := 10) (Nat.le_of_ble_eq_true rfl) (Nat.le_of_ble_eq_true rfl) ?_
  subst hQ
  exact W.vret hx hb hr (fun t ht hW => ⟨⟨(q6, q13), rfl, trivial, by rw [ht]; exact hP9, hD9⟩, hS.F ht⟩) hS.2.2 dX7_init_28
def rm_X4_init : Room := { frames := 1, cells := 5, slots := 820, locals := 20 }
set_option maxHeartbeats 8000000 in
set_option maxRecDepth 100000 in
theorem c_X4_init (l : Launch) (E : Ev) (sz : Nat) (q : Nat) (qw : Nat) : Met l yX4_init wsX4_init rm_X4_init (CtP E sz [.ref q, .ref qw] [(q, .inr (4, [.null, .int 0, .null, .null, .null, .null, .int 0, .null, .int 0, .int 0, .int 0]))]) (va_Qv (fun (u : Nat × Nat × Nat × Nat × Nat) => True) (MtB E (va_A [(q, .inr (4, [.null, .int 0, .null, .null, .null, .null, .int 0, .null, .int 0, .int 0, .int 0]))] sz) (fun u => [(q, .inr (4, [.ref qw, .int 0, .ref u.1, .ref u.2.1, .ref u.2.2.1, .ref u.2.2.2.1, .int 0, .ref u.2.2.2.2, .int 0, .int 0, .int 0])), (u.1, .inl (eI E, 12, .inl (fun _ => 0))), (u.2.1, .inl (eI E, 12, .inl (fun _ => 0))), (u.2.2.1, .inl (eI E, 12, .inl (fun _ => 0))), (u.2.2.2.1, .inl (eI E, 729, .inl (fun _ => 0))), (u.2.2.2.2, .inl (eI E, 55, .inl (fun _ => 0)))])) (va_A [(q, .inr (4, [.null, .int 0, .null, .null, .null, .null, .int 0, .null, .int 0, .int 0, .int 0]))] sz)) 5 820 (va_A [(q, .inr (4, [.null, .int 0, .null, .null, .null, .null, .int 0, .null, .int 0, .int 0, .int 0]))] sz) := by
  refine Met.ofW (cc := cX4_init) (maxL := 2) (ret := none) (by decide) rfl ?_
  intro p e s m args below meth c s₁ B hml hv
  obtain ⟨rfl, hsz, hC, hP, hD0⟩ := hv
  subst hsz
  have hD := hD0.self (sz := s.heap.size)
  generalize hAe : va_A [(q, .inr (4, [.null, .int 0, .null, .null, .null, .null, .int 0, .null, .int 0, .int 0, .int 0]))] s.heap.size = A at hD hC ⊢
  have hA : ∀ q : Nat, s.heap.size ≤ q → A q := fun q h => by rw [← hAe]; exact Or.inr h
  have hS : va_S A s.heap s.heap [] := va_S.rf
  have hx := B.exec
  have hb := B.bytes
  have hr := B.returns
  have hts := atoms_spec (ws := wsX4_init) B.pre
  have hown : s.vm.findClass RX4 = some m.cls := findClass_of_methodNamed B.named
  have hlocks := B.notSynchronized
  have hin : meth.name = "<init>" := (name_of_methodNamed B.named B.method).1
  have hE := hC.1
  have hK := hE.1
  replace hP : va_P (eD E) vwCl [(q, .inr (4, [.null, .int 0, .null, .null, .null, .null, .int 0, .null, .int 0, .int 0, .int 0]))] s.heap := hP
  have in_X4 : ∀ w ∈ u_ws RX4 TX4 11, w ∈ wsX4_init := fun w h => List.mem_cons_of_mem _ (List.mem_append_right _ h)
  have lk0 := hts (.methodLink RX4 3 objectInit) (List.mem_of_getElem? (i := 1) rfl)
  have lk1 := hts (.instanceMethod objectInit) (List.mem_of_getElem? (i := 2) rfl)
  have lk2 := hts (.code objectInit ⟨#[0xb1]⟩ 1 none) (List.mem_of_getElem? (i := 3) rfl)
  have lk3 := hts (.arrayClass .int) (List.mem_of_getElem? (i := 4) rfl)
  have lk4 := hts (.fieldLink RX4 9 "TidedGround$Sightings" "cells" "[I") (List.mem_of_getElem? (i := 5) rfl)
  have lk5 := hts (.fieldLink RX4 15 "TidedGround$Sightings" "steps" "[I") (List.mem_of_getElem? (i := 6) rfl)
  have lk6 := hts (.fieldLink RX4 18 "TidedGround$Sightings" "heights" "[I") (List.mem_of_getElem? (i := 7) rfl)
  have lk7 := hts (.fieldLink RX4 21 "TidedGround$Sightings" "found" "[I") (List.mem_of_getElem? (i := 8) rfl)
  have lk8 := hts (.fieldLink RX4 24 "TidedGround$Sightings" "byPull" "[I") (List.mem_of_getElem? (i := 9) rfl)
  have lk9 := hts (.fieldLink RX4 27 "TidedGround$Sightings" "world" "LTidedGround$World;") (List.mem_of_getElem? (i := 10) rfl)
  have n_12 : (12 : Int32).toInt = 12 := by decide
  have n_55 : (55 : Int32).toInt = 55 := by decide
  have n_729 : (729 : Int32).toInt = 729 := by decide
  have hl := lv_entry ([.ref q, .ref qw]) (n := 2) (Nat.le_of_ble_eq_true rfl)
  rw [lg_entry_eq]
  generalize (lg_sl ([.ref q, .ref qw]) ++ List.replicate (2 - (lg_sl ([.ref q, .ref qw])).length) Slot.unset).toArray = ls at hl ⊢
  have hl : lv_has ls 2 [(0, .ref q), (1, .ref qw)] := hl
  refine W_abs (fun Q hQ => ?_)
  refine lv_aload_n hx hb dX4_init_0 rfl (lv_at hl 0 rfl) ?_
  refine W.objInit hx hb hown lk0 lk1 lk2 rfl (by rw [hml]; exact hl.1) rfl dX4_init_1 (Nat.le_of_ble_eq_true rfl) (Nat.le_of_ble_eq_true rfl) ?_
  refine W.eq (g2 := F0 m 4 ls []) rfl ?_
  refine lv_aload_n hx hb dX4_init_4 rfl (lv_at hl 0 rfl) ?_
  refine lv_bipush (v := 12) hx hb dX4_init_5 (by decide) ?_
  refine ct_newI hx hb lk3 hK hP hD hS hA 12 (by decide) (by decide) (by decide) (Nat.le_of_ble_eq_true rfl) (Nat.le_of_ble_eq_true rfl) dX4_init_7 (fun q7 H hPn hDn hSn => ?_)
  clear hP hD hS
  replace hP := hPn
  replace hD := hDn
  replace hS := hSn
  clear hPn hDn hSn
  replace hP : va_P (eD E) vwCl [(q, .inr (4, [.null, .int 0, .null, .null, .null, .null, .int 0, .null, .int 0, .int 0, .int 0])), (q7, .inl (eI E, 12, .inl (fun _ => 0)))] H := hP
  replace hD := wd_re hP hD
  refine W.widen (k := 1) (n := 12) (Nat.le_of_ble_eq_true rfl) (Nat.le_of_ble_eq_true rfl) ?_
  refine va_putF (D := eD E) (ci := 4) (v := .ref q7) (ty := (.array .int)) (C := RX4) (T := TX4) (N := 11) hx hb hts in_X4 tyX4 tyX4_ok nmX4 hown hK hP hD hS 0 rfl rfl 2 (by decide) lk4 (fun _ h9 => h9) rfl hin rfl (by decide +kernel) rfl rfl (Nat.le_of_ble_eq_true rfl) dX4_init_9 (fun H locs hPn hDn hSn => ?_)
  clear hP hD hS
  replace hP := hPn
  replace hD := hDn
  replace hS := hSn
  clear hPn hDn hSn
  replace hP : va_P (eD E) vwCl [(q, .inr (4, [.null, .int 0, .ref q7, .null, .null, .null, .int 0, .null, .int 0, .int 0, .int 0])), (q7, .inl (eI E, 12, .inl (fun _ => 0)))] H := hP
  replace hD := wd_re hP hD
  refine lv_aload_n hx hb dX4_init_12 rfl (lv_at hl 0 rfl) ?_
  refine lv_bipush (v := 12) hx hb dX4_init_13 (by decide) ?_
  refine ct_newI hx hb lk3 hK hP hD hS hA 12 (by decide) (by decide) (by decide) (Nat.le_of_ble_eq_true rfl) (Nat.le_of_ble_eq_true rfl) dX4_init_15 (fun q15 H hPn hDn hSn => ?_)
  clear hP hD hS
  replace hP := hPn
  replace hD := hDn
  replace hS := hSn
  clear hPn hDn hSn
  replace hP : va_P (eD E) vwCl [(q, .inr (4, [.null, .int 0, .ref q7, .null, .null, .null, .int 0, .null, .int 0, .int 0, .int 0])), (q7, .inl (eI E, 12, .inl (fun _ => 0))), (q15, .inl (eI E, 12, .inl (fun _ => 0)))] H := hP
  replace hD := wd_re hP hD
  refine W.widen (k := 2) (n := 24) (Nat.le_of_ble_eq_true rfl) (Nat.le_of_ble_eq_true rfl) ?_
  refine va_putF (D := eD E) (ci := 4) (v := .ref q15) (ty := (.array .int)) (C := RX4) (T := TX4) (N := 11) hx hb hts in_X4 tyX4 tyX4_ok nmX4 hown hK hP hD hS 0 rfl rfl 3 (by decide) lk5 (fun _ h9 => h9) rfl hin rfl (by decide +kernel) rfl rfl (Nat.le_of_ble_eq_true rfl) dX4_init_17 (fun H locs hPn hDn hSn => ?_)
  clear hP hD hS
  replace hP := hPn
  replace hD := hDn
  replace hS := hSn
  clear hPn hDn hSn
  replace hP : va_P (eD E) vwCl [(q, .inr (4, [.null, .int 0, .ref q7, .ref q15, .null, .null, .int 0, .null, .int 0, .int 0, .int 0])), (q7, .inl (eI E, 12, .inl (fun _ => 0))), (q15, .inl (eI E, 12, .inl (fun _ => 0)))] H := hP
  replace hD := wd_re hP hD
  refine lv_aload_n hx hb dX4_init_20 rfl (lv_at hl 0 rfl) ?_
  refine lv_bipush (v := 12) hx hb dX4_init_21 (by decide) ?_
  refine ct_newI hx hb lk3 hK hP hD hS hA 12 (by decide) (by decide) (by decide) (Nat.le_of_ble_eq_true rfl) (Nat.le_of_ble_eq_true rfl) dX4_init_23 (fun q23 H hPn hDn hSn => ?_)
  clear hP hD hS
  replace hP := hPn
  replace hD := hDn
  replace hS := hSn
  clear hPn hDn hSn
  replace hP : va_P (eD E) vwCl [(q, .inr (4, [.null, .int 0, .ref q7, .ref q15, .null, .null, .int 0, .null, .int 0, .int 0, .int 0])), (q7, .inl (eI E, 12, .inl (fun _ => 0))), (q15, .inl (eI E, 12, .inl (fun _ => 0))), (q23, .inl (eI E, 12, .inl (fun _ => 0)))] H := hP
  replace hD := wd_re hP hD
  refine W.widen (k := 3) (n := 36) (Nat.le_of_ble_eq_true rfl) (Nat.le_of_ble_eq_true rfl) ?_
  refine va_putF (D := eD E) (ci := 4) (v := .ref q23) (ty := (.array .int)) (C := RX4) (T := TX4) (N := 11) hx hb hts in_X4 tyX4 tyX4_ok nmX4 hown hK hP hD hS 0 rfl rfl 4 (by decide) lk6 (fun _ h9 => h9) rfl hin rfl (by decide +kernel) rfl rfl (Nat.le_of_ble_eq_true rfl) dX4_init_25 (fun H locs hPn hDn hSn => ?_)
  clear hP hD hS
  replace hP := hPn
  replace hD := hDn
  replace hS := hSn
  clear hPn hDn hSn
  replace hP : va_P (eD E) vwCl [(q, .inr (4, [.null, .int 0, .ref q7, .ref q15, .ref q23, .null, .int 0, .null, .int 0, .int 0, .int 0])), (q7, .inl (eI E, 12, .inl (fun _ => 0))), (q15, .inl (eI E, 12, .inl (fun _ => 0))), (q23, .inl (eI E, 12, .inl (fun _ => 0)))] H := hP
  replace hD := wd_re hP hD
  refine lv_aload_n hx hb dX4_init_28 rfl (lv_at hl 0 rfl) ?_
  refine lv_sipush (v := 729) hx hb dX4_init_29 (by decide) ?_
  refine ct_newI hx hb lk3 hK hP hD hS hA 729 (by decide) (by decide) (by decide) (Nat.le_of_ble_eq_true rfl) (Nat.le_of_ble_eq_true rfl) dX4_init_32 (fun q32 H hPn hDn hSn => ?_)
  clear hP hD hS
  replace hP := hPn
  replace hD := hDn
  replace hS := hSn
  clear hPn hDn hSn
  replace hP : va_P (eD E) vwCl [(q, .inr (4, [.null, .int 0, .ref q7, .ref q15, .ref q23, .null, .int 0, .null, .int 0, .int 0, .int 0])), (q7, .inl (eI E, 12, .inl (fun _ => 0))), (q15, .inl (eI E, 12, .inl (fun _ => 0))), (q23, .inl (eI E, 12, .inl (fun _ => 0))), (q32, .inl (eI E, 729, .inl (fun _ => 0)))] H := hP
  replace hD := wd_re hP hD
  refine W.widen (k := 4) (n := 765) (Nat.le_of_ble_eq_true rfl) (Nat.le_of_ble_eq_true rfl) ?_
  refine va_putF (D := eD E) (ci := 4) (v := .ref q32) (ty := (.array .int)) (C := RX4) (T := TX4) (N := 11) hx hb hts in_X4 tyX4 tyX4_ok nmX4 hown hK hP hD hS 0 rfl rfl 5 (by decide) lk7 (fun _ h9 => h9) rfl hin rfl (by decide +kernel) rfl rfl (Nat.le_of_ble_eq_true rfl) dX4_init_34 (fun H locs hPn hDn hSn => ?_)
  clear hP hD hS
  replace hP := hPn
  replace hD := hDn
  replace hS := hSn
  clear hPn hDn hSn
  replace hP : va_P (eD E) vwCl [(q, .inr (4, [.null, .int 0, .ref q7, .ref q15, .ref q23, .ref q32, .int 0, .null, .int 0, .int 0, .int 0])), (q7, .inl (eI E, 12, .inl (fun _ => 0))), (q15, .inl (eI E, 12, .inl (fun _ => 0))), (q23, .inl (eI E, 12, .inl (fun _ => 0))), (q32, .inl (eI E, 729, .inl (fun _ => 0)))] H := hP
  replace hD := wd_re hP hD
  refine lv_aload_n hx hb dX4_init_37 rfl (lv_at hl 0 rfl) ?_
  refine lv_bipush (v := 55) hx hb dX4_init_38 (by decide) ?_
  refine ct_newI hx hb lk3 hK hP hD hS hA 55 (by decide) (by decide) (by decide) (Nat.le_of_ble_eq_true rfl) (Nat.le_of_ble_eq_true rfl) dX4_init_40 (fun q40 H hPn hDn hSn => ?_)
  clear hP hD hS
  replace hP := hPn
  replace hD := hDn
  replace hS := hSn
  clear hPn hDn hSn
  replace hP : va_P (eD E) vwCl [(q, .inr (4, [.null, .int 0, .ref q7, .ref q15, .ref q23, .ref q32, .int 0, .null, .int 0, .int 0, .int 0])), (q7, .inl (eI E, 12, .inl (fun _ => 0))), (q15, .inl (eI E, 12, .inl (fun _ => 0))), (q23, .inl (eI E, 12, .inl (fun _ => 0))), (q32, .inl (eI E, 729, .inl (fun _ => 0))), (q40, .inl (eI E, 55, .inl (fun _ => 0)))] H := hP
  replace hD := wd_re hP hD
  refine W.widen (k := 5) (n := 820) (Nat.le_of_ble_eq_true rfl) (Nat.le_of_ble_eq_true rfl) ?_
  refine va_putF (D := eD E) (ci := 4) (v := .ref q40) (ty := (.array .int)) (C := RX4) (T := TX4) (N := 11) hx hb hts in_X4 tyX4 tyX4_ok nmX4 hown hK hP hD hS 0 rfl rfl 7 (by decide) lk8 (fun _ h9 => h9) rfl hin rfl (by decide +kernel) rfl rfl (Nat.le_of_ble_eq_true rfl) dX4_init_42 (fun H locs hPn hDn hSn => ?_)
  clear hP hD hS
  replace hP := hPn
  replace hD := hDn
  replace hS := hSn
  clear hPn hDn hSn
  replace hP : va_P (eD E) vwCl [(q, .inr (4, [.null, .int 0, .ref q7, .ref q15, .ref q23, .ref q32, .int 0, .ref q40, .int 0, .int 0, .int 0])), (q7, .inl (eI E, 12, .inl (fun _ => 0))), (q15, .inl (eI E, 12, .inl (fun _ => 0))), (q23, .inl (eI E, 12, .inl (fun _ => 0))), (q32, .inl (eI E, 729, .inl (fun _ => 0))), (q40, .inl (eI E, 55, .inl (fun _ => 0)))] H := hP
  replace hD := wd_re hP hD
  refine lv_aload_n hx hb dX4_init_45 rfl (lv_at hl 0 rfl) ?_
  refine lv_aload_n hx hb dX4_init_46 rfl (lv_at hl 1 rfl) ?_
  refine va_putF (D := eD E) (ci := 4) (v := .ref qw) (ty := (.object "TidedGround$World")) (C := RX4) (T := TX4) (N := 11) hx hb hts in_X4 tyX4 tyX4_ok nmX4 hown hK hP hD hS 0 rfl rfl 0 (by decide) lk9 (fun _ h9 => h9) rfl hin rfl (by decide +kernel) rfl rfl (Nat.le_of_ble_eq_true rfl) dX4_init_47 (fun H locs hPn hDn hSn => ?_)
  clear hP hD hS
  replace hP := hPn
  replace hD := hDn
  replace hS := hSn
  clear hPn hDn hSn
  replace hP : va_P (eD E) vwCl [(q, .inr (4, [.ref qw, .int 0, .ref q7, .ref q15, .ref q23, .ref q32, .int 0, .ref q40, .int 0, .int 0, .int 0])), (q7, .inl (eI E, 12, .inl (fun _ => 0))), (q15, .inl (eI E, 12, .inl (fun _ => 0))), (q23, .inl (eI E, 12, .inl (fun _ => 0))), (q32, .inl (eI E, 729, .inl (fun _ => 0))), (q40, .inl (eI E, 55, .inl (fun _ => 0)))] H := hP
  replace hD := wd_re hP hD
  have hP9 : va_P (eD E) vwCl ([(q, .inr (4, [.ref qw, .int 0, .ref q7, .ref q15, .ref q23, .ref q32, .int 0, .ref q40, .int 0, .int 0, .int 0])), (q7, .inl (eI E, 12, .inl (fun _ => 0))), (q15, .inl (eI E, 12, .inl (fun _ => 0))), (q23, .inl (eI E, 12, .inl (fun _ => 0))), (q32, .inl (eI E, 729, .inl (fun _ => 0))), (q40, .inl (eI E, 55, .inl (fun _ => 0)))]) H := hP.sub [0, 1, 2, 3, 4, 5] rfl
  have hD9 : va_D A ([(q, .inr (4, [.ref qw, .int 0, .ref q7, .ref q15, .ref q23, .ref q32, .int 0, .ref q40, .int 0, .int 0, .int 0])), (q7, .inl (eI E, 12, .inl (fun _ => 0))), (q15, .inl (eI E, 12, .inl (fun _ => 0))), (q23, .inl (eI E, 12, .inl (fun _ => 0))), (q32, .inl (eI E, 729, .inl (fun _ => 0))), (q40, .inl (eI E, 55, .inl (fun _ => 0)))]) := hD.sub [0, 1, 2, 3, 4, 5] (by decide) rfl
  refine W.widen (k := 5) (n := 820) (Nat.le_of_ble_eq_true rfl) (Nat.le_of_ble_eq_true rfl) ?_
  subst hQ
  exact W.vret hx hb hr (fun t ht hW => ⟨⟨(q7, q15, q23, q32, q40), rfl, trivial, by rw [ht]; exact hP9, hD9⟩, hS.F ht⟩) hS.2.2 dX4_init_50
def rm_X6_init : Room := { frames := 1, cells := 3, slots := 33, locals := 20 }
set_option maxHeartbeats 8000000 in
set_option maxRecDepth 100000 in
theorem c_X6_init (l : Launch) (E : Ev) (sz : Nat) (q : Nat) : Met l yX6_init wsX6_init rm_X6_init (CtP E sz [.ref q] [(q, .inr (6, [.int 0, .null, .null, .null, .int 0, .int 0, .int 0, .int 0, .int 0]))]) (va_Qv (fun (u : (Nat → Nat) × Vf) => StateI u.2 ∧ u.1 0 = q ∧ u.2 = up2 v00 6 0 20) (MtB E (va_A [(q, .inr (6, [.int 0, .null, .null, .null, .int 0, .int 0, .int 0, .int 0, .int 0]))] sz) (fun u => stateL E u.1 u.2)) (va_A [(q, .inr (6, [.int 0, .null, .null, .null, .int 0, .int 0, .int 0, .int 0, .int 0]))] sz)) 3 33 (va_A [(q, .inr (6, [.int 0, .null, .null, .null, .int 0, .int 0, .int 0, .int 0, .int 0]))] sz) := by
  refine Met.ofW (cc := cX6_init) (maxL := 1) (ret := none) (by decide) rfl ?_
  intro p e s m args below meth c s₁ B hml hv
  obtain ⟨rfl, hsz, hC, hP, hD0⟩ := hv
  subst hsz
  have hD := hD0.self (sz := s.heap.size)
  generalize hAe : va_A [(q, .inr (6, [.int 0, .null, .null, .null, .int 0, .int 0, .int 0, .int 0, .int 0]))] s.heap.size = A at hD hC ⊢
  have hA : ∀ q : Nat, s.heap.size ≤ q → A q := fun q h => by rw [← hAe]; exact Or.inr h
  have hS : va_S A s.heap s.heap [] := va_S.rf
  have hx := B.exec
  have hb := B.bytes
  have hr := B.returns
  have hts := atoms_spec (ws := wsX6_init) B.pre
  have hown : s.vm.findClass RX6 = some m.cls := findClass_of_methodNamed B.named
  have hlocks := B.notSynchronized
  have hin : meth.name = "<init>" := (name_of_methodNamed B.named B.method).1
  have hE := hC.1
  have hK := hE.1
  replace hP : va_P (eD E) vwCl [(q, .inr (6, [.int 0, .null, .null, .null, .int 0, .int 0, .int 0, .int 0, .int 0]))] s.heap := hP
  have in_X6 : ∀ w ∈ u_ws RX6 TX6 9, w ∈ wsX6_init := fun w h => List.mem_cons_of_mem _ (List.mem_append_right _ h)
  have lk0 := hts (.methodLink RX6 3 objectInit) (List.mem_of_getElem? (i := 1) rfl)
  have lk1 := hts (.instanceMethod objectInit) (List.mem_of_getElem? (i := 2) rfl)
  have lk2 := hts (.code objectInit ⟨#[0xb1]⟩ 1 none) (List.mem_of_getElem? (i := 3) rfl)
  have lk3 := hts (.arrayClass .int) (List.mem_of_getElem? (i := 4) rfl)
  have lk4 := hts (.fieldLink RX6 9 "TidedGround$State" "shifts" "[I") (List.mem_of_getElem? (i := 5) rfl)
  have lk5 := hts (.fieldLink RX6 15 "TidedGround$State" "loads" "[I") (List.mem_of_getElem? (i := 6) rfl)
  have lk6 := hts (.fieldLink RX6 18 "TidedGround$State" "props" "[I") (List.mem_of_getElem? (i := 7) rfl)
  have lk7 := hts (.fieldLink RX6 21 "TidedGround$State" "steep" "I") (List.mem_of_getElem? (i := 8) rfl)
  have n_3 : (3 : Int32).toInt = 3 := by decide
  have n_6 : (6 : Int32).toInt = 6 := by decide
  have n_20 : (20 : Int32).toInt = 20 := by decide
  have n_24 : (24 : Int32).toInt = 24 := by decide
  have hl := lv_entry ([.ref q]) (n := 1) (Nat.le_of_ble_eq_true rfl)
  rw [lg_entry_eq]
  generalize (lg_sl ([.ref q]) ++ List.replicate (1 - (lg_sl ([.ref q])).length) Slot.unset).toArray = ls at hl ⊢
  have hl : lv_has ls 1 [(0, .ref q)] := hl
  refine W_abs (fun Q hQ => ?_)
  refine lv_aload_n hx hb dX6_init_0 rfl (lv_at hl 0 rfl) ?_
  refine W.objInit hx hb hown lk0 lk1 lk2 rfl (by rw [hml]; exact hl.1) rfl dX6_init_1 (Nat.le_of_ble_eq_true rfl) (Nat.le_of_ble_eq_true rfl) ?_
  refine W.eq (g2 := F0 m 4 ls []) rfl ?_
  refine lv_aload_n hx hb dX6_init_4 rfl (lv_at hl 0 rfl) ?_
  refine lv_iconst (v := 3) hx hb dX6_init_5 (by decide) ?_
  refine ct_newI hx hb lk3 hK hP hD hS hA 3 (by decide) (by decide) (by decide) (Nat.le_of_ble_eq_true rfl) (Nat.le_of_ble_eq_true rfl) dX6_init_6 (fun q6 H hPn hDn hSn => ?_)
  clear hP hD hS
  replace hP := hPn
  replace hD := hDn
  replace hS := hSn
  clear hPn hDn hSn
  replace hP : va_P (eD E) vwCl [(q, .inr (6, [.int 0, .null, .null, .null, .int 0, .int 0, .int 0, .int 0, .int 0])), (q6, .inl (eI E, 3, .inl (fun _ => 0)))] H := hP
  replace hD := wd_re hP hD
  refine W.widen (k := 1) (n := 3) (Nat.le_of_ble_eq_true rfl) (Nat.le_of_ble_eq_true rfl) ?_
  refine va_putF (D := eD E) (ci := 6) (v := .ref q6) (ty := (.array .int)) (C := RX6) (T := TX6) (N := 9) hx hb hts in_X6 tyX6 tyX6_ok nmX6 hown hK hP hD hS 0 rfl rfl 1 (by decide) lk4 (fun _ h9 => h9) rfl hin rfl (by decide +kernel) rfl rfl (Nat.le_of_ble_eq_true rfl) dX6_init_8 (fun H locs hPn hDn hSn => ?_)
  clear hP hD hS
  replace hP := hPn
  replace hD := hDn
  replace hS := hSn
  clear hPn hDn hSn
  replace hP : va_P (eD E) vwCl [(q, .inr (6, [.int 0, .ref q6, .null, .null, .int 0, .int 0, .int 0, .int 0, .int 0])), (q6, .inl (eI E, 3, .inl (fun _ => 0)))] H := hP
  replace hD := wd_re hP hD
  refine lv_aload_n hx hb dX6_init_11 rfl (lv_at hl 0 rfl) ?_
  refine lv_bipush (v := 24) hx hb dX6_init_12 (by decide) ?_
  refine ct_newI hx hb lk3 hK hP hD hS hA 24 (by decide) (by decide) (by decide) (Nat.le_of_ble_eq_true rfl) (Nat.le_of_ble_eq_true rfl) dX6_init_14 (fun q14 H hPn hDn hSn => ?_)
  clear hP hD hS
  replace hP := hPn
  replace hD := hDn
  replace hS := hSn
  clear hPn hDn hSn
  replace hP : va_P (eD E) vwCl [(q, .inr (6, [.int 0, .ref q6, .null, .null, .int 0, .int 0, .int 0, .int 0, .int 0])), (q6, .inl (eI E, 3, .inl (fun _ => 0))), (q14, .inl (eI E, 24, .inl (fun _ => 0)))] H := hP
  replace hD := wd_re hP hD
  refine W.widen (k := 2) (n := 27) (Nat.le_of_ble_eq_true rfl) (Nat.le_of_ble_eq_true rfl) ?_
  refine va_putF (D := eD E) (ci := 6) (v := .ref q14) (ty := (.array .int)) (C := RX6) (T := TX6) (N := 9) hx hb hts in_X6 tyX6 tyX6_ok nmX6 hown hK hP hD hS 0 rfl rfl 2 (by decide) lk5 (fun _ h9 => h9) rfl hin rfl (by decide +kernel) rfl rfl (Nat.le_of_ble_eq_true rfl) dX6_init_16 (fun H locs hPn hDn hSn => ?_)
  clear hP hD hS
  replace hP := hPn
  replace hD := hDn
  replace hS := hSn
  clear hPn hDn hSn
  replace hP : va_P (eD E) vwCl [(q, .inr (6, [.int 0, .ref q6, .ref q14, .null, .int 0, .int 0, .int 0, .int 0, .int 0])), (q6, .inl (eI E, 3, .inl (fun _ => 0))), (q14, .inl (eI E, 24, .inl (fun _ => 0)))] H := hP
  replace hD := wd_re hP hD
  refine lv_aload_n hx hb dX6_init_19 rfl (lv_at hl 0 rfl) ?_
  refine lv_bipush (v := 6) hx hb dX6_init_20 (by decide) ?_
  refine ct_newI hx hb lk3 hK hP hD hS hA 6 (by decide) (by decide) (by decide) (Nat.le_of_ble_eq_true rfl) (Nat.le_of_ble_eq_true rfl) dX6_init_22 (fun q22 H hPn hDn hSn => ?_)
  clear hP hD hS
  replace hP := hPn
  replace hD := hDn
  replace hS := hSn
  clear hPn hDn hSn
  replace hP : va_P (eD E) vwCl [(q, .inr (6, [.int 0, .ref q6, .ref q14, .null, .int 0, .int 0, .int 0, .int 0, .int 0])), (q6, .inl (eI E, 3, .inl (fun _ => 0))), (q14, .inl (eI E, 24, .inl (fun _ => 0))), (q22, .inl (eI E, 6, .inl (fun _ => 0)))] H := hP
  replace hD := wd_re hP hD
  refine W.widen (k := 3) (n := 33) (Nat.le_of_ble_eq_true rfl) (Nat.le_of_ble_eq_true rfl) ?_
  refine va_putF (D := eD E) (ci := 6) (v := .ref q22) (ty := (.array .int)) (C := RX6) (T := TX6) (N := 9) hx hb hts in_X6 tyX6 tyX6_ok nmX6 hown hK hP hD hS 0 rfl rfl 3 (by decide) lk6 (fun _ h9 => h9) rfl hin rfl (by decide +kernel) rfl rfl (Nat.le_of_ble_eq_true rfl) dX6_init_24 (fun H locs hPn hDn hSn => ?_)
  clear hP hD hS
  replace hP := hPn
  replace hD := hDn
  replace hS := hSn
  clear hPn hDn hSn
  replace hP : va_P (eD E) vwCl [(q, .inr (6, [.int 0, .ref q6, .ref q14, .ref q22, .int 0, .int 0, .int 0, .int 0, .int 0])), (q6, .inl (eI E, 3, .inl (fun _ => 0))), (q14, .inl (eI E, 24, .inl (fun _ => 0))), (q22, .inl (eI E, 6, .inl (fun _ => 0)))] H := hP
  replace hD := wd_re hP hD
  refine lv_aload_n hx hb dX6_init_27 rfl (lv_at hl 0 rfl) ?_
  refine lv_bipush (v := 20) hx hb dX6_init_28 (by decide) ?_
  refine va_put (D := eD E) (ci := 6) (v := .int 20) (ty := .int) (C := RX6) (T := TX6) (N := 9) hx hb hts in_X6 tyX6 tyX6_ok nmX6 hown hK hP hD hS 0 rfl rfl 6 (by decide) lk7 (fun _ h9 => h9) rfl (by decide +kernel) rfl rfl (Nat.le_of_ble_eq_true rfl) dX6_init_30 (fun H locs hPn hDn hSn => ?_)
  clear hP hD hS
  replace hP := hPn
  replace hD := hDn
  replace hS := hSn
  clear hPn hDn hSn
  replace hP : va_P (eD E) vwCl [(q, .inr (6, [.int 0, .ref q6, .ref q14, .ref q22, .int 0, .int 0, .int 20, .int 0, .int 0])), (q6, .inl (eI E, 3, .inl (fun _ => 0))), (q14, .inl (eI E, 24, .inl (fun _ => 0))), (q22, .inl (eI E, 6, .inl (fun _ => 0)))] H := hP
  replace hD := wd_re hP hD
  have hP9 : va_P (eD E) vwCl (stateL E (up1 (up1 (up1 (up1 (fun _ => 0) 0 q) 1 q6) 2 q14) 3 q22) (up2 v00 6 0 20)) H := hP.sub [0, 1, 2, 3] rfl
  have hD9 : va_D A (stateL E (up1 (up1 (up1 (up1 (fun _ => 0) 0 q) 1 q6) 2 q14) 3 q22) (up2 v00 6 0 20)) := hD.sub [0, 1, 2, 3] (by decide) rfl
  refine W.widen (k := 3) (n := 33) (Nat.le_of_ble_eq_true rfl) (Nat.le_of_ble_eq_true rfl) ?_
  subst hQ
  exact W.vret hx hb hr (fun t ht hW => ⟨⟨((up1 (up1 (up1 (up1 (fun _ => 0) 0 q) 1 q6) 2 q14) 3 q22), up2 v00 6 0 20), rfl, ⟨st_00, rfl, rfl⟩, by rw [ht]; exact hP9, hD9⟩, hS.F ht⟩) hS.2.2 dX6_init_33
def rm_X1_init : Room := { frames := 2, cells := 28, slots := 280, locals := 42 }
set_option maxHeartbeats 8000000 in
set_option maxRecDepth 100000 in
theorem c_X1_init (l : Launch) (E : Ev) (sz : Nat) (q : Nat) : Met l yX1_init wsX1_init rm_X1_init (CtP E sz [.ref q] [(q, .inr (1, [.int 0, .int 0, .int 0, .null, .null, .int 0, .null, .null, .null, .null, .null]))]) (va_Qv (fun (u : (Nat → Nat) × Vf) => PlanI u.2 ∧ u.1 0 = q ∧ (u.2 0 0 = 0 ∧ u.2 1 0 = 0 ∧ u.2 5 0 = 0 ∧ u.2 60 0 = 0 ∧ u.2 70 0 = 0 ∧ u.2 80 0 = 0 ∧ u.2 90 0 = 0 ∧ (u.2 20 0 = 1 ∧ u.2 23 0 = 0 ∧ u.2 23 1 = 0) ∧ (u.2 30 0 = 1 ∧ u.2 33 0 = 0 ∧ u.2 33 1 = 0) ∧ (u.2 40 0 = 1 ∧ u.2 43 0 = 0 ∧ u.2 43 1 = 0))) (MtB E (va_A [(q, .inr (1, [.int 0, .int 0, .int 0, .null, .null, .int 0, .null, .null, .null, .null, .null]))] sz) (fun u => planL E u.1 u.2)) (va_A [(q, .inr (1, [.int 0, .int 0, .int 0, .null, .null, .int 0, .null, .null, .null, .null, .null]))] sz)) 28 280 (va_A [(q, .inr (1, [.int 0, .int 0, .int 0, .null, .null, .int 0, .null, .null, .null, .null, .null]))] sz) := by
  refine Met.ofW (cc := cX1_init) (maxL := 2) (ret := none) (by decide) rfl ?_
  intro p e s m args below meth c s₁ B hml hv
  obtain ⟨rfl, hsz, hC, hP, hD0⟩ := hv
  subst hsz
  have hD := hD0.self (sz := s.heap.size)
  generalize hAe : va_A [(q, .inr (1, [.int 0, .int 0, .int 0, .null, .null, .int 0, .null, .null, .null, .null, .null]))] s.heap.size = A at hD hC ⊢
  have hA : ∀ q : Nat, s.heap.size ≤ q → A q := fun q h => by rw [← hAe]; exact Or.inr h
  have hS : va_S A s.heap s.heap [] := va_S.rf
  have hx := B.exec
  have hb := B.bytes
  have hr := B.returns
  have hts := atoms_spec (ws := wsX1_init) B.pre
  have hown : s.vm.findClass RX1 = some m.cls := findClass_of_methodNamed B.named
  have hlocks := B.notSynchronized
  have hin : meth.name = "<init>" := (name_of_methodNamed B.named B.method).1
  have hE := hC.1
  have hK := hE.1
  replace hP : va_P (eD E) vwCl [(q, .inr (1, [.int 0, .int 0, .int 0, .null, .null, .int 0, .null, .null, .null, .null, .null]))] s.heap := hP
  have in_X1 : ∀ w ∈ u_ws RX1 TX1 11, w ∈ wsX1_init := fun w h => List.mem_cons_of_mem _ (List.mem_append_left _ (List.mem_append_left _ (List.mem_append_right _ h)))
  have in_X5 : ∀ w ∈ u_ws RX5 TX5 4, w ∈ wsX1_init := fun w h => List.mem_cons_of_mem _ (List.mem_append_left _ (List.mem_append_right _ h))
  have in_X0 : ∀ w ∈ u_ws RX0 TX0 5, w ∈ wsX1_init := fun w h => List.mem_cons_of_mem _ (List.mem_append_right _ h)
  have lk0 := hts (.methodLink RX1 3 objectInit) (List.mem_of_getElem? (i := 1) rfl)
  have lk1 := hts (.instanceMethod objectInit) (List.mem_of_getElem? (i := 2) rfl)
  have lk2 := hts (.code objectInit ⟨#[0xb1]⟩ 1 none) (List.mem_of_getElem? (i := 3) rfl)
  have lk3 := hts (.arrayClass .int) (List.mem_of_getElem? (i := 4) rfl)
  have lk4 := hts (.fieldLink RX1 9 "TidedGround$Plan" "base" "[I") (List.mem_of_getElem? (i := 5) rfl)
  have lk5 := hts (.fieldLink RX1 15 "TidedGround$Plan" "softness" "[I") (List.mem_of_getElem? (i := 6) rfl)
  have lk6 := hts (.classLink RX1 18 RX0) (List.mem_of_getElem? (i := 7) rfl)
  have lk7 := hts (.fieldLink RX1 20 "TidedGround$Plan" "moons" "[LTidedGround$Moon;") (List.mem_of_getElem? (i := 8) rfl)
  have lk8 := hts (.classLink RX1 24 RX5) (List.mem_of_getElem? (i := 9) rfl)
  have lk9 := hts (.instantiable RX5 4) (List.mem_of_getElem? (i := 10) rfl)
  have lk10 := hts (.initialized RX5) (List.mem_of_getElem? (i := 11) rfl)
  have lk11 := hts (.instanceMethod yX5_init) (List.mem_of_getElem? (i := 18) rfl)
  have lk12 := hts (.fieldLink RX1 27 "TidedGround$Plan" "houses" "LTidedGround$Sites;") (List.mem_of_getElem? (i := 12) rfl)
  have lk13 := hts (.fieldLink RX1 31 "TidedGround$Plan" "cracks" "LTidedGround$Sites;") (List.mem_of_getElem? (i := 13) rfl)
  have lk14 := hts (.fieldLink RX1 34 "TidedGround$Plan" "wells" "LTidedGround$Sites;") (List.mem_of_getElem? (i := 14) rfl)
  have lk15 := hts (.fieldLink RX1 37 "TidedGround$Plan" "deeds" "LTidedGround$Sites;") (List.mem_of_getElem? (i := 15) rfl)
  have lk16 := hts (.instantiable RX0 5) (List.mem_of_getElem? (i := 16) rfl)
  have lk17 := hts (.initialized RX0) (List.mem_of_getElem? (i := 17) rfl)
  have lk18 := hts (.instanceMethod yX0_init) (List.mem_of_getElem? (i := 24) rfl)
  have n_0 : (0 : Int32).toInt = 0 := by decide
  have n_1 : (1 : Int32).toInt = 1 := by decide
  have n_2 : (2 : Int32).toInt = 2 := by decide
  have n_3 : (3 : Int32).toInt = 3 := by decide
  have n_24 : (24 : Int32).toInt = 24 := by decide
  have hl := lv_entry ([.ref q]) (n := 2) (Nat.le_of_ble_eq_true rfl)
  rw [lg_entry_eq]
  generalize (lg_sl ([.ref q]) ++ List.replicate (2 - (lg_sl ([.ref q])).length) Slot.unset).toArray = ls at hl ⊢
  have hl : lv_has ls 2 [(0, .ref q)] := hl
  refine W_abs (fun Q hQ => ?_)
  refine lv_aload_n hx hb dX1_init_0 rfl (lv_at hl 0 rfl) ?_
  refine W.objInit hx hb hown lk0 lk1 lk2 rfl (by rw [hml]; exact hl.1) rfl dX1_init_1 (Nat.le_of_ble_eq_true rfl) (Nat.le_of_ble_eq_true rfl) ?_
  refine W.eq (g2 := F0 m 4 ls []) rfl ?_
  refine lv_aload_n hx hb dX1_init_4 rfl (lv_at hl 0 rfl) ?_
  refine lv_bipush (v := 24) hx hb dX1_init_5 (by decide) ?_
  refine ct_newI hx hb lk3 hK hP hD hS hA 24 (by decide) (by decide) (by decide) (Nat.le_of_ble_eq_true rfl) (Nat.le_of_ble_eq_true rfl) dX1_init_7 (fun q7 H hPn hDn hSn => ?_)
  clear hP hD hS
  replace hP := hPn
  replace hD := hDn
  replace hS := hSn
  clear hPn hDn hSn
  replace hP : va_P (eD E) vwCl [(q, .inr (1, [.int 0, .int 0, .int 0, .null, .null, .int 0, .null, .null, .null, .null, .null])), (q7, .inl (eI E, 24, .inl (fun _ => 0)))] H := hP
  replace hD := wd_re hP hD
  refine W.widen (k := 1) (n := 24) (Nat.le_of_ble_eq_true rfl) (Nat.le_of_ble_eq_true rfl) ?_
  refine va_putF (D := eD E) (ci := 1) (v := .ref q7) (ty := (.array .int)) (C := RX1) (T := TX1) (N := 11) hx hb hts in_X1 tyX1 tyX1_ok nmX1 hown hK hP hD hS 0 rfl rfl 3 (by decide) lk4 (fun _ h9 => h9) rfl hin rfl (by decide +kernel) rfl rfl (Nat.le_of_ble_eq_true rfl) dX1_init_9 (fun H locs hPn hDn hSn => ?_)
  clear hP hD hS
  replace hP := hPn
  replace hD := hDn
  replace hS := hSn
  clear hPn hDn hSn
  replace hP : va_P (eD E) vwCl [(q, .inr (1, [.int 0, .int 0, .int 0, .ref q7, .null, .int 0, .null, .null, .null, .null, .null])), (q7, .inl (eI E, 24, .inl (fun _ => 0)))] H := hP
  replace hD := wd_re hP hD
  refine lv_aload_n hx hb dX1_init_12 rfl (lv_at hl 0 rfl) ?_
  refine lv_bipush (v := 24) hx hb dX1_init_13 (by decide) ?_
  refine ct_newI hx hb lk3 hK hP hD hS hA 24 (by decide) (by decide) (by decide) (Nat.le_of_ble_eq_true rfl) (Nat.le_of_ble_eq_true rfl) dX1_init_15 (fun q15 H hPn hDn hSn => ?_)
  clear hP hD hS
  replace hP := hPn
  replace hD := hDn
  replace hS := hSn
  clear hPn hDn hSn
  replace hP : va_P (eD E) vwCl [(q, .inr (1, [.int 0, .int 0, .int 0, .ref q7, .null, .int 0, .null, .null, .null, .null, .null])), (q7, .inl (eI E, 24, .inl (fun _ => 0))), (q15, .inl (eI E, 24, .inl (fun _ => 0)))] H := hP
  replace hD := wd_re hP hD
  refine W.widen (k := 2) (n := 48) (Nat.le_of_ble_eq_true rfl) (Nat.le_of_ble_eq_true rfl) ?_
  refine va_putF (D := eD E) (ci := 1) (v := .ref q15) (ty := (.array .int)) (C := RX1) (T := TX1) (N := 11) hx hb hts in_X1 tyX1 tyX1_ok nmX1 hown hK hP hD hS 0 rfl rfl 4 (by decide) lk5 (fun _ h9 => h9) rfl hin rfl (by decide +kernel) rfl rfl (Nat.le_of_ble_eq_true rfl) dX1_init_17 (fun H locs hPn hDn hSn => ?_)
  clear hP hD hS
  replace hP := hPn
  replace hD := hDn
  replace hS := hSn
  clear hPn hDn hSn
  replace hP : va_P (eD E) vwCl [(q, .inr (1, [.int 0, .int 0, .int 0, .ref q7, .ref q15, .int 0, .null, .null, .null, .null, .null])), (q7, .inl (eI E, 24, .inl (fun _ => 0))), (q15, .inl (eI E, 24, .inl (fun _ => 0)))] H := hP
  replace hD := wd_re hP hD
  refine lv_aload_n hx hb dX1_init_20 rfl (lv_at hl 0 rfl) ?_
  refine lv_iconst (v := 3) hx hb dX1_init_21 (by decide) ?_
  refine ct_newM hx hb hown lk6 hC.2.1 hK hP hD hS hA 3 (by decide) (by decide) (by decide) (Nat.le_of_ble_eq_true rfl) (Nat.le_of_ble_eq_true rfl) dX1_init_22 (fun q22 H hPn hDn hSn => ?_)
  clear hP hD hS
  replace hP := hPn
  replace hD := hDn
  replace hS := hSn
  clear hPn hDn hSn
  replace hP : va_P (eD E) vwCl [(q, .inr (1, [.int 0, .int 0, .int 0, .ref q7, .ref q15, .int 0, .null, .null, .null, .null, .null])), (q7, .inl (eI E, 24, .inl (fun _ => 0))), (q15, .inl (eI E, 24, .inl (fun _ => 0))), (q22, .inl (eM E, 3, .inr (.inr (.inr (.inr (fun _ => none))))))] H := hP
  replace hD := wd_re hP hD
  refine W.widen (k := 3) (n := 51) (Nat.le_of_ble_eq_true rfl) (Nat.le_of_ble_eq_true rfl) ?_
  refine va_putF (D := eD E) (ci := 1) (v := .ref q22) (ty := (.array (.object "TidedGround$Moon"))) (C := RX1) (T := TX1) (N := 11) hx hb hts in_X1 tyX1 tyX1_ok nmX1 hown hK hP hD hS 0 rfl rfl 6 (by decide) lk7 (fun _ h9 => h9) rfl hin rfl (by decide +kernel) rfl rfl (Nat.le_of_ble_eq_true rfl) dX1_init_25 (fun H locs hPn hDn hSn => ?_)
  clear hP hD hS
  replace hP := hPn
  replace hD := hDn
  replace hS := hSn
  clear hPn hDn hSn
  replace hP : va_P (eD E) vwCl [(q, .inr (1, [.int 0, .int 0, .int 0, .ref q7, .ref q15, .int 0, .ref q22, .null, .null, .null, .null])), (q7, .inl (eI E, 24, .inl (fun _ => 0))), (q15, .inl (eI E, 24, .inl (fun _ => 0))), (q22, .inl (eM E, 3, .inr (.inr (.inr (.inr (fun _ => none))))))] H := hP
  replace hD := wd_re hP hD
  refine lv_aload_n hx hb dX1_init_28 rfl (lv_at hl 0 rfl) ?_
  refine va_new (ci := 5) (fs := [.int 0, .null, .null, .null]) (C := RX5) (T := TX5) (N := 4) hx hb hts in_X5 tyX5 tyX5_ok hown lk8 lk9 lk10 hK hP hD hS hA rfl (fun j hj => by rcases (show j = 0 ∨ j = 1 ∨ j = 2 ∨ j = 3 by omega) with rfl | rfl | rfl | rfl <;> rfl) (Nat.le_of_ble_eq_true rfl) (Nat.le_of_ble_eq_true rfl) dX1_init_29 (fun q29 H hPn hDn hSn => ?_)
  clear hP hD hS
  replace hP := hPn
  replace hD := hDn
  replace hS := hSn
  clear hPn hDn hSn
  replace hP : va_P (eD E) vwCl [(q, .inr (1, [.int 0, .int 0, .int 0, .ref q7, .ref q15, .int 0, .ref q22, .null, .null, .null, .null])), (q7, .inl (eI E, 24, .inl (fun _ => 0))), (q15, .inl (eI E, 24, .inl (fun _ => 0))), (q22, .inl (eM E, 3, .inr (.inr (.inr (.inr (fun _ => none)))))), (q29, .inr (5, [.int 0, .null, .null, .null]))] H := hP
  replace hD := wd_re hP hD
  refine W.widen (k := 4) (n := 55) (Nat.le_of_ble_eq_true rfl) (Nat.le_of_ble_eq_true rfl) ?_
  refine lv_dup hx hb dX1_init_32 rfl ?_
  refine ct_IN (w1 := fun (u : Nat × Nat × Nat) => [(q29, .inr (5, [.int 0, .ref u.1, .ref u.2.1, .ref u.2.2])), (u.1, .inl (eI E, 6, .inl (fun _ => 0))), (u.2.1, .inl (eI E, 6, .inl (fun _ => 0))), (u.2.2, .inl (eI E, 6, .inl (fun _ => 0)))]) (wc := [(q29, .inr (5, [.int 0, .null, .null, .null]))]) (wr := [(q, .inr (1, [.int 0, .int 0, .int 0, .ref q7, .ref q15, .int 0, .ref q22, .null, .null, .null, .null])), (q7, .inl (eI E, 24, .inl (fun _ => 0))), (q15, .inl (eI E, 24, .inl (fun _ => 0))), (q22, .inl (eM E, 3, .inr (.inr (.inr (.inr (fun _ => none))))))]) (As := []) (rest := [.ref q29, .ref q]) ⟨hx, hb, hml, hown, hts⟩ (c_X5_init l E H.size q29) ⟨va_cnB 0 hts gX1_init_X5_init_n26 rfl rfl rfl (hE.2.2.2.2.2.2.2 _ (List.mem_of_getElem? (i := 2) rfl)) lk10 (by decide +kernel) ⟨(Nat.le_of_ble_eq_true rfl), (Nat.le_of_ble_eq_true rfl)⟩, rfl, lk11⟩ hC hS hA hP hD [4] [0, 1, 2, 3] rfl rfl (by decide) (by decide) (by decide) rfl hl.1 rfl (Nat.le_of_ble_eq_true rfl) dX1_init_33 ⟨(Nat.le_of_ble_eq_true rfl), (Nat.le_of_ble_eq_true rfl)⟩ (fun u33 H locs hu33 hPn hDn hSn => ?_)
  obtain ⟨z33_0, z33_1, z33_2⟩ := u33
  replace hP := hPn
  replace hD := hDn
  replace hS := hSn
  clear hPn hDn hSn
  replace hP : va_P (eD E) vwCl [(q, .inr (1, [.int 0, .int 0, .int 0, .ref q7, .ref q15, .int 0, .ref q22, .null, .null, .null, .null])), (q7, .inl (eI E, 24, .inl (fun _ => 0))), (q15, .inl (eI E, 24, .inl (fun _ => 0))), (q22, .inl (eM E, 3, .inr (.inr (.inr (.inr (fun _ => none)))))), (q29, .inr (5, [.int 0, .ref z33_0, .ref z33_1, .ref z33_2])), (z33_0, .inl (eI E, 6, .inl (fun _ => 0))), (z33_1, .inl (eI E, 6, .inl (fun _ => 0))), (z33_2, .inl (eI E, 6, .inl (fun _ => 0)))] H := hP
  replace hD := wd_re hP hD
  refine W.widen (k := 7) (n := 73) (Nat.le_of_ble_eq_true rfl) (Nat.le_of_ble_eq_true rfl) ?_
  refine va_putF (D := eD E) (ci := 1) (v := .ref q29) (ty := (.object "TidedGround$Sites")) (C := RX1) (T := TX1) (N := 11) hx hb hts in_X1 tyX1 tyX1_ok nmX1 hown hK hP hD hS 0 rfl rfl 7 (by decide) lk12 (fun _ h9 => h9) rfl hin rfl (by decide +kernel) rfl rfl (Nat.le_of_ble_eq_true rfl) dX1_init_36 (fun H locs hPn hDn hSn => ?_)
  clear hP hD hS
  replace hP := hPn
  replace hD := hDn
  replace hS := hSn
  clear hPn hDn hSn
  replace hP : va_P (eD E) vwCl [(q, .inr (1, [.int 0, .int 0, .int 0, .ref q7, .ref q15, .int 0, .ref q22, .ref q29, .null, .null, .null])), (q7, .inl (eI E, 24, .inl (fun _ => 0))), (q15, .inl (eI E, 24, .inl (fun _ => 0))), (q22, .inl (eM E, 3, .inr (.inr (.inr (.inr (fun _ => none)))))), (q29, .inr (5, [.int 0, .ref z33_0, .ref z33_1, .ref z33_2])), (z33_0, .inl (eI E, 6, .inl (fun _ => 0))), (z33_1, .inl (eI E, 6, .inl (fun _ => 0))), (z33_2, .inl (eI E, 6, .inl (fun _ => 0)))] H := hP
  replace hD := wd_re hP hD
  refine lv_aload_n hx hb dX1_init_39 rfl (lv_at hl 0 rfl) ?_
  refine va_new (ci := 5) (fs := [.int 0, .null, .null, .null]) (C := RX5) (T := TX5) (N := 4) hx hb hts in_X5 tyX5 tyX5_ok hown lk8 lk9 lk10 hK hP hD hS hA rfl (fun j hj => by rcases (show j = 0 ∨ j = 1 ∨ j = 2 ∨ j = 3 by omega) with rfl | rfl | rfl | rfl <;> rfl) (Nat.le_of_ble_eq_true rfl) (Nat.le_of_ble_eq_true rfl) dX1_init_40 (fun q40 H hPn hDn hSn => ?_)
  clear hP hD hS
  replace hP := hPn
  replace hD := hDn
  replace hS := hSn
  clear hPn hDn hSn
  replace hP : va_P (eD E) vwCl [(q, .inr (1, [.int 0, .int 0, .int 0, .ref q7, .ref q15, .int 0, .ref q22, .ref q29, .null, .null, .null])), (q7, .inl (eI E, 24, .inl (fun _ => 0))), (q15, .inl (eI E, 24, .inl (fun _ => 0))), (q22, .inl (eM E, 3, .inr (.inr (.inr (.inr (fun _ => none)))))), (q29, .inr (5, [.int 0, .ref z33_0, .ref z33_1, .ref z33_2])), (z33_0, .inl (eI E, 6, .inl (fun _ => 0))), (z33_1, .inl (eI E, 6, .inl (fun _ => 0))), (z33_2, .inl (eI E, 6, .inl (fun _ => 0))), (q40, .inr (5, [.int 0, .null, .null, .null]))] H := hP
  replace hD := wd_re hP hD
  refine W.widen (k := 8) (n := 77) (Nat.le_of_ble_eq_true rfl) (Nat.le_of_ble_eq_true rfl) ?_
  refine lv_dup hx hb dX1_init_43 rfl ?_
  refine ct_IN (w1 := fun (u : Nat × Nat × Nat) => [(q40, .inr (5, [.int 0, .ref u.1, .ref u.2.1, .ref u.2.2])), (u.1, .inl (eI E, 6, .inl (fun _ => 0))), (u.2.1, .inl (eI E, 6, .inl (fun _ => 0))), (u.2.2, .inl (eI E, 6, .inl (fun _ => 0)))]) (wc := [(q40, .inr (5, [.int 0, .null, .null, .null]))]) (wr := [(q, .inr (1, [.int 0, .int 0, .int 0, .ref q7, .ref q15, .int 0, .ref q22, .ref q29, .null, .null, .null])), (q7, .inl (eI E, 24, .inl (fun _ => 0))), (q15, .inl (eI E, 24, .inl (fun _ => 0))), (q22, .inl (eM E, 3, .inr (.inr (.inr (.inr (fun _ => none)))))), (q29, .inr (5, [.int 0, .ref z33_0, .ref z33_1, .ref z33_2])), (z33_0, .inl (eI E, 6, .inl (fun _ => 0))), (z33_1, .inl (eI E, 6, .inl (fun _ => 0))), (z33_2, .inl (eI E, 6, .inl (fun _ => 0)))]) (As := []) (rest := [.ref q40, .ref q]) ⟨hx, hb, hml, hown, hts⟩ (c_X5_init l E H.size q40) ⟨va_cnB 0 hts gX1_init_X5_init_n26 rfl rfl rfl (hE.2.2.2.2.2.2.2 _ (List.mem_of_getElem? (i := 2) rfl)) lk10 (by decide +kernel) ⟨(Nat.le_of_ble_eq_true rfl), (Nat.le_of_ble_eq_true rfl)⟩, rfl, lk11⟩ hC hS hA hP hD [8] [0, 1, 2, 3, 4, 5, 6, 7] rfl rfl (by decide) (by decide) (by decide) rfl hl.1 rfl (Nat.le_of_ble_eq_true rfl) dX1_init_44 ⟨(Nat.le_of_ble_eq_true rfl), (Nat.le_of_ble_eq_true rfl)⟩ (fun u44 H locs hu44 hPn hDn hSn => ?_)
  obtain ⟨z44_0, z44_1, z44_2⟩ := u44
  replace hP := hPn
  replace hD := hDn
  replace hS := hSn
  clear hPn hDn hSn
  replace hP : va_P (eD E) vwCl [(q, .inr (1, [.int 0, .int 0, .int 0, .ref q7, .ref q15, .int 0, .ref q22, .ref q29, .null, .null, .null])), (q7, .inl (eI E, 24, .inl (fun _ => 0))), (q15, .inl (eI E, 24, .inl (fun _ => 0))), (q22, .inl (eM E, 3, .inr (.inr (.inr (.inr (fun _ => none)))))), (q29, .inr (5, [.int 0, .ref z33_0, .ref z33_1, .ref z33_2])), (z33_0, .inl (eI E, 6, .inl (fun _ => 0))), (z33_1, .inl (eI E, 6, .inl (fun _ => 0))), (z33_2, .inl (eI E, 6, .inl (fun _ => 0))), (q40, .inr (5, [.int 0, .ref z44_0, .ref z44_1, .ref z44_2])), (z44_0, .inl (eI E, 6, .inl (fun _ => 0))), (z44_1, .inl (eI E, 6, .inl (fun _ => 0))), (z44_2, .inl (eI E, 6, .inl (fun _ => 0)))] H := hP
  replace hD := wd_re hP hD
  refine W.widen (k := 11) (n := 95) (Nat.le_of_ble_eq_true rfl) (Nat.le_of_ble_eq_true rfl) ?_
  refine va_putF (D := eD E) (ci := 1) (v := .ref q40) (ty := (.object "TidedGround$Sites")) (C := RX1) (T := TX1) (N := 11) hx hb hts in_X1 tyX1 tyX1_ok nmX1 hown hK hP hD hS 0 rfl rfl 8 (by decide) lk13 (fun _ h9 => h9) rfl hin rfl (by decide +kernel) rfl rfl (Nat.le_of_ble_eq_true rfl) dX1_init_47 (fun H locs hPn hDn hSn => ?_)
  clear hP hD hS
  replace hP := hPn
  replace hD := hDn
  replace hS := hSn
  clear hPn hDn hSn
  replace hP : va_P (eD E) vwCl [(q, .inr (1, [.int 0, .int 0, .int 0, .ref q7, .ref q15, .int 0, .ref q22, .ref q29, .ref q40, .null, .null])), (q7, .inl (eI E, 24, .inl (fun _ => 0))), (q15, .inl (eI E, 24, .inl (fun _ => 0))), (q22, .inl (eM E, 3, .inr (.inr (.inr (.inr (fun _ => none)))))), (q29, .inr (5, [.int 0, .ref z33_0, .ref z33_1, .ref z33_2])), (z33_0, .inl (eI E, 6, .inl (fun _ => 0))), (z33_1, .inl (eI E, 6, .inl (fun _ => 0))), (z33_2, .inl (eI E, 6, .inl (fun _ => 0))), (q40, .inr (5, [.int 0, .ref z44_0, .ref z44_1, .ref z44_2])), (z44_0, .inl (eI E, 6, .inl (fun _ => 0))), (z44_1, .inl (eI E, 6, .inl (fun _ => 0))), (z44_2, .inl (eI E, 6, .inl (fun _ => 0)))] H := hP
  replace hD := wd_re hP hD
  refine lv_aload_n hx hb dX1_init_50 rfl (lv_at hl 0 rfl) ?_
  refine va_new (ci := 5) (fs := [.int 0, .null, .null, .null]) (C := RX5) (T := TX5) (N := 4) hx hb hts in_X5 tyX5 tyX5_ok hown lk8 lk9 lk10 hK hP hD hS hA rfl (fun j hj => by rcases (show j = 0 ∨ j = 1 ∨ j = 2 ∨ j = 3 by omega) with rfl | rfl | rfl | rfl <;> rfl) (Nat.le_of_ble_eq_true rfl) (Nat.le_of_ble_eq_true rfl) dX1_init_51 (fun q51 H hPn hDn hSn => ?_)
  clear hP hD hS
  replace hP := hPn
  replace hD := hDn
  replace hS := hSn
  clear hPn hDn hSn
  replace hP : va_P (eD E) vwCl [(q, .inr (1, [.int 0, .int 0, .int 0, .ref q7, .ref q15, .int 0, .ref q22, .ref q29, .ref q40, .null, .null])), (q7, .inl (eI E, 24, .inl (fun _ => 0))), (q15, .inl (eI E, 24, .inl (fun _ => 0))), (q22, .inl (eM E, 3, .inr (.inr (.inr (.inr (fun _ => none)))))), (q29, .inr (5, [.int 0, .ref z33_0, .ref z33_1, .ref z33_2])), (z33_0, .inl (eI E, 6, .inl (fun _ => 0))), (z33_1, .inl (eI E, 6, .inl (fun _ => 0))), (z33_2, .inl (eI E, 6, .inl (fun _ => 0))), (q40, .inr (5, [.int 0, .ref z44_0, .ref z44_1, .ref z44_2])), (z44_0, .inl (eI E, 6, .inl (fun _ => 0))), (z44_1, .inl (eI E, 6, .inl (fun _ => 0))), (z44_2, .inl (eI E, 6, .inl (fun _ => 0))), (q51, .inr (5, [.int 0, .null, .null, .null]))] H := hP
  replace hD := wd_re hP hD
  refine W.widen (k := 12) (n := 99) (Nat.le_of_ble_eq_true rfl) (Nat.le_of_ble_eq_true rfl) ?_
  refine lv_dup hx hb dX1_init_54 rfl ?_
  refine ct_IN (w1 := fun (u : Nat × Nat × Nat) => [(q51, .inr (5, [.int 0, .ref u.1, .ref u.2.1, .ref u.2.2])), (u.1, .inl (eI E, 6, .inl (fun _ => 0))), (u.2.1, .inl (eI E, 6, .inl (fun _ => 0))), (u.2.2, .inl (eI E, 6, .inl (fun _ => 0)))]) (wc := [(q51, .inr (5, [.int 0, .null, .null, .null]))]) (wr := [(q, .inr (1, [.int 0, .int 0, .int 0, .ref q7, .ref q15, .int 0, .ref q22, .ref q29, .ref q40, .null, .null])), (q7, .inl (eI E, 24, .inl (fun _ => 0))), (q15, .inl (eI E, 24, .inl (fun _ => 0))), (q22, .inl (eM E, 3, .inr (.inr (.inr (.inr (fun _ => none)))))), (q29, .inr (5, [.int 0, .ref z33_0, .ref z33_1, .ref z33_2])), (z33_0, .inl (eI E, 6, .inl (fun _ => 0))), (z33_1, .inl (eI E, 6, .inl (fun _ => 0))), (z33_2, .inl (eI E, 6, .inl (fun _ => 0))), (q40, .inr (5, [.int 0, .ref z44_0, .ref z44_1, .ref z44_2])), (z44_0, .inl (eI E, 6, .inl (fun _ => 0))), (z44_1, .inl (eI E, 6, .inl (fun _ => 0))), (z44_2, .inl (eI E, 6, .inl (fun _ => 0)))]) (As := []) (rest := [.ref q51, .ref q]) ⟨hx, hb, hml, hown, hts⟩ (c_X5_init l E H.size q51) ⟨va_cnB 0 hts gX1_init_X5_init_n26 rfl rfl rfl (hE.2.2.2.2.2.2.2 _ (List.mem_of_getElem? (i := 2) rfl)) lk10 (by decide +kernel) ⟨(Nat.le_of_ble_eq_true rfl), (Nat.le_of_ble_eq_true rfl)⟩, rfl, lk11⟩ hC hS hA hP hD [12] [0, 1, 2, 3, 4, 5, 6, 7, 8, 9, 10, 11] rfl rfl (by decide) (by decide) (by decide) rfl hl.1 rfl (Nat.le_of_ble_eq_true rfl) dX1_init_55 ⟨(Nat.le_of_ble_eq_true rfl), (Nat.le_of_ble_eq_true rfl)⟩ (fun u55 H locs hu55 hPn hDn hSn => ?_)
  obtain ⟨z55_0, z55_1, z55_2⟩ := u55
  replace hP := hPn
  replace hD := hDn
  replace hS := hSn
  clear hPn hDn hSn
  replace hP : va_P (eD E) vwCl [(q, .inr (1, [.int 0, .int 0, .int 0, .ref q7, .ref q15, .int 0, .ref q22, .ref q29, .ref q40, .null, .null])), (q7, .inl (eI E, 24, .inl (fun _ => 0))), (q15, .inl (eI E, 24, .inl (fun _ => 0))), (q22, .inl (eM E, 3, .inr (.inr (.inr (.inr (fun _ => none)))))), (q29, .inr (5, [.int 0, .ref z33_0, .ref z33_1, .ref z33_2])), (z33_0, .inl (eI E, 6, .inl (fun _ => 0))), (z33_1, .inl (eI E, 6, .inl (fun _ => 0))), (z33_2, .inl (eI E, 6, .inl (fun _ => 0))), (q40, .inr (5, [.int 0, .ref z44_0, .ref z44_1, .ref z44_2])), (z44_0, .inl (eI E, 6, .inl (fun _ => 0))), (z44_1, .inl (eI E, 6, .inl (fun _ => 0))), (z44_2, .inl (eI E, 6, .inl (fun _ => 0))), (q51, .inr (5, [.int 0, .ref z55_0, .ref z55_1, .ref z55_2])), (z55_0, .inl (eI E, 6, .inl (fun _ => 0))), (z55_1, .inl (eI E, 6, .inl (fun _ => 0))), (z55_2, .inl (eI E, 6, .inl (fun _ => 0)))] H := hP
  replace hD := wd_re hP hD
  refine W.widen (k := 15) (n := 117) (Nat.le_of_ble_eq_true rfl) (Nat.le_of_ble_eq_true rfl) ?_
  refine va_putF (D := eD E) (ci := 1) (v := .ref q51) (ty := (.object "TidedGround$Sites")) (C := RX1) (T := TX1) (N := 11) hx hb hts in_X1 tyX1 tyX1_ok nmX1 hown hK hP hD hS 0 rfl rfl 9 (by decide) lk14 (fun _ h9 => h9) rfl hin rfl (by decide +kernel) rfl rfl (Nat.le_of_ble_eq_true rfl) dX1_init_58 (fun H locs hPn hDn hSn => ?_)
  clear hP hD hS
  replace hP := hPn
  replace hD := hDn
  replace hS := hSn
  clear hPn hDn hSn
  replace hP : va_P (eD E) vwCl [(q, .inr (1, [.int 0, .int 0, .int 0, .ref q7, .ref q15, .int 0, .ref q22, .ref q29, .ref q40, .ref q51, .null])), (q7, .inl (eI E, 24, .inl (fun _ => 0))), (q15, .inl (eI E, 24, .inl (fun _ => 0))), (q22, .inl (eM E, 3, .inr (.inr (.inr (.inr (fun _ => none)))))), (q29, .inr (5, [.int 0, .ref z33_0, .ref z33_1, .ref z33_2])), (z33_0, .inl (eI E, 6, .inl (fun _ => 0))), (z33_1, .inl (eI E, 6, .inl (fun _ => 0))), (z33_2, .inl (eI E, 6, .inl (fun _ => 0))), (q40, .inr (5, [.int 0, .ref z44_0, .ref z44_1, .ref z44_2])), (z44_0, .inl (eI E, 6, .inl (fun _ => 0))), (z44_1, .inl (eI E, 6, .inl (fun _ => 0))), (z44_2, .inl (eI E, 6, .inl (fun _ => 0))), (q51, .inr (5, [.int 0, .ref z55_0, .ref z55_1, .ref z55_2])), (z55_0, .inl (eI E, 6, .inl (fun _ => 0))), (z55_1, .inl (eI E, 6, .inl (fun _ => 0))), (z55_2, .inl (eI E, 6, .inl (fun _ => 0)))] H := hP
  replace hD := wd_re hP hD
  refine lv_aload_n hx hb dX1_init_61 rfl (lv_at hl 0 rfl) ?_
  refine va_new (ci := 5) (fs := [.int 0, .null, .null, .null]) (C := RX5) (T := TX5) (N := 4) hx hb hts in_X5 tyX5 tyX5_ok hown lk8 lk9 lk10 hK hP hD hS hA rfl (fun j hj => by rcases (show j = 0 ∨ j = 1 ∨ j = 2 ∨ j = 3 by omega) with rfl | rfl | rfl | rfl <;> rfl) (Nat.le_of_ble_eq_true rfl) (Nat.le_of_ble_eq_true rfl) dX1_init_62 (fun q62 H hPn hDn hSn => ?_)
  clear hP hD hS
  replace hP := hPn
  replace hD := hDn
  replace hS := hSn
  clear hPn hDn hSn
  replace hP : va_P (eD E) vwCl [(q, .inr (1, [.int 0, .int 0, .int 0, .ref q7, .ref q15, .int 0, .ref q22, .ref q29, .ref q40, .ref q51, .null])), (q7, .inl (eI E, 24, .inl (fun _ => 0))), (q15, .inl (eI E, 24, .inl (fun _ => 0))), (q22, .inl (eM E, 3, .inr (.inr (.inr (.inr (fun _ => none)))))), (q29, .inr (5, [.int 0, .ref z33_0, .ref z33_1, .ref z33_2])), (z33_0, .inl (eI E, 6, .inl (fun _ => 0))), (z33_1, .inl (eI E, 6, .inl (fun _ => 0))), (z33_2, .inl (eI E, 6, .inl (fun _ => 0))), (q40, .inr (5, [.int 0, .ref z44_0, .ref z44_1, .ref z44_2])), (z44_0, .inl (eI E, 6, .inl (fun _ => 0))), (z44_1, .inl (eI E, 6, .inl (fun _ => 0))), (z44_2, .inl (eI E, 6, .inl (fun _ => 0))), (q51, .inr (5, [.int 0, .ref z55_0, .ref z55_1, .ref z55_2])), (z55_0, .inl (eI E, 6, .inl (fun _ => 0))), (z55_1, .inl (eI E, 6, .inl (fun _ => 0))), (z55_2, .inl (eI E, 6, .inl (fun _ => 0))), (q62, .inr (5, [.int 0, .null, .null, .null]))] H := hP
  replace hD := wd_re hP hD
  refine W.widen (k := 16) (n := 121) (Nat.le_of_ble_eq_true rfl) (Nat.le_of_ble_eq_true rfl) ?_
  refine lv_dup hx hb dX1_init_65 rfl ?_
  refine ct_IN (w1 := fun (u : Nat × Nat × Nat) => [(q62, .inr (5, [.int 0, .ref u.1, .ref u.2.1, .ref u.2.2])), (u.1, .inl (eI E, 6, .inl (fun _ => 0))), (u.2.1, .inl (eI E, 6, .inl (fun _ => 0))), (u.2.2, .inl (eI E, 6, .inl (fun _ => 0)))]) (wc := [(q62, .inr (5, [.int 0, .null, .null, .null]))]) (wr := [(q, .inr (1, [.int 0, .int 0, .int 0, .ref q7, .ref q15, .int 0, .ref q22, .ref q29, .ref q40, .ref q51, .null])), (q7, .inl (eI E, 24, .inl (fun _ => 0))), (q15, .inl (eI E, 24, .inl (fun _ => 0))), (q22, .inl (eM E, 3, .inr (.inr (.inr (.inr (fun _ => none)))))), (q29, .inr (5, [.int 0, .ref z33_0, .ref z33_1, .ref z33_2])), (z33_0, .inl (eI E, 6, .inl (fun _ => 0))), (z33_1, .inl (eI E, 6, .inl (fun _ => 0))), (z33_2, .inl (eI E, 6, .inl (fun _ => 0))), (q40, .inr (5, [.int 0, .ref z44_0, .ref z44_1, .ref z44_2])), (z44_0, .inl (eI E, 6, .inl (fun _ => 0))), (z44_1, .inl (eI E, 6, .inl (fun _ => 0))), (z44_2, .inl (eI E, 6, .inl (fun _ => 0))), (q51, .inr (5, [.int 0, .ref z55_0, .ref z55_1, .ref z55_2])), (z55_0, .inl (eI E, 6, .inl (fun _ => 0))), (z55_1, .inl (eI E, 6, .inl (fun _ => 0))), (z55_2, .inl (eI E, 6, .inl (fun _ => 0)))]) (As := []) (rest := [.ref q62, .ref q]) ⟨hx, hb, hml, hown, hts⟩ (c_X5_init l E H.size q62) ⟨va_cnB 0 hts gX1_init_X5_init_n26 rfl rfl rfl (hE.2.2.2.2.2.2.2 _ (List.mem_of_getElem? (i := 2) rfl)) lk10 (by decide +kernel) ⟨(Nat.le_of_ble_eq_true rfl), (Nat.le_of_ble_eq_true rfl)⟩, rfl, lk11⟩ hC hS hA hP hD [16] [0, 1, 2, 3, 4, 5, 6, 7, 8, 9, 10, 11, 12, 13, 14, 15] rfl rfl (by decide) (by decide) (by decide) rfl hl.1 rfl (Nat.le_of_ble_eq_true rfl) dX1_init_66 ⟨(Nat.le_of_ble_eq_true rfl), (Nat.le_of_ble_eq_true rfl)⟩ (fun u66 H locs hu66 hPn hDn hSn => ?_)
  obtain ⟨z66_0, z66_1, z66_2⟩ := u66
  replace hP := hPn
  replace hD := hDn
  replace hS := hSn
  clear hPn hDn hSn
  replace hP : va_P (eD E) vwCl [(q, .inr (1, [.int 0, .int 0, .int 0, .ref q7, .ref q15, .int 0, .ref q22, .ref q29, .ref q40, .ref q51, .null])), (q7, .inl (eI E, 24, .inl (fun _ => 0))), (q15, .inl (eI E, 24, .inl (fun _ => 0))), (q22, .inl (eM E, 3, .inr (.inr (.inr (.inr (fun _ => none)))))), (q29, .inr (5, [.int 0, .ref z33_0, .ref z33_1, .ref z33_2])), (z33_0, .inl (eI E, 6, .inl (fun _ => 0))), (z33_1, .inl (eI E, 6, .inl (fun _ => 0))), (z33_2, .inl (eI E, 6, .inl (fun _ => 0))), (q40, .inr (5, [.int 0, .ref z44_0, .ref z44_1, .ref z44_2])), (z44_0, .inl (eI E, 6, .inl (fun _ => 0))), (z44_1, .inl (eI E, 6, .inl (fun _ => 0))), (z44_2, .inl (eI E, 6, .inl (fun _ => 0))), (q51, .inr (5, [.int 0, .ref z55_0, .ref z55_1, .ref z55_2])), (z55_0, .inl (eI E, 6, .inl (fun _ => 0))), (z55_1, .inl (eI E, 6, .inl (fun _ => 0))), (z55_2, .inl (eI E, 6, .inl (fun _ => 0))), (q62, .inr (5, [.int 0, .ref z66_0, .ref z66_1, .ref z66_2])), (z66_0, .inl (eI E, 6, .inl (fun _ => 0))), (z66_1, .inl (eI E, 6, .inl (fun _ => 0))), (z66_2, .inl (eI E, 6, .inl (fun _ => 0)))] H := hP
  replace hD := wd_re hP hD
  refine W.widen (k := 19) (n := 139) (Nat.le_of_ble_eq_true rfl) (Nat.le_of_ble_eq_true rfl) ?_
  refine va_putF (D := eD E) (ci := 1) (v := .ref q62) (ty := (.object "TidedGround$Sites")) (C := RX1) (T := TX1) (N := 11) hx hb hts in_X1 tyX1 tyX1_ok nmX1 hown hK hP hD hS 0 rfl rfl 10 (by decide) lk15 (fun _ h9 => h9) rfl hin rfl (by decide +kernel) rfl rfl (Nat.le_of_ble_eq_true rfl) dX1_init_69 (fun H locs hPn hDn hSn => ?_)
  clear hP hD hS
  replace hP := hPn
  replace hD := hDn
  replace hS := hSn
  clear hPn hDn hSn
  replace hP : va_P (eD E) vwCl [(q, .inr (1, [.int 0, .int 0, .int 0, .ref q7, .ref q15, .int 0, .ref q22, .ref q29, .ref q40, .ref q51, .ref q62])), (q7, .inl (eI E, 24, .inl (fun _ => 0))), (q15, .inl (eI E, 24, .inl (fun _ => 0))), (q22, .inl (eM E, 3, .inr (.inr (.inr (.inr (fun _ => none)))))), (q29, .inr (5, [.int 0, .ref z33_0, .ref z33_1, .ref z33_2])), (z33_0, .inl (eI E, 6, .inl (fun _ => 0))), (z33_1, .inl (eI E, 6, .inl (fun _ => 0))), (z33_2, .inl (eI E, 6, .inl (fun _ => 0))), (q40, .inr (5, [.int 0, .ref z44_0, .ref z44_1, .ref z44_2])), (z44_0, .inl (eI E, 6, .inl (fun _ => 0))), (z44_1, .inl (eI E, 6, .inl (fun _ => 0))), (z44_2, .inl (eI E, 6, .inl (fun _ => 0))), (q51, .inr (5, [.int 0, .ref z55_0, .ref z55_1, .ref z55_2])), (z55_0, .inl (eI E, 6, .inl (fun _ => 0))), (z55_1, .inl (eI E, 6, .inl (fun _ => 0))), (z55_2, .inl (eI E, 6, .inl (fun _ => 0))), (q62, .inr (5, [.int 0, .ref z66_0, .ref z66_1, .ref z66_2])), (z66_0, .inl (eI E, 6, .inl (fun _ => 0))), (z66_1, .inl (eI E, 6, .inl (fun _ => 0))), (z66_2, .inl (eI E, 6, .inl (fun _ => 0)))] H := hP
  replace hD := wd_re hP hD
  refine lv_iconst (v := 0) hx hb dX1_init_72 (by decide) ?_
  refine lv_istore_n (lv' := [(1, .int 0), (0, .ref q)]) hx hb dX1_init_73 rfl hl (by decide) rfl (fun ls hl => ?_)
  refine lv_iload_n hx hb dX1_init_74 rfl (lv_at hl 0 rfl) ?_
  refine lv_iconst (v := 3) hx hb dX1_init_75 (by decide) ?_
  refine lv_icmp_ge (tgt := 98) hx hb dX1_init_76 (by decide) (fun q => absurd q (by decide)) (fun _ => ?_)
  refine lv_aload_n hx hb dX1_init_79 rfl (lv_at hl 1 rfl) ?_
  refine va_get (D := eD E) (ci := 1) (v := .ref q22) (C := RX1) (T := TX1) (N := 11) hx hb hts in_X1 hown hK hP 0 rfl rfl 6 (by decide) lk7 (fun _ h9 => h9) rfl dX1_init_80 ?_
  refine lv_iload_n hx hb dX1_init_83 rfl (lv_at hl 0 rfl) ?_
  refine va_new (ci := 0) (fs := [.int 0, .int 0, .int 0, .null, .null]) (C := RX0) (T := TX0) (N := 5) hx hb hts in_X0 tyX0 tyX0_ok hown lk6 lk16 lk17 hK hP hD hS hA rfl (fun j hj => by rcases (show j = 0 ∨ j = 1 ∨ j = 2 ∨ j = 3 ∨ j = 4 by omega) with rfl | rfl | rfl | rfl | rfl <;> rfl) (Nat.le_of_ble_eq_true rfl) (Nat.le_of_ble_eq_true rfl) dX1_init_84 (fun q84 H hPn hDn hSn => ?_)
  clear hP hD hS
  replace hP := hPn
  replace hD := hDn
  replace hS := hSn
  clear hPn hDn hSn
  replace hP : va_P (eD E) vwCl [(q, .inr (1, [.int 0, .int 0, .int 0, .ref q7, .ref q15, .int 0, .ref q22, .ref q29, .ref q40, .ref q51, .ref q62])), (q7, .inl (eI E, 24, .inl (fun _ => 0))), (q15, .inl (eI E, 24, .inl (fun _ => 0))), (q22, .inl (eM E, 3, .inr (.inr (.inr (.inr (fun _ => none)))))), (q29, .inr (5, [.int 0, .ref z33_0, .ref z33_1, .ref z33_2])), (z33_0, .inl (eI E, 6, .inl (fun _ => 0))), (z33_1, .inl (eI E, 6, .inl (fun _ => 0))), (z33_2, .inl (eI E, 6, .inl (fun _ => 0))), (q40, .inr (5, [.int 0, .ref z44_0, .ref z44_1, .ref z44_2])), (z44_0, .inl (eI E, 6, .inl (fun _ => 0))), (z44_1, .inl (eI E, 6, .inl (fun _ => 0))), (z44_2, .inl (eI E, 6, .inl (fun _ => 0))), (q51, .inr (5, [.int 0, .ref z55_0, .ref z55_1, .ref z55_2])), (z55_0, .inl (eI E, 6, .inl (fun _ => 0))), (z55_1, .inl (eI E, 6, .inl (fun _ => 0))), (z55_2, .inl (eI E, 6, .inl (fun _ => 0))), (q62, .inr (5, [.int 0, .ref z66_0, .ref z66_1, .ref z66_2])), (z66_0, .inl (eI E, 6, .inl (fun _ => 0))), (z66_1, .inl (eI E, 6, .inl (fun _ => 0))), (z66_2, .inl (eI E, 6, .inl (fun _ => 0))), (q84, .inr (0, [.int 0, .int 0, .int 0, .null, .null]))] H := hP
  replace hD := wd_re hP hD
  refine W.widen (k := 20) (n := 144) (Nat.le_of_ble_eq_true rfl) (Nat.le_of_ble_eq_true rfl) ?_
  refine lv_dup hx hb dX1_init_87 rfl ?_
  refine ct_IN (w1 := fun (u : Nat × Nat) => [(q84, .inr (0, [.int 0, .int 0, .int 0, .ref u.1, .ref u.2])), (u.1, .inl (eI E, 18, .inl (fun _ => 0))), (u.2, .inl (eI E, 24, .inl (fun _ => 0)))]) (wc := [(q84, .inr (0, [.int 0, .int 0, .int 0, .null, .null]))]) (wr := [(q, .inr (1, [.int 0, .int 0, .int 0, .ref q7, .ref q15, .int 0, .ref q22, .ref q29, .ref q40, .ref q51, .ref q62])), (q7, .inl (eI E, 24, .inl (fun _ => 0))), (q15, .inl (eI E, 24, .inl (fun _ => 0))), (q22, .inl (eM E, 3, .inr (.inr (.inr (.inr (fun _ => none)))))), (q29, .inr (5, [.int 0, .ref z33_0, .ref z33_1, .ref z33_2])), (z33_0, .inl (eI E, 6, .inl (fun _ => 0))), (z33_1, .inl (eI E, 6, .inl (fun _ => 0))), (z33_2, .inl (eI E, 6, .inl (fun _ => 0))), (q40, .inr (5, [.int 0, .ref z44_0, .ref z44_1, .ref z44_2])), (z44_0, .inl (eI E, 6, .inl (fun _ => 0))), (z44_1, .inl (eI E, 6, .inl (fun _ => 0))), (z44_2, .inl (eI E, 6, .inl (fun _ => 0))), (q51, .inr (5, [.int 0, .ref z55_0, .ref z55_1, .ref z55_2])), (z55_0, .inl (eI E, 6, .inl (fun _ => 0))), (z55_1, .inl (eI E, 6, .inl (fun _ => 0))), (z55_2, .inl (eI E, 6, .inl (fun _ => 0))), (q62, .inr (5, [.int 0, .ref z66_0, .ref z66_1, .ref z66_2])), (z66_0, .inl (eI E, 6, .inl (fun _ => 0))), (z66_1, .inl (eI E, 6, .inl (fun _ => 0))), (z66_2, .inl (eI E, 6, .inl (fun _ => 0)))]) (As := []) (rest := [.ref q84, .int 0, .ref q22]) ⟨hx, hb, hml, hown, hts⟩ (c_X0_init l E H.size q84) ⟨va_cnB 0 hts gX1_init_X0_init_n40 rfl rfl rfl (hE.2.2.2.2.2.2.2 _ (List.mem_of_getElem? (i := 3) rfl)) lk17 (by decide +kernel) ⟨(Nat.le_of_ble_eq_true rfl), (Nat.le_of_ble_eq_true rfl)⟩, rfl, lk18⟩ hC hS hA hP hD [20] [0, 1, 2, 3, 4, 5, 6, 7, 8, 9, 10, 11, 12, 13, 14, 15, 16, 17, 18, 19] rfl rfl (by decide) (by decide) (by decide) rfl hl.1 rfl (Nat.le_of_ble_eq_true rfl) dX1_init_88 ⟨(Nat.le_of_ble_eq_true rfl), (Nat.le_of_ble_eq_true rfl)⟩ (fun u88 H locs hu88 hPn hDn hSn => ?_)
  obtain ⟨z88_0, z88_1⟩ := u88
  replace hP := hPn
  replace hD := hDn
  replace hS := hSn
  clear hPn hDn hSn
  replace hP : va_P (eD E) vwCl [(q, .inr (1, [.int 0, .int 0, .int 0, .ref q7, .ref q15, .int 0, .ref q22, .ref q29, .ref q40, .ref q51, .ref q62])), (q7, .inl (eI E, 24, .inl (fun _ => 0))), (q15, .inl (eI E, 24, .inl (fun _ => 0))), (q22, .inl (eM E, 3, .inr (.inr (.inr (.inr (fun _ => none)))))), (q29, .inr (5, [.int 0, .ref z33_0, .ref z33_1, .ref z33_2])), (z33_0, .inl (eI E, 6, .inl (fun _ => 0))), (z33_1, .inl (eI E, 6, .inl (fun _ => 0))), (z33_2, .inl (eI E, 6, .inl (fun _ => 0))), (q40, .inr (5, [.int 0, .ref z44_0, .ref z44_1, .ref z44_2])), (z44_0, .inl (eI E, 6, .inl (fun _ => 0))), (z44_1, .inl (eI E, 6, .inl (fun _ => 0))), (z44_2, .inl (eI E, 6, .inl (fun _ => 0))), (q51, .inr (5, [.int 0, .ref z55_0, .ref z55_1, .ref z55_2])), (z55_0, .inl (eI E, 6, .inl (fun _ => 0))), (z55_1, .inl (eI E, 6, .inl (fun _ => 0))), (z55_2, .inl (eI E, 6, .inl (fun _ => 0))), (q62, .inr (5, [.int 0, .ref z66_0, .ref z66_1, .ref z66_2])), (z66_0, .inl (eI E, 6, .inl (fun _ => 0))), (z66_1, .inl (eI E, 6, .inl (fun _ => 0))), (z66_2, .inl (eI E, 6, .inl (fun _ => 0))), (q84, .inr (0, [.int 0, .int 0, .int 0, .ref z88_0, .ref z88_1])), (z88_0, .inl (eI E, 18, .inl (fun _ => 0))), (z88_1, .inl (eI E, 24, .inl (fun _ => 0)))] H := hP
  replace hD := wd_re hP hD
  refine W.widen (k := 22) (n := 186) (Nat.le_of_ble_eq_true rfl) (Nat.le_of_ble_eq_true rfl) ?_
  refine va_astq hx hb hK hP hD hS 3 2 20 0 rfl rfl rfl rfl (i_in (by decide) (by decide)) dX1_init_91 (fun H locs hPn hDn hSn => ?_)
  clear hP hD hS
  replace hP := hPn
  replace hD := hDn
  replace hS := hSn
  clear hPn hDn hSn
  replace hP : va_P (eD E) vwCl [(q, .inr (1, [.int 0, .int 0, .int 0, .ref q7, .ref q15, .int 0, .ref q22, .ref q29, .ref q40, .ref q51, .ref q62])), (q7, .inl (eI E, 24, .inl (fun _ => 0))), (q15, .inl (eI E, 24, .inl (fun _ => 0))), (q22, .inl (eM E, 3, .inr (.inr (.inr (.inr (va_up (fun _ => none) 0 (some q84))))))), (q29, .inr (5, [.int 0, .ref z33_0, .ref z33_1, .ref z33_2])), (z33_0, .inl (eI E, 6, .inl (fun _ => 0))), (z33_1, .inl (eI E, 6, .inl (fun _ => 0))), (z33_2, .inl (eI E, 6, .inl (fun _ => 0))), (q40, .inr (5, [.int 0, .ref z44_0, .ref z44_1, .ref z44_2])), (z44_0, .inl (eI E, 6, .inl (fun _ => 0))), (z44_1, .inl (eI E, 6, .inl (fun _ => 0))), (z44_2, .inl (eI E, 6, .inl (fun _ => 0))), (q51, .inr (5, [.int 0, .ref z55_0, .ref z55_1, .ref z55_2])), (z55_0, .inl (eI E, 6, .inl (fun _ => 0))), (z55_1, .inl (eI E, 6, .inl (fun _ => 0))), (z55_2, .inl (eI E, 6, .inl (fun _ => 0))), (q62, .inr (5, [.int 0, .ref z66_0, .ref z66_1, .ref z66_2])), (z66_0, .inl (eI E, 6, .inl (fun _ => 0))), (z66_1, .inl (eI E, 6, .inl (fun _ => 0))), (z66_2, .inl (eI E, 6, .inl (fun _ => 0))), (q84, .inr (0, [.int 0, .int 0, .int 0, .ref z88_0, .ref z88_1])), (z88_0, .inl (eI E, 18, .inl (fun _ => 0))), (z88_1, .inl (eI E, 24, .inl (fun _ => 0)))] H := hP
  replace hD := wd_re hP hD
  refine lv_iinc (v := 1) (lv' := [(1, .int 1), (0, .ref q)]) hx hb dX1_init_92 hl (k := 0) rfl (by decide) (by decide) rfl (fun ls hl => ?_)
  refine lv_goto (tgt := 74) hx hb dX1_init_95 (by decide) ?_
  refine lv_iload_n hx hb dX1_init_74 rfl (lv_at hl 0 rfl) ?_
  refine lv_iconst (v := 3) hx hb dX1_init_75 (by decide) ?_
  refine lv_icmp_ge (tgt := 98) hx hb dX1_init_76 (by decide) (fun q => absurd q (by decide)) (fun _ => ?_)
  refine lv_aload_n hx hb dX1_init_79 rfl (lv_at hl 1 rfl) ?_
  refine va_get (D := eD E) (ci := 1) (v := .ref q22) (C := RX1) (T := TX1) (N := 11) hx hb hts in_X1 hown hK hP 0 rfl rfl 6 (by decide) lk7 (fun _ h9 => h9) rfl dX1_init_80 ?_
  refine lv_iload_n hx hb dX1_init_83 rfl (lv_at hl 0 rfl) ?_
  refine va_new (ci := 0) (fs := [.int 0, .int 0, .int 0, .null, .null]) (C := RX0) (T := TX0) (N := 5) hx hb hts in_X0 tyX0 tyX0_ok hown lk6 lk16 lk17 hK hP hD hS hA rfl (fun j hj => by rcases (show j = 0 ∨ j = 1 ∨ j = 2 ∨ j = 3 ∨ j = 4 by omega) with rfl | rfl | rfl | rfl | rfl <;> rfl) (Nat.le_of_ble_eq_true rfl) (Nat.le_of_ble_eq_true rfl) dX1_init_84 (fun q84_1 H hPn hDn hSn => ?_)
  clear hP hD hS
  replace hP := hPn
  replace hD := hDn
  replace hS := hSn
  clear hPn hDn hSn
  replace hP : va_P (eD E) vwCl [(q, .inr (1, [.int 0, .int 0, .int 0, .ref q7, .ref q15, .int 0, .ref q22, .ref q29, .ref q40, .ref q51, .ref q62])), (q7, .inl (eI E, 24, .inl (fun _ => 0))), (q15, .inl (eI E, 24, .inl (fun _ => 0))), (q22, .inl (eM E, 3, .inr (.inr (.inr (.inr (va_up (fun _ => none) 0 (some q84))))))), (q29, .inr (5, [.int 0, .ref z33_0, .ref z33_1, .ref z33_2])), (z33_0, .inl (eI E, 6, .inl (fun _ => 0))), (z33_1, .inl (eI E, 6, .inl (fun _ => 0))), (z33_2, .inl (eI E, 6, .inl (fun _ => 0))), (q40, .inr (5, [.int 0, .ref z44_0, .ref z44_1, .ref z44_2])), (z44_0, .inl (eI E, 6, .inl (fun _ => 0))), (z44_1, .inl (eI E, 6, .inl (fun _ => 0))), (z44_2, .inl (eI E, 6, .inl (fun _ => 0))), (q51, .inr (5, [.int 0, .ref z55_0, .ref z55_1, .ref z55_2])), (z55_0, .inl (eI E, 6, .inl (fun _ => 0))), (z55_1, .inl (eI E, 6, .inl (fun _ => 0))), (z55_2, .inl (eI E, 6, .inl (fun _ => 0))), (q62, .inr (5, [.int 0, .ref z66_0, .ref z66_1, .ref z66_2])), (z66_0, .inl (eI E, 6, .inl (fun _ => 0))), (z66_1, .inl (eI E, 6, .inl (fun _ => 0))), (z66_2, .inl (eI E, 6, .inl (fun _ => 0))), (q84, .inr (0, [.int 0, .int 0, .int 0, .ref z88_0, .ref z88_1])), (z88_0, .inl (eI E, 18, .inl (fun _ => 0))), (z88_1, .inl (eI E, 24, .inl (fun _ => 0))), (q84_1, .inr (0, [.int 0, .int 0, .int 0, .null, .null]))] H := hP
  replace hD := wd_re hP hD
  refine W.widen (k := 23) (n := 191) (Nat.le_of_ble_eq_true rfl) (Nat.le_of_ble_eq_true rfl) ?_
  refine lv_dup hx hb dX1_init_87 rfl ?_
  refine ct_IN (w1 := fun (u : Nat × Nat) => [(q84_1, .inr (0, [.int 0, .int 0, .int 0, .ref u.1, .ref u.2])), (u.1, .inl (eI E, 18, .inl (fun _ => 0))), (u.2, .inl (eI E, 24, .inl (fun _ => 0)))]) (wc := [(q84_1, .inr (0, [.int 0, .int 0, .int 0, .null, .null]))]) (wr := [(q, .inr (1, [.int 0, .int 0, .int 0, .ref q7, .ref q15, .int 0, .ref q22, .ref q29, .ref q40, .ref q51, .ref q62])), (q7, .inl (eI E, 24, .inl (fun _ => 0))), (q15, .inl (eI E, 24, .inl (fun _ => 0))), (q22, .inl (eM E, 3, .inr (.inr (.inr (.inr (va_up (fun _ => none) 0 (some q84))))))), (q29, .inr (5, [.int 0, .ref z33_0, .ref z33_1, .ref z33_2])), (z33_0, .inl (eI E, 6, .inl (fun _ => 0))), (z33_1, .inl (eI E, 6, .inl (fun _ => 0))), (z33_2, .inl (eI E, 6, .inl (fun _ => 0))), (q40, .inr (5, [.int 0, .ref z44_0, .ref z44_1, .ref z44_2])), (z44_0, .inl (eI E, 6, .inl (fun _ => 0))), (z44_1, .inl (eI E, 6, .inl (fun _ => 0))), (z44_2, .inl (eI E, 6, .inl (fun _ => 0))), (q51, .inr (5, [.int 0, .ref z55_0, .ref z55_1, .ref z55_2])), (z55_0, .inl (eI E, 6, .inl (fun _ => 0))), (z55_1, .inl (eI E, 6, .inl (fun _ => 0))), (z55_2, .inl (eI E, 6, .inl (fun _ => 0))), (q62, .inr (5, [.int 0, .ref z66_0, .ref z66_1, .ref z66_2])), (z66_0, .inl (eI E, 6, .inl (fun _ => 0))), (z66_1, .inl (eI E, 6, .inl (fun _ => 0))), (z66_2, .inl (eI E, 6, .inl (fun _ => 0))), (q84, .inr (0, [.int 0, .int 0, .int 0, .ref z88_0, .ref z88_1])), (z88_0, .inl (eI E, 18, .inl (fun _ => 0))), (z88_1, .inl (eI E, 24, .inl (fun _ => 0)))]) (As := []) (rest := [.ref q84_1, .int 1, .ref q22]) ⟨hx, hb, hml, hown, hts⟩ (c_X0_init l E H.size q84_1) ⟨va_cnB 0 hts gX1_init_X0_init_n40 rfl rfl rfl (hE.2.2.2.2.2.2.2 _ (List.mem_of_getElem? (i := 3) rfl)) lk17 (by decide +kernel) ⟨(Nat.le_of_ble_eq_true rfl), (Nat.le_of_ble_eq_true rfl)⟩, rfl, lk18⟩ hC hS hA hP hD [23] [0, 1, 2, 3, 4, 5, 6, 7, 8, 9, 10, 11, 12, 13, 14, 15, 16, 17, 18, 19, 20, 21, 22] rfl rfl (by decide) (by decide) (by decide) rfl hl.1 rfl (Nat.le_of_ble_eq_true rfl) dX1_init_88 ⟨(Nat.le_of_ble_eq_true rfl), (Nat.le_of_ble_eq_true rfl)⟩ (fun u88_1 H locs hu88_1 hPn hDn hSn => ?_)
  obtain ⟨z88_1_0, z88_1_1⟩ := u88_1
  replace hP := hPn
  replace hD := hDn
  replace hS := hSn
  clear hPn hDn hSn
  replace hP : va_P (eD E) vwCl [(q, .inr (1, [.int 0, .int 0, .int 0, .ref q7, .ref q15, .int 0, .ref q22, .ref q29, .ref q40, .ref q51, .ref q62])), (q7, .inl (eI E, 24, .inl (fun _ => 0))), (q15, .inl (eI E, 24, .inl (fun _ => 0))), (q22, .inl (eM E, 3, .inr (.inr (.inr (.inr (va_up (fun _ => none) 0 (some q84))))))), (q29, .inr (5, [.int 0, .ref z33_0, .ref z33_1, .ref z33_2])), (z33_0, .inl (eI E, 6, .inl (fun _ => 0))), (z33_1, .inl (eI E, 6, .inl (fun _ => 0))), (z33_2, .inl (eI E, 6, .inl (fun _ => 0))), (q40, .inr (5, [.int 0, .ref z44_0, .ref z44_1, .ref z44_2])), (z44_0, .inl (eI E, 6, .inl (fun _ => 0))), (z44_1, .inl (eI E, 6, .inl (fun _ => 0))), (z44_2, .inl (eI E, 6, .inl (fun _ => 0))), (q51, .inr (5, [.int 0, .ref z55_0, .ref z55_1, .ref z55_2])), (z55_0, .inl (eI E, 6, .inl (fun _ => 0))), (z55_1, .inl (eI E, 6, .inl (fun _ => 0))), (z55_2, .inl (eI E, 6, .inl (fun _ => 0))), (q62, .inr (5, [.int 0, .ref z66_0, .ref z66_1, .ref z66_2])), (z66_0, .inl (eI E, 6, .inl (fun _ => 0))), (z66_1, .inl (eI E, 6, .inl (fun _ => 0))), (z66_2, .inl (eI E, 6, .inl (fun _ => 0))), (q84, .inr (0, [.int 0, .int 0, .int 0, .ref z88_0, .ref z88_1])), (z88_0, .inl (eI E, 18, .inl (fun _ => 0))), (z88_1, .inl (eI E, 24, .inl (fun _ => 0))), (q84_1, .inr (0, [.int 0, .int 0, .int 0, .ref z88_1_0, .ref z88_1_1])), (z88_1_0, .inl (eI E, 18, .inl (fun _ => 0))), (z88_1_1, .inl (eI E, 24, .inl (fun _ => 0)))] H := hP
  replace hD := wd_re hP hD
  refine W.widen (k := 25) (n := 233) (Nat.le_of_ble_eq_true rfl) (Nat.le_of_ble_eq_true rfl) ?_
  refine va_astq hx hb hK hP hD hS 3 2 23 0 rfl rfl rfl rfl (i_in (by decide) (by decide)) dX1_init_91 (fun H locs hPn hDn hSn => ?_)
  clear hP hD hS
  replace hP := hPn
  replace hD := hDn
  replace hS := hSn
  clear hPn hDn hSn
  replace hP : va_P (eD E) vwCl [(q, .inr (1, [.int 0, .int 0, .int 0, .ref q7, .ref q15, .int 0, .ref q22, .ref q29, .ref q40, .ref q51, .ref q62])), (q7, .inl (eI E, 24, .inl (fun _ => 0))), (q15, .inl (eI E, 24, .inl (fun _ => 0))), (q22, .inl (eM E, 3, .inr (.inr (.inr (.inr (va_up (va_up (fun _ => none) 0 (some q84)) 1 (some q84_1))))))), (q29, .inr (5, [.int 0, .ref z33_0, .ref z33_1, .ref z33_2])), (z33_0, .inl (eI E, 6, .inl (fun _ => 0))), (z33_1, .inl (eI E, 6, .inl (fun _ => 0))), (z33_2, .inl (eI E, 6, .inl (fun _ => 0))), (q40, .inr (5, [.int 0, .ref z44_0, .ref z44_1, .ref z44_2])), (z44_0, .inl (eI E, 6, .inl (fun _ => 0))), (z44_1, .inl (eI E, 6, .inl (fun _ => 0))), (z44_2, .inl (eI E, 6, .inl (fun _ => 0))), (q51, .inr (5, [.int 0, .ref z55_0, .ref z55_1, .ref z55_2])), (z55_0, .inl (eI E, 6, .inl (fun _ => 0))), (z55_1, .inl (eI E, 6, .inl (fun _ => 0))), (z55_2, .inl (eI E, 6, .inl (fun _ => 0))), (q62, .inr (5, [.int 0, .ref z66_0, .ref z66_1, .ref z66_2])), (z66_0, .inl (eI E, 6, .inl (fun _ => 0))), (z66_1, .inl (eI E, 6, .inl (fun _ => 0))), (z66_2, .inl (eI E, 6, .inl (fun _ => 0))), (q84, .inr (0, [.int 0, .int 0, .int 0, .ref z88_0, .ref z88_1])), (z88_0, .inl (eI E, 18, .inl (fun _ => 0))), (z88_1, .inl (eI E, 24, .inl (fun _ => 0))), (q84_1, .inr (0, [.int 0, .int 0, .int 0, .ref z88_1_0, .ref z88_1_1])), (z88_1_0, .inl (eI E, 18, .inl (fun _ => 0))), (z88_1_1, .inl (eI E, 24, .inl (fun _ => 0)))] H := hP
  replace hD := wd_re hP hD
  refine lv_iinc (v := 2) (lv' := [(1, .int 2), (0, .ref q)]) hx hb dX1_init_92 hl (k := 0) rfl (by decide) (by decide) rfl (fun ls hl => ?_)
  refine lv_goto (tgt := 74) hx hb dX1_init_95 (by decide) ?_
  refine lv_iload_n hx hb dX1_init_74 rfl (lv_at hl 0 rfl) ?_
  refine lv_iconst (v := 3) hx hb dX1_init_75 (by decide) ?_
  refine lv_icmp_ge (tgt := 98) hx hb dX1_init_76 (by decide) (fun q => absurd q (by decide)) (fun _ => ?_)
  refine lv_aload_n hx hb dX1_init_79 rfl (lv_at hl 1 rfl) ?_
  refine va_get (D := eD E) (ci := 1) (v := .ref q22) (C := RX1) (T := TX1) (N := 11) hx hb hts in_X1 hown hK hP 0 rfl rfl 6 (by decide) lk7 (fun _ h9 => h9) rfl dX1_init_80 ?_
  refine lv_iload_n hx hb dX1_init_83 rfl (lv_at hl 0 rfl) ?_
  refine va_new (ci := 0) (fs := [.int 0, .int 0, .int 0, .null, .null]) (C := RX0) (T := TX0) (N := 5) hx hb hts in_X0 tyX0 tyX0_ok hown lk6 lk16 lk17 hK hP hD hS hA rfl (fun j hj => by rcases (show j = 0 ∨ j = 1 ∨ j = 2 ∨ j = 3 ∨ j = 4 by omega) with rfl | rfl | rfl | rfl | rfl <;> rfl) (Nat.le_of_ble_eq_true rfl) (Nat.le_of_ble_eq_true rfl) dX1_init_84 (fun q84_2 H hPn hDn hSn => ?_)
  clear hP hD hS
  replace hP := hPn
  replace hD := hDn
  replace hS := hSn
  clear hPn hDn hSn
  replace hP : va_P (eD E) vwCl [(q, .inr (1, [.int 0, .int 0, .int 0, .ref q7, .ref q15, .int 0, .ref q22, .ref q29, .ref q40, .ref q51, .ref q62])), (q7, .inl (eI E, 24, .inl (fun _ => 0))), (q15, .inl (eI E, 24, .inl (fun _ => 0))), (q22, .inl (eM E, 3, .inr (.inr (.inr (.inr (va_up (va_up (fun _ => none) 0 (some q84)) 1 (some q84_1))))))), (q29, .inr (5, [.int 0, .ref z33_0, .ref z33_1, .ref z33_2])), (z33_0, .inl (eI E, 6, .inl (fun _ => 0))), (z33_1, .inl (eI E, 6, .inl (fun _ => 0))), (z33_2, .inl (eI E, 6, .inl (fun _ => 0))), (q40, .inr (5, [.int 0, .ref z44_0, .ref z44_1, .ref z44_2])), (z44_0, .inl (eI E, 6, .inl (fun _ => 0))), (z44_1, .inl (eI E, 6, .inl (fun _ => 0))), (z44_2, .inl (eI E, 6, .inl (fun _ => 0))), (q51, .inr (5, [.int 0, .ref z55_0, .ref z55_1, .ref z55_2])), (z55_0, .inl (eI E, 6, .inl (fun _ => 0))), (z55_1, .inl (eI E, 6, .inl (fun _ => 0))), (z55_2, .inl (eI E, 6, .inl (fun _ => 0))), (q62, .inr (5, [.int 0, .ref z66_0, .ref z66_1, .ref z66_2])), (z66_0, .inl (eI E, 6, .inl (fun _ => 0))), (z66_1, .inl (eI E, 6, .inl (fun _ => 0))), (z66_2, .inl (eI E, 6, .inl (fun _ => 0))), (q84, .inr (0, [.int 0, .int 0, .int 0, .ref z88_0, .ref z88_1])), (z88_0, .inl (eI E, 18, .inl (fun _ => 0))), (z88_1, .inl (eI E, 24, .inl (fun _ => 0))), (q84_1, .inr (0, [.int 0, .int 0, .int 0, .ref z88_1_0, .ref z88_1_1])), (z88_1_0, .inl (eI E, 18, .inl (fun _ => 0))), (z88_1_1, .inl (eI E, 24, .inl (fun _ => 0))), (q84_2, .inr (0, [.int 0, .int 0, .int 0, .null, .null]))] H := hP
  replace hD := wd_re hP hD
  refine W.widen (k := 26) (n := 238) (Nat.le_of_ble_eq_true rfl) (Nat.le_of_ble_eq_true rfl) ?_
  refine lv_dup hx hb dX1_init_87 rfl ?_
  refine ct_IN (w1 := fun (u : Nat × Nat) => [(q84_2, .inr (0, [.int 0, .int 0, .int 0, .ref u.1, .ref u.2])), (u.1, .inl (eI E, 18, .inl (fun _ => 0))), (u.2, .inl (eI E, 24, .inl (fun _ => 0)))]) (wc := [(q84_2, .inr (0, [.int 0, .int 0, .int 0, .null, .null]))]) (wr := [(q, .inr (1, [.int 0, .int 0, .int 0, .ref q7, .ref q15, .int 0, .ref q22, .ref q29, .ref q40, .ref q51, .ref q62])), (q7, .inl (eI E, 24, .inl (fun _ => 0))), (q15, .inl (eI E, 24, .inl (fun _ => 0))), (q22, .inl (eM E, 3, .inr (.inr (.inr (.inr (va_up (va_up (fun _ => none) 0 (some q84)) 1 (some q84_1))))))), (q29, .inr (5, [.int 0, .ref z33_0, .ref z33_1, .ref z33_2])), (z33_0, .inl (eI E, 6, .inl (fun _ => 0))), (z33_1, .inl (eI E, 6, .inl (fun _ => 0))), (z33_2, .inl (eI E, 6, .inl (fun _ => 0))), (q40, .inr (5, [.int 0, .ref z44_0, .ref z44_1, .ref z44_2])), (z44_0, .inl (eI E, 6, .inl (fun _ => 0))), (z44_1, .inl (eI E, 6, .inl (fun _ => 0))), (z44_2, .inl (eI E, 6, .inl (fun _ => 0))), (q51, .inr (5, [.int 0, .ref z55_0, .ref z55_1, .ref z55_2])), (z55_0, .inl (eI E, 6, .inl (fun _ => 0))), (z55_1, .inl (eI E, 6, .inl (fun _ => 0))), (z55_2, .inl (eI E, 6, .inl (fun _ => 0))), (q62, .inr (5, [.int 0, .ref z66_0, .ref z66_1, .ref z66_2])), (z66_0, .inl (eI E, 6, .inl (fun _ => 0))), (z66_1, .inl (eI E, 6, .inl (fun _ => 0))), (z66_2, .inl (eI E, 6, .inl (fun _ => 0))), (q84, .inr (0, [.int 0, .int 0, .int 0, .ref z88_0, .ref z88_1])), (z88_0, .inl (eI E, 18, .inl (fun _ => 0))), (z88_1, .inl (eI E, 24, .inl (fun _ => 0))), (q84_1, .inr (0, [.int 0, .int 0, .int 0, .ref z88_1_0, .ref z88_1_1])), (z88_1_0, .inl (eI E, 18, .inl (fun _ => 0))), (z88_1_1, .inl (eI E, 24, .inl (fun _ => 0)))]) (As := []) (rest := [.ref q84_2, .int 2, .ref q22]) ⟨hx, hb, hml, hown, hts⟩ (c_X0_init l E H.size q84_2) ⟨va_cnB 0 hts gX1_init_X0_init_n40 rfl rfl rfl (hE.2.2.2.2.2.2.2 _ (List.mem_of_getElem? (i := 3) rfl)) lk17 (by decide +kernel) ⟨(Nat.le_of_ble_eq_true rfl), (Nat.le_of_ble_eq_true rfl)⟩, rfl, lk18⟩ hC hS hA hP hD [26] [0, 1, 2, 3, 4, 5, 6, 7, 8, 9, 10, 11, 12, 13, 14, 15, 16, 17, 18, 19, 20, 21, 22, 23, 24, 25] rfl rfl (by decide) (by decide) (by decide) rfl hl.1 rfl (Nat.le_of_ble_eq_true rfl) dX1_init_88 ⟨(Nat.le_of_ble_eq_true rfl), (Nat.le_of_ble_eq_true rfl)⟩ (fun u88_2 H locs hu88_2 hPn hDn hSn => ?_)
  obtain ⟨z88_2_0, z88_2_1⟩ := u88_2
  replace hP := hPn
  replace hD := hDn
  replace hS := hSn
  clear hPn hDn hSn
  replace hP : va_P (eD E) vwCl [(q, .inr (1, [.int 0, .int 0, .int 0, .ref q7, .ref q15, .int 0, .ref q22, .ref q29, .ref q40, .ref q51, .ref q62])), (q7, .inl (eI E, 24, .inl (fun _ => 0))), (q15, .inl (eI E, 24, .inl (fun _ => 0))), (q22, .inl (eM E, 3, .inr (.inr (.inr (.inr (va_up (va_up (fun _ => none) 0 (some q84)) 1 (some q84_1))))))), (q29, .inr (5, [.int 0, .ref z33_0, .ref z33_1, .ref z33_2])), (z33_0, .inl (eI E, 6, .inl (fun _ => 0))), (z33_1, .inl (eI E, 6, .inl (fun _ => 0))), (z33_2, .inl (eI E, 6, .inl (fun _ => 0))), (q40, .inr (5, [.int 0, .ref z44_0, .ref z44_1, .ref z44_2])), (z44_0, .inl (eI E, 6, .inl (fun _ => 0))), (z44_1, .inl (eI E, 6, .inl (fun _ => 0))), (z44_2, .inl (eI E, 6, .inl (fun _ => 0))), (q51, .inr (5, [.int 0, .ref z55_0, .ref z55_1, .ref z55_2])), (z55_0, .inl (eI E, 6, .inl (fun _ => 0))), (z55_1, .inl (eI E, 6, .inl (fun _ => 0))), (z55_2, .inl (eI E, 6, .inl (fun _ => 0))), (q62, .inr (5, [.int 0, .ref z66_0, .ref z66_1, .ref z66_2])), (z66_0, .inl (eI E, 6, .inl (fun _ => 0))), (z66_1, .inl (eI E, 6, .inl (fun _ => 0))), (z66_2, .inl (eI E, 6, .inl (fun _ => 0))), (q84, .inr (0, [.int 0, .int 0, .int 0, .ref z88_0, .ref z88_1])), (z88_0, .inl (eI E, 18, .inl (fun _ => 0))), (z88_1, .inl (eI E, 24, .inl (fun _ => 0))), (q84_1, .inr (0, [.int 0, .int 0, .int 0, .ref z88_1_0, .ref z88_1_1])), (z88_1_0, .inl (eI E, 18, .inl (fun _ => 0))), (z88_1_1, .inl (eI E, 24, .inl (fun _ => 0))), (q84_2, .inr (0, [.int 0, .int 0, .int 0, .ref z88_2_0, .ref z88_2_1])), (z88_2_0, .inl (eI E, 18, .inl (fun _ => 0))), (z88_2_1, .inl (eI E, 24, .inl (fun _ => 0)))] H := hP
  replace hD := wd_re hP hD
  refine W.widen (k := 28) (n := 280) (Nat.le_of_ble_eq_true rfl) (Nat.le_of_ble_eq_true rfl) ?_
  refine va_astq hx hb hK hP hD hS 3 2 26 0 rfl rfl rfl rfl (i_in (by decide) (by decide)) dX1_init_91 (fun H locs hPn hDn hSn => ?_)
  clear hP hD hS
  replace hP := hPn
  replace hD := hDn
  replace hS := hSn
  clear hPn hDn hSn
  replace hP : va_P (eD E) vwCl [(q, .inr (1, [.int 0, .int 0, .int 0, .ref q7, .ref q15, .int 0, .ref q22, .ref q29, .ref q40, .ref q51, .ref q62])), (q7, .inl (eI E, 24, .inl (fun _ => 0))), (q15, .inl (eI E, 24, .inl (fun _ => 0))), (q22, .inl (eM E, 3, .inr (.inr (.inr (.inr (va_up (va_up (va_up (fun _ => none) 0 (some q84)) 1 (some q84_1)) 2 (some q84_2))))))), (q29, .inr (5, [.int 0, .ref z33_0, .ref z33_1, .ref z33_2])), (z33_0, .inl (eI E, 6, .inl (fun _ => 0))), (z33_1, .inl (eI E, 6, .inl (fun _ => 0))), (z33_2, .inl (eI E, 6, .inl (fun _ => 0))), (q40, .inr (5, [.int 0, .ref z44_0, .ref z44_1, .ref z44_2])), (z44_0, .inl (eI E, 6, .inl (fun _ => 0))), (z44_1, .inl (eI E, 6, .inl (fun _ => 0))), (z44_2, .inl (eI E, 6, .inl (fun _ => 0))), (q51, .inr (5, [.int 0, .ref z55_0, .ref z55_1, .ref z55_2])), (z55_0, .inl (eI E, 6, .inl (fun _ => 0))), (z55_1, .inl (eI E, 6, .inl (fun _ => 0))), (z55_2, .inl (eI E, 6, .inl (fun _ => 0))), (q62, .inr (5, [.int 0, .ref z66_0, .ref z66_1, .ref z66_2])), (z66_0, .inl (eI E, 6, .inl (fun _ => 0))), (z66_1, .inl (eI E, 6, .inl (fun _ => 0))), (z66_2, .inl (eI E, 6, .inl (fun _ => 0))), (q84, .inr (0, [.int 0, .int 0, .int 0, .ref z88_0, .ref z88_1])), (z88_0, .inl (eI E, 18, .inl (fun _ => 0))), (z88_1, .inl (eI E, 24, .inl (fun _ => 0))), (q84_1, .inr (0, [.int 0, .int 0, .int 0, .ref z88_1_0, .ref z88_1_1])), (z88_1_0, .inl (eI E, 18, .inl (fun _ => 0))), (z88_1_1, .inl (eI E, 24, .inl (fun _ => 0))), (q84_2, .inr (0, [.int 0, .int 0, .int 0, .ref z88_2_0, .ref z88_2_1])), (z88_2_0, .inl (eI E, 18, .inl (fun _ => 0))), (z88_2_1, .inl (eI E, 24, .inl (fun _ => 0)))] H := hP
  replace hD := wd_re hP hD
  refine lv_iinc (v := 3) (lv' := [(1, .int 3), (0, .ref q)]) hx hb dX1_init_92 hl (k := 0) rfl (by decide) (by decide) rfl (fun ls hl => ?_)
  refine lv_goto (tgt := 74) hx hb dX1_init_95 (by decide) ?_
  refine lv_iload_n hx hb dX1_init_74 rfl (lv_at hl 0 rfl) ?_
  refine lv_iconst (v := 3) hx hb dX1_init_75 (by decide) ?_
  refine lv_icmp_ge (tgt := 98) hx hb dX1_init_76 (by decide) (fun _ => ?_) (fun q => absurd q (by decide))
  have hP := va_refs (g := fun i => some ((up1 (up1 (up1 (up1 (up1 (up1 (up1 (up1 (up1 (up1 (up1 (up1 (up1 (up1 (up1 (up1 (up1 (up1 (up1 (up1 (up1 (up1 (up1 (up1 (up1 (up1 (up1 (up1 (up1 (fun _ => 0) 0 q) 3 q7) 4 q15) 6 q22) 7 q29) 8 q40) 9 q51) 10 q62) 20 q84) 23 z88_0) 24 z88_1) 30 q84_1) 33 z88_1_0) 34 z88_1_1) 40 q84_2) 43 z88_2_0) 44 z88_2_1) 61 z33_0) 62 z33_1) 63 z33_2) 71 z44_0) 72 z44_1) 73 z44_2) 81 z55_0) 82 z55_1) 83 z55_2) 91 z66_0) 92 z66_1) 93 z66_2) (20 + 10 * i))) hP hD (p := 3) rfl (fun j hj => by rcases (show j = 0 ∨ j = 1 ∨ j = 2 by omega) with rfl | rfl | rfl <;> rfl)
  have hD := va_D.set (p := 3) (e := .inl (eM E, 3, .inr (.inr (.inr (.inr (fun i => some ((up1 (up1 (up1 (up1 (up1 (up1 (up1 (up1 (up1 (up1 (up1 (up1 (up1 (up1 (up1 (up1 (up1 (up1 (up1 (up1 (up1 (up1 (up1 (up1 (up1 (up1 (up1 (up1 (up1 (fun _ => 0) 0 q) 3 q7) 4 q15) 6 q22) 7 q29) 8 q40) 9 q51) 10 q62) 20 q84) 23 z88_0) 24 z88_1) 30 q84_1) 33 z88_1_0) 34 z88_1_1) 40 q84_2) 43 z88_2_0) 44 z88_2_1) 61 z33_0) 62 z33_1) 63 z33_2) 71 z44_0) 72 z44_1) 73 z44_2) 81 z55_0) 82 z55_1) 83 z55_2) 91 z66_0) 92 z66_1) 93 z66_2) (20 + 10 * i)))))))) hD rfl
  replace hP : va_P (eD E) vwCl (planL E (up1 (up1 (up1 (up1 (up1 (up1 (up1 (up1 (up1 (up1 (up1 (up1 (up1 (up1 (up1 (up1 (up1 (up1 (up1 (up1 (up1 (up1 (up1 (up1 (up1 (up1 (up1 (up1 (up1 (fun _ => 0) 0 q) 3 q7) 4 q15) 6 q22) 7 q29) 8 q40) 9 q51) 10 q62) 20 q84) 23 z88_0) 24 z88_1) 30 q84_1) 33 z88_1_0) 34 z88_1_1) 40 q84_2) 43 z88_2_0) 44 z88_2_1) 61 z33_0) 62 z33_1) 63 z33_2) 71 z44_0) 72 z44_1) 73 z44_2) 81 z55_0) 82 z55_1) 83 z55_2) 91 z66_0) 92 z66_1) 93 z66_2) v00) H := hP.sub [0, 1, 2, 3, 20, 21, 22, 23, 24, 25, 26, 27, 28, 4, 5, 6, 7, 8, 9, 10, 11, 12, 13, 14, 15, 16, 17, 18, 19] rfl
  replace hD : va_D A (planL E (up1 (up1 (up1 (up1 (up1 (up1 (up1 (up1 (up1 (up1 (up1 (up1 (up1 (up1 (up1 (up1 (up1 (up1 (up1 (up1 (up1 (up1 (up1 (up1 (up1 (up1 (up1 (up1 (up1 (fun _ => 0) 0 q) 3 q7) 4 q15) 6 q22) 7 q29) 8 q40) 9 q51) 10 q62) 20 q84) 23 z88_0) 24 z88_1) 30 q84_1) 33 z88_1_0) 34 z88_1_1) 40 q84_2) 43 z88_2_0) 44 z88_2_1) 61 z33_0) 62 z33_1) 63 z33_2) 71 z44_0) 72 z44_1) 73 z44_2) 81 z55_0) 82 z55_1) 83 z55_2) 91 z66_0) 92 z66_1) 93 z66_2) v00) := hD.sub [0, 1, 2, 3, 20, 21, 22, 23, 24, 25, 26, 27, 28, 4, 5, 6, 7, 8, 9, 10, 11, 12, 13, 14, 15, 16, 17, 18, 19] (by decide) rfl
  obtain ⟨ap, hap, hap0⟩ : ∃ f : Nat → Nat, f = (up1 (up1 (up1 (up1 (up1 (up1 (up1 (up1 (up1 (up1 (up1 (up1 (up1 (up1 (up1 (up1 (up1 (up1 (up1 (up1 (up1 (up1 (up1 (up1 (up1 (up1 (up1 (up1 (up1 (fun _ => 0) 0 q) 3 q7) 4 q15) 6 q22) 7 q29) 8 q40) 9 q51) 10 q62) 20 q84) 23 z88_0) 24 z88_1) 30 q84_1) 33 z88_1_0) 34 z88_1_1) 40 q84_2) 43 z88_2_0) 44 z88_2_1) 61 z33_0) 62 z33_1) 63 z33_2) 71 z44_0) 72 z44_1) 73 z44_2) 81 z55_0) 82 z55_1) 83 z55_2) 91 z66_0) 92 z66_1) 93 z66_2) ∧ f 0 = q := ⟨_, rfl, rfl⟩
  rw [← hap] at hP hD
  have hl : lv_has ls 2 [(0, .ref (ap 0))] := by rw [hap0]; exact lv_sub hl [1] rfl
  refine lv_aload_n hx hb dX1_init_98 rfl (lv_at hl 0 rfl) ?_
  refine mt_Vv (w1 := fun (u : Vf) => planL E ap u) (wf := fun (u : Vf) => planL E ap u) (wr := []) (As := []) (rest := []) (C := RX1) (ci := 1) ⟨hx, hb, hml, hown, hts⟩ (c_X1_clear l E H.size ap v00 pr_00) (cwV 0 hts gX1_init_X1_clear rfl rfl rfl (by decide +kernel) ⟨(Nat.le_of_ble_eq_true rfl), (Nat.le_of_ble_eq_true rfl)⟩) hE hS hA hP hD [0, 1, 2, 3, 4, 5, 6, 7, 8, 9, 10, 11, 12, 13, 14, 15, 16, 17, 18, 19, 20, 21, 22, 23, 24, 25, 26, 27, 28] [] rfl rfl (by decide) (by decide) (by decide) [0, 1, 2, 3, 4, 5, 6, 7, 8, 9, 10, 11, 12, 13, 14, 15, 16, 17, 18, 19, 20, 21, 22, 23, 24, 25, 26, 27, 28] (by decide) (fun u => rfl) rfl rfl rfl rfl hl.1 rfl (Nat.le_of_ble_eq_true rfl) dX1_init_99 ⟨(Nat.le_of_ble_eq_true rfl), (Nat.le_of_ble_eq_true rfl)⟩ (fun vp H locs h99 hPn hDn hSn => ?_)
  clear hP hD hS
  replace hP := hPn
  replace hD := hDn
  replace hS := hSn
  clear hPn hDn hSn
  refine W.widen (k := 28) (n := 280) (Nat.le_of_ble_eq_true rfl) (Nat.le_of_ble_eq_true rfl) ?_
  subst hQ
  exact W.vret hx hb hr (fun t ht hW => ⟨⟨(ap, vp), rfl, ⟨h99.1.1, hap0, h99.1.2.1, h99.2.1.1, h99.2.1.2.1, h99.2.1.2.2.1, h99.2.1.2.2.2.1, h99.2.1.2.2.2.2.1, h99.2.1.2.2.2.2.2, h99.2.2⟩, by rw [ht]; exact hP, hD⟩, hS.F ht⟩) hS.2.2 dX1_init_102
