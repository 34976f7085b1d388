def rm_X5_init : Room := { frames := 1, cells := 3, slots := 18, locals := 20 }
set_option maxHeartbeats 8000000 in
set_option maxRecDepth 100000 in
theorem c_X5_init (l : Launch) (E : Ev) (sz : Nat) (q : Nat) : Met l yX5_init wsX5_init rm_X5_init (CtP E sz [.ref q] [(q, .inr (5, [.int 0, .null, .null, .null]))]) (va_Qv (fun (u : Nat × Nat × Nat) => True) (MtB E (va_A [(q, .inr (5, [.int 0, .null, .null, .null]))] sz) (fun u => [(q, .inr (5, [.int 0, .ref u.1, .ref u.2.1, .ref u.2.2])), (u.1, .inl (eI E, 6, .inl (fun _ => 0))), (u.2.1, .inl (eI E, 6, .inl (fun _ => 0))), (u.2.2, .inl (eI E, 6, .inl (fun _ => 0)))])) (va_A [(q, .inr (5, [.int 0, .null, .null, .null]))] sz)) 3 18 (va_A [(q, .inr (5, [.int 0, .null, .null, .null]))] sz) := by
  refine Met.ofW (cc := cX5_init) (maxL := 1) (ret := none) (by decide) rfl ?_
  intro p e s m args below meth c s₁ B hml hv
  obtain ⟨rfl, hsz, hC, hP, hD0⟩ := hv
  subst hsz
  have hD := hD0.self (sz := s.heap.size)
  generalize hAe : va_A [(q, .inr (5, [.int 0, .null, .null, .null]))] s.heap.size = A at hD hC ⊢
  have hA : ∀ q : Nat, s.heap.size ≤ q → A q := fun q h => by rw [← hAe]; exact Or.inr h
  have hS : va_S A s.heap s.heap [] := va_S.rf
  have hx := B.exec
  have hb := B.bytes
  have hr := B.returns
  have hts := atoms_spec (ws := wsX5_init) B.pre
  have hown : s.vm.findClass RX5 = some m.cls := findClass_of_methodNamed B.named
  have hlocks := B.notSynchronized
  have hin : meth.name = "<init>" := (name_of_methodNamed B.named B.method).1
  have hE := hC.1
  have hK := hE.1
  replace hP : va_P (eD E) vwCl [(q, .inr (5, [.int 0, .null, .null, .null]))] s.heap := hP
  have in_X5 : ∀ w ∈ u_ws RX5 TX5 4, w ∈ wsX5_init := fun w h => List.mem_cons_of_mem _ (List.mem_append_right _ h)
  have lk0 := hts (.methodLink RX5 3 objectInit) (by decide +kernel)
  have lk1 := hts (.instanceMethod objectInit) (by decide +kernel)
  have lk2 := hts (.code objectInit ⟨#[0xb1]⟩ 1 none) (by decide +kernel)
  have lk3 := hts (.arrayClass .int) (by decide +kernel)
  have lk4 := hts (.fieldLink RX5 9 "TidedGround$Sites" "cell" "[I") (by decide +kernel)
  have lk5 := hts (.fieldLink RX5 15 "TidedGround$Sites" "first" "[I") (by decide +kernel)
  have lk6 := hts (.fieldLink RX5 18 "TidedGround$Sites" "second" "[I") (by decide +kernel)
  have n_6 : (6 : Int32).toInt = 6 := by decide
  have hl := lv_entry ([.ref q]) (n := 1) (Nat.le_of_ble_eq_true rfl)
  rw [lg_entry_eq]
  generalize (lg_sl ([.ref q]) ++ List.replicate (1 - (lg_sl ([.ref q])).length) Slot.unset).toArray = ls at hl ⊢
  have hl : lv_has ls 1 [(0, .ref q)] := hl
  refine W_abs (fun Q hQ => ?_)
  refine lv_aload_n hx hb dX5_init_0 rfl (lv_at hl 0 rfl) ?_
  refine W.objInit hx hb hown lk0 lk1 lk2 rfl (by rw [hml]; exact hl.1) rfl dX5_init_1 (Nat.le_of_ble_eq_true rfl) (Nat.le_of_ble_eq_true rfl) ?_
  refine W.eq (g2 := F0 m 4 ls []) rfl ?_
  refine lv_aload_n hx hb dX5_init_4 rfl (lv_at hl 0 rfl) ?_
  refine lv_bipush (v := 6) hx hb dX5_init_5 (by decide) ?_
  refine ct_newI hx hb lk3 hK hP hD hS hA 6 (by decide) (by decide) (by decide) (Nat.le_of_ble_eq_true rfl) (Nat.le_of_ble_eq_true rfl) dX5_init_7 (fun q7 H hP hD hS => ?_)
  replace hP : va_P (eD E) vwCl [(q, .inr (5, [.int 0, .null, .null, .null])), (q7, .inl (eI E, 6, .inl (fun _ => 0)))] H := hP
  refine W.widen (k := 1) (n := 6) (Nat.le_of_ble_eq_true rfl) (Nat.le_of_ble_eq_true rfl) ?_
  refine va_putF (D := eD E) (ci := 5) (v := .ref q7) (ty := (.array .int)) (C := RX5) (T := TX5) (N := 4) hx hb hts in_X5 tyX5 tyX5_ok nmX5 hown hK hP hD hS 0 rfl rfl 1 (by decide) lk4 (fun _ h9 => h9) rfl hin rfl (by decide +kernel) rfl rfl (Nat.le_of_ble_eq_true rfl) dX5_init_9 (fun H locs hP hD hS => ?_)
  replace hP : va_P (eD E) vwCl [(q, .inr (5, [.int 0, .ref q7, .null, .null])), (q7, .inl (eI E, 6, .inl (fun _ => 0)))] H := hP
  refine lv_aload_n hx hb dX5_init_12 rfl (lv_at hl 0 rfl) ?_
  refine lv_bipush (v := 6) hx hb dX5_init_13 (by decide) ?_
  refine ct_newI hx hb lk3 hK hP hD hS hA 6 (by decide) (by decide) (by decide) (Nat.le_of_ble_eq_true rfl) (Nat.le_of_ble_eq_true rfl) dX5_init_15 (fun q15 H hP hD hS => ?_)
  replace hP : va_P (eD E) vwCl [(q, .inr (5, [.int 0, .ref q7, .null, .null])), (q7, .inl (eI E, 6, .inl (fun _ => 0))), (q15, .inl (eI E, 6, .inl (fun _ => 0)))] H := hP
  refine W.widen (k := 2) (n := 12) (Nat.le_of_ble_eq_true rfl) (Nat.le_of_ble_eq_true rfl) ?_
  refine va_putF (D := eD E) (ci := 5) (v := .ref q15) (ty := (.array .int)) (C := RX5) (T := TX5) (N := 4) hx hb hts in_X5 tyX5 tyX5_ok nmX5 hown hK hP hD hS 0 rfl rfl 2 (by decide) lk5 (fun _ h9 => h9) rfl hin rfl (by decide +kernel) rfl rfl (Nat.le_of_ble_eq_true rfl) dX5_init_17 (fun H locs hP hD hS => ?_)
  replace hP : va_P (eD E) vwCl [(q, .inr (5, [.int 0, .ref q7, .ref q15, .null])), (q7, .inl (eI E, 6, .inl (fun _ => 0))), (q15, .inl (eI E, 6, .inl (fun _ => 0)))] H := hP
  refine lv_aload_n hx hb dX5_init_20 rfl (lv_at hl 0 rfl) ?_
  refine lv_bipush (v := 6) hx hb dX5_init_21 (by decide) ?_
  refine ct_newI hx hb lk3 hK hP hD hS hA 6 (by decide) (by decide) (by decide) (Nat.le_of_ble_eq_true rfl) (Nat.le_of_ble_eq_true rfl) dX5_init_23 (fun q23 H hP hD hS => ?_)
  replace hP : va_P (eD E) vwCl [(q, .inr (5, [.int 0, .ref q7, .ref q15, .null])), (q7, .inl (eI E, 6, .inl (fun _ => 0))), (q15, .inl (eI E, 6, .inl (fun _ => 0))), (q23, .inl (eI E, 6, .inl (fun _ => 0)))] H := hP
  refine W.widen (k := 3) (n := 18) (Nat.le_of_ble_eq_true rfl) (Nat.le_of_ble_eq_true rfl) ?_
  refine va_putF (D := eD E) (ci := 5) (v := .ref q23) (ty := (.array .int)) (C := RX5) (T := TX5) (N := 4) hx hb hts in_X5 tyX5 tyX5_ok nmX5 hown hK hP hD hS 0 rfl rfl 3 (by decide) lk6 (fun _ h9 => h9) rfl hin rfl (by decide +kernel) rfl rfl (Nat.le_of_ble_eq_true rfl) dX5_init_25 (fun H locs hP hD hS => ?_)
  replace hP : va_P (eD E) vwCl [(q, .inr (5, [.int 0, .ref q7, .ref q15, .ref q23])), (q7, .inl (eI E, 6, .inl (fun _ => 0))), (q15, .inl (eI E, 6, .inl (fun _ => 0))), (q23, .inl (eI E, 6, .inl (fun _ => 0)))] H := hP
  have hP9 : va_P (eD E) vwCl ([(q, .inr (5, [.int 0, .ref q7, .ref q15, .ref q23])), (q7, .inl (eI E, 6, .inl (fun _ => 0))), (q15, .inl (eI E, 6, .inl (fun _ => 0))), (q23, .inl (eI E, 6, .inl (fun _ => 0)))]) H := hP.sub [0, 1, 2, 3] rfl
  have hD9 : va_D A ([(q, .inr (5, [.int 0, .ref q7, .ref q15, .ref q23])), (q7, .inl (eI E, 6, .inl (fun _ => 0))), (q15, .inl (eI E, 6, .inl (fun _ => 0))), (q23, .inl (eI E, 6, .inl (fun _ => 0)))]) := hD.sub [0, 1, 2, 3] (by decide) rfl
  refine W.widen (k := 3) (n := 18) (Nat.le_of_ble_eq_true rfl) (Nat.le_of_ble_eq_true rfl) ?_
  subst hQ
  exact W.vret hx hb hr (fun t ht hW => ⟨⟨(q7, q15, q23), rfl, trivial, by rw [ht]; exact hP9, hD9⟩, hS.F ht⟩) hS.2.2 dX5_init_28
