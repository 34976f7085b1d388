def rm_X4_init : Room := { frames := 1, cells := 5, slots := 820, locals := 20 }
set_option maxHeartbeats 8000000 in
set_option maxRecDepth 100000 in
theorem c_X4_init (l : Launch) (E : Ev) (sz : Nat) (q : Nat) (qw : Nat) : Met l yX4_init wsX4_init rm_X4_init (CtP E sz [.ref q, .ref qw] [(q, .inr (4, [.null, .int 0, .null, .null, .null, .null, .int 0, .null, .int 0, .int 0, .int 0]))]) (va_Qv (fun (u : Nat × Nat × Nat × Nat × Nat) => True) (MtB E (va_A [(q, .inr (4, [.null, .int 0, .null, .null, .null, .null, .int 0, .null, .int 0, .int 0, .int 0]))] sz) (fun u => [(q, .inr (4, [.ref qw, .int 0, .ref u.1, .ref u.2.1, .ref u.2.2.1, .ref u.2.2.2.1, .int 0, .ref u.2.2.2.2, .int 0, .int 0, .int 0])), (u.1, .inl (eI E, 12, .inl (fun _ => 0))), (u.2.1, .inl (eI E, 12, .inl (fun _ => 0))), (u.2.2.1, .inl (eI E, 12, .inl (fun _ => 0))), (u.2.2.2.1, .inl (eI E, 729, .inl (fun _ => 0))), (u.2.2.2.2, .inl (eI E, 55, .inl (fun _ => 0)))])) (va_A [(q, .inr (4, [.null, .int 0, .null, .null, .null, .null, .int 0, .null, .int 0, .int 0, .int 0]))] sz)) 5 820 (va_A [(q, .inr (4, [.null, .int 0, .null, .null, .null, .null, .int 0, .null, .int 0, .int 0, .int 0]))] sz) := by
  refine Met.ofW (cc := cX4_init) (maxL := 2) (ret := none) (by decide) rfl ?_
  intro p e s m args below meth c s₁ B hml hv
  obtain ⟨rfl, hsz, hC, hP, hD0⟩ := hv
  subst hsz
  have hD := hD0.self (sz := s.heap.size)
  generalize hAe : va_A [(q, .inr (4, [.null, .int 0, .null, .null, .null, .null, .int 0, .null, .int 0, .int 0, .int 0]))] s.heap.size = A at hD hC ⊢
  have hA : ∀ q : Nat, s.heap.size ≤ q → A q := fun q h => by rw [← hAe]; exact Or.inr h
  have hS : va_S A s.heap s.heap [] := va_S.rf
  have hx := B.exec
  have hb := B.bytes
  have hr := B.returns
  have hts := atoms_spec (ws := wsX4_init) B.pre
  have hown : s.vm.findClass RX4 = some m.cls := findClass_of_methodNamed B.named
  have hlocks := B.notSynchronized
  have hin : meth.name = "<init>" := (name_of_methodNamed B.named B.method).1
  have hE := hC.1
  have hK := hE.1
  replace hP : va_P (eD E) vwCl [(q, .inr (4, [.null, .int 0, .null, .null, .null, .null, .int 0, .null, .int 0, .int 0, .int 0]))] s.heap := hP
  have in_X4 : ∀ w ∈ u_ws RX4 TX4 11, w ∈ wsX4_init := fun w h => List.mem_cons_of_mem _ (List.mem_append_right _ h)
  have lk0 := hts (.methodLink RX4 3 objectInit) (by decide +kernel)
  have lk1 := hts (.instanceMethod objectInit) (by decide +kernel)
  have lk2 := hts (.code objectInit ⟨#[0xb1]⟩ 1 none) (by decide +kernel)
  have lk3 := hts (.arrayClass .int) (by decide +kernel)
  have lk4 := hts (.fieldLink RX4 9 "TidedGround$Sightings" "cells" "[I") (by decide +kernel)
  have lk5 := hts (.fieldLink RX4 15 "TidedGround$Sightings" "steps" "[I") (by decide +kernel)
  have lk6 := hts (.fieldLink RX4 18 "TidedGround$Sightings" "heights" "[I") (by decide +kernel)
  have lk7 := hts (.fieldLink RX4 21 "TidedGround$Sightings" "found" "[I") (by decide +kernel)
  have lk8 := hts (.fieldLink RX4 24 "TidedGround$Sightings" "byPull" "[I") (by decide +kernel)
  have lk9 := hts (.fieldLink RX4 27 "TidedGround$Sightings" "world" "LTidedGround$World;") (by decide +kernel)
  have n_12 : (12 : Int32).toInt = 12 := by decide
  have n_55 : (55 : Int32).toInt = 55 := by decide
  have n_729 : (729 : Int32).toInt = 729 := by decide
  have hl := lv_entry ([.ref q, .ref qw]) (n := 2) (Nat.le_of_ble_eq_true rfl)
  rw [lg_entry_eq]
  generalize (lg_sl ([.ref q, .ref qw]) ++ List.replicate (2 - (lg_sl ([.ref q, .ref qw])).length) Slot.unset).toArray = ls at hl ⊢
  have hl : lv_has ls 2 [(0, .ref q), (1, .ref qw)] := hl
  refine W_abs (fun Q hQ => ?_)
  refine lv_aload_n hx hb dX4_init_0 rfl (lv_at hl 0 rfl) ?_
  refine W.objInit hx hb hown lk0 lk1 lk2 rfl (by rw [hml]; exact hl.1) rfl dX4_init_1 (Nat.le_of_ble_eq_true rfl) (Nat.le_of_ble_eq_true rfl) ?_
  refine W.eq (g2 := F0 m 4 ls []) rfl ?_
  refine lv_aload_n hx hb dX4_init_4 rfl (lv_at hl 0 rfl) ?_
  refine lv_bipush (v := 12) hx hb dX4_init_5 (by decide) ?_
  refine ct_newI hx hb lk3 hK hP hD hS hA 12 (by decide) (by decide) (by decide) (Nat.le_of_ble_eq_true rfl) (Nat.le_of_ble_eq_true rfl) dX4_init_7 (fun q7 H hP hD hS => ?_)
  replace hP : va_P (eD E) vwCl [(q, .inr (4, [.null, .int 0, .null, .null, .null, .null, .int 0, .null, .int 0, .int 0, .int 0])), (q7, .inl (eI E, 12, .inl (fun _ => 0)))] H := hP
  refine W.widen (k := 1) (n := 12) (Nat.le_of_ble_eq_true rfl) (Nat.le_of_ble_eq_true rfl) ?_
  refine va_putF (D := eD E) (ci := 4) (v := .ref q7) (ty := (.array .int)) (C := RX4) (T := TX4) (N := 11) hx hb hts in_X4 tyX4 tyX4_ok nmX4 hown hK hP hD hS 0 rfl rfl 2 (by decide) lk4 (fun _ h9 => h9) rfl hin rfl (by decide +kernel) rfl rfl (Nat.le_of_ble_eq_true rfl) dX4_init_9 (fun H locs hP hD hS => ?_)
  replace hP : va_P (eD E) vwCl [(q, .inr (4, [.null, .int 0, .ref q7, .null, .null, .null, .int 0, .null, .int 0, .int 0, .int 0])), (q7, .inl (eI E, 12, .inl (fun _ => 0)))] H := hP
  refine lv_aload_n hx hb dX4_init_12 rfl (lv_at hl 0 rfl) ?_
  refine lv_bipush (v := 12) hx hb dX4_init_13 (by decide) ?_
  refine ct_newI hx hb lk3 hK hP hD hS hA 12 (by decide) (by decide) (by decide) (Nat.le_of_ble_eq_true rfl) (Nat.le_of_ble_eq_true rfl) dX4_init_15 (fun q15 H hP hD hS => ?_)
  replace hP : va_P (eD E) vwCl [(q, .inr (4, [.null, .int 0, .ref q7, .null, .null, .null, .int 0, .null, .int 0, .int 0, .int 0])), (q7, .inl (eI E, 12, .inl (fun _ => 0))), (q15, .inl (eI E, 12, .inl (fun _ => 0)))] H := hP
  refine W.widen (k := 2) (n := 24) (Nat.le_of_ble_eq_true rfl) (Nat.le_of_ble_eq_true rfl) ?_
  refine va_putF (D := eD E) (ci := 4) (v := .ref q15) (ty := (.array .int)) (C := RX4) (T := TX4) (N := 11) hx hb hts in_X4 tyX4 tyX4_ok nmX4 hown hK hP hD hS 0 rfl rfl 3 (by decide) lk5 (fun _ h9 => h9) rfl hin rfl (by decide +kernel) rfl rfl (Nat.le_of_ble_eq_true rfl) dX4_init_17 (fun H locs hP hD hS => ?_)
  replace hP : va_P (eD E) vwCl [(q, .inr (4, [.null, .int 0, .ref q7, .ref q15, .null, .null, .int 0, .null, .int 0, .int 0, .int 0])), (q7, .inl (eI E, 12, .inl (fun _ => 0))), (q15, .inl (eI E, 12, .inl (fun _ => 0)))] H := hP
  refine lv_aload_n hx hb dX4_init_20 rfl (lv_at hl 0 rfl) ?_
  refine lv_bipush (v := 12) hx hb dX4_init_21 (by decide) ?_
  refine ct_newI hx hb lk3 hK hP hD hS hA 12 (by decide) (by decide) (by decide) (Nat.le_of_ble_eq_true rfl) (Nat.le_of_ble_eq_true rfl) dX4_init_23 (fun q23 H hP hD hS => ?_)
  replace hP : va_P (eD E) vwCl [(q, .inr (4, [.null, .int 0, .ref q7, .ref q15, .null, .null, .int 0, .null, .int 0, .int 0, .int 0])), (q7, .inl (eI E, 12, .inl (fun _ => 0))), (q15, .inl (eI E, 12, .inl (fun _ => 0))), (q23, .inl (eI E, 12, .inl (fun _ => 0)))] H := hP
  refine W.widen (k := 3) (n := 36) (Nat.le_of_ble_eq_true rfl) (Nat.le_of_ble_eq_true rfl) ?_
  refine va_putF (D := eD E) (ci := 4) (v := .ref q23) (ty := (.array .int)) (C := RX4) (T := TX4) (N := 11) hx hb hts in_X4 tyX4 tyX4_ok nmX4 hown hK hP hD hS 0 rfl rfl 4 (by decide) lk6 (fun _ h9 => h9) rfl hin rfl (by decide +kernel) rfl rfl (Nat.le_of_ble_eq_true rfl) dX4_init_25 (fun H locs hP hD hS => ?_)
  replace hP : va_P (eD E) vwCl [(q, .inr (4, [.null, .int 0, .ref q7, .ref q15, .ref q23, .null, .int 0, .null, .int 0, .int 0, .int 0])), (q7, .inl (eI E, 12, .inl (fun _ => 0))), (q15, .inl (eI E, 12, .inl (fun _ => 0))), (q23, .inl (eI E, 12, .inl (fun _ => 0)))] H := hP
  refine lv_aload_n hx hb dX4_init_28 rfl (lv_at hl 0 rfl) ?_
  refine lv_sipush (v := 729) hx hb dX4_init_29 (by decide) ?_
  refine ct_newI hx hb lk3 hK hP hD hS hA 729 (by decide) (by decide) (by decide) (Nat.le_of_ble_eq_true rfl) (Nat.le_of_ble_eq_true rfl) dX4_init_32 (fun q32 H hP hD hS => ?_)
  replace hP : va_P (eD E) vwCl [(q, .inr (4, [.null, .int 0, .ref q7, .ref q15, .ref q23, .null, .int 0, .null, .int 0, .int 0, .int 0])), (q7, .inl (eI E, 12, .inl (fun _ => 0))), (q15, .inl (eI E, 12, .inl (fun _ => 0))), (q23, .inl (eI E, 12, .inl (fun _ => 0))), (q32, .inl (eI E, 729, .inl (fun _ => 0)))] H := hP
  refine W.widen (k := 4) (n := 765) (Nat.le_of_ble_eq_true rfl) (Nat.le_of_ble_eq_true rfl) ?_
  refine va_putF (D := eD E) (ci := 4) (v := .ref q32) (ty := (.array .int)) (C := RX4) (T := TX4) (N := 11) hx hb hts in_X4 tyX4 tyX4_ok nmX4 hown hK hP hD hS 0 rfl rfl 5 (by decide) lk7 (fun _ h9 => h9) rfl hin rfl (by decide +kernel) rfl rfl (Nat.le_of_ble_eq_true rfl) dX4_init_34 (fun H locs hP hD hS => ?_)
  replace hP : va_P (eD E) vwCl [(q, .inr (4, [.null, .int 0, .ref q7, .ref q15, .ref q23, .ref q32, .int 0, .null, .int 0, .int 0, .int 0])), (q7, .inl (eI E, 12, .inl (fun _ => 0))), (q15, .inl (eI E, 12, .inl (fun _ => 0))), (q23, .inl (eI E, 12, .inl (fun _ => 0))), (q32, .inl (eI E, 729, .inl (fun _ => 0)))] H := hP
  refine lv_aload_n hx hb dX4_init_37 rfl (lv_at hl 0 rfl) ?_
  refine lv_bipush (v := 55) hx hb dX4_init_38 (by decide) ?_
  refine ct_newI hx hb lk3 hK hP hD hS hA 55 (by decide) (by decide) (by decide) (Nat.le_of_ble_eq_true rfl) (Nat.le_of_ble_eq_true rfl) dX4_init_40 (fun q40 H hP hD hS => ?_)
  replace hP : va_P (eD E) vwCl [(q, .inr (4, [.null, .int 0, .ref q7, .ref q15, .ref q23, .ref q32, .int 0, .null, .int 0, .int 0, .int 0])), (q7, .inl (eI E, 12, .inl (fun _ => 0))), (q15, .inl (eI E, 12, .inl (fun _ => 0))), (q23, .inl (eI E, 12, .inl (fun _ => 0))), (q32, .inl (eI E, 729, .inl (fun _ => 0))), (q40, .inl (eI E, 55, .inl (fun _ => 0)))] H := hP
  refine W.widen (k := 5) (n := 820) (Nat.le_of_ble_eq_true rfl) (Nat.le_of_ble_eq_true rfl) ?_
  refine va_putF (D := eD E) (ci := 4) (v := .ref q40) (ty := (.array .int)) (C := RX4) (T := TX4) (N := 11) hx hb hts in_X4 tyX4 tyX4_ok nmX4 hown hK hP hD hS 0 rfl rfl 7 (by decide) lk8 (fun _ h9 => h9) rfl hin rfl (by decide +kernel) rfl rfl (Nat.le_of_ble_eq_true rfl) dX4_init_42 (fun H locs hP hD hS => ?_)
  replace hP : va_P (eD E) vwCl [(q, .inr (4, [.null, .int 0, .ref q7, .ref q15, .ref q23, .ref q32, .int 0, .ref q40, .int 0, .int 0, .int 0])), (q7, .inl (eI E, 12, .inl (fun _ => 0))), (q15, .inl (eI E, 12, .inl (fun _ => 0))), (q23, .inl (eI E, 12, .inl (fun _ => 0))), (q32, .inl (eI E, 729, .inl (fun _ => 0))), (q40, .inl (eI E, 55, .inl (fun _ => 0)))] H := hP
  refine lv_aload_n hx hb dX4_init_45 rfl (lv_at hl 0 rfl) ?_
  refine lv_aload_n hx hb dX4_init_46 rfl (lv_at hl 1 rfl) ?_
  refine va_putF (D := eD E) (ci := 4) (v := .ref qw) (ty := (.object "TidedGround$World")) (C := RX4) (T := TX4) (N := 11) hx hb hts in_X4 tyX4 tyX4_ok nmX4 hown hK hP hD hS 0 rfl rfl 0 (by decide) lk9 (fun _ h9 => h9) rfl hin rfl (by decide +kernel) rfl rfl (Nat.le_of_ble_eq_true rfl) dX4_init_47 (fun H locs hP hD hS => ?_)
  replace hP : va_P (eD E) vwCl [(q, .inr (4, [.ref qw, .int 0, .ref q7, .ref q15, .ref q23, .ref q32, .int 0, .ref q40, .int 0, .int 0, .int 0])), (q7, .inl (eI E, 12, .inl (fun _ => 0))), (q15, .inl (eI E, 12, .inl (fun _ => 0))), (q23, .inl (eI E, 12, .inl (fun _ => 0))), (q32, .inl (eI E, 729, .inl (fun _ => 0))), (q40, .inl (eI E, 55, .inl (fun _ => 0)))] H := hP
  have hP9 : va_P (eD E) vwCl ([(q, .inr (4, [.ref qw, .int 0, .ref q7, .ref q15, .ref q23, .ref q32, .int 0, .ref q40, .int 0, .int 0, .int 0])), (q7, .inl (eI E, 12, .inl (fun _ => 0))), (q15, .inl (eI E, 12, .inl (fun _ => 0))), (q23, .inl (eI E, 12, .inl (fun _ => 0))), (q32, .inl (eI E, 729, .inl (fun _ => 0))), (q40, .inl (eI E, 55, .inl (fun _ => 0)))]) H := hP.sub [0, 1, 2, 3, 4, 5] rfl
  have hD9 : va_D A ([(q, .inr (4, [.ref qw, .int 0, .ref q7, .ref q15, .ref q23, .ref q32, .int 0, .ref q40, .int 0, .int 0, .int 0])), (q7, .inl (eI E, 12, .inl (fun _ => 0))), (q15, .inl (eI E, 12, .inl (fun _ => 0))), (q23, .inl (eI E, 12, .inl (fun _ => 0))), (q32, .inl (eI E, 729, .inl (fun _ => 0))), (q40, .inl (eI E, 55, .inl (fun _ => 0)))]) := hD.sub [0, 1, 2, 3, 4, 5] (by decide) rfl
  refine W.widen (k := 5) (n := 820) (Nat.le_of_ble_eq_true rfl) (Nat.le_of_ble_eq_true rfl) ?_
  subst hQ
  exact W.vret hx hb hr (fun t ht hW => ⟨⟨(q7, q15, q23, q32, q40), rfl, trivial, by rw [ht]; exact hP9, hD9⟩, hS.F ht⟩) hS.2.2 dX4_init_50
