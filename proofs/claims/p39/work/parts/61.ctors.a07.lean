def rm_X6_init : Room := { frames := 1, cells := 3, slots := 33, locals := 20 }
set_option maxHeartbeats 8000000 in
set_option maxRecDepth 100000 in
theorem c_X6_init (l : Launch) (E : Ev) (sz : Nat) (q : Nat) : Met l yX6_init wsX6_init rm_X6_init (CtP E sz [.ref q] [(q, .inr (6, [.int 0, .null, .null, .null, .int 0, .int 0, .int 0, .int 0, .int 0]))]) (va_Qv (fun (u : (Nat → Nat) × Vf) => StateI u.2 ∧ u.1 0 = q ∧ u.2 = up2 v00 6 0 20) (MtB E (va_A [(q, .inr (6, [.int 0, .null, .null, .null, .int 0, .int 0, .int 0, .int 0, .int 0]))] sz) (fun u => stateL E u.1 u.2)) (va_A [(q, .inr (6, [.int 0, .null, .null, .null, .int 0, .int 0, .int 0, .int 0, .int 0]))] sz)) 3 33 (va_A [(q, .inr (6, [.int 0, .null, .null, .null, .int 0, .int 0, .int 0, .int 0, .int 0]))] sz) := by
  refine Met.ofW (cc := cX6_init) (maxL := 1) (ret := none) (by decide) rfl ?_
  intro p e s m args below meth c s₁ B hml hv
  obtain ⟨rfl, hsz, hC, hP, hD0⟩ := hv
  subst hsz
  have hD := hD0.self (sz := s.heap.size)
  generalize hAe : va_A [(q, .inr (6, [.int 0, .null, .null, .null, .int 0, .int 0, .int 0, .int 0, .int 0]))] s.heap.size = A at hD hC ⊢
  have hA : ∀ q : Nat, s.heap.size ≤ q → A q := fun q h => by rw [← hAe]; exact Or.inr h
  have hS : va_S A s.heap s.heap [] := va_S.rf
  have hx := B.exec
  have hb := B.bytes
  have hr := B.returns
  have hts := atoms_spec (ws := wsX6_init) B.pre
  have hown : s.vm.findClass RX6 = some m.cls := findClass_of_methodNamed B.named
  have hlocks := B.notSynchronized
  have hin : meth.name = "<init>" := (name_of_methodNamed B.named B.method).1
  have hE := hC.1
  have hK := hE.1
  replace hP : va_P (eD E) vwCl [(q, .inr (6, [.int 0, .null, .null, .null, .int 0, .int 0, .int 0, .int 0, .int 0]))] s.heap := hP
  have in_X6 : ∀ w ∈ u_ws RX6 TX6 9, w ∈ wsX6_init := fun w h => List.mem_cons_of_mem _ (List.mem_append_right _ h)
  have lk0 := hts (.methodLink RX6 3 objectInit) (by decide +kernel)
  have lk1 := hts (.instanceMethod objectInit) (by decide +kernel)
  have lk2 := hts (.code objectInit ⟨#[0xb1]⟩ 1 none) (by decide +kernel)
  have lk3 := hts (.arrayClass .int) (by decide +kernel)
  have lk4 := hts (.fieldLink RX6 9 "TidedGround$State" "shifts" "[I") (by decide +kernel)
  have lk5 := hts (.fieldLink RX6 15 "TidedGround$State" "loads" "[I") (by decide +kernel)
  have lk6 := hts (.fieldLink RX6 18 "TidedGround$State" "props" "[I") (by decide +kernel)
  have lk7 := hts (.fieldLink RX6 21 "TidedGround$State" "steep" "I") (by decide +kernel)
  have n_3 : (3 : Int32).toInt = 3 := by decide
  have n_6 : (6 : Int32).toInt = 6 := by decide
  have n_20 : (20 : Int32).toInt = 20 := by decide
  have n_24 : (24 : Int32).toInt = 24 := by decide
  have hl := lv_entry ([.ref q]) (n := 1) (Nat.le_of_ble_eq_true rfl)
  rw [lg_entry_eq]
  generalize (lg_sl ([.ref q]) ++ List.replicate (1 - (lg_sl ([.ref q])).length) Slot.unset).toArray = ls at hl ⊢
  have hl : lv_has ls 1 [(0, .ref q)] := hl
  refine W_abs (fun Q hQ => ?_)
  refine lv_aload_n hx hb dX6_init_0 rfl (lv_at hl 0 rfl) ?_
  refine W.objInit hx hb hown lk0 lk1 lk2 rfl (by rw [hml]; exact hl.1) rfl dX6_init_1 (Nat.le_of_ble_eq_true rfl) (Nat.le_of_ble_eq_true rfl) ?_
  refine W.eq (g2 := F0 m 4 ls []) rfl ?_
  refine lv_aload_n hx hb dX6_init_4 rfl (lv_at hl 0 rfl) ?_
  refine lv_iconst (v := 3) hx hb dX6_init_5 (by decide) ?_
  refine ct_newI hx hb lk3 hK hP hD hS hA 3 (by decide) (by decide) (by decide) (Nat.le_of_ble_eq_true rfl) (Nat.le_of_ble_eq_true rfl) dX6_init_6 (fun q6 H hP hD hS => ?_)
  replace hP : va_P (eD E) vwCl [(q, .inr (6, [.int 0, .null, .null, .null, .int 0, .int 0, .int 0, .int 0, .int 0])), (q6, .inl (eI E, 3, .inl (fun _ => 0)))] H := hP
  refine W.widen (k := 1) (n := 3) (Nat.le_of_ble_eq_true rfl) (Nat.le_of_ble_eq_true rfl) ?_
  refine va_putF (D := eD E) (ci := 6) (v := .ref q6) (ty := (.array .int)) (C := RX6) (T := TX6) (N := 9) hx hb hts in_X6 tyX6 tyX6_ok nmX6 hown hK hP hD hS 0 rfl rfl 1 (by decide) lk4 (fun _ h9 => h9) rfl hin rfl (by decide +kernel) rfl rfl (Nat.le_of_ble_eq_true rfl) dX6_init_8 (fun H locs hP hD hS => ?_)
  replace hP : va_P (eD E) vwCl [(q, .inr (6, [.int 0, .ref q6, .null, .null, .int 0, .int 0, .int 0, .int 0, .int 0])), (q6, .inl (eI E, 3, .inl (fun _ => 0)))] H := hP
  refine lv_aload_n hx hb dX6_init_11 rfl (lv_at hl 0 rfl) ?_
  refine lv_bipush (v := 24) hx hb dX6_init_12 (by decide) ?_
  refine ct_newI hx hb lk3 hK hP hD hS hA 24 (by decide) (by decide) (by decide) (Nat.le_of_ble_eq_true rfl) (Nat.le_of_ble_eq_true rfl) dX6_init_14 (fun q14 H hP hD hS => ?_)
  replace hP : va_P (eD E) vwCl [(q, .inr (6, [.int 0, .ref q6, .null, .null, .int 0, .int 0, .int 0, .int 0, .int 0])), (q6, .inl (eI E, 3, .inl (fun _ => 0))), (q14, .inl (eI E, 24, .inl (fun _ => 0)))] H := hP
  refine W.widen (k := 2) (n := 27) (Nat.le_of_ble_eq_true rfl) (Nat.le_of_ble_eq_true rfl) ?_
  refine va_putF (D := eD E) (ci := 6) (v := .ref q14) (ty := (.array .int)) (C := RX6) (T := TX6) (N := 9) hx hb hts in_X6 tyX6 tyX6_ok nmX6 hown hK hP hD hS 0 rfl rfl 2 (by decide) lk5 (fun _ h9 => h9) rfl hin rfl (by decide +kernel) rfl rfl (Nat.le_of_ble_eq_true rfl) dX6_init_16 (fun H locs hP hD hS => ?_)
  replace hP : va_P (eD E) vwCl [(q, .inr (6, [.int 0, .ref q6, .ref q14, .null, .int 0, .int 0, .int 0, .int 0, .int 0])), (q6, .inl (eI E, 3, .inl (fun _ => 0))), (q14, .inl (eI E, 24, .inl (fun _ => 0)))] H := hP
  refine lv_aload_n hx hb dX6_init_19 rfl (lv_at hl 0 rfl) ?_
  refine lv_bipush (v := 6) hx hb dX6_init_20 (by decide) ?_
  refine ct_newI hx hb lk3 hK hP hD hS hA 6 (by decide) (by decide) (by decide) (Nat.le_of_ble_eq_true rfl) (Nat.le_of_ble_eq_true rfl) dX6_init_22 (fun q22 H hP hD hS => ?_)
  replace hP : va_P (eD E) vwCl [(q, .inr (6, [.int 0, .ref q6, .ref q14, .null, .int 0, .int 0, .int 0, .int 0, .int 0])), (q6, .inl (eI E, 3, .inl (fun _ => 0))), (q14, .inl (eI E, 24, .inl (fun _ => 0))), (q22, .inl (eI E, 6, .inl (fun _ => 0)))] H := hP
  refine W.widen (k := 3) (n := 33) (Nat.le_of_ble_eq_true rfl) (Nat.le_of_ble_eq_true rfl) ?_
  refine va_putF (D := eD E) (ci := 6) (v := .ref q22) (ty := (.array .int)) (C := RX6) (T := TX6) (N := 9) hx hb hts in_X6 tyX6 tyX6_ok nmX6 hown hK hP hD hS 0 rfl rfl 3 (by decide) lk6 (fun _ h9 => h9) rfl hin rfl (by decide +kernel) rfl rfl (Nat.le_of_ble_eq_true rfl) dX6_init_24 (fun H locs hP hD hS => ?_)
  replace hP : va_P (eD E) vwCl [(q, .inr (6, [.int 0, .ref q6, .ref q14, .ref q22, .int 0, .int 0, .int 0, .int 0, .int 0])), (q6, .inl (eI E, 3, .inl (fun _ => 0))), (q14, .inl (eI E, 24, .inl (fun _ => 0))), (q22, .inl (eI E, 6, .inl (fun _ => 0)))] H := hP
  refine lv_aload_n hx hb dX6_init_27 rfl (lv_at hl 0 rfl) ?_
  refine lv_bipush (v := 20) hx hb dX6_init_28 (by decide) ?_
  refine va_put (D := eD E) (ci := 6) (v := .int 20) (ty := .int) (C := RX6) (T := TX6) (N := 9) hx hb hts in_X6 tyX6 tyX6_ok nmX6 hown hK hP hD hS 0 rfl rfl 6 (by decide) lk7 (fun _ h9 => h9) rfl (by decide +kernel) rfl rfl (Nat.le_of_ble_eq_true rfl) dX6_init_30 (fun H locs hP hD hS => ?_)
  replace hP : va_P (eD E) vwCl [(q, .inr (6, [.int 0, .ref q6, .ref q14, .ref q22, .int 0, .int 0, .int 20, .int 0, .int 0])), (q6, .inl (eI E, 3, .inl (fun _ => 0))), (q14, .inl (eI E, 24, .inl (fun _ => 0))), (q22, .inl (eI E, 6, .inl (fun _ => 0)))] H := hP
  have hP9 : va_P (eD E) vwCl (stateL E (up1 (up1 (up1 (up1 (fun _ => 0) 0 q) 1 q6) 2 q14) 3 q22) (up2 v00 6 0 20)) H := hP.sub [0, 1, 2, 3] rfl
  have hD9 : va_D A (stateL E (up1 (up1 (up1 (up1 (fun _ => 0) 0 q) 1 q6) 2 q14) 3 q22) (up2 v00 6 0 20)) := hD.sub [0, 1, 2, 3] (by decide) rfl
  refine W.widen (k := 3) (n := 33) (Nat.le_of_ble_eq_true rfl) (Nat.le_of_ble_eq_true rfl) ?_
  subst hQ
  exact W.vret hx hb hr (fun t ht hW => ⟨⟨((up1 (up1 (up1 (up1 (fun _ => 0) 0 q) 1 q6) 2 q14) 3 q22), up2 v00 6 0 20), rfl, ⟨st_00, rfl, rfl⟩, by rw [ht]; exact hP9, hD9⟩, hS.F ht⟩) hS.2.2 dX6_init_33
