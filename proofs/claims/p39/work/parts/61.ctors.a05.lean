def rm_X7_init : Room := { frames := 1, cells := 2, slots := 10, locals := 20 }
set_option maxHeartbeats 8000000 in
set_option maxRecDepth 100000 in
theorem c_X7_init (l : Launch) (E : Ev) (sz : Nat) (q : Nat) (qw : Nat) : Met l yX7_init wsX7_init rm_X7_init (CtP E sz [.ref q, .ref qw] [(q, .inr (7, [.null, .null, .null, .int 0, .int 0]))]) (va_Qv (fun (u : Nat × Nat) => True) (MtB E (va_A [(q, .inr (7, [.null, .null, .null, .int 0, .int 0]))] sz) (fun u => [(q, .inr (7, [.ref qw, .ref u.1, .ref u.2, .int 0, .int 1])), (u.1, .inl (eI E, 5, .inl (fun _ => 0))), (u.2, .inl (eI E, 5, .inl (fun _ => 0)))])) (va_A [(q, .inr (7, [.null, .null, .null, .int 0, .int 0]))] sz)) 2 10 (va_A [(q, .inr (7, [.null, .null, .null, .int 0, .int 0]))] sz) := by
  refine Met.ofW (cc := cX7_init) (maxL := 2) (ret := none) (by decide) rfl ?_
  intro p e s m args below meth c s₁ B hml hv
  obtain ⟨rfl, hsz, hC, hP, hD0⟩ := hv
  subst hsz
  have hD := hD0.self (sz := s.heap.size)
  generalize hAe : va_A [(q, .inr (7, [.null, .null, .null, .int 0, .int 0]))] s.heap.size = A at hD hC ⊢
  have hA : ∀ q : Nat, s.heap.size ≤ q → A q := fun q h => by rw [← hAe]; exact Or.inr h
  have hS : va_S A s.heap s.heap [] := va_S.rf
  have hx := B.exec
  have hb := B.bytes
  have hr := B.returns
  have hts := atoms_spec (ws := wsX7_init) B.pre
  have hown : s.vm.findClass RX7 = some m.cls := findClass_of_methodNamed B.named
  have hlocks := B.notSynchronized
  have hin : meth.name = "<init>" := (name_of_methodNamed B.named B.method).1
  have hE := hC.1
  have hK := hE.1
  replace hP : va_P (eD E) vwCl [(q, .inr (7, [.null, .null, .null, .int 0, .int 0]))] s.heap := hP
  have in_X7 : ∀ w ∈ u_ws RX7 TX7 5, w ∈ wsX7_init := fun w h => List.mem_cons_of_mem _ (List.mem_append_right _ h)
  have lk0 := hts (.methodLink RX7 3 objectInit) (by decide +kernel)
  have lk1 := hts (.instanceMethod objectInit) (by decide +kernel)
  have lk2 := hts (.code objectInit ⟨#[0xb1]⟩ 1 none) (by decide +kernel)
  have lk3 := hts (.arrayClass .int) (by decide +kernel)
  have lk4 := hts (.fieldLink RX7 9 "TidedGround$Wells" "floors" "[I") (by decide +kernel)
  have lk5 := hts (.fieldLink RX7 15 "TidedGround$Wells" "sorted" "[I") (by decide +kernel)
  have lk6 := hts (.fieldLink RX7 18 "TidedGround$Wells" "world" "LTidedGround$World;") (by decide +kernel)
  have lk7 := hts (.fieldLink RX7 22 "TidedGround$Wells" "below" "I") (by decide +kernel)
  have n_1 : (1 : Int32).toInt = 1 := by decide
  have n_5 : (5 : Int32).toInt = 5 := by decide
  have hl := lv_entry ([.ref q, .ref qw]) (n := 2) (Nat.le_of_ble_eq_true rfl)
  rw [lg_entry_eq]
  generalize (lg_sl ([.ref q, .ref qw]) ++ List.replicate (2 - (lg_sl ([.ref q, .ref qw])).length) Slot.unset).toArray = ls at hl ⊢
  have hl : lv_has ls 2 [(0, .ref q), (1, .ref qw)] := hl
  refine W_abs (fun Q hQ => ?_)
  refine lv_aload_n hx hb dX7_init_0 rfl (lv_at hl 0 rfl) ?_
  refine W.objInit hx hb hown lk0 lk1 lk2 rfl (by rw [hml]; exact hl.1) rfl dX7_init_1 (Nat.le_of_ble_eq_true rfl) (Nat.le_of_ble_eq_true rfl) ?_
  refine W.eq (g2 := F0 m 4 ls []) rfl ?_
  refine lv_aload_n hx hb dX7_init_4 rfl (lv_at hl 0 rfl) ?_
  refine lv_iconst (v := 5) hx hb dX7_init_5 (by decide) ?_
  refine ct_newI hx hb lk3 hK hP hD hS hA 5 (by decide) (by decide) (by decide) (Nat.le_of_ble_eq_true rfl) (Nat.le_of_ble_eq_true rfl) dX7_init_6 (fun q6 H hP hD hS => ?_)
  replace hP : va_P (eD E) vwCl [(q, .inr (7, [.null, .null, .null, .int 0, .int 0])), (q6, .inl (eI E, 5, .inl (fun _ => 0)))] H := hP
  refine W.widen (k := 1) (n := 5) (Nat.le_of_ble_eq_true rfl) (Nat.le_of_ble_eq_true rfl) ?_
  refine va_putF (D := eD E) (ci := 7) (v := .ref q6) (ty := (.array .int)) (C := RX7) (T := TX7) (N := 5) hx hb hts in_X7 tyX7 tyX7_ok nmX7 hown hK hP hD hS 0 rfl rfl 1 (by decide) lk4 (fun _ h9 => h9) rfl hin rfl (by decide +kernel) rfl rfl (Nat.le_of_ble_eq_true rfl) dX7_init_8 (fun H locs hP hD hS => ?_)
  replace hP : va_P (eD E) vwCl [(q, .inr (7, [.null, .ref q6, .null, .int 0, .int 0])), (q6, .inl (eI E, 5, .inl (fun _ => 0)))] H := hP
  refine lv_aload_n hx hb dX7_init_11 rfl (lv_at hl 0 rfl) ?_
  refine lv_iconst (v := 5) hx hb dX7_init_12 (by decide) ?_
  refine ct_newI hx hb lk3 hK hP hD hS hA 5 (by decide) (by decide) (by decide) (Nat.le_of_ble_eq_true rfl) (Nat.le_of_ble_eq_true rfl) dX7_init_13 (fun q13 H hP hD hS => ?_)
  replace hP : va_P (eD E) vwCl [(q, .inr (7, [.null, .ref q6, .null, .int 0, .int 0])), (q6, .inl (eI E, 5, .inl (fun _ => 0))), (q13, .inl (eI E, 5, .inl (fun _ => 0)))] H := hP
  refine W.widen (k := 2) (n := 10) (Nat.le_of_ble_eq_true rfl) (Nat.le_of_ble_eq_true rfl) ?_
  refine va_putF (D := eD E) (ci := 7) (v := .ref q13) (ty := (.array .int)) (C := RX7) (T := TX7) (N := 5) hx hb hts in_X7 tyX7 tyX7_ok nmX7 hown hK hP hD hS 0 rfl rfl 2 (by decide) lk5 (fun _ h9 => h9) rfl hin rfl (by decide +kernel) rfl rfl (Nat.le_of_ble_eq_true rfl) dX7_init_15 (fun H locs hP hD hS => ?_)
  replace hP : va_P (eD E) vwCl [(q, .inr (7, [.null, .ref q6, .ref q13, .int 0, .int 0])), (q6, .inl (eI E, 5, .inl (fun _ => 0))), (q13, .inl (eI E, 5, .inl (fun _ => 0)))] H := hP
  refine lv_aload_n hx hb dX7_init_18 rfl (lv_at hl 0 rfl) ?_
  refine lv_aload_n hx hb dX7_init_19 rfl (lv_at hl 1 rfl) ?_
  refine va_putF (D := eD E) (ci := 7) (v := .ref qw) (ty := (.object "TidedGround$World")) (C := RX7) (T := TX7) (N := 5) hx hb hts in_X7 tyX7 tyX7_ok nmX7 hown hK hP hD hS 0 rfl rfl 0 (by decide) lk6 (fun _ h9 => h9) rfl hin rfl (by decide +kernel) rfl rfl (Nat.le_of_ble_eq_true rfl) dX7_init_20 (fun H locs hP hD hS => ?_)
  replace hP : va_P (eD E) vwCl [(q, .inr (7, [.ref qw, .ref q6, .ref q13, .int 0, .int 0])), (q6, .inl (eI E, 5, .inl (fun _ => 0))), (q13, .inl (eI E, 5, .inl (fun _ => 0)))] H := hP
  refine lv_aload_n hx hb dX7_init_23 rfl (lv_at hl 0 rfl) ?_
  refine lv_iconst (v := 1) hx hb dX7_init_24 (by decide) ?_
  refine va_put (D := eD E) (ci := 7) (v := .int 1) (ty := .int) (C := RX7) (T := TX7) (N := 5) hx hb hts in_X7 tyX7 tyX7_ok nmX7 hown hK hP hD hS 0 rfl rfl 4 (by decide) lk7 (fun _ h9 => h9) rfl (by decide +kernel) rfl rfl (Nat.le_of_ble_eq_true rfl) dX7_init_25 (fun H locs hP hD hS => ?_)
  replace hP : va_P (eD E) vwCl [(q, .inr (7, [.ref qw, .ref q6, .ref q13, .int 0, .int 1])), (q6, .inl (eI E, 5, .inl (fun _ => 0))), (q13, .inl (eI E, 5, .inl (fun _ => 0)))] H := hP
  have hP9 : va_P (eD E) vwCl ([(q, .inr (7, [.ref qw, .ref q6, .ref q13, .int 0, .int 1])), (q6, .inl (eI E, 5, .inl (fun _ => 0))), (q13, .inl (eI E, 5, .inl (fun _ => 0)))]) H := hP.sub [0, 1, 2] rfl
  have hD9 : va_D A ([(q, .inr (7, [.ref qw, .ref q6, .ref q13, .int 0, .int 1])), (q6, .inl (eI E, 5, .inl (fun _ => 0))), (q13, .inl (eI E, 5, .inl (fun _ => 0)))]) := hD.sub [0, 1, 2] (by decide) rfl
  refine W.widen (k := 2) (n := 10) (Nat.le_of_ble_eq_true rfl) (Nat.le_of_ble_eq_true rfl) ?_
  subst hQ
  exact W.vret hx hb hr (fun t ht hW => ⟨⟨(q6, q13), rfl, trivial, by rw [ht]; exact hP9, hD9⟩, hS.F ht⟩) hS.2.2 dX7_init_28
