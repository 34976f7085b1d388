def rm_X8_init : Room := { frames := 1, cells := 0, slots := 0, locals := 20 }
set_option maxHeartbeats 8000000 in
set_option maxRecDepth 100000 in
theorem c_X8_init (l : Launch) (E : Ev) (sz : Nat) (q : Nat) (pl : Nat) (nw : Nat) : Met l yX8_init wsX8_init rm_X8_init (CtP E sz [.ref q, .ref pl, .ref nw] [(q, .inr (8, [.null, .null]))]) (va_Qv (fun (u : Unit) => True) (MtB E (va_A [(q, .inr (8, [.null, .null]))] sz) (fun u => [(q, .inr (8, [.ref pl, .ref nw]))])) (va_A [(q, .inr (8, [.null, .null]))] sz)) 0 0 (va_A [(q, .inr (8, [.null, .null]))] sz) := by
  refine Met.ofW (cc := cX8_init) (maxL := 3) (ret := none) (by decide) rfl ?_
  intro p e s m args below meth c s₁ B hml hv
  obtain ⟨rfl, hsz, hC, hP, hD0⟩ := hv
  subst hsz
  have hD := hD0.self (sz := s.heap.size)
  generalize hAe : va_A [(q, .inr (8, [.null, .null]))] s.heap.size = A at hD hC ⊢
  have hA : ∀ q : Nat, s.heap.size ≤ q → A q := fun q h => by rw [← hAe]; exact Or.inr h
  have hS : va_S A s.heap s.heap [] := va_S.rf
  have hx := B.exec
  have hb := B.bytes
  have hr := B.returns
  have hts := atoms_spec (ws := wsX8_init) B.pre
  have hown : s.vm.findClass RX8 = some m.cls := findClass_of_methodNamed B.named
  have hlocks := B.notSynchronized
  have hin : meth.name = "<init>" := (name_of_methodNamed B.named B.method).1
  have hE := hC.1
  have hK := hE.1
  replace hP : va_P (eD E) vwCl [(q, .inr (8, [.null, .null]))] s.heap := hP
  have in_X8 : ∀ w ∈ u_ws RX8 TX8 2, w ∈ wsX8_init := fun w h => List.mem_cons_of_mem _ (List.mem_append_right _ h)
  have lk0 := hts (.methodLink RX8 3 objectInit) (by decide +kernel)
  have lk1 := hts (.instanceMethod objectInit) (by decide +kernel)
  have lk2 := hts (.code objectInit ⟨#[0xb1]⟩ 1 none) (by decide +kernel)
  have lk3 := hts (.fieldLink RX8 9 "TidedGround$World" "plan" "LTidedGround$Plan;") (by decide +kernel)
  have lk4 := hts (.fieldLink RX8 15 "TidedGround$World" "now" "LTidedGround$State;") (by decide +kernel)
  have hl := lv_entry ([.ref q, .ref pl, .ref nw]) (n := 3) (Nat.le_of_ble_eq_true rfl)
  rw [lg_entry_eq]
  generalize (lg_sl ([.ref q, .ref pl, .ref nw]) ++ List.replicate (3 - (lg_sl ([.ref q, .ref pl, .ref nw])).length) Slot.unset).toArray = ls at hl ⊢
  have hl : lv_has ls 3 [(0, .ref q), (1, .ref pl), (2, .ref nw)] := hl
  refine W_abs (fun Q hQ => ?_)
  refine lv_aload_n hx hb dX8_init_0 rfl (lv_at hl 0 rfl) ?_
  refine W.objInit hx hb hown lk0 lk1 lk2 rfl (by rw [hml]; exact hl.1) rfl dX8_init_1 (Nat.le_of_ble_eq_true rfl) (Nat.le_of_ble_eq_true rfl) ?_
  refine W.eq (g2 := F0 m 4 ls []) rfl ?_
  refine lv_aload_n hx hb dX8_init_4 rfl (lv_at hl 0 rfl) ?_
  refine lv_aload_n hx hb dX8_init_5 rfl (lv_at hl 1 rfl) ?_
  refine va_put (D := eD E) (ci := 8) (v := .ref pl) (ty := (.object "TidedGround$Plan")) (C := RX8) (T := TX8) (N := 2) hx hb hts in_X8 tyX8 tyX8_ok nmX8 hown hK hP hD hS 0 rfl rfl 0 (by decide) lk3 (fun _ h9 => h9) rfl (by decide +kernel) rfl rfl (Nat.le_of_ble_eq_true rfl) dX8_init_6 (fun H locs hP hD hS => ?_)
  replace hP : va_P (eD E) vwCl [(q, .inr (8, [.ref pl, .null]))] H := hP
  refine lv_aload_n hx hb dX8_init_9 rfl (lv_at hl 0 rfl) ?_
  refine lv_aload_n hx hb dX8_init_10 rfl (lv_at hl 2 rfl) ?_
  refine va_putF (D := eD E) (ci := 8) (v := .ref nw) (ty := (.object "TidedGround$State")) (C := RX8) (T := TX8) (N := 2) hx hb hts in_X8 tyX8 tyX8_ok nmX8 hown hK hP hD hS 0 rfl rfl 1 (by decide) lk4 (fun _ h9 => h9) rfl hin rfl (by decide +kernel) rfl rfl (Nat.le_of_ble_eq_true rfl) dX8_init_11 (fun H locs hP hD hS => ?_)
  replace hP : va_P (eD E) vwCl [(q, .inr (8, [.ref pl, .ref nw]))] H := hP
  have hP9 : va_P (eD E) vwCl ([(q, .inr (8, [.ref pl, .ref nw]))]) H := hP.sub [0] rfl
  have hD9 : va_D A ([(q, .inr (8, [.ref pl, .ref nw]))]) := hD.sub [0] (by decide) rfl
  refine W.widen (k := 0) (n := 0) (Nat.le_of_ble_eq_true rfl) (Nat.le_of_ble_eq_true rfl) ?_
  subst hQ
  exact W.vret hx hb hr (fun t ht hW => ⟨⟨(), rfl, trivial, by rw [ht]; exact hP9, hD9⟩, hS.F ht⟩) hS.2.2 dX8_init_14
