def rm_X8_stiffOf : Room := { frames := 1, cells := 0, slots := 0, locals := 21 }
set_option maxHeartbeats 4000000 in
set_option maxRecDepth 100000 in
theorem c_X8_stiffOf (l : Launch) (E : Ev) (A : Nat → Prop) (qw : Nat) (ap : Nat → Nat) (vp : Vf) (as_ : Nat → Nat) (vs : Vf) (cell : Int32) (hI : PlanI vp) (hJ : StateI vs) (hcell : 0 ≤ cell.toInt ∧ cell.toInt ≤ 23) : Met l yX8_stiffOf wsX8_stiffOf rm_X8_stiffOf (RdP E A [.ref qw, .int cell] (wpsL E qw ap vp as_ vs)) (vp_Si (fun r => True)) 0 0 (fun _ => False) := by
  refine Met.ofW (cc := cX8_stiffOf) (maxL := 2) (ret := (some .int)) (by decide) rfl ?_
  intro p e s m args below meth c s₁ B hml hv
  obtain ⟨rfl, hE, hP⟩ := hv
  have hx := B.exec
  have hb := B.bytes
  have hr := B.returns
  have hts := atoms_spec (ws := wsX8_stiffOf) B.pre
  have hown : s.vm.findClass RX8 = some m.cls := findClass_of_methodNamed B.named
  have hlocks := B.notSynchronized
  have hK := hE.1
  have in_X8 : ∀ w ∈ u_ws RX8 TX8 2, w ∈ wsX8_stiffOf := fun w h => List.mem_cons_of_mem _ (List.mem_append_left _ (List.mem_append_left _ (List.mem_append_right _ h)))
  have in_X1 : ∀ w ∈ u_ws RX1 TX1 11, w ∈ wsX8_stiffOf := fun w h => List.mem_cons_of_mem _ (List.mem_append_left _ (List.mem_append_right _ h))
  have in_X6 : ∀ w ∈ u_ws RX6 TX6 9, w ∈ wsX8_stiffOf := fun w h => List.mem_cons_of_mem _ (List.mem_append_right _ h)
  have lk0 := hts (.fieldLink RX8 9 "TidedGround$World" "plan" "LTidedGround$Plan;") (by decide +kernel)
  have lk1 := hts (.fieldLink RX8 41 "TidedGround$Plan" "softness" "[I") (by decide +kernel)
  have lk2 := hts (.fieldLink RX8 15 "TidedGround$World" "now" "LTidedGround$State;") (by decide +kernel)
  have lk3 := hts (.fieldLink RX8 44 "TidedGround$State" "loads" "[I") (by decide +kernel)
  have lk4 := hts (.methodLink RX8 47 Lib.Math.max.name) (by decide +kernel)
  have lk5 := hts (.static Lib.Math.max.name) (by decide +kernel)
  have lk6 := hts (.initialized "java/lang/Math") (by decide +kernel)
  have lk7 := hts (.code Lib.Math.max.name Lib.Math.max.code 2 (some .int)) (by decide +kernel)
  have n_0 : (0 : Int32).toInt = 0 := by decide
  have n_10 : (10 : Int32).toInt = 10 := by decide
  have hl := lv_entry ([.ref qw, .int cell]) (n := 2) (Nat.le_of_ble_eq_true rfl)
  rw [lg_entry_eq]
  generalize (lg_sl ([.ref qw, .int cell]) ++ List.replicate (2 - (lg_sl ([.ref qw, .int cell])).length) Slot.unset).toArray = ls at hl ⊢
  have hl : lv_has ls 2 [(0, .ref qw), (1, .int cell)] := hl
  refine W_abs (fun Q hQ => ?_)
  obtain ⟨hg, hmc, hm0, hm1, hm2, hs0, hs1, hs2, hs3⟩ := id hI
  obtain ⟨hg1, hg2, hg3, hg4⟩ := id hg
  have hz0 := hm0.1
  have hz1 := hm1.1
  have hz2 := hm2.1
  have hc0 := hs0.1
  have hc1 := hs1.1
  have hc2 := hs2.1
  have hc3 := hs3.1
  obtain ⟨hj0, hj1, hj2⟩ := id hJ
  refine lv_iconst (v := 0) hx hb dX8_stiffOf_0 (by decide) ?_
  refine lv_aload_n hx hb dX8_stiffOf_1 rfl (lv_at hl 0 rfl) ?_
  refine va_get (D := eD E) (ci := 8) (v := .ref (ap 0)) (C := RX8) (T := TX8) (N := 2) hx hb hts in_X8 hown hK hP 0 rfl rfl 0 (by decide) lk0 (fun _ h9 => h9) rfl dX8_stiffOf_2 ?_
  refine va_get (D := eD E) (ci := 1) (v := .ref (ap 4)) (C := RX1) (T := TX1) (N := 11) hx hb hts in_X1 hown hK hP 1 rfl rfl 4 (by decide) lk1 (fun _ h9 => h9) rfl dX8_stiffOf_5 ?_
  refine lv_iload_n hx hb dX8_stiffOf_8 rfl (lv_at hl 1 rfl) ?_
  refine va_iald hx hb hK hP 3 0 rfl rfl (n := 24) (f := (vp 4)) (i_in (by omega) (by omega)) dX8_stiffOf_9 ?_
  refine lv_topi (fun x9 e9 => ?_)
  refine lv_aload_n hx hb dX8_stiffOf_10 rfl (lv_at hl 0 rfl) ?_
  refine va_get (D := eD E) (ci := 8) (v := .ref (as_ 0)) (C := RX8) (T := TX8) (N := 2) hx hb hts in_X8 hown hK hP 0 rfl rfl 1 (by decide) lk2 (fun _ h9 => h9) rfl dX8_stiffOf_11 ?_
  refine va_get (D := eD E) (ci := 6) (v := .ref (as_ 2)) (C := RX6) (T := TX6) (N := 9) hx hb hts in_X6 hown hK hP 30 rfl rfl 2 (by decide) lk3 (fun _ h9 => h9) rfl dX8_stiffOf_14 ?_
  refine lv_iload_n hx hb dX8_stiffOf_17 rfl (lv_at hl 1 rfl) ?_
  refine va_iald hx hb hK hP 32 0 rfl rfl (n := 24) (f := (vs 2)) (i_in (by omega) (by omega)) dX8_stiffOf_18 ?_
  refine lv_topi (fun x18 e18 => ?_)
  refine lv_bipush (v := 10) hx hb dX8_stiffOf_19 (by decide) ?_
  refine lv_idiv hx hb dX8_stiffOf_21 (by decide) ?_
  refine lv_topi (fun x21 e21 => ?_)
  refine lv_isub hx hb dX8_stiffOf_22 ?_
  refine lv_topi (fun x22 e22 => ?_)
  refine va_mmax hx hb (hml.trans hl.1.symm) hown lk4 lk5 lk6 lk7 (Nat.le_of_ble_eq_true rfl) (Nat.le_of_ble_eq_true rfl) (Nat.zero_le _) (Nat.zero_le _) dX8_stiffOf_23 ?_
  refine lv_topi (fun x23 e23 => ?_)
  have t23 := i_max e23
  subst hQ
  exact W.iret (v := x23) hx hb hr (fun t ht hW => ⟨x23, rfl, trivial, ht⟩) (fun q h => absurd h List.not_mem_nil) dX8_stiffOf_26
