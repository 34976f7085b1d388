def rm_X8_crackBetween : Room := { frames := 2, cells := 0, slots := 0, locals := 45 }
set_option maxHeartbeats 4000000 in
set_option maxRecDepth 100000 in
theorem c_X8_crackBetween (l : Launch) (E : Ev) (A : Nat → Prop) (qw : Nat) (ap : Nat → Nat) (vp : Vf) (as_ : Nat → Nat) (vs : Vf) (cell : Int32) (there : Int32) (hI : PlanI vp) (hJ : StateI vs) (hcell : 0 ≤ cell.toInt ∧ cell.toInt ≤ 23) (hthere : 0 ≤ there.toInt ∧ there.toInt ≤ 23) : Met l yX8_crackBetween wsX8_crackBetween rm_X8_crackBetween (RdP E A [.ref qw, .int cell, .int there] (wpsL E qw ap vp as_ vs)) (vp_Si (fun r => r.toInt = -1 ∨ (0 ≤ r.toInt ∧ r.toInt ≤ 5))) 0 0 (fun _ => False) := by
  refine Met.ofW (cc := cX8_crackBetween) (maxL := 5) (ret := (some .int)) (by decide) rfl ?_
  intro p e s m args below meth c s₁ B hml hv
  obtain ⟨rfl, hE, hP⟩ := hv
  have hx := B.exec
  have hb := B.bytes
  have hr := B.returns
  have hts := atoms_spec (ws := wsX8_crackBetween) B.pre
  have hown : s.vm.findClass RX8 = some m.cls := findClass_of_methodNamed B.named
  have hlocks := B.notSynchronized
  have hK := hE.1
  have in_X8 : ∀ w ∈ u_ws RX8 TX8 2, w ∈ wsX8_crackBetween := fun w h => List.mem_cons_of_mem _ (List.mem_append_left _ (List.mem_append_left _ (List.mem_append_right _ h)))
  have in_X1 : ∀ w ∈ u_ws RX1 TX1 11, w ∈ wsX8_crackBetween := fun w h => List.mem_cons_of_mem _ (List.mem_append_left _ (List.mem_append_right _ h))
  have lk0 := hts (.methodLink RX8 110 Lib.Math.min.name) (by decide +kernel)
  have lk1 := hts (.static Lib.Math.min.name) (by decide +kernel)
  have lk2 := hts (.initialized "java/lang/Math") (by decide +kernel)
  have lk3 := hts (.code Lib.Math.min.name Lib.Math.min.code 2 (some .int)) (by decide +kernel)
  have lk4 := hts (.fieldLink RX8 9 "TidedGround$World" "plan" "LTidedGround$Plan;") (by decide +kernel)
  have lk5 := hts (.methodLink RX8 47 Lib.Math.max.name) (by decide +kernel)
  have lk6 := hts (.static Lib.Math.max.name) (by decide +kernel)
  have lk7 := hts (.code Lib.Math.max.name Lib.Math.max.code 2 (some .int)) (by decide +kernel)
  have lk8 := hts (.fieldLink RX8 101 "TidedGround$Plan" "cracks" "LTidedGround$Sites;") (by decide +kernel)
  have n_0 : (0 : Int32).toInt = 0 := by decide
  have n_1 : (1 : Int32).toInt = 1 := by decide
  have n_2 : (2 : Int32).toInt = 2 := by decide
  have hl := lv_entry ([.ref qw, .int cell, .int there]) (n := 5) (Nat.le_of_ble_eq_true rfl)
  rw [lg_entry_eq]
  generalize (lg_sl ([.ref qw, .int cell, .int there]) ++ List.replicate (5 - (lg_sl ([.ref qw, .int cell, .int there])).length) Slot.unset).toArray = ls at hl ⊢
  have hl : lv_has ls 5 [(0, .ref qw), (1, .int cell), (2, .int there)] := hl
  refine W_abs (fun Q hQ => ?_)
  obtain ⟨hg, hmc, hm0, hm1, hm2, hs0, hs1, hs2, hs3⟩ := id hI
  obtain ⟨hg1, hg2, hg3, hg4⟩ := id hg
  have hz0 := hm0.1
  have hz1 := hm1.1
  have hz2 := hm2.1
  have hc0 := hs0.1
  have hc1 := hs1.1
  have hc2 := hs2.1
  have hc3 := hs3.1
  obtain ⟨hj0, hj1, hj2⟩ := id hJ
  refine lv_iload_n hx hb dX8_crackBetween_0 rfl (lv_at hl 1 rfl) ?_
  refine lv_iload_n hx hb dX8_crackBetween_1 rfl (lv_at hl 2 rfl) ?_
  refine va_mmin hx hb (hml.trans hl.1.symm) hown lk0 lk1 lk2 lk3 (Nat.le_of_ble_eq_true rfl) (Nat.le_of_ble_eq_true rfl) (Nat.zero_le _) (Nat.zero_le _) dX8_crackBetween_2 ?_
  refine lv_topi (fun x2 e2 => ?_)
  have t2 := i_min e2
  refine lv_istore_n (lv' := [(3, .int x2), (0, .ref qw), (1, .int cell), (2, .int there)]) hx hb dX8_crackBetween_5 rfl hl (by decide) rfl (fun ls hl => ?_)
  refine lv_aload_n hx hb dX8_crackBetween_6 rfl (lv_at hl 1 rfl) ?_
  refine va_get (D := eD E) (ci := 8) (v := .ref (ap 0)) (C := RX8) (T := TX8) (N := 2) hx hb hts in_X8 hown hK hP 0 rfl rfl 0 (by decide) lk4 (fun _ h9 => h9) rfl dX8_crackBetween_7 ?_
  refine lv_iload_n hx hb dX8_crackBetween_10 rfl (lv_at hl 0 rfl) ?_
  refine lv_iconst (v := 2) hx hb dX8_crackBetween_11 (by decide) ?_
  refine rd_V (As := [.int x2, .int 2]) (rest := []) (C := RX1) (ci := 1) ⟨hx, hb, hml, hown, hts⟩ (c_X1_beside l E A ap vp x2 2 hI (by omega)) (cwV 2 hts gX8_crackBetween_X1_beside rfl rfl rfl (by decide +kernel) ⟨Nat.le_of_ble_eq_true rfl, Nat.le_of_ble_eq_true rfl⟩) hE (hP.sub (ws' := planL E ap vp) [1, 2, 3, 4, 5, 6, 7, 8, 9, 10, 11, 12, 13, 14, 15, 16, 17, 18, 19, 20, 21, 22, 23, 24, 25, 26, 27, 28, 29] rfl) rfl rfl rfl rfl hl.1 rfl (Nat.le_of_ble_eq_true rfl) dX8_crackBetween_12 ⟨Nat.zero_le _, Nat.zero_le _⟩ (fun r12 h12 => ?_)
  have hf12 := h12.2
  replace h12 := h12.1
  refine lv_iload_n hx hb dX8_crackBetween_15 rfl (lv_at hl 2 rfl) ?_
  refine lv_iload_n hx hb dX8_crackBetween_16 rfl (lv_at hl 3 rfl) ?_
  refine va_mmax hx hb (hml.trans hl.1.symm) hown lk5 lk6 lk2 lk7 (Nat.le_of_ble_eq_true rfl) (Nat.le_of_ble_eq_true rfl) (Nat.zero_le _) (Nat.zero_le _) dX8_crackBetween_17 ?_
  refine lv_topi (fun x17 e17 => ?_)
  have t17 := i_max e17
  refine lv_icmp_ne (tgt := 27) hx hb dX8_crackBetween_20 (by decide) (fun c20 => ?_) (fun c20 => ?_)
  · have c20_ := i_ne c20
    refine lv_iconst (v := 1) hx hb dX8_crackBetween_27 (by decide) ?_
    refine lv_istore (lv' := [(4, .int 1), (3, .int x2), (0, .ref qw), (1, .int cell), (2, .int there)]) hx hb dX8_crackBetween_28 hl (by decide) rfl (fun ls hl => ?_)
    refine lv_aload_n hx hb dX8_crackBetween_30 rfl (lv_at hl 2 rfl) ?_
    refine va_get (D := eD E) (ci := 8) (v := .ref (ap 0)) (C := RX8) (T := TX8) (N := 2) hx hb hts in_X8 hown hK hP 0 rfl rfl 0 (by decide) lk4 (fun _ h9 => h9) rfl dX8_crackBetween_31 ?_
    refine va_get (D := eD E) (ci := 1) (v := .ref (ap 8)) (C := RX1) (T := TX1) (N := 11) hx hb hts in_X1 hown hK hP 1 rfl rfl 8 (by decide) lk8 (fun _ h9 => h9) rfl dX8_crackBetween_34 ?_
    refine lv_iload_n hx hb dX8_crackBetween_37 rfl (lv_at hl 1 rfl) ?_
    refine lv_iload hx hb dX8_crackBetween_38 (lv_at hl 0 rfl) ?_
    refine rd_V (As := [.int x2, .int 1]) (rest := []) (C := RX5) (ci := 5) ⟨hx, hb, hml, hown, hts⟩ (c_X5_find l E A (ap 8) (ap 71) (ap 72) (ap 73) (vp 70 0) (vp 71) (vp 72) (vp 73) x2 1 (by omega)) (cwV 2 hts gX8_crackBetween_X5_find rfl rfl rfl (by decide +kernel) ⟨Nat.le_of_ble_eq_true rfl, Nat.le_of_ble_eq_true rfl⟩) hE (hP.sub (ws' := sitesL E (ap 8) (ap 71) (ap 72) (ap 73) (vp 70 0) (vp 71) (vp 72) (vp 73)) [18, 19, 20, 21] rfl) rfl rfl rfl rfl hl.1 rfl (Nat.le_of_ble_eq_true rfl) dX8_crackBetween_40 ⟨Nat.zero_le _, Nat.zero_le _⟩ (fun r40 h40 => ?_)
    have hf40 := h40.2
    replace h40 := h40.1
    subst hQ
    exact W.iret (v := r40) hx hb hr (fun t ht hW => ⟨r40, rfl, (by omega), ht⟩) (fun q h => absurd h List.not_mem_nil) dX8_crackBetween_43
  · have c20_ := i_eq c20
    refine lv_iconst (v := 0) hx hb dX8_crackBetween_23 (by decide) ?_
    refine lv_goto (tgt := 28) hx hb dX8_crackBetween_24 (by decide) ?_
    refine lv_istore (lv' := [(4, .int 0), (3, .int x2), (0, .ref qw), (1, .int cell), (2, .int there)]) hx hb dX8_crackBetween_28 hl (by decide) rfl (fun ls hl => ?_)
    refine lv_aload_n hx hb dX8_crackBetween_30 rfl (lv_at hl 2 rfl) ?_
    refine va_get (D := eD E) (ci := 8) (v := .ref (ap 0)) (C := RX8) (T := TX8) (N := 2) hx hb hts in_X8 hown hK hP 0 rfl rfl 0 (by decide) lk4 (fun _ h9 => h9) rfl dX8_crackBetween_31 ?_
    refine va_get (D := eD E) (ci := 1) (v := .ref (ap 8)) (C := RX1) (T := TX1) (N := 11) hx hb hts in_X1 hown hK hP 1 rfl rfl 8 (by decide) lk8 (fun _ h9 => h9) rfl dX8_crackBetween_34 ?_
    refine lv_iload_n hx hb dX8_crackBetween_37 rfl (lv_at hl 1 rfl) ?_
    refine lv_iload hx hb dX8_crackBetween_38 (lv_at hl 0 rfl) ?_
    refine rd_V (As := [.int x2, .int 0]) (rest := []) (C := RX5) (ci := 5) ⟨hx, hb, hml, hown, hts⟩ (c_X5_find l E A (ap 8) (ap 71) (ap 72) (ap 73) (vp 70 0) (vp 71) (vp 72) (vp 73) x2 0 (by omega)) (cwV 2 hts gX8_crackBetween_X5_find rfl rfl rfl (by decide +kernel) ⟨Nat.le_of_ble_eq_true rfl, Nat.le_of_ble_eq_true rfl⟩) hE (hP.sub (ws' := sitesL E (ap 8) (ap 71) (ap 72) (ap 73) (vp 70 0) (vp 71) (vp 72) (vp 73)) [18, 19, 20, 21] rfl) rfl rfl rfl rfl hl.1 rfl (Nat.le_of_ble_eq_true rfl) dX8_crackBetween_40 ⟨Nat.zero_le _, Nat.zero_le _⟩ (fun r40 h40 => ?_)
    have hf40 := h40.2
    replace h40 := h40.1
    subst hQ
    exact W.iret (v := r40) hx hb hr (fun t ht hW => ⟨r40, rfl, (by omega), ht⟩) (fun q h => absurd h List.not_mem_nil) dX8_crackBetween_43
