def rm_X8_isOpen : Room := { frames := 2, cells := 0, slots := 0, locals := 48 }
set_option maxHeartbeats 4000000 in
set_option maxRecDepth 100000 in
theorem c_X8_isOpen (l : Launch) (E : Ev) (A : Nat → Prop) (qw : Nat) (ap : Nat → Nat) (vp : Vf) (as_ : Nat → Nat) (vs : Vf) (h : Int32) (step : Int32) (hI : PlanI vp) (hJ : StateI vs) (hh : 0 ≤ h.toInt ∧ h.toInt ≤ 5) (hstep : 0 ≤ step.toInt ∧ step.toInt ≤ 2000000) : Met l yX8_isOpen wsX8_isOpen rm_X8_isOpen (RdP E A [.ref qw, .int h, .int step] (wpsL E qw ap vp as_ vs)) (vp_Si (fun r => (r.toInt = 0 ∨ r.toInt = 1))) 0 0 (fun _ => False) := by
  refine Met.ofW (cc := cX8_isOpen) (maxL := 3) (ret := (some .boolean)) (by decide) rfl ?_
  intro p e s m args below meth c s₁ B hml hv
  obtain ⟨rfl, hE, hP⟩ := hv
  have hx := B.exec
  have hb := B.bytes
  have hr := B.returns
  have hts := atoms_spec (ws := wsX8_isOpen) B.pre
  have hown : s.vm.findClass RX8 = some m.cls := findClass_of_methodNamed B.named
  have hlocks := B.notSynchronized
  have hK := hE.1
  have in_X8 : ∀ w ∈ u_ws RX8 TX8 2, w ∈ wsX8_isOpen := fun w h => List.mem_cons_of_mem _ (List.mem_append_left _ (List.mem_append_left _ (List.mem_append_left _ (List.mem_append_left _ (List.mem_append_right _ h)))))
  have in_X1 : ∀ w ∈ u_ws RX1 TX1 11, w ∈ wsX8_isOpen := fun w h => List.mem_cons_of_mem _ (List.mem_append_left _ (List.mem_append_left _ (List.mem_append_left _ (List.mem_append_right _ h))))
  have in_X5 : ∀ w ∈ u_ws RX5 TX5 4, w ∈ wsX8_isOpen := fun w h => List.mem_cons_of_mem _ (List.mem_append_left _ (List.mem_append_left _ (List.mem_append_right _ h)))
  have lk0 := hts (.fieldLink RX8 9 "TidedGround$World" "plan" "LTidedGround$Plan;") (by decide +kernel)
  have lk1 := hts (.fieldLink RX8 101 "TidedGround$Plan" "cracks" "LTidedGround$Sites;") (by decide +kernel)
  have lk2 := hts (.fieldLink RX8 76 "TidedGround$Sites" "cell" "[I") (by decide +kernel)
  have lk3 := hts (.fieldLink RX8 104 "TidedGround$Sites" "second" "[I") (by decide +kernel)
  have n_m1 : ((-1) : Int32).toInt = -1 := by decide
  have n_0 : (0 : Int32).toInt = 0 := by decide
  have n_1 : (1 : Int32).toInt = 1 := by decide
  have hl := lv_entry ([.ref qw, .int h, .int step]) (n := 3) (Nat.le_of_ble_eq_true rfl)
  rw [lg_entry_eq]
  generalize (lg_sl ([.ref qw, .int h, .int step]) ++ List.replicate (3 - (lg_sl ([.ref qw, .int h, .int step])).length) Slot.unset).toArray = ls at hl ⊢
  have hl : lv_has ls 3 [(0, .ref qw), (1, .int h), (2, .int step)] := hl
  refine W_abs (fun Q hQ => ?_)
  obtain ⟨hg, hmc, hm0, hm1, hm2, hs0, hs1, hs2, hs3⟩ := id hI
  obtain ⟨hg1, hg2, hg3, hg4⟩ := id hg
  have hz0 := hm0.1
  have hz1 := hm1.1
  have hz2 := hm2.1
  have hc0 := hs0.1
  have hc1 := hs1.1
  have hc2 := hs2.1
  have hc3 := hs3.1
  obtain ⟨hj0, hj1, hj2⟩ := id hJ
  refine lv_aload_n hx hb dX8_isOpen_0 rfl (lv_at hl 0 rfl) ?_
  refine lv_aload_n hx hb dX8_isOpen_1 rfl (lv_at hl 0 rfl) ?_
  refine va_get (D := eD E) (ci := 8) (v := .ref (ap 0)) (C := RX8) (T := TX8) (N := 2) hx hb hts in_X8 hown hK hP 0 rfl rfl 0 (by decide) lk0 (fun _ h9 => h9) rfl dX8_isOpen_2 ?_
  refine va_get (D := eD E) (ci := 1) (v := .ref (ap 8)) (C := RX1) (T := TX1) (N := 11) hx hb hts in_X1 hown hK hP 1 rfl rfl 8 (by decide) lk1 (fun _ h9 => h9) rfl dX8_isOpen_5 ?_
  refine va_get (D := eD E) (ci := 5) (v := .ref (ap 71)) (C := RX5) (T := TX5) (N := 4) hx hb hts in_X5 hown hK hP 18 rfl rfl 1 (by decide) lk2 (fun _ h9 => h9) rfl dX8_isOpen_8 ?_
  refine lv_iload_n hx hb dX8_isOpen_11 rfl (lv_at hl 1 rfl) ?_
  refine va_iald hx hb hK hP 19 0 rfl rfl (n := 6) (f := (vp 71)) (i_in (by omega) (by omega)) dX8_isOpen_12 ?_
  refine lv_topi (fun x12 e12 => ?_)
  have b12 := hs1.2 h.toNatClampNeg (i_natlt (by omega) (by decide))
  rw [← e12] at b12
  refine lv_iload_n hx hb dX8_isOpen_13 rfl (lv_at hl 2 rfl) ?_
  refine lv_iconst (v := (-1)) hx hb dX8_isOpen_14 (by decide) ?_
  refine rd_V (As := [.int x12, .int step, .int (-1)]) (rest := []) (C := RX8) (ci := 8) ⟨hx, hb, hml, hown, hts⟩ (c_X8_pullAt l E A qw ap vp as_ vs x12 step (-1) hI hJ (by omega) (by omega)) (cwV 3 hts gX8_isOpen_X8_pullAt rfl rfl rfl (by decide +kernel) ⟨Nat.le_of_ble_eq_true rfl, Nat.le_of_ble_eq_true rfl⟩) hE (hP.sub (ws' := wpsL E qw ap vp as_ vs) [0, 1, 2, 3, 4, 5, 6, 7, 8, 9, 10, 11, 12, 13, 14, 15, 16, 17, 18, 19, 20, 21, 22, 23, 24, 25, 26, 27, 28, 29, 30, 31, 32, 33] rfl) rfl rfl rfl rfl hl.1 rfl (Nat.le_of_ble_eq_true rfl) dX8_isOpen_15 ⟨Nat.zero_le _, Nat.zero_le _⟩ (fun r15 h15 => ?_)
  refine lv_aload_n hx hb dX8_isOpen_18 rfl (lv_at hl 0 rfl) ?_
  refine va_get (D := eD E) (ci := 8) (v := .ref (ap 0)) (C := RX8) (T := TX8) (N := 2) hx hb hts in_X8 hown hK hP 0 rfl rfl 0 (by decide) lk0 (fun _ h9 => h9) rfl dX8_isOpen_19 ?_
  refine va_get (D := eD E) (ci := 1) (v := .ref (ap 8)) (C := RX1) (T := TX1) (N := 11) hx hb hts in_X1 hown hK hP 1 rfl rfl 8 (by decide) lk1 (fun _ h9 => h9) rfl dX8_isOpen_22 ?_
  refine va_get (D := eD E) (ci := 5) (v := .ref (ap 73)) (C := RX5) (T := TX5) (N := 4) hx hb hts in_X5 hown hK hP 18 rfl rfl 3 (by decide) lk3 (fun _ h9 => h9) rfl dX8_isOpen_25 ?_
  refine lv_iload_n hx hb dX8_isOpen_28 rfl (lv_at hl 1 rfl) ?_
  refine va_iald hx hb hK hP 21 0 rfl rfl (n := 6) (f := (vp 73)) (i_in (by omega) (by omega)) dX8_isOpen_29 ?_
  refine lv_topi (fun x29 e29 => ?_)
  refine lv_icmp_le (tgt := 37) hx hb dX8_isOpen_30 (by decide) (fun c30 => ?_) (fun c30 => ?_)
  · have c30_ := i_le c30
    refine lv_iconst (v := 0) hx hb dX8_isOpen_37 (by decide) ?_
    subst hQ
    exact W.zret (v := 0) hx hb hr rfl (fun t ht hW => ⟨0, rfl, (by omega), ht⟩) (fun q h => absurd h List.not_mem_nil) dX8_isOpen_38
  · have c30_ := i_nle c30
    refine lv_iconst (v := 1) hx hb dX8_isOpen_33 (by decide) ?_
    refine lv_goto (tgt := 38) hx hb dX8_isOpen_34 (by decide) ?_
    subst hQ
    exact W.zret (v := 1) hx hb hr rfl (fun t ht hW => ⟨1, rfl, (by omega), ht⟩) (fun q h => absurd h List.not_mem_nil) dX8_isOpen_38
