def rm_X9_house : Room := { frames := 5, cells := 0, slots := 0, locals := 122 }
set_option maxHeartbeats 4000000 in
set_option maxRecDepth 100000 in
theorem c_X9_house (l : Launch) (E : Ev) (A : Nat → Prop) (a : Nat → Nat) (v : Vf) (aq : Nat → Nat) (ap : Nat → Nat) (vp : Vf) (as_ : Nat → Nat) (vs : Vf) (h : Int32) (what : Int32) (hI : PlanI vp) (hJ : StateI vs) (hT : TgI v) : Met l yX9_house wsX9_house rm_X9_house (RdP E A [.ref (a 99), .int h, .int what] (tgsL E a v aq ap vp as_ vs)) (vp_Si (fun r => True)) 0 0 (fun _ => False) := by
  refine Met.ofW (cc := cX9_house) (maxL := 4) (ret := (some .int)) (by decide) rfl ?_
  intro p e s m args below meth c s₁ B hml hv
  obtain ⟨rfl, hE, hP⟩ := hv
  have hx := B.exec
  have hb := B.bytes
  have hr := B.returns
  have hts := atoms_spec (ws := wsX9_house) B.pre
  have hown : s.vm.findClass RX9 = some m.cls := findClass_of_methodNamed B.named
  have hlocks := B.notSynchronized
  have hK := hE.1
  have in_X9 : ∀ w ∈ u_ws RX9 TX9 13, w ∈ wsX9_house := fun w h => List.mem_cons_of_mem _ (List.mem_append_left _ (List.mem_append_left _ (List.mem_append_left _ (List.mem_append_left _ (List.mem_append_left _ (List.mem_append_right _ h))))))
  have in_X8 : ∀ w ∈ u_ws RX8 TX8 2, w ∈ wsX9_house := fun w h => List.mem_cons_of_mem _ (List.mem_append_left _ (List.mem_append_left _ (List.mem_append_left _ (List.mem_append_left _ (List.mem_append_right _ h)))))
  have in_X1 : ∀ w ∈ u_ws RX1 TX1 11, w ∈ wsX9_house := fun w h => List.mem_cons_of_mem _ (List.mem_append_left _ (List.mem_append_left _ (List.mem_append_left _ (List.mem_append_right _ h))))
  have in_X5 : ∀ w ∈ u_ws RX5 TX5 4, w ∈ wsX9_house := fun w h => List.mem_cons_of_mem _ (List.mem_append_left _ (List.mem_append_left _ (List.mem_append_right _ h)))
  have in_X6 : ∀ w ∈ u_ws RX6 TX6 9, w ∈ wsX9_house := fun w h => List.mem_cons_of_mem _ (List.mem_append_left _ (List.mem_append_right _ h))
  have lk0 := hts (.fieldLink RX9 43 "TidedGround" "world" "LTidedGround$World;") (by decide +kernel)
  have lk1 := hts (.fieldLink RX9 91 "TidedGround$World" "plan" "LTidedGround$Plan;") (by decide +kernel)
  have lk2 := hts (.fieldLink RX9 122 "TidedGround$Plan" "houses" "LTidedGround$Sites;") (by decide +kernel)
  have lk3 := hts (.constant RX9 81 (-1000000002)) (by decide +kernel)
  have lk4 := hts (.fieldLink RX9 213 "TidedGround$Sites" "cell" "[I") (by decide +kernel)
  have lk5 := hts (.fieldLink RX9 216 "TidedGround$Sites" "first" "[I") (by decide +kernel)
  have lk6 := hts (.fieldLink RX9 34 "TidedGround" "now" "LTidedGround$State;") (by decide +kernel)
  have lk7 := hts (.fieldLink RX9 219 "TidedGround$State" "props" "[I") (by decide +kernel)
  have lk8 := hts (.fieldLink RX9 137 "TidedGround$State" "step" "I") (by decide +kernel)
  have lk9 := hts (.constant RX9 161 (-1000000001)) (by decide +kernel)
  have n_m1000000002 : ((-1000000002) : Int32).toInt = -1000000002 := by decide
  have n_m1000000001 : ((-1000000001) : Int32).toInt = -1000000001 := by decide
  have n_0 : (0 : Int32).toInt = 0 := by decide
  have n_1 : (1 : Int32).toInt = 1 := by decide
  have hl := lv_entry ([.ref (a 99), .int h, .int what]) (n := 4) (Nat.le_of_ble_eq_true rfl)
  rw [lg_entry_eq]
  generalize (lg_sl ([.ref (a 99), .int h, .int what]) ++ List.replicate (4 - (lg_sl ([.ref (a 99), .int h, .int what])).length) Slot.unset).toArray = ls at hl ⊢
  have hl : lv_has ls 4 [(0, .ref (a 99)), (1, .int h), (2, .int what)] := hl
  refine W_abs (fun Q hQ => ?_)
  obtain ⟨hg, hmc, hm0, hm1, hm2, hs0, hs1, hs2, hs3⟩ := id hI
  obtain ⟨hg1, hg2, hg3, hg4⟩ := id hg
  have hz0 := hm0.1
  have hz1 := hm1.1
  have hz2 := hm2.1
  have hc0 := hs0.1
  have hc1 := hs1.1
  have hc2 := hs2.1
  have hc3 := hs3.1
  obtain ⟨hj0, hj1, hj2⟩ := id hJ
  obtain ⟨hT1, hT2⟩ := id hT
  refine lv_aload_n hx hb dX9_house_0 rfl (lv_at hl 0 rfl) ?_
  refine va_get (D := eD E) (ci := 9) (v := .ref (a 5)) (C := RX9) (T := TX9) (N := 13) hx hb hts in_X9 hown hK hP 0 rfl rfl 5 (by decide) lk0 (fun _ h9 => h9) rfl dX9_house_1 ?_
  refine va_get (D := eD E) (ci := 8) (v := .ref (ap 0)) (C := RX8) (T := TX8) (N := 2) hx hb hts in_X8 hown hK hP 5 rfl rfl 0 (by decide) lk1 (fun _ h9 => h9) rfl dX9_house_4 ?_
  refine va_get (D := eD E) (ci := 1) (v := .ref (ap 7)) (C := RX1) (T := TX1) (N := 11) hx hb hts in_X1 hown hK hP 6 rfl rfl 7 (by decide) lk2 (fun _ h9 => h9) rfl dX9_house_7 ?_
  refine lv_astore_n (lv' := [(3, .ref (ap 7)), (0, .ref (a 99)), (1, .int h), (2, .int what)]) hx hb dX9_house_10 rfl hl (by decide) rfl (fun ls hl => ?_)
  refine lv_aload_n hx hb dX9_house_11 rfl (lv_at hl 0 rfl) ?_
  refine lv_iload_n hx hb dX9_house_12 rfl (lv_at hl 2 rfl) ?_
  refine rd_V (As := [.int h]) (rest := []) (C := RX5) (ci := 5) ⟨hx, hb, hml, hown, hts⟩ (c_X5_has l E A (ap 7) (ap 61) (ap 62) (ap 63) (vp 60 0) (vp 61) (vp 62) (vp 63) h) (cwV 1 hts gX9_house_X5_has rfl rfl rfl (by decide +kernel) ⟨Nat.le_of_ble_eq_true rfl, Nat.le_of_ble_eq_true rfl⟩) hE (hP.sub (ws' := sitesL E (ap 7) (ap 61) (ap 62) (ap 63) (vp 60 0) (vp 61) (vp 62) (vp 63)) [19, 20, 21, 22] rfl) rfl rfl rfl rfl hl.1 rfl (Nat.le_of_ble_eq_true rfl) dX9_house_13 ⟨Nat.zero_le _, Nat.zero_le _⟩ (fun r13 h13 => ?_)
  refine lv_if_ne (tgt := 22) hx hb dX9_house_16 (by decide) (fun c16 => ?_) (fun c16 => ?_)
  · have c16_ := i_ne c16
    replace h13 := or_y h13 c16_
    clear c16_
    have sv22_h : 0 ≤ h.toInt ∧ h.toInt ≤ 5 := by omega
    refine lv_iload_n hx hb dX9_house_22 rfl (lv_at hl 3 rfl) ?_
    by_cases tb23 : what.toInt < 0 ∨ 4 < what.toInt
    · refine lv_tableOut (tgt := 123) hx hb dX9_house_23 tb23 (by decide) ?_
      refine lv_ldc hx hb hown lk3 dX9_house_123 ?_
      subst hQ
      exact W.iret (v := (-1000000002)) hx hb hr (fun t ht hW => ⟨(-1000000002), rfl, trivial, ht⟩) (fun q h => absurd h List.not_mem_nil) dX9_house_125
    · rcases (show what.toInt = 0 ∨ what.toInt = 1 ∨ what.toInt = 2 ∨ what.toInt = 3 ∨ what.toInt = 4 by omega) with sw23 | sw23 | sw23 | sw23 | sw23
      · refine lv_tableIn (off := 33) (tgt := 56) hx hb dX9_house_23 (by omega) (by omega) (by rw [sw23]; rfl) (by decide) ?_
        refine lv_aload_n hx hb dX9_house_56 rfl (lv_at hl 1 rfl) ?_
        refine va_get (D := eD E) (ci := 9) (v := .ref (a 5)) (C := RX9) (T := TX9) (N := 13) hx hb hts in_X9 hown hK hP 0 rfl rfl 5 (by decide) lk0 (fun _ h9 => h9) rfl dX9_house_57 ?_
        refine va_get (D := eD E) (ci := 8) (v := .ref (ap 0)) (C := RX8) (T := TX8) (N := 2) hx hb hts in_X8 hown hK hP 5 rfl rfl 0 (by decide) lk1 (fun _ h9 => h9) rfl dX9_house_60 ?_
        refine lv_aload_n hx hb dX9_house_63 rfl (lv_at hl 0 rfl) ?_
        refine va_get (D := eD E) (ci := 5) (v := .ref (ap 61)) (C := RX5) (T := TX5) (N := 4) hx hb hts in_X5 hown hK hP 19 rfl rfl 1 (by decide) lk4 (fun _ h9 => h9) rfl dX9_house_64 ?_
        refine lv_iload_n hx hb dX9_house_67 rfl (lv_at hl 2 rfl) ?_
        refine va_iald hx hb hK hP 20 0 rfl rfl (n := 6) (f := (vp 61)) (i_in (by omega) (by omega)) dX9_house_68 ?_
        refine lv_topi (fun x68 e68 => ?_)
        have b68 := hs0.2 h.toNatClampNeg (i_natlt (by omega) (by decide))
        rw [← e68] at b68
        refine rd_V (As := [.int x68]) (rest := []) (C := RX1) (ci := 1) ⟨hx, hb, hml, hown, hts⟩ (c_X1_pairOf l E A ap vp x68 hI (by omega)) (cwV 1 hts gX9_house_X1_pairOf rfl rfl rfl (by decide +kernel) ⟨Nat.le_of_ble_eq_true rfl, Nat.le_of_ble_eq_true rfl⟩) hE (hP.sub (ws' := planL E ap vp) [6, 7, 8, 9, 10, 11, 12, 13, 14, 15, 16, 17, 18, 19, 20, 21, 22, 23, 24, 25, 26, 27, 28, 29, 30, 31, 32, 33, 34] rfl) rfl rfl rfl rfl hl.1 rfl (Nat.le_of_ble_eq_true rfl) dX9_house_69 ⟨Nat.zero_le _, Nat.zero_le _⟩ (fun r69 h69 => ?_)
        subst hQ
        exact W.iret (v := r69) hx hb hr (fun t ht hW => ⟨r69, rfl, trivial, ht⟩) (fun q h => absurd h List.not_mem_nil) dX9_house_72
      · refine lv_tableIn (off := 50) (tgt := 73) hx hb dX9_house_23 (by omega) (by omega) (by rw [sw23]; rfl) (by decide) ?_
        refine lv_aload_n hx hb dX9_house_73 rfl (lv_at hl 0 rfl) ?_
        refine va_get (D := eD E) (ci := 5) (v := .ref (ap 62)) (C := RX5) (T := TX5) (N := 4) hx hb hts in_X5 hown hK hP 19 rfl rfl 2 (by decide) lk5 (fun _ h9 => h9) rfl dX9_house_74 ?_
        refine lv_iload_n hx hb dX9_house_77 rfl (lv_at hl 2 rfl) ?_
        refine va_iald hx hb hK hP 21 0 rfl rfl (n := 6) (f := (vp 62)) (i_in (by omega) (by omega)) dX9_house_78 ?_
        refine lv_topi (fun x78 e78 => ?_)
        subst hQ
        exact W.iret (v := x78) hx hb hr (fun t ht hW => ⟨x78, rfl, trivial, ht⟩) (fun q h => absurd h List.not_mem_nil) dX9_house_79
      · refine lv_tableIn (off := 57) (tgt := 80) hx hb dX9_house_23 (by omega) (by omega) (by rw [sw23]; rfl) (by decide) ?_
        refine lv_aload_n hx hb dX9_house_80 rfl (lv_at hl 1 rfl) ?_
        refine va_get (D := eD E) (ci := 9) (v := .ref (as_ 0)) (C := RX9) (T := TX9) (N := 13) hx hb hts in_X9 hown hK hP 0 rfl rfl 6 (by decide) lk6 (fun _ h9 => h9) rfl dX9_house_81 ?_
        refine va_get (D := eD E) (ci := 6) (v := .ref (as_ 3)) (C := RX6) (T := TX6) (N := 9) hx hb hts in_X6 hown hK hP 35 rfl rfl 3 (by decide) lk7 (fun _ h9 => h9) rfl dX9_house_84 ?_
        refine lv_iload_n hx hb dX9_house_87 rfl (lv_at hl 2 rfl) ?_
        refine va_iald hx hb hK hP 38 0 rfl rfl (n := 6) (f := (vs 3)) (i_in (by omega) (by omega)) dX9_house_88 ?_
        refine lv_topi (fun x88 e88 => ?_)
        subst hQ
        exact W.iret (v := x88) hx hb hr (fun t ht hW => ⟨x88, rfl, trivial, ht⟩) (fun q h => absurd h List.not_mem_nil) dX9_house_89
      · refine lv_tableIn (off := 67) (tgt := 90) hx hb dX9_house_23 (by omega) (by omega) (by rw [sw23]; rfl) (by decide) ?_
        refine lv_aload_n hx hb dX9_house_90 rfl (lv_at hl 1 rfl) ?_
        refine va_get (D := eD E) (ci := 9) (v := .ref (a 5)) (C := RX9) (T := TX9) (N := 13) hx hb hts in_X9 hown hK hP 0 rfl rfl 5 (by decide) lk0 (fun _ h9 => h9) rfl dX9_house_91 ?_
        refine lv_iload_n hx hb dX9_house_94 rfl (lv_at hl 2 rfl) ?_
        refine lv_aload_n hx hb dX9_house_95 rfl (lv_at hl 1 rfl) ?_
        refine va_get (D := eD E) (ci := 9) (v := .ref (as_ 0)) (C := RX9) (T := TX9) (N := 13) hx hb hts in_X9 hown hK hP 0 rfl rfl 6 (by decide) lk6 (fun _ h9 => h9) rfl dX9_house_96 ?_
        refine va_get (D := eD E) (ci := 6) (v := .int (vs 0 0)) (C := RX6) (T := TX6) (N := 9) hx hb hts in_X6 hown hK hP 35 rfl rfl 0 (by decide) lk8 (fun _ h9 => h9) rfl dX9_house_99 ?_
        refine rd_V (As := [.int h, .int (vs 0 0)]) (rest := []) (C := RX8) (ci := 8) ⟨hx, hb, hml, hown, hts⟩ (c_X8_isBroken l E A (a 5) ap vp as_ vs h (vs 0 0) hI hJ (by omega) (by omega)) (cwV 2 hts gX9_house_X8_isBroken rfl rfl rfl (by decide +kernel) ⟨Nat.le_of_ble_eq_true rfl, Nat.le_of_ble_eq_true rfl⟩) hE (hP.sub (ws' := wpsL E (a 5) ap vp as_ vs) [5, 6, 7, 8, 9, 10, 11, 12, 13, 14, 15, 16, 17, 18, 19, 20, 21, 22, 23, 24, 25, 26, 27, 28, 29, 30, 31, 32, 33, 34, 35, 36, 37, 38] rfl) rfl rfl rfl rfl hl.1 rfl (Nat.le_of_ble_eq_true rfl) dX9_house_102 ⟨Nat.zero_le _, Nat.zero_le _⟩ (fun r102 h102 => ?_)
        refine lv_if_eq (tgt := 112) hx hb dX9_house_105 (by decide) (fun c105 => ?_) (fun c105 => ?_)
        · have c105_ := i_eq c105
          clear h102
          refine lv_iconst (v := 0) hx hb dX9_house_112 (by decide) ?_
          subst hQ
          exact W.iret (v := 0) hx hb hr (fun t ht hW => ⟨0, rfl, trivial, ht⟩) (fun q h => absurd h List.not_mem_nil) dX9_house_113
        · have c105_ := i_ne c105
          replace h102 := b_y h102 c105_
          clear c105_
          refine lv_iconst (v := 1) hx hb dX9_house_108 (by decide) ?_
          refine lv_goto (tgt := 113) hx hb dX9_house_109 (by decide) ?_
          subst hQ
          exact W.iret (v := 1) hx hb hr (fun t ht hW => ⟨1, rfl, trivial, ht⟩) (fun q h => absurd h List.not_mem_nil) dX9_house_113
      · refine lv_tableIn (off := 91) (tgt := 114) hx hb dX9_house_23 (by omega) (by omega) (by rw [sw23]; rfl) (by decide) ?_
        refine lv_aload_n hx hb dX9_house_114 rfl (lv_at hl 1 rfl) ?_
        refine va_get (D := eD E) (ci := 9) (v := .ref (a 5)) (C := RX9) (T := TX9) (N := 13) hx hb hts in_X9 hown hK hP 0 rfl rfl 5 (by decide) lk0 (fun _ h9 => h9) rfl dX9_house_115 ?_
        refine lv_iload_n hx hb dX9_house_118 rfl (lv_at hl 2 rfl) ?_
        refine rd_V (As := [.int h]) (rest := []) (C := RX8) (ci := 8) ⟨hx, hb, hml, hown, hts⟩ (c_X8_needOf l E A (a 5) ap vp as_ vs h hI hJ (by omega)) (cwV 1 hts gX9_house_X8_needOf rfl rfl rfl (by decide +kernel) ⟨Nat.le_of_ble_eq_true rfl, Nat.le_of_ble_eq_true rfl⟩) hE (hP.sub (ws' := wpsL E (a 5) ap vp as_ vs) [5, 6, 7, 8, 9, 10, 11, 12, 13, 14, 15, 16, 17, 18, 19, 20, 21, 22, 23, 24, 25, 26, 27, 28, 29, 30, 31, 32, 33, 34, 35, 36, 37, 38] rfl) rfl rfl rfl rfl hl.1 rfl (Nat.le_of_ble_eq_true rfl) dX9_house_119 ⟨Nat.zero_le _, Nat.zero_le _⟩ (fun r119 h119 => ?_)
        subst hQ
        exact W.iret (v := r119) hx hb hr (fun t ht hW => ⟨r119, rfl, trivial, ht⟩) (fun q h => absurd h List.not_mem_nil) dX9_house_122
  · have c16_ := i_eq c16
    replace h13 := or_n h13 c16_
    refine lv_ldc hx hb hown lk9 dX9_house_19 ?_
    subst hQ
    exact W.iret (v := (-1000000001)) hx hb hr (fun t ht hW => ⟨(-1000000001), rfl, trivial, ht⟩) (fun q h => absurd h List.not_mem_nil) dX9_house_21
