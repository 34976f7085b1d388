def rm_X9_moon : Room := { frames := 2, cells := 0, slots := 0, locals := 43 }
set_option maxHeartbeats 4000000 in
set_option maxRecDepth 100000 in
theorem c_X9_moon (l : Launch) (E : Ev) (A : Nat → Prop) (a : Nat → Nat) (v : Vf) (aq : Nat → Nat) (ap : Nat → Nat) (vp : Vf) (as_ : Nat → Nat) (vs : Vf) (i : Int32) (what : Int32) (hI : PlanI vp) (hJ : StateI vs) (hT : TgI v) : Met l yX9_moon wsX9_moon rm_X9_moon (RdP E A [.ref (a 99), .int i, .int what] (tgsL E a v aq ap vp as_ vs)) (vp_Si (fun r => True)) 0 0 (fun _ => False) := by
  refine Met.ofW (cc := cX9_moon) (maxL := 4) (ret := (some .int)) (by decide) rfl ?_
  intro p e s m args below meth c s₁ B hml hv
  obtain ⟨rfl, hE, hP⟩ := hv
  have hx := B.exec
  have hb := B.bytes
  have hr := B.returns
  have hts := atoms_spec (ws := wsX9_moon) B.pre
  have hown : s.vm.findClass RX9 = some m.cls := findClass_of_methodNamed B.named
  have hlocks := B.notSynchronized
  have hK := hE.1
  have in_X9 : ∀ w ∈ u_ws RX9 TX9 13, w ∈ wsX9_moon := fun w h => List.mem_cons_of_mem _ (List.mem_append_left _ (List.mem_append_left _ (List.mem_append_left _ (List.mem_append_left _ (List.mem_append_right _ h)))))
  have in_X8 : ∀ w ∈ u_ws RX8 TX8 2, w ∈ wsX9_moon := fun w h => List.mem_cons_of_mem _ (List.mem_append_left _ (List.mem_append_left _ (List.mem_append_left _ (List.mem_append_right _ h))))
  have in_X1 : ∀ w ∈ u_ws RX1 TX1 11, w ∈ wsX9_moon := fun w h => List.mem_cons_of_mem _ (List.mem_append_left _ (List.mem_append_left _ (List.mem_append_right _ h)))
  have in_X0 : ∀ w ∈ u_ws RX0 TX0 5, w ∈ wsX9_moon := fun w h => List.mem_cons_of_mem _ (List.mem_append_left _ (List.mem_append_right _ h))
  have in_X6 : ∀ w ∈ u_ws RX6 TX6 9, w ∈ wsX9_moon := fun w h => List.mem_cons_of_mem _ (List.mem_append_right _ h)
  have lk0 := hts (.fieldLink RX9 43 "TidedGround" "world" "LTidedGround$World;") (by decide +kernel)
  have lk1 := hts (.fieldLink RX9 91 "TidedGround$World" "plan" "LTidedGround$Plan;") (by decide +kernel)
  have lk2 := hts (.fieldLink RX9 189 "TidedGround$Plan" "moons" "[LTidedGround$Moon;") (by decide +kernel)
  have lk3 := hts (.constant RX9 81 (-1000000002)) (by decide +kernel)
  have lk4 := hts (.fieldLink RX9 193 "TidedGround$Moon" "size" "I") (by decide +kernel)
  have lk5 := hts (.fieldLink RX9 198 "TidedGround$Moon" "perX" "I") (by decide +kernel)
  have lk6 := hts (.fieldLink RX9 201 "TidedGround$Moon" "perY" "I") (by decide +kernel)
  have lk7 := hts (.fieldLink RX9 34 "TidedGround" "now" "LTidedGround$State;") (by decide +kernel)
  have lk8 := hts (.fieldLink RX9 204 "TidedGround$State" "shifts" "[I") (by decide +kernel)
  have lk9 := hts (.fieldLink RX9 137 "TidedGround$State" "step" "I") (by decide +kernel)
  have lk10 := hts (.constant RX9 161 (-1000000001)) (by decide +kernel)
  have n_m1000000002 : ((-1000000002) : Int32).toInt = -1000000002 := by decide
  have n_m1000000001 : ((-1000000001) : Int32).toInt = -1000000001 := by decide
  have n_0 : (0 : Int32).toInt = 0 := by decide
  have n_1 : (1 : Int32).toInt = 1 := by decide
  have n_2 : (2 : Int32).toInt = 2 := by decide
  have hl := lv_entry ([.ref (a 99), .int i, .int what]) (n := 4) (Nat.le_of_ble_eq_true rfl)
  rw [lg_entry_eq]
  generalize (lg_sl ([.ref (a 99), .int i, .int what]) ++ List.replicate (4 - (lg_sl ([.ref (a 99), .int i, .int what])).length) Slot.unset).toArray = ls at hl ⊢
  have hl : lv_has ls 4 [(0, .ref (a 99)), (1, .int i), (2, .int what)] := hl
  refine W_abs (fun Q hQ => ?_)
  obtain ⟨hg, hmc, hm0, hm1, hm2, hs0, hs1, hs2, hs3⟩ := id hI
  obtain ⟨hg1, hg2, hg3, hg4⟩ := id hg
  have hz0 := hm0.1
  have hz1 := hm1.1
  have hz2 := hm2.1
  have hc0 := hs0.1
  have hc1 := hs1.1
  have hc2 := hs2.1
  have hc3 := hs3.1
  obtain ⟨hj0, hj1, hj2⟩ := id hJ
  obtain ⟨hT1, hT2⟩ := id hT
  refine lv_aload_n hx hb dX9_moon_0 rfl (lv_at hl 0 rfl) ?_
  refine lv_iload_n hx hb dX9_moon_1 rfl (lv_at hl 1 rfl) ?_
  refine rd_V (As := [.int i]) (rest := []) (C := RX9) (ci := 9) ⟨hx, hb, hml, hown, hts⟩ (c_X9_isNoMoon l E A a v aq ap vp as_ vs i hI hJ hT) (cwV 1 hts gX9_moon_X9_isNoMoon rfl rfl rfl (by decide +kernel) ⟨Nat.le_of_ble_eq_true rfl, Nat.le_of_ble_eq_true rfl⟩) hE (hP.sub (ws' := tgsL E a v aq ap vp as_ vs) [0, 1, 2, 3, 4, 5, 6, 7, 8, 9, 10, 11, 12, 13, 14, 15, 16, 17, 18, 19, 20, 21, 22, 23, 24, 25, 26, 27, 28, 29, 30, 31, 32, 33, 34, 35, 36, 37, 38] rfl) rfl rfl rfl rfl hl.1 rfl (Nat.le_of_ble_eq_true rfl) dX9_moon_2 ⟨Nat.zero_le _, Nat.zero_le _⟩ (fun r2 h2 => ?_)
  refine lv_if_eq (tgt := 11) hx hb dX9_moon_5 (by decide) (fun c5 => ?_) (fun c5 => ?_)
  · have c5_ := i_eq c5
    replace h2 := or_n h2 c5_
    rcases (show i = 0 ∨ i = 1 ∨ i = 2 from i_c3 (by omega) (by omega)) with rfl | rfl | rfl
    · refine lv_aload_n hx hb dX9_moon_11 rfl (lv_at hl 0 rfl) ?_
      refine va_get (D := eD E) (ci := 9) (v := .ref (a 5)) (C := RX9) (T := TX9) (N := 13) hx hb hts in_X9 hown hK hP 0 rfl rfl 5 (by decide) lk0 (fun _ h9 => h9) rfl dX9_moon_12 ?_
      refine va_get (D := eD E) (ci := 8) (v := .ref (ap 0)) (C := RX8) (T := TX8) (N := 2) hx hb hts in_X8 hown hK hP 5 rfl rfl 0 (by decide) lk1 (fun _ h9 => h9) rfl dX9_moon_15 ?_
      refine va_get (D := eD E) (ci := 1) (v := .ref (ap 6)) (C := RX1) (T := TX1) (N := 11) hx hb hts in_X1 hown hK hP 6 rfl rfl 6 (by decide) lk2 (fun _ h9 => h9) rfl dX9_moon_18 ?_
      refine lv_iload_n hx hb dX9_moon_21 rfl (lv_at hl 1 rfl) ?_
      refine va_aldq hx hb hK hP 9 2 rfl rfl (i_in (by decide) (by decide)) dX9_moon_22 ?_
      refine W.eq (g2 := F0 m 23 ls [.ref (ap 20)]) rfl ?_
      refine lv_astore_n (lv' := [(3, .ref (ap 20)), (0, .ref (a 99)), (1, .int 0), (2, .int what)]) hx hb dX9_moon_23 rfl hl (by decide) rfl (fun ls hl => ?_)
      refine lv_iload_n hx hb dX9_moon_24 rfl (lv_at hl 3 rfl) ?_
      by_cases tb25 : what.toInt < 0 ∨ 4 < what.toInt
      · refine lv_tableOut (tgt := 107) hx hb dX9_moon_25 tb25 (by decide) ?_
        refine lv_ldc hx hb hown lk3 dX9_moon_107 ?_
        subst hQ
        exact W.iret (v := (-1000000002)) hx hb hr (fun t ht hW => ⟨(-1000000002), rfl, trivial, ht⟩) (fun q h => absurd h List.not_mem_nil) dX9_moon_109
      · rcases (show what.toInt = 0 ∨ what.toInt = 1 ∨ what.toInt = 2 ∨ what.toInt = 3 ∨ what.toInt = 4 by omega) with sw25 | sw25 | sw25 | sw25 | sw25
        · refine lv_tableIn (off := 35) (tgt := 60) hx hb dX9_moon_25 (by omega) (by omega) (by rw [sw25]; rfl) (by decide) ?_
          refine lv_aload_n hx hb dX9_moon_60 rfl (lv_at hl 0 rfl) ?_
          refine va_get (D := eD E) (ci := 0) (v := .int (vp 20 0)) (C := RX0) (T := TX0) (N := 5) hx hb hts in_X0 hown hK hP 10 rfl rfl 0 (by decide) lk4 (fun _ h9 => h9) rfl dX9_moon_61 ?_
          subst hQ
          exact W.iret (v := (vp 20 0)) hx hb hr (fun t ht hW => ⟨(vp 20 0), rfl, trivial, ht⟩) (fun q h => absurd h List.not_mem_nil) dX9_moon_64
        · refine lv_tableIn (off := 40) (tgt := 65) hx hb dX9_moon_25 (by omega) (by omega) (by rw [sw25]; rfl) (by decide) ?_
          refine lv_aload_n hx hb dX9_moon_65 rfl (lv_at hl 0 rfl) ?_
          refine va_get (D := eD E) (ci := 0) (v := .int (vp 21 0)) (C := RX0) (T := TX0) (N := 5) hx hb hts in_X0 hown hK hP 10 rfl rfl 1 (by decide) lk5 (fun _ h9 => h9) rfl dX9_moon_66 ?_
          subst hQ
          exact W.iret (v := (vp 21 0)) hx hb hr (fun t ht hW => ⟨(vp 21 0), rfl, trivial, ht⟩) (fun q h => absurd h List.not_mem_nil) dX9_moon_69
        · refine lv_tableIn (off := 45) (tgt := 70) hx hb dX9_moon_25 (by omega) (by omega) (by rw [sw25]; rfl) (by decide) ?_
          refine lv_aload_n hx hb dX9_moon_70 rfl (lv_at hl 0 rfl) ?_
          refine va_get (D := eD E) (ci := 0) (v := .int (vp 22 0)) (C := RX0) (T := TX0) (N := 5) hx hb hts in_X0 hown hK hP 10 rfl rfl 2 (by decide) lk6 (fun _ h9 => h9) rfl dX9_moon_71 ?_
          subst hQ
          exact W.iret (v := (vp 22 0)) hx hb hr (fun t ht hW => ⟨(vp 22 0), rfl, trivial, ht⟩) (fun q h => absurd h List.not_mem_nil) dX9_moon_74
        · refine lv_tableIn (off := 50) (tgt := 75) hx hb dX9_moon_25 (by omega) (by omega) (by rw [sw25]; rfl) (by decide) ?_
          refine lv_aload_n hx hb dX9_moon_75 rfl (lv_at hl 1 rfl) ?_
          refine va_get (D := eD E) (ci := 9) (v := .ref (as_ 0)) (C := RX9) (T := TX9) (N := 13) hx hb hts in_X9 hown hK hP 0 rfl rfl 6 (by decide) lk7 (fun _ h9 => h9) rfl dX9_moon_76 ?_
          refine va_get (D := eD E) (ci := 6) (v := .ref (as_ 1)) (C := RX6) (T := TX6) (N := 9) hx hb hts in_X6 hown hK hP 35 rfl rfl 1 (by decide) lk8 (fun _ h9 => h9) rfl dX9_moon_79 ?_
          refine lv_iload_n hx hb dX9_moon_82 rfl (lv_at hl 2 rfl) ?_
          refine va_iald hx hb hK hP 36 0 rfl rfl (n := 3) (f := (vs 1)) (i_in (by omega) (by omega)) dX9_moon_83 ?_
          refine lv_topi (fun x83 e83 => ?_)
          have e83 : x83 = (vs 1) 0 := e83
          have b83 := hj1 0 (by decide)
          rw [← e83] at b83
          subst hQ
          exact W.iret (v := x83) hx hb hr (fun t ht hW => ⟨x83, rfl, trivial, ht⟩) (fun q h => absurd h List.not_mem_nil) dX9_moon_84
        · refine lv_tableIn (off := 60) (tgt := 85) hx hb dX9_moon_25 (by omega) (by omega) (by rw [sw25]; rfl) (by decide) ?_
          refine lv_aload_n hx hb dX9_moon_85 rfl (lv_at hl 0 rfl) ?_
          refine lv_iconst (v := 0) hx hb dX9_moon_86 (by decide) ?_
          refine lv_aload_n hx hb dX9_moon_87 rfl (lv_at hl 1 rfl) ?_
          refine va_get (D := eD E) (ci := 9) (v := .ref (as_ 0)) (C := RX9) (T := TX9) (N := 13) hx hb hts in_X9 hown hK hP 0 rfl rfl 6 (by decide) lk7 (fun _ h9 => h9) rfl dX9_moon_88 ?_
          refine va_get (D := eD E) (ci := 6) (v := .int (vs 0 0)) (C := RX6) (T := TX6) (N := 9) hx hb hts in_X6 hown hK hP 35 rfl rfl 0 (by decide) lk9 (fun _ h9 => h9) rfl dX9_moon_91 ?_
          refine lv_aload_n hx hb dX9_moon_94 rfl (lv_at hl 1 rfl) ?_
          refine va_get (D := eD E) (ci := 9) (v := .ref (as_ 0)) (C := RX9) (T := TX9) (N := 13) hx hb hts in_X9 hown hK hP 0 rfl rfl 6 (by decide) lk7 (fun _ h9 => h9) rfl dX9_moon_95 ?_
          refine va_get (D := eD E) (ci := 6) (v := .ref (as_ 1)) (C := RX6) (T := TX6) (N := 9) hx hb hts in_X6 hown hK hP 35 rfl rfl 1 (by decide) lk8 (fun _ h9 => h9) rfl dX9_moon_98 ?_
          refine lv_iload_n hx hb dX9_moon_101 rfl (lv_at hl 2 rfl) ?_
          refine va_iald hx hb hK hP 36 0 rfl rfl (n := 3) (f := (vs 1)) (i_in (by omega) (by omega)) dX9_moon_102 ?_
          refine lv_topi (fun x102 e102 => ?_)
          have e102 : x102 = (vs 1) 0 := e102
          have b102 := hj1 0 (by decide)
          rw [← e102] at b102
          refine rd_V (As := [.int 0, .int (vs 0 0), .int x102]) (rest := []) (C := RX0) (ci := 0) ⟨hx, hb, hml, hown, hts⟩ (c_X0_partAt l E A (ap 20) (ap 23) (ap 24) (vp 20 0) (vp 21 0) (vp 22 0) (vp 23) (vp 24) 0 (vs 0 0) x102 hm0 (by omega) (by omega) (by omega)) (cwV 3 hts gX9_moon_X0_partAt rfl rfl rfl (by decide +kernel) ⟨Nat.le_of_ble_eq_true rfl, Nat.le_of_ble_eq_true rfl⟩) hE (hP.sub (ws' := moonL E (ap 20) (ap 23) (ap 24) (vp 20 0) (vp 21 0) (vp 22 0) (vp 23) (vp 24)) [10, 11, 12] rfl) rfl rfl rfl rfl hl.1 rfl (Nat.le_of_ble_eq_true rfl) dX9_moon_103 ⟨Nat.zero_le _, Nat.zero_le _⟩ (fun r103 h103 => ?_)
          subst hQ
          exact W.iret (v := r103) hx hb hr (fun t ht hW => ⟨r103, rfl, trivial, ht⟩) (fun q h => absurd h List.not_mem_nil) dX9_moon_106
    · refine lv_aload_n hx hb dX9_moon_11 rfl (lv_at hl 0 rfl) ?_
      refine va_get (D := eD E) (ci := 9) (v := .ref (a 5)) (C := RX9) (T := TX9) (N := 13) hx hb hts in_X9 hown hK hP 0 rfl rfl 5 (by decide) lk0 (fun _ h9 => h9) rfl dX9_moon_12 ?_
      refine va_get (D := eD E) (ci := 8) (v := .ref (ap 0)) (C := RX8) (T := TX8) (N := 2) hx hb hts in_X8 hown hK hP 5 rfl rfl 0 (by decide) lk1 (fun _ h9 => h9) rfl dX9_moon_15 ?_
      refine va_get (D := eD E) (ci := 1) (v := .ref (ap 6)) (C := RX1) (T := TX1) (N := 11) hx hb hts in_X1 hown hK hP 6 rfl rfl 6 (by decide) lk2 (fun _ h9 => h9) rfl dX9_moon_18 ?_
      refine lv_iload_n hx hb dX9_moon_21 rfl (lv_at hl 1 rfl) ?_
      refine va_aldq hx hb hK hP 9 2 rfl rfl (i_in (by decide) (by decide)) dX9_moon_22 ?_
      refine W.eq (g2 := F0 m 23 ls [.ref (ap 30)]) rfl ?_
      refine lv_astore_n (lv' := [(3, .ref (ap 30)), (0, .ref (a 99)), (1, .int 1), (2, .int what)]) hx hb dX9_moon_23 rfl hl (by decide) rfl (fun ls hl => ?_)
      refine lv_iload_n hx hb dX9_moon_24 rfl (lv_at hl 3 rfl) ?_
      by_cases tb25 : what.toInt < 0 ∨ 4 < what.toInt
      · refine lv_tableOut (tgt := 107) hx hb dX9_moon_25 tb25 (by decide) ?_
        refine lv_ldc hx hb hown lk3 dX9_moon_107 ?_
        subst hQ
        exact W.iret (v := (-1000000002)) hx hb hr (fun t ht hW => ⟨(-1000000002), rfl, trivial, ht⟩) (fun q h => absurd h List.not_mem_nil) dX9_moon_109
      · rcases (show what.toInt = 0 ∨ what.toInt = 1 ∨ what.toInt = 2 ∨ what.toInt = 3 ∨ what.toInt = 4 by omega) with sw25 | sw25 | sw25 | sw25 | sw25
        · refine lv_tableIn (off := 35) (tgt := 60) hx hb dX9_moon_25 (by omega) (by omega) (by rw [sw25]; rfl) (by decide) ?_
          refine lv_aload_n hx hb dX9_moon_60 rfl (lv_at hl 0 rfl) ?_
          refine va_get (D := eD E) (ci := 0) (v := .int (vp 30 0)) (C := RX0) (T := TX0) (N := 5) hx hb hts in_X0 hown hK hP 13 rfl rfl 0 (by decide) lk4 (fun _ h9 => h9) rfl dX9_moon_61 ?_
          subst hQ
          exact W.iret (v := (vp 30 0)) hx hb hr (fun t ht hW => ⟨(vp 30 0), rfl, trivial, ht⟩) (fun q h => absurd h List.not_mem_nil) dX9_moon_64
        · refine lv_tableIn (off := 40) (tgt := 65) hx hb dX9_moon_25 (by omega) (by omega) (by rw [sw25]; rfl) (by decide) ?_
          refine lv_aload_n hx hb dX9_moon_65 rfl (lv_at hl 0 rfl) ?_
          refine va_get (D := eD E) (ci := 0) (v := .int (vp 31 0)) (C := RX0) (T := TX0) (N := 5) hx hb hts in_X0 hown hK hP 13 rfl rfl 1 (by decide) lk5 (fun _ h9 => h9) rfl dX9_moon_66 ?_
          subst hQ
          exact W.iret (v := (vp 31 0)) hx hb hr (fun t ht hW => ⟨(vp 31 0), rfl, trivial, ht⟩) (fun q h => absurd h List.not_mem_nil) dX9_moon_69
        · refine lv_tableIn (off := 45) (tgt := 70) hx hb dX9_moon_25 (by omega) (by omega) (by rw [sw25]; rfl) (by decide) ?_
          refine lv_aload_n hx hb dX9_moon_70 rfl (lv_at hl 0 rfl) ?_
          refine va_get (D := eD E) (ci := 0) (v := .int (vp 32 0)) (C := RX0) (T := TX0) (N := 5) hx hb hts in_X0 hown hK hP 13 rfl rfl 2 (by decide) lk6 (fun _ h9 => h9) rfl dX9_moon_71 ?_
          subst hQ
          exact W.iret (v := (vp 32 0)) hx hb hr (fun t ht hW => ⟨(vp 32 0), rfl, trivial, ht⟩) (fun q h => absurd h List.not_mem_nil) dX9_moon_74
        · refine lv_tableIn (off := 50) (tgt := 75) hx hb dX9_moon_25 (by omega) (by omega) (by rw [sw25]; rfl) (by decide) ?_
          refine lv_aload_n hx hb dX9_moon_75 rfl (lv_at hl 1 rfl) ?_
          refine va_get (D := eD E) (ci := 9) (v := .ref (as_ 0)) (C := RX9) (T := TX9) (N := 13) hx hb hts in_X9 hown hK hP 0 rfl rfl 6 (by decide) lk7 (fun _ h9 => h9) rfl dX9_moon_76 ?_
          refine va_get (D := eD E) (ci := 6) (v := .ref (as_ 1)) (C := RX6) (T := TX6) (N := 9) hx hb hts in_X6 hown hK hP 35 rfl rfl 1 (by decide) lk8 (fun _ h9 => h9) rfl dX9_moon_79 ?_
          refine lv_iload_n hx hb dX9_moon_82 rfl (lv_at hl 2 rfl) ?_
          refine va_iald hx hb hK hP 36 0 rfl rfl (n := 3) (f := (vs 1)) (i_in (by omega) (by omega)) dX9_moon_83 ?_
          refine lv_topi (fun x83 e83 => ?_)
          have e83 : x83 = (vs 1) 1 := e83
          have b83 := hj1 1 (by decide)
          rw [← e83] at b83
          subst hQ
          exact W.iret (v := x83) hx hb hr (fun t ht hW => ⟨x83, rfl, trivial, ht⟩) (fun q h => absurd h List.not_mem_nil) dX9_moon_84
        · refine lv_tableIn (off := 60) (tgt := 85) hx hb dX9_moon_25 (by omega) (by omega) (by rw [sw25]; rfl) (by decide) ?_
          refine lv_aload_n hx hb dX9_moon_85 rfl (lv_at hl 0 rfl) ?_
          refine lv_iconst (v := 0) hx hb dX9_moon_86 (by decide) ?_
          refine lv_aload_n hx hb dX9_moon_87 rfl (lv_at hl 1 rfl) ?_
          refine va_get (D := eD E) (ci := 9) (v := .ref (as_ 0)) (C := RX9) (T := TX9) (N := 13) hx hb hts in_X9 hown hK hP 0 rfl rfl 6 (by decide) lk7 (fun _ h9 => h9) rfl dX9_moon_88 ?_
          refine va_get (D := eD E) (ci := 6) (v := .int (vs 0 0)) (C := RX6) (T := TX6) (N := 9) hx hb hts in_X6 hown hK hP 35 rfl rfl 0 (by decide) lk9 (fun _ h9 => h9) rfl dX9_moon_91 ?_
          refine lv_aload_n hx hb dX9_moon_94 rfl (lv_at hl 1 rfl) ?_
          refine va_get (D := eD E) (ci := 9) (v := .ref (as_ 0)) (C := RX9) (T := TX9) (N := 13) hx hb hts in_X9 hown hK hP 0 rfl rfl 6 (by decide) lk7 (fun _ h9 => h9) rfl dX9_moon_95 ?_
          refine va_get (D := eD E) (ci := 6) (v := .ref (as_ 1)) (C := RX6) (T := TX6) (N := 9) hx hb hts in_X6 hown hK hP 35 rfl rfl 1 (by decide) lk8 (fun _ h9 => h9) rfl dX9_moon_98 ?_
          refine lv_iload_n hx hb dX9_moon_101 rfl (lv_at hl 2 rfl) ?_
          refine va_iald hx hb hK hP 36 0 rfl rfl (n := 3) (f := (vs 1)) (i_in (by omega) (by omega)) dX9_moon_102 ?_
          refine lv_topi (fun x102 e102 => ?_)
          have e102 : x102 = (vs 1) 1 := e102
          have b102 := hj1 1 (by decide)
          rw [← e102] at b102
          refine rd_V (As := [.int 0, .int (vs 0 0), .int x102]) (rest := []) (C := RX0) (ci := 0) ⟨hx, hb, hml, hown, hts⟩ (c_X0_partAt l E A (ap 30) (ap 33) (ap 34) (vp 30 0) (vp 31 0) (vp 32 0) (vp 33) (vp 34) 0 (vs 0 0) x102 hm1 (by omega) (by omega) (by omega)) (cwV 3 hts gX9_moon_X0_partAt rfl rfl rfl (by decide +kernel) ⟨Nat.le_of_ble_eq_true rfl, Nat.le_of_ble_eq_true rfl⟩) hE (hP.sub (ws' := moonL E (ap 30) (ap 33) (ap 34) (vp 30 0) (vp 31 0) (vp 32 0) (vp 33) (vp 34)) [13, 14, 15] rfl) rfl rfl rfl rfl hl.1 rfl (Nat.le_of_ble_eq_true rfl) dX9_moon_103 ⟨Nat.zero_le _, Nat.zero_le _⟩ (fun r103 h103 => ?_)
          subst hQ
          exact W.iret (v := r103) hx hb hr (fun t ht hW => ⟨r103, rfl, trivial, ht⟩) (fun q h => absurd h List.not_mem_nil) dX9_moon_106
    · refine lv_aload_n hx hb dX9_moon_11 rfl (lv_at hl 0 rfl) ?_
      refine va_get (D := eD E) (ci := 9) (v := .ref (a 5)) (C := RX9) (T := TX9) (N := 13) hx hb hts in_X9 hown hK hP 0 rfl rfl 5 (by decide) lk0 (fun _ h9 => h9) rfl dX9_moon_12 ?_
      refine va_get (D := eD E) (ci := 8) (v := .ref (ap 0)) (C := RX8) (T := TX8) (N := 2) hx hb hts in_X8 hown hK hP 5 rfl rfl 0 (by decide) lk1 (fun _ h9 => h9) rfl dX9_moon_15 ?_
      refine va_get (D := eD E) (ci := 1) (v := .ref (ap 6)) (C := RX1) (T := TX1) (N := 11) hx hb hts in_X1 hown hK hP 6 rfl rfl 6 (by decide) lk2 (fun _ h9 => h9) rfl dX9_moon_18 ?_
      refine lv_iload_n hx hb dX9_moon_21 rfl (lv_at hl 1 rfl) ?_
      refine va_aldq hx hb hK hP 9 2 rfl rfl (i_in (by decide) (by decide)) dX9_moon_22 ?_
      refine W.eq (g2 := F0 m 23 ls [.ref (ap 40)]) rfl ?_
      refine lv_astore_n (lv' := [(3, .ref (ap 40)), (0, .ref (a 99)), (1, .int 2), (2, .int what)]) hx hb dX9_moon_23 rfl hl (by decide) rfl (fun ls hl => ?_)
      refine lv_iload_n hx hb dX9_moon_24 rfl (lv_at hl 3 rfl) ?_
      by_cases tb25 : what.toInt < 0 ∨ 4 < what.toInt
      · refine lv_tableOut (tgt := 107) hx hb dX9_moon_25 tb25 (by decide) ?_
        refine lv_ldc hx hb hown lk3 dX9_moon_107 ?_
        subst hQ
        exact W.iret (v := (-1000000002)) hx hb hr (fun t ht hW => ⟨(-1000000002), rfl, trivial, ht⟩) (fun q h => absurd h List.not_mem_nil) dX9_moon_109
      · rcases (show what.toInt = 0 ∨ what.toInt = 1 ∨ what.toInt = 2 ∨ what.toInt = 3 ∨ what.toInt = 4 by omega) with sw25 | sw25 | sw25 | sw25 | sw25
        · refine lv_tableIn (off := 35) (tgt := 60) hx hb dX9_moon_25 (by omega) (by omega) (by rw [sw25]; rfl) (by decide) ?_
          refine lv_aload_n hx hb dX9_moon_60 rfl (lv_at hl 0 rfl) ?_
          refine va_get (D := eD E) (ci := 0) (v := .int (vp 40 0)) (C := RX0) (T := TX0) (N := 5) hx hb hts in_X0 hown hK hP 16 rfl rfl 0 (by decide) lk4 (fun _ h9 => h9) rfl dX9_moon_61 ?_
          subst hQ
          exact W.iret (v := (vp 40 0)) hx hb hr (fun t ht hW => ⟨(vp 40 0), rfl, trivial, ht⟩) (fun q h => absurd h List.not_mem_nil) dX9_moon_64
        · refine lv_tableIn (off := 40) (tgt := 65) hx hb dX9_moon_25 (by omega) (by omega) (by rw [sw25]; rfl) (by decide) ?_
          refine lv_aload_n hx hb dX9_moon_65 rfl (lv_at hl 0 rfl) ?_
          refine va_get (D := eD E) (ci := 0) (v := .int (vp 41 0)) (C := RX0) (T := TX0) (N := 5) hx hb hts in_X0 hown hK hP 16 rfl rfl 1 (by decide) lk5 (fun _ h9 => h9) rfl dX9_moon_66 ?_
          subst hQ
          exact W.iret (v := (vp 41 0)) hx hb hr (fun t ht hW => ⟨(vp 41 0), rfl, trivial, ht⟩) (fun q h => absurd h List.not_mem_nil) dX9_moon_69
        · refine lv_tableIn (off := 45) (tgt := 70) hx hb dX9_moon_25 (by omega) (by omega) (by rw [sw25]; rfl) (by decide) ?_
          refine lv_aload_n hx hb dX9_moon_70 rfl (lv_at hl 0 rfl) ?_
          refine va_get (D := eD E) (ci := 0) (v := .int (vp 42 0)) (C := RX0) (T := TX0) (N := 5) hx hb hts in_X0 hown hK hP 16 rfl rfl 2 (by decide) lk6 (fun _ h9 => h9) rfl dX9_moon_71 ?_
          subst hQ
          exact W.iret (v := (vp 42 0)) hx hb hr (fun t ht hW => ⟨(vp 42 0), rfl, trivial, ht⟩) (fun q h => absurd h List.not_mem_nil) dX9_moon_74
        · refine lv_tableIn (off := 50) (tgt := 75) hx hb dX9_moon_25 (by omega) (by omega) (by rw [sw25]; rfl) (by decide) ?_
          refine lv_aload_n hx hb dX9_moon_75 rfl (lv_at hl 1 rfl) ?_
          refine va_get (D := eD E) (ci := 9) (v := .ref (as_ 0)) (C := RX9) (T := TX9) (N := 13) hx hb hts in_X9 hown hK hP 0 rfl rfl 6 (by decide) lk7 (fun _ h9 => h9) rfl dX9_moon_76 ?_
          refine va_get (D := eD E) (ci := 6) (v := .ref (as_ 1)) (C := RX6) (T := TX6) (N := 9) hx hb hts in_X6 hown hK hP 35 rfl rfl 1 (by decide) lk8 (fun _ h9 => h9) rfl dX9_moon_79 ?_
          refine lv_iload_n hx hb dX9_moon_82 rfl (lv_at hl 2 rfl) ?_
          refine va_iald hx hb hK hP 36 0 rfl rfl (n := 3) (f := (vs 1)) (i_in (by omega) (by omega)) dX9_moon_83 ?_
          refine lv_topi (fun x83 e83 => ?_)
          have e83 : x83 = (vs 1) 2 := e83
          have b83 := hj1 2 (by decide)
          rw [← e83] at b83
          subst hQ
          exact W.iret (v := x83) hx hb hr (fun t ht hW => ⟨x83, rfl, trivial, ht⟩) (fun q h => absurd h List.not_mem_nil) dX9_moon_84
        · refine lv_tableIn (off := 60) (tgt := 85) hx hb dX9_moon_25 (by omega) (by omega) (by rw [sw25]; rfl) (by decide) ?_
          refine lv_aload_n hx hb dX9_moon_85 rfl (lv_at hl 0 rfl) ?_
          refine lv_iconst (v := 0) hx hb dX9_moon_86 (by decide) ?_
          refine lv_aload_n hx hb dX9_moon_87 rfl (lv_at hl 1 rfl) ?_
          refine va_get (D := eD E) (ci := 9) (v := .ref (as_ 0)) (C := RX9) (T := TX9) (N := 13) hx hb hts in_X9 hown hK hP 0 rfl rfl 6 (by decide) lk7 (fun _ h9 => h9) rfl dX9_moon_88 ?_
          refine va_get (D := eD E) (ci := 6) (v := .int (vs 0 0)) (C := RX6) (T := TX6) (N := 9) hx hb hts in_X6 hown hK hP 35 rfl rfl 0 (by decide) lk9 (fun _ h9 => h9) rfl dX9_moon_91 ?_
          refine lv_aload_n hx hb dX9_moon_94 rfl (lv_at hl 1 rfl) ?_
          refine va_get (D := eD E) (ci := 9) (v := .ref (as_ 0)) (C := RX9) (T := TX9) (N := 13) hx hb hts in_X9 hown hK hP 0 rfl rfl 6 (by decide) lk7 (fun _ h9 => h9) rfl dX9_moon_95 ?_
          refine va_get (D := eD E) (ci := 6) (v := .ref (as_ 1)) (C := RX6) (T := TX6) (N := 9) hx hb hts in_X6 hown hK hP 35 rfl rfl 1 (by decide) lk8 (fun _ h9 => h9) rfl dX9_moon_98 ?_
          refine lv_iload_n hx hb dX9_moon_101 rfl (lv_at hl 2 rfl) ?_
          refine va_iald hx hb hK hP 36 0 rfl rfl (n := 3) (f := (vs 1)) (i_in (by omega) (by omega)) dX9_moon_102 ?_
          refine lv_topi (fun x102 e102 => ?_)
          have e102 : x102 = (vs 1) 2 := e102
          have b102 := hj1 2 (by decide)
          rw [← e102] at b102
          refine rd_V (As := [.int 0, .int (vs 0 0), .int x102]) (rest := []) (C := RX0) (ci := 0) ⟨hx, hb, hml, hown, hts⟩ (c_X0_partAt l E A (ap 40) (ap 43) (ap 44) (vp 40 0) (vp 41 0) (vp 42 0) (vp 43) (vp 44) 0 (vs 0 0) x102 hm2 (by omega) (by omega) (by omega)) (cwV 3 hts gX9_moon_X0_partAt rfl rfl rfl (by decide +kernel) ⟨Nat.le_of_ble_eq_true rfl, Nat.le_of_ble_eq_true rfl⟩) hE (hP.sub (ws' := moonL E (ap 40) (ap 43) (ap 44) (vp 40 0) (vp 41 0) (vp 42 0) (vp 43) (vp 44)) [16, 17, 18] rfl) rfl rfl rfl rfl hl.1 rfl (Nat.le_of_ble_eq_true rfl) dX9_moon_103 ⟨Nat.zero_le _, Nat.zero_le _⟩ (fun r103 h103 => ?_)
          subst hQ
          exact W.iret (v := r103) hx hb hr (fun t ht hW => ⟨r103, rfl, trivial, ht⟩) (fun q h => absurd h List.not_mem_nil) dX9_moon_106
  · have c5_ := i_ne c5
    replace h2 := or_y h2 c5_
    clear c5_
    refine lv_ldc hx hb hown lk10 dX9_moon_8 ?_
    subst hQ
    exact W.iret (v := (-1000000001)) hx hb hr (fun t ht hW => ⟨(-1000000001), rfl, trivial, ht⟩) (fun q h => absurd h List.not_mem_nil) dX9_moon_10
