def rm_X9_told : Room := { frames := 3, cells := 0, slots := 0, locals := 70 }
set_option maxHeartbeats 4000000 in
set_option maxRecDepth 100000 in
theorem c_X9_told (l : Launch) (E : Ev) (A : Nat → Prop) (a : Nat → Nat) (v : Vf) (aq : Nat → Nat) (ap : Nat → Nat) (vp : Vf) (as_ : Nat → Nat) (vs : Vf) (what : Int32) (hI : PlanI vp) (hJ : StateI vs) (hT : TgI v) : Met l yX9_told wsX9_told rm_X9_told (RdP E A [.ref (a 99), .int what] (tgsL E a v aq ap vp as_ vs)) (vp_Si (fun r => True)) 0 0 (fun _ => False) := by
  refine Met.ofW (cc := cX9_told) (maxL := 3) (ret := (some .int)) (by decide) rfl ?_
  intro p e s m args below meth c s₁ B hml hv
  obtain ⟨rfl, hE, hP⟩ := hv
  have hx := B.exec
  have hb := B.bytes
  have hr := B.returns
  have hts := atoms_spec (ws := wsX9_told) B.pre
  have hown : s.vm.findClass RX9 = some m.cls := findClass_of_methodNamed B.named
  have hlocks := B.notSynchronized
  have hK := hE.1
  have in_X9 : ∀ w ∈ u_ws RX9 TX9 13, w ∈ wsX9_told := fun w h => List.mem_cons_of_mem _ (List.mem_append_left _ (List.mem_append_left _ (List.mem_append_left _ (List.mem_append_left _ (List.mem_append_left _ (List.mem_append_left _ (List.mem_append_right _ h)))))))
  have in_X8 : ∀ w ∈ u_ws RX8 TX8 2, w ∈ wsX9_told := fun w h => List.mem_cons_of_mem _ (List.mem_append_left _ (List.mem_append_left _ (List.mem_append_left _ (List.mem_append_left _ (List.mem_append_left _ (List.mem_append_right _ h))))))
  have in_X1 : ∀ w ∈ u_ws RX1 TX1 11, w ∈ wsX9_told := fun w h => List.mem_cons_of_mem _ (List.mem_append_left _ (List.mem_append_left _ (List.mem_append_left _ (List.mem_append_left _ (List.mem_append_right _ h)))))
  have in_X5 : ∀ w ∈ u_ws RX5 TX5 4, w ∈ wsX9_told := fun w h => List.mem_cons_of_mem _ (List.mem_append_left _ (List.mem_append_left _ (List.mem_append_left _ (List.mem_append_right _ h))))
  have in_X6 : ∀ w ∈ u_ws RX6 TX6 9, w ∈ wsX9_told := fun w h => List.mem_cons_of_mem _ (List.mem_append_left _ (List.mem_append_left _ (List.mem_append_right _ h)))
  have in_X4 : ∀ w ∈ u_ws RX4 TX4 11, w ∈ wsX9_told := fun w h => List.mem_cons_of_mem _ (List.mem_append_left _ (List.mem_append_right _ h))
  have lk0 := hts (.fieldLink RX9 43 "TidedGround" "world" "LTidedGround$World;") (by decide +kernel)
  have lk1 := hts (.fieldLink RX9 91 "TidedGround$World" "plan" "LTidedGround$Plan;") (by decide +kernel)
  have lk2 := hts (.constant RX9 81 (-1000000002)) (by decide +kernel)
  have lk3 := hts (.fieldLink RX9 113 "TidedGround$Plan" "width" "I") (by decide +kernel)
  have lk4 := hts (.fieldLink RX9 116 "TidedGround$Plan" "depth" "I") (by decide +kernel)
  have lk5 := hts (.fieldLink RX9 119 "TidedGround$Plan" "moonCount" "I") (by decide +kernel)
  have lk6 := hts (.fieldLink RX9 122 "TidedGround$Plan" "houses" "LTidedGround$Sites;") (by decide +kernel)
  have lk7 := hts (.fieldLink RX9 126 "TidedGround$Sites" "count" "I") (by decide +kernel)
  have lk8 := hts (.fieldLink RX9 129 "TidedGround$Plan" "cracks" "LTidedGround$Sites;") (by decide +kernel)
  have lk9 := hts (.fieldLink RX9 132 "TidedGround$Plan" "wells" "LTidedGround$Sites;") (by decide +kernel)
  have lk10 := hts (.fieldLink RX9 134 "TidedGround$Plan" "deeds" "LTidedGround$Sites;") (by decide +kernel)
  have lk11 := hts (.fieldLink RX9 82 "TidedGround" "letterCount" "I") (by decide +kernel)
  have lk12 := hts (.fieldLink RX9 34 "TidedGround" "now" "LTidedGround$State;") (by decide +kernel)
  have lk13 := hts (.fieldLink RX9 137 "TidedGround$State" "step" "I") (by decide +kernel)
  have lk14 := hts (.fieldLink RX9 144 "TidedGround$State" "cart" "I") (by decide +kernel)
  have lk15 := hts (.fieldLink RX9 151 "TidedGround$State" "pushed" "I") (by decide +kernel)
  have lk16 := hts (.fieldLink RX9 154 "TidedGround$State" "steep" "I") (by decide +kernel)
  have lk17 := hts (.fieldLink RX9 70 "TidedGround" "sightings" "LTidedGround$Sightings;") (by decide +kernel)
  have lk18 := hts (.fieldLink RX9 103 "TidedGround$Sightings" "count" "I") (by decide +kernel)
  have lk19 := hts (.fieldLink RX9 106 "TidedGround" "bookCount" "I") (by decide +kernel)
  have n_m1000000002 : ((-1000000002) : Int32).toInt = -1000000002 := by decide
  have hl := lv_entry ([.ref (a 99), .int what]) (n := 3) (Nat.le_of_ble_eq_true rfl)
  rw [lg_entry_eq]
  generalize (lg_sl ([.ref (a 99), .int what]) ++ List.replicate (3 - (lg_sl ([.ref (a 99), .int what])).length) Slot.unset).toArray = ls at hl ⊢
  have hl : lv_has ls 3 [(0, .ref (a 99)), (1, .int what)] := hl
  refine W_abs (fun Q hQ => ?_)
  obtain ⟨hg, hmc, hm0, hm1, hm2, hs0, hs1, hs2, hs3⟩ := id hI
  obtain ⟨hg1, hg2, hg3, hg4⟩ := id hg
  have hz0 := hm0.1
  have hz1 := hm1.1
  have hz2 := hm2.1
  have hc0 := hs0.1
  have hc1 := hs1.1
  have hc2 := hs2.1
  have hc3 := hs3.1
  obtain ⟨hj0, hj1, hj2⟩ := id hJ
  obtain ⟨hT1, hT2⟩ := id hT
  refine lv_aload_n hx hb dX9_told_0 rfl (lv_at hl 0 rfl) ?_
  refine va_get (D := eD E) (ci := 9) (v := .ref (a 5)) (C := RX9) (T := TX9) (N := 13) hx hb hts in_X9 hown hK hP 0 rfl rfl 5 (by decide) lk0 (fun _ h9 => h9) rfl dX9_told_1 ?_
  refine va_get (D := eD E) (ci := 8) (v := .ref (ap 0)) (C := RX8) (T := TX8) (N := 2) hx hb hts in_X8 hown hK hP 5 rfl rfl 0 (by decide) lk1 (fun _ h9 => h9) rfl dX9_told_4 ?_
  refine lv_astore_n (lv' := [(2, .ref (ap 0)), (0, .ref (a 99)), (1, .int what)]) hx hb dX9_told_7 rfl hl (by decide) rfl (fun ls hl => ?_)
  refine lv_iload_n hx hb dX9_told_8 rfl (lv_at hl 2 rfl) ?_
  by_cases tb9 : what.toInt < 0 ∨ 14 < what.toInt
  · refine lv_tableOut (tgt := 190) hx hb dX9_told_9 tb9 (by decide) ?_
    refine lv_ldc hx hb hown lk2 dX9_told_190 ?_
    subst hQ
    exact W.iret (v := (-1000000002)) hx hb hr (fun t ht hW => ⟨(-1000000002), rfl, trivial, ht⟩) (fun q h => absurd h List.not_mem_nil) dX9_told_192
  · rcases (show what.toInt = 0 ∨ what.toInt = 1 ∨ what.toInt = 2 ∨ what.toInt = 3 ∨ what.toInt = 4 ∨ what.toInt = 5 ∨ what.toInt = 6 ∨ what.toInt = 7 ∨ what.toInt = 8 ∨ what.toInt = 9 ∨ what.toInt = 10 ∨ what.toInt = 11 ∨ what.toInt = 12 ∨ what.toInt = 13 ∨ what.toInt = 14 by omega) with sw9 | sw9 | sw9 | sw9 | sw9 | sw9 | sw9 | sw9 | sw9 | sw9 | sw9 | sw9 | sw9 | sw9 | sw9
    · refine lv_tableIn (off := 75) (tgt := 84) hx hb dX9_told_9 (by omega) (by omega) (by rw [sw9]; rfl) (by decide) ?_
      refine lv_aload_n hx hb dX9_told_84 rfl (lv_at hl 0 rfl) ?_
      refine va_get (D := eD E) (ci := 1) (v := .int (vp 0 0)) (C := RX1) (T := TX1) (N := 11) hx hb hts in_X1 hown hK hP 6 rfl rfl 0 (by decide) lk3 (fun _ h9 => h9) rfl dX9_told_85 ?_
      subst hQ
      exact W.iret (v := (vp 0 0)) hx hb hr (fun t ht hW => ⟨(vp 0 0), rfl, trivial, ht⟩) (fun q h => absurd h List.not_mem_nil) dX9_told_88
    · refine lv_tableIn (off := 80) (tgt := 89) hx hb dX9_told_9 (by omega) (by omega) (by rw [sw9]; rfl) (by decide) ?_
      refine lv_aload_n hx hb dX9_told_89 rfl (lv_at hl 0 rfl) ?_
      refine va_get (D := eD E) (ci := 1) (v := .int (vp 1 0)) (C := RX1) (T := TX1) (N := 11) hx hb hts in_X1 hown hK hP 6 rfl rfl 1 (by decide) lk4 (fun _ h9 => h9) rfl dX9_told_90 ?_
      subst hQ
      exact W.iret (v := (vp 1 0)) hx hb hr (fun t ht hW => ⟨(vp 1 0), rfl, trivial, ht⟩) (fun q h => absurd h List.not_mem_nil) dX9_told_93
    · refine lv_tableIn (off := 85) (tgt := 94) hx hb dX9_told_9 (by omega) (by omega) (by rw [sw9]; rfl) (by decide) ?_
      refine lv_aload_n hx hb dX9_told_94 rfl (lv_at hl 0 rfl) ?_
      refine va_get (D := eD E) (ci := 1) (v := .int (vp 5 0)) (C := RX1) (T := TX1) (N := 11) hx hb hts in_X1 hown hK hP 6 rfl rfl 5 (by decide) lk5 (fun _ h9 => h9) rfl dX9_told_95 ?_
      subst hQ
      exact W.iret (v := (vp 5 0)) hx hb hr (fun t ht hW => ⟨(vp 5 0), rfl, trivial, ht⟩) (fun q h => absurd h List.not_mem_nil) dX9_told_98
    · refine lv_tableIn (off := 90) (tgt := 99) hx hb dX9_told_9 (by omega) (by omega) (by rw [sw9]; rfl) (by decide) ?_
      refine lv_aload_n hx hb dX9_told_99 rfl (lv_at hl 0 rfl) ?_
      refine va_get (D := eD E) (ci := 1) (v := .ref (ap 7)) (C := RX1) (T := TX1) (N := 11) hx hb hts in_X1 hown hK hP 6 rfl rfl 7 (by decide) lk6 (fun _ h9 => h9) rfl dX9_told_100 ?_
      refine va_get (D := eD E) (ci := 5) (v := .int (vp 60 0)) (C := RX5) (T := TX5) (N := 4) hx hb hts in_X5 hown hK hP 19 rfl rfl 0 (by decide) lk7 (fun _ h9 => h9) rfl dX9_told_103 ?_
      subst hQ
      exact W.iret (v := (vp 60 0)) hx hb hr (fun t ht hW => ⟨(vp 60 0), rfl, trivial, ht⟩) (fun q h => absurd h List.not_mem_nil) dX9_told_106
    · refine lv_tableIn (off := 98) (tgt := 107) hx hb dX9_told_9 (by omega) (by omega) (by rw [sw9]; rfl) (by decide) ?_
      refine lv_aload_n hx hb dX9_told_107 rfl (lv_at hl 0 rfl) ?_
      refine va_get (D := eD E) (ci := 1) (v := .ref (ap 8)) (C := RX1) (T := TX1) (N := 11) hx hb hts in_X1 hown hK hP 6 rfl rfl 8 (by decide) lk8 (fun _ h9 => h9) rfl dX9_told_108 ?_
      refine va_get (D := eD E) (ci := 5) (v := .int (vp 70 0)) (C := RX5) (T := TX5) (N := 4) hx hb hts in_X5 hown hK hP 23 rfl rfl 0 (by decide) lk7 (fun _ h9 => h9) rfl dX9_told_111 ?_
      subst hQ
      exact W.iret (v := (vp 70 0)) hx hb hr (fun t ht hW => ⟨(vp 70 0), rfl, trivial, ht⟩) (fun q h => absurd h List.not_mem_nil) dX9_told_114
    · refine lv_tableIn (off := 106) (tgt := 115) hx hb dX9_told_9 (by omega) (by omega) (by rw [sw9]; rfl) (by decide) ?_
      refine lv_aload_n hx hb dX9_told_115 rfl (lv_at hl 0 rfl) ?_
      refine va_get (D := eD E) (ci := 1) (v := .ref (ap 9)) (C := RX1) (T := TX1) (N := 11) hx hb hts in_X1 hown hK hP 6 rfl rfl 9 (by decide) lk9 (fun _ h9 => h9) rfl dX9_told_116 ?_
      refine va_get (D := eD E) (ci := 5) (v := .int (vp 80 0)) (C := RX5) (T := TX5) (N := 4) hx hb hts in_X5 hown hK hP 27 rfl rfl 0 (by decide) lk7 (fun _ h9 => h9) rfl dX9_told_119 ?_
      subst hQ
      exact W.iret (v := (vp 80 0)) hx hb hr (fun t ht hW => ⟨(vp 80 0), rfl, trivial, ht⟩) (fun q h => absurd h List.not_mem_nil) dX9_told_122
    · refine lv_tableIn (off := 114) (tgt := 123) hx hb dX9_told_9 (by omega) (by omega) (by rw [sw9]; rfl) (by decide) ?_
      refine lv_aload_n hx hb dX9_told_123 rfl (lv_at hl 0 rfl) ?_
      refine va_get (D := eD E) (ci := 1) (v := .ref (ap 10)) (C := RX1) (T := TX1) (N := 11) hx hb hts in_X1 hown hK hP 6 rfl rfl 10 (by decide) lk10 (fun _ h9 => h9) rfl dX9_told_124 ?_
      refine va_get (D := eD E) (ci := 5) (v := .int (vp 90 0)) (C := RX5) (T := TX5) (N := 4) hx hb hts in_X5 hown hK hP 31 rfl rfl 0 (by decide) lk7 (fun _ h9 => h9) rfl dX9_told_127 ?_
      subst hQ
      exact W.iret (v := (vp 90 0)) hx hb hr (fun t ht hW => ⟨(vp 90 0), rfl, trivial, ht⟩) (fun q h => absurd h List.not_mem_nil) dX9_told_130
    · refine lv_tableIn (off := 122) (tgt := 131) hx hb dX9_told_9 (by omega) (by omega) (by rw [sw9]; rfl) (by decide) ?_
      refine lv_aload_n hx hb dX9_told_131 rfl (lv_at hl 1 rfl) ?_
      refine va_get (D := eD E) (ci := 9) (v := .int (v 1 0)) (C := RX9) (T := TX9) (N := 13) hx hb hts in_X9 hown hK hP 0 rfl rfl 1 (by decide) lk11 (fun _ h9 => h9) rfl dX9_told_132 ?_
      subst hQ
      exact W.iret (v := (v 1 0)) hx hb hr (fun t ht hW => ⟨(v 1 0), rfl, trivial, ht⟩) (fun q h => absurd h List.not_mem_nil) dX9_told_135
    · refine lv_tableIn (off := 127) (tgt := 136) hx hb dX9_told_9 (by omega) (by omega) (by rw [sw9]; rfl) (by decide) ?_
      refine lv_aload_n hx hb dX9_told_136 rfl (lv_at hl 1 rfl) ?_
      refine va_get (D := eD E) (ci := 9) (v := .ref (as_ 0)) (C := RX9) (T := TX9) (N := 13) hx hb hts in_X9 hown hK hP 0 rfl rfl 6 (by decide) lk12 (fun _ h9 => h9) rfl dX9_told_137 ?_
      refine va_get (D := eD E) (ci := 6) (v := .int (vs 0 0)) (C := RX6) (T := TX6) (N := 9) hx hb hts in_X6 hown hK hP 35 rfl rfl 0 (by decide) lk13 (fun _ h9 => h9) rfl dX9_told_140 ?_
      subst hQ
      exact W.iret (v := (vs 0 0)) hx hb hr (fun t ht hW => ⟨(vs 0 0), rfl, trivial, ht⟩) (fun q h => absurd h List.not_mem_nil) dX9_told_143
    · refine lv_tableIn (off := 135) (tgt := 144) hx hb dX9_told_9 (by omega) (by omega) (by rw [sw9]; rfl) (by decide) ?_
      refine lv_aload_n hx hb dX9_told_144 rfl (lv_at hl 0 rfl) ?_
      refine rd_V (As := []) (rest := []) (C := RX1) (ci := 1) ⟨hx, hb, hml, hown, hts⟩ (c_X1_period l E A ap vp hI) (cwV 0 hts gX9_told_X1_period rfl rfl rfl (by decide +kernel) ⟨Nat.le_of_ble_eq_true rfl, Nat.le_of_ble_eq_true rfl⟩) hE (hP.sub (ws' := planL E ap vp) [6, 7, 8, 9, 10, 11, 12, 13, 14, 15, 16, 17, 18, 19, 20, 21, 22, 23, 24, 25, 26, 27, 28, 29, 30, 31, 32, 33, 34] rfl) rfl rfl rfl rfl hl.1 rfl (Nat.le_of_ble_eq_true rfl) dX9_told_145 ⟨Nat.zero_le _, Nat.zero_le _⟩ (fun r145 h145 => ?_)
      subst hQ
      exact W.iret (v := r145) hx hb hr (fun t ht hW => ⟨r145, rfl, trivial, ht⟩) (fun q h => absurd h List.not_mem_nil) dX9_told_148
    · refine lv_tableIn (off := 140) (tgt := 149) hx hb dX9_told_9 (by omega) (by omega) (by rw [sw9]; rfl) (by decide) ?_
      refine lv_aload_n hx hb dX9_told_149 rfl (lv_at hl 0 rfl) ?_
      refine lv_aload_n hx hb dX9_told_150 rfl (lv_at hl 1 rfl) ?_
      refine va_get (D := eD E) (ci := 9) (v := .ref (as_ 0)) (C := RX9) (T := TX9) (N := 13) hx hb hts in_X9 hown hK hP 0 rfl rfl 6 (by decide) lk12 (fun _ h9 => h9) rfl dX9_told_151 ?_
      refine va_get (D := eD E) (ci := 6) (v := .int (vs 4 0)) (C := RX6) (T := TX6) (N := 9) hx hb hts in_X6 hown hK hP 35 rfl rfl 4 (by decide) lk14 (fun _ h9 => h9) rfl dX9_told_154 ?_
      refine rd_V (As := [.int (vs 4 0)]) (rest := []) (C := RX1) (ci := 1) ⟨hx, hb, hml, hown, hts⟩ (c_X1_pairOf l E A ap vp (vs 4 0) hI (by omega)) (cwV 1 hts gX9_told_X1_pairOf rfl rfl rfl (by decide +kernel) ⟨Nat.le_of_ble_eq_true rfl, Nat.le_of_ble_eq_true rfl⟩) hE (hP.sub (ws' := planL E ap vp) [6, 7, 8, 9, 10, 11, 12, 13, 14, 15, 16, 17, 18, 19, 20, 21, 22, 23, 24, 25, 26, 27, 28, 29, 30, 31, 32, 33, 34] rfl) rfl rfl rfl rfl hl.1 rfl (Nat.le_of_ble_eq_true rfl) dX9_told_157 ⟨Nat.zero_le _, Nat.zero_le _⟩ (fun r157 h157 => ?_)
      subst hQ
      exact W.iret (v := r157) hx hb hr (fun t ht hW => ⟨r157, rfl, trivial, ht⟩) (fun q h => absurd h List.not_mem_nil) dX9_told_160
    · refine lv_tableIn (off := 152) (tgt := 161) hx hb dX9_told_9 (by omega) (by omega) (by rw [sw9]; rfl) (by decide) ?_
      refine lv_aload_n hx hb dX9_told_161 rfl (lv_at hl 1 rfl) ?_
      refine va_get (D := eD E) (ci := 9) (v := .ref (as_ 0)) (C := RX9) (T := TX9) (N := 13) hx hb hts in_X9 hown hK hP 0 rfl rfl 6 (by decide) lk12 (fun _ h9 => h9) rfl dX9_told_162 ?_
      refine va_get (D := eD E) (ci := 6) (v := .int (vs 5 0)) (C := RX6) (T := TX6) (N := 9) hx hb hts in_X6 hown hK hP 35 rfl rfl 5 (by decide) lk15 (fun _ h9 => h9) rfl dX9_told_165 ?_
      subst hQ
      exact W.iret (v := (vs 5 0)) hx hb hr (fun t ht hW => ⟨(vs 5 0), rfl, trivial, ht⟩) (fun q h => absurd h List.not_mem_nil) dX9_told_168
    · refine lv_tableIn (off := 160) (tgt := 169) hx hb dX9_told_9 (by omega) (by omega) (by rw [sw9]; rfl) (by decide) ?_
      refine lv_aload_n hx hb dX9_told_169 rfl (lv_at hl 1 rfl) ?_
      refine va_get (D := eD E) (ci := 9) (v := .ref (as_ 0)) (C := RX9) (T := TX9) (N := 13) hx hb hts in_X9 hown hK hP 0 rfl rfl 6 (by decide) lk12 (fun _ h9 => h9) rfl dX9_told_170 ?_
      refine va_get (D := eD E) (ci := 6) (v := .int (vs 6 0)) (C := RX6) (T := TX6) (N := 9) hx hb hts in_X6 hown hK hP 35 rfl rfl 6 (by decide) lk16 (fun _ h9 => h9) rfl dX9_told_173 ?_
      subst hQ
      exact W.iret (v := (vs 6 0)) hx hb hr (fun t ht hW => ⟨(vs 6 0), rfl, trivial, ht⟩) (fun q h => absurd h List.not_mem_nil) dX9_told_176
    · refine lv_tableIn (off := 168) (tgt := 177) hx hb dX9_told_9 (by omega) (by omega) (by rw [sw9]; rfl) (by decide) ?_
      refine lv_aload_n hx hb dX9_told_177 rfl (lv_at hl 1 rfl) ?_
      refine va_get (D := eD E) (ci := 9) (v := .ref (a 10)) (C := RX9) (T := TX9) (N := 13) hx hb hts in_X9 hown hK hP 0 rfl rfl 10 (by decide) lk17 (fun _ h9 => h9) rfl dX9_told_178 ?_
      refine va_get (D := eD E) (ci := 4) (v := .int (v 401 0)) (C := RX4) (T := TX4) (N := 11) hx hb hts in_X4 hown hK hP 4 rfl rfl 1 (by decide) lk18 (fun _ h9 => h9) rfl dX9_told_181 ?_
      subst hQ
      exact W.iret (v := (v 401 0)) hx hb hr (fun t ht hW => ⟨(v 401 0), rfl, trivial, ht⟩) (fun q h => absurd h List.not_mem_nil) dX9_told_184
    · refine lv_tableIn (off := 176) (tgt := 185) hx hb dX9_told_9 (by omega) (by omega) (by rw [sw9]; rfl) (by decide) ?_
      refine lv_aload_n hx hb dX9_told_185 rfl (lv_at hl 1 rfl) ?_
      refine va_get (D := eD E) (ci := 9) (v := .int (v 12 0)) (C := RX9) (T := TX9) (N := 13) hx hb hts in_X9 hown hK hP 0 rfl rfl 12 (by decide) lk19 (fun _ h9 => h9) rfl dX9_told_186 ?_
      subst hQ
      exact W.iret (v := (v 12 0)) hx hb hr (fun t ht hW => ⟨(v 12 0), rfl, trivial, ht⟩) (fun q h => absurd h List.not_mem_nil) dX9_told_189
