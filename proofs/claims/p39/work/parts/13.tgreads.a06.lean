def rm_X9_cell : Room := { frames := 4, cells := 0, slots := 0, locals := 98 }
set_option maxHeartbeats 4000000 in
set_option maxRecDepth 100000 in
theorem c_X9_cell (l : Launch) (E : Ev) (A : Nat → Prop) (a : Nat → Nat) (v : Vf) (aq : Nat → Nat) (ap : Nat → Nat) (vp : Vf) (as_ : Nat → Nat) (vs : Vf) (x : Int32) (y : Int32) (what : Int32) (hI : PlanI vp) (hJ : StateI vs) (hT : TgI v) : Met l yX9_cell wsX9_cell rm_X9_cell (RdP E A [.ref (a 99), .int x, .int y, .int what] (tgsL E a v aq ap vp as_ vs)) (vp_Si (fun r => True)) 0 0 (fun _ => False) := by
  refine Met.ofW (cc := cX9_cell) (maxL := 5) (ret := (some .int)) (by decide) rfl ?_
  intro p e s m args below meth c s₁ B hml hv
  obtain ⟨rfl, hE, hP⟩ := hv
  have hx := B.exec
  have hb := B.bytes
  have hr := B.returns
  have hts := atoms_spec (ws := wsX9_cell) B.pre
  have hown : s.vm.findClass RX9 = some m.cls := findClass_of_methodNamed B.named
  have hlocks := B.notSynchronized
  have hK := hE.1
  have in_X9 : ∀ w ∈ u_ws RX9 TX9 13, w ∈ wsX9_cell := fun w h => List.mem_cons_of_mem _ (List.mem_append_left _ (List.mem_append_left _ (List.mem_append_left _ (List.mem_append_left _ (List.mem_append_right _ h)))))
  have in_X8 : ∀ w ∈ u_ws RX8 TX8 2, w ∈ wsX9_cell := fun w h => List.mem_cons_of_mem _ (List.mem_append_left _ (List.mem_append_left _ (List.mem_append_left _ (List.mem_append_right _ h))))
  have in_X1 : ∀ w ∈ u_ws RX1 TX1 11, w ∈ wsX9_cell := fun w h => List.mem_cons_of_mem _ (List.mem_append_left _ (List.mem_append_left _ (List.mem_append_right _ h)))
  have in_X6 : ∀ w ∈ u_ws RX6 TX6 9, w ∈ wsX9_cell := fun w h => List.mem_cons_of_mem _ (List.mem_append_left _ (List.mem_append_right _ h))
  have lk0 := hts (.fieldLink RX9 43 "TidedGround" "world" "LTidedGround$World;") (by decide +kernel)
  have lk1 := hts (.fieldLink RX9 91 "TidedGround$World" "plan" "LTidedGround$Plan;") (by decide +kernel)
  have lk2 := hts (.constant RX9 81 (-1000000002)) (by decide +kernel)
  have lk3 := hts (.fieldLink RX9 162 "TidedGround$Plan" "base" "[I") (by decide +kernel)
  have lk4 := hts (.fieldLink RX9 165 "TidedGround$Plan" "softness" "[I") (by decide +kernel)
  have lk5 := hts (.fieldLink RX9 34 "TidedGround" "now" "LTidedGround$State;") (by decide +kernel)
  have lk6 := hts (.fieldLink RX9 168 "TidedGround$State" "loads" "[I") (by decide +kernel)
  have lk7 := hts (.fieldLink RX9 137 "TidedGround$State" "step" "I") (by decide +kernel)
  have lk8 := hts (.constant RX9 161 (-1000000001)) (by decide +kernel)
  have n_m1000000002 : ((-1000000002) : Int32).toInt = -1000000002 := by decide
  have n_m1000000001 : ((-1000000001) : Int32).toInt = -1000000001 := by decide
  have n_m1 : ((-1) : Int32).toInt = -1 := by decide
  have n_0 : (0 : Int32).toInt = 0 := by decide
  have hl := lv_entry ([.ref (a 99), .int x, .int y, .int what]) (n := 5) (Nat.le_of_ble_eq_true rfl)
  rw [lg_entry_eq]
  generalize (lg_sl ([.ref (a 99), .int x, .int y, .int what]) ++ List.replicate (5 - (lg_sl ([.ref (a 99), .int x, .int y, .int what])).length) Slot.unset).toArray = ls at hl ⊢
  have hl : lv_has ls 5 [(0, .ref (a 99)), (1, .int x), (2, .int y), (3, .int what)] := hl
  refine W_abs (fun Q hQ => ?_)
  obtain ⟨hg, hmc, hm0, hm1, hm2, hs0, hs1, hs2, hs3⟩ := id hI
  obtain ⟨hg1, hg2, hg3, hg4⟩ := id hg
  have hz0 := hm0.1
  have hz1 := hm1.1
  have hz2 := hm2.1
  have hc0 := hs0.1
  have hc1 := hs1.1
  have hc2 := hs2.1
  have hc3 := hs3.1
  obtain ⟨hj0, hj1, hj2⟩ := id hJ
  obtain ⟨hT1, hT2⟩ := id hT
  refine lv_aload_n hx hb dX9_cell_0 rfl (lv_at hl 0 rfl) ?_
  refine va_get (D := eD E) (ci := 9) (v := .ref (a 5)) (C := RX9) (T := TX9) (N := 13) hx hb hts in_X9 hown hK hP 0 rfl rfl 5 (by decide) lk0 (fun _ h9 => h9) rfl dX9_cell_1 ?_
  refine va_get (D := eD E) (ci := 8) (v := .ref (ap 0)) (C := RX8) (T := TX8) (N := 2) hx hb hts in_X8 hown hK hP 5 rfl rfl 0 (by decide) lk1 (fun _ h9 => h9) rfl dX9_cell_4 ?_
  refine lv_iload_n hx hb dX9_cell_7 rfl (lv_at hl 1 rfl) ?_
  refine lv_iload_n hx hb dX9_cell_8 rfl (lv_at hl 2 rfl) ?_
  refine rd_V (As := [.int x, .int y]) (rest := []) (C := RX1) (ci := 1) ⟨hx, hb, hml, hown, hts⟩ (c_X1_cellAt l E A ap vp x y hI) (cwV 2 hts gX9_cell_X1_cellAt rfl rfl rfl (by decide +kernel) ⟨Nat.le_of_ble_eq_true rfl, Nat.le_of_ble_eq_true rfl⟩) hE (hP.sub (ws' := planL E ap vp) [6, 7, 8, 9, 10, 11, 12, 13, 14, 15, 16, 17, 18, 19, 20, 21, 22, 23, 24, 25, 26, 27, 28, 29, 30, 31, 32, 33, 34] rfl) rfl rfl rfl rfl hl.1 rfl (Nat.le_of_ble_eq_true rfl) dX9_cell_9 ⟨Nat.zero_le _, Nat.zero_le _⟩ (fun r9 h9 => ?_)
  have hf9 := h9.2
  replace h9 := h9.1
  refine lv_istore (lv' := [(4, .int r9), (0, .ref (a 99)), (1, .int x), (2, .int y), (3, .int what)]) hx hb dX9_cell_12 hl (by decide) rfl (fun ls hl => ?_)
  refine lv_iload hx hb dX9_cell_14 (lv_at hl 0 rfl) ?_
  refine lv_iconst (v := (-1)) hx hb dX9_cell_16 (by decide) ?_
  refine lv_icmp_ne (tgt := 23) hx hb dX9_cell_17 (by decide) (fun c17 => ?_) (fun c17 => ?_)
  · have c17_ := i_ne c17
    replace h9 := cm_n h9 c17_
    clear c17_
    have sv23_r9 : 0 ≤ r9.toInt ∧ r9.toInt ≤ 23 := by omega
    refine lv_iload_n hx hb dX9_cell_23 rfl (lv_at hl 4 rfl) ?_
    by_cases tb24 : what.toInt < 0 ∨ 6 < what.toInt
    · refine lv_tableOut (tgt := 171) hx hb dX9_cell_24 tb24 (by decide) ?_
      refine lv_ldc hx hb hown lk2 dX9_cell_171 ?_
      subst hQ
      exact W.iret (v := (-1000000002)) hx hb hr (fun t ht hW => ⟨(-1000000002), rfl, trivial, ht⟩) (fun q h => absurd h List.not_mem_nil) dX9_cell_173
    · rcases (show what.toInt = 0 ∨ what.toInt = 1 ∨ what.toInt = 2 ∨ what.toInt = 3 ∨ what.toInt = 4 ∨ what.toInt = 5 ∨ what.toInt = 6 by omega) with sw24 | sw24 | sw24 | sw24 | sw24 | sw24 | sw24
      · refine lv_tableIn (off := 44) (tgt := 68) hx hb dX9_cell_24 (by omega) (by omega) (by rw [sw24]; rfl) (by decide) ?_
        refine lv_aload_n hx hb dX9_cell_68 rfl (lv_at hl 1 rfl) ?_
        refine va_get (D := eD E) (ci := 9) (v := .ref (a 5)) (C := RX9) (T := TX9) (N := 13) hx hb hts in_X9 hown hK hP 0 rfl rfl 5 (by decide) lk0 (fun _ h9 => h9) rfl dX9_cell_69 ?_
        refine va_get (D := eD E) (ci := 8) (v := .ref (ap 0)) (C := RX8) (T := TX8) (N := 2) hx hb hts in_X8 hown hK hP 5 rfl rfl 0 (by decide) lk1 (fun _ h9 => h9) rfl dX9_cell_72 ?_
        refine va_get (D := eD E) (ci := 1) (v := .ref (ap 3)) (C := RX1) (T := TX1) (N := 11) hx hb hts in_X1 hown hK hP 6 rfl rfl 3 (by decide) lk3 (fun _ h9 => h9) rfl dX9_cell_75 ?_
        refine lv_iload hx hb dX9_cell_78 (lv_at hl 0 rfl) ?_
        refine va_iald hx hb hK hP 7 0 rfl rfl (n := 24) (f := (vp 3)) (i_in (by omega) (by omega)) dX9_cell_80 ?_
        refine lv_topi (fun x80 e80 => ?_)
        subst hQ
        exact W.iret (v := x80) hx hb hr (fun t ht hW => ⟨x80, rfl, trivial, ht⟩) (fun q h => absurd h List.not_mem_nil) dX9_cell_81
      · refine lv_tableIn (off := 58) (tgt := 82) hx hb dX9_cell_24 (by omega) (by omega) (by rw [sw24]; rfl) (by decide) ?_
        refine lv_aload_n hx hb dX9_cell_82 rfl (lv_at hl 1 rfl) ?_
        refine va_get (D := eD E) (ci := 9) (v := .ref (a 5)) (C := RX9) (T := TX9) (N := 13) hx hb hts in_X9 hown hK hP 0 rfl rfl 5 (by decide) lk0 (fun _ h9 => h9) rfl dX9_cell_83 ?_
        refine va_get (D := eD E) (ci := 8) (v := .ref (ap 0)) (C := RX8) (T := TX8) (N := 2) hx hb hts in_X8 hown hK hP 5 rfl rfl 0 (by decide) lk1 (fun _ h9 => h9) rfl dX9_cell_86 ?_
        refine va_get (D := eD E) (ci := 1) (v := .ref (ap 4)) (C := RX1) (T := TX1) (N := 11) hx hb hts in_X1 hown hK hP 6 rfl rfl 4 (by decide) lk4 (fun _ h9 => h9) rfl dX9_cell_89 ?_
        refine lv_iload hx hb dX9_cell_92 (lv_at hl 0 rfl) ?_
        refine va_iald hx hb hK hP 8 0 rfl rfl (n := 24) (f := (vp 4)) (i_in (by omega) (by omega)) dX9_cell_94 ?_
        refine lv_topi (fun x94 e94 => ?_)
        subst hQ
        exact W.iret (v := x94) hx hb hr (fun t ht hW => ⟨x94, rfl, trivial, ht⟩) (fun q h => absurd h List.not_mem_nil) dX9_cell_95
      · refine lv_tableIn (off := 72) (tgt := 96) hx hb dX9_cell_24 (by omega) (by omega) (by rw [sw24]; rfl) (by decide) ?_
        refine lv_aload_n hx hb dX9_cell_96 rfl (lv_at hl 1 rfl) ?_
        refine va_get (D := eD E) (ci := 9) (v := .ref (as_ 0)) (C := RX9) (T := TX9) (N := 13) hx hb hts in_X9 hown hK hP 0 rfl rfl 6 (by decide) lk5 (fun _ h9 => h9) rfl dX9_cell_97 ?_
        refine va_get (D := eD E) (ci := 6) (v := .ref (as_ 2)) (C := RX6) (T := TX6) (N := 9) hx hb hts in_X6 hown hK hP 35 rfl rfl 2 (by decide) lk6 (fun _ h9 => h9) rfl dX9_cell_100 ?_
        refine lv_iload hx hb dX9_cell_103 (lv_at hl 0 rfl) ?_
        refine va_iald hx hb hK hP 37 0 rfl rfl (n := 24) (f := (vs 2)) (i_in (by omega) (by omega)) dX9_cell_105 ?_
        refine lv_topi (fun x105 e105 => ?_)
        subst hQ
        exact W.iret (v := x105) hx hb hr (fun t ht hW => ⟨x105, rfl, trivial, ht⟩) (fun q h => absurd h List.not_mem_nil) dX9_cell_106
      · refine lv_tableIn (off := 83) (tgt := 107) hx hb dX9_cell_24 (by omega) (by omega) (by rw [sw24]; rfl) (by decide) ?_
        refine lv_aload_n hx hb dX9_cell_107 rfl (lv_at hl 1 rfl) ?_
        refine va_get (D := eD E) (ci := 9) (v := .ref (a 5)) (C := RX9) (T := TX9) (N := 13) hx hb hts in_X9 hown hK hP 0 rfl rfl 5 (by decide) lk0 (fun _ h9 => h9) rfl dX9_cell_108 ?_
        refine lv_iload hx hb dX9_cell_111 (lv_at hl 0 rfl) ?_
        refine rd_V (As := [.int r9]) (rest := []) (C := RX8) (ci := 8) ⟨hx, hb, hml, hown, hts⟩ (c_X8_stiffOf l E A (a 5) ap vp as_ vs r9 hI hJ (by omega)) (cwV 1 hts gX9_cell_X8_stiffOf rfl rfl rfl (by decide +kernel) ⟨Nat.le_of_ble_eq_true rfl, Nat.le_of_ble_eq_true rfl⟩) hE (hP.sub (ws' := wpsL E (a 5) ap vp as_ vs) [5, 6, 7, 8, 9, 10, 11, 12, 13, 14, 15, 16, 17, 18, 19, 20, 21, 22, 23, 24, 25, 26, 27, 28, 29, 30, 31, 32, 33, 34, 35, 36, 37, 38] rfl) rfl rfl rfl rfl hl.1 rfl (Nat.le_of_ble_eq_true rfl) dX9_cell_113 ⟨Nat.zero_le _, Nat.zero_le _⟩ (fun r113 h113 => ?_)
        subst hQ
        exact W.iret (v := r113) hx hb hr (fun t ht hW => ⟨r113, rfl, trivial, ht⟩) (fun q h => absurd h List.not_mem_nil) dX9_cell_116
      · refine lv_tableIn (off := 93) (tgt := 117) hx hb dX9_cell_24 (by omega) (by omega) (by rw [sw24]; rfl) (by decide) ?_
        refine lv_aload_n hx hb dX9_cell_117 rfl (lv_at hl 1 rfl) ?_
        refine va_get (D := eD E) (ci := 9) (v := .ref (a 5)) (C := RX9) (T := TX9) (N := 13) hx hb hts in_X9 hown hK hP 0 rfl rfl 5 (by decide) lk0 (fun _ h9 => h9) rfl dX9_cell_118 ?_
        refine lv_iload hx hb dX9_cell_121 (lv_at hl 0 rfl) ?_
        refine lv_aload_n hx hb dX9_cell_123 rfl (lv_at hl 1 rfl) ?_
        refine va_get (D := eD E) (ci := 9) (v := .ref (as_ 0)) (C := RX9) (T := TX9) (N := 13) hx hb hts in_X9 hown hK hP 0 rfl rfl 6 (by decide) lk5 (fun _ h9 => h9) rfl dX9_cell_124 ?_
        refine va_get (D := eD E) (ci := 6) (v := .int (vs 0 0)) (C := RX6) (T := TX6) (N := 9) hx hb hts in_X6 hown hK hP 35 rfl rfl 0 (by decide) lk7 (fun _ h9 => h9) rfl dX9_cell_127 ?_
        refine lv_iconst (v := (-1)) hx hb dX9_cell_130 (by decide) ?_
        refine rd_V (As := [.int r9, .int (vs 0 0), .int (-1)]) (rest := []) (C := RX8) (ci := 8) ⟨hx, hb, hml, hown, hts⟩ (c_X8_pullAt l E A (a 5) ap vp as_ vs r9 (vs 0 0) (-1) hI hJ (by omega) (by omega)) (cwV 3 hts gX9_cell_X8_pullAt rfl rfl rfl (by decide +kernel) ⟨Nat.le_of_ble_eq_true rfl, Nat.le_of_ble_eq_true rfl⟩) hE (hP.sub (ws' := wpsL E (a 5) ap vp as_ vs) [5, 6, 7, 8, 9, 10, 11, 12, 13, 14, 15, 16, 17, 18, 19, 20, 21, 22, 23, 24, 25, 26, 27, 28, 29, 30, 31, 32, 33, 34, 35, 36, 37, 38] rfl) rfl rfl rfl rfl hl.1 rfl (Nat.le_of_ble_eq_true rfl) dX9_cell_131 ⟨Nat.zero_le _, Nat.zero_le _⟩ (fun r131 h131 => ?_)
        subst hQ
        exact W.iret (v := r131) hx hb hr (fun t ht hW => ⟨r131, rfl, trivial, ht⟩) (fun q h => absurd h List.not_mem_nil) dX9_cell_134
      · refine lv_tableIn (off := 111) (tgt := 135) hx hb dX9_cell_24 (by omega) (by omega) (by rw [sw24]; rfl) (by decide) ?_
        refine lv_aload_n hx hb dX9_cell_135 rfl (lv_at hl 1 rfl) ?_
        refine va_get (D := eD E) (ci := 9) (v := .ref (a 5)) (C := RX9) (T := TX9) (N := 13) hx hb hts in_X9 hown hK hP 0 rfl rfl 5 (by decide) lk0 (fun _ h9 => h9) rfl dX9_cell_136 ?_
        refine lv_iload hx hb dX9_cell_139 (lv_at hl 0 rfl) ?_
        refine lv_aload_n hx hb dX9_cell_141 rfl (lv_at hl 1 rfl) ?_
        refine va_get (D := eD E) (ci := 9) (v := .ref (as_ 0)) (C := RX9) (T := TX9) (N := 13) hx hb hts in_X9 hown hK hP 0 rfl rfl 6 (by decide) lk5 (fun _ h9 => h9) rfl dX9_cell_142 ?_
        refine va_get (D := eD E) (ci := 6) (v := .int (vs 0 0)) (C := RX6) (T := TX6) (N := 9) hx hb hts in_X6 hown hK hP 35 rfl rfl 0 (by decide) lk7 (fun _ h9 => h9) rfl dX9_cell_145 ?_
        refine lv_iconst (v := (-1)) hx hb dX9_cell_148 (by decide) ?_
        refine rd_V (As := [.int r9, .int (vs 0 0), .int (-1)]) (rest := []) (C := RX8) (ci := 8) ⟨hx, hb, hml, hown, hts⟩ (c_X8_heightAt l E A (a 5) ap vp as_ vs r9 (vs 0 0) (-1) hI hJ (by omega) (by omega)) (cwV 3 hts gX9_cell_X8_heightAt rfl rfl rfl (by decide +kernel) ⟨Nat.le_of_ble_eq_true rfl, Nat.le_of_ble_eq_true rfl⟩) hE (hP.sub (ws' := wpsL E (a 5) ap vp as_ vs) [5, 6, 7, 8, 9, 10, 11, 12, 13, 14, 15, 16, 17, 18, 19, 20, 21, 22, 23, 24, 25, 26, 27, 28, 29, 30, 31, 32, 33, 34, 35, 36, 37, 38] rfl) rfl rfl rfl rfl hl.1 rfl (Nat.le_of_ble_eq_true rfl) dX9_cell_149 ⟨Nat.zero_le _, Nat.zero_le _⟩ (fun r149 h149 => ?_)
        subst hQ
        exact W.iret (v := r149) hx hb hr (fun t ht hW => ⟨r149, rfl, trivial, ht⟩) (fun q h => absurd h List.not_mem_nil) dX9_cell_152
      · refine lv_tableIn (off := 129) (tgt := 153) hx hb dX9_cell_24 (by omega) (by omega) (by rw [sw24]; rfl) (by decide) ?_
        refine lv_aload_n hx hb dX9_cell_153 rfl (lv_at hl 1 rfl) ?_
        refine va_get (D := eD E) (ci := 9) (v := .ref (a 5)) (C := RX9) (T := TX9) (N := 13) hx hb hts in_X9 hown hK hP 0 rfl rfl 5 (by decide) lk0 (fun _ h9 => h9) rfl dX9_cell_154 ?_
        refine lv_iload hx hb dX9_cell_157 (lv_at hl 0 rfl) ?_
        refine lv_aload_n hx hb dX9_cell_159 rfl (lv_at hl 1 rfl) ?_
        refine va_get (D := eD E) (ci := 9) (v := .ref (as_ 0)) (C := RX9) (T := TX9) (N := 13) hx hb hts in_X9 hown hK hP 0 rfl rfl 6 (by decide) lk5 (fun _ h9 => h9) rfl dX9_cell_160 ?_
        refine va_get (D := eD E) (ci := 6) (v := .int (vs 0 0)) (C := RX6) (T := TX6) (N := 9) hx hb hts in_X6 hown hK hP 35 rfl rfl 0 (by decide) lk7 (fun _ h9 => h9) rfl dX9_cell_163 ?_
        refine lv_iconst (v := (-1)) hx hb dX9_cell_166 (by decide) ?_
        refine rd_V (As := [.int r9, .int (vs 0 0), .int (-1)]) (rest := []) (C := RX8) (ci := 8) ⟨hx, hb, hml, hown, hts⟩ (c_X8_leanAt l E A (a 5) ap vp as_ vs r9 (vs 0 0) (-1) hI hJ (by omega) (by omega)) (cwV 3 hts gX9_cell_X8_leanAt rfl rfl rfl (by decide +kernel) ⟨Nat.le_of_ble_eq_true rfl, Nat.le_of_ble_eq_true rfl⟩) hE (hP.sub (ws' := wpsL E (a 5) ap vp as_ vs) [5, 6, 7, 8, 9, 10, 11, 12, 13, 14, 15, 16, 17, 18, 19, 20, 21, 22, 23, 24, 25, 26, 27, 28, 29, 30, 31, 32, 33, 34, 35, 36, 37, 38] rfl) rfl rfl rfl rfl hl.1 rfl (Nat.le_of_ble_eq_true rfl) dX9_cell_167 ⟨Nat.zero_le _, Nat.zero_le _⟩ (fun r167 h167 => ?_)
        subst hQ
        exact W.iret (v := r167) hx hb hr (fun t ht hW => ⟨r167, rfl, trivial, ht⟩) (fun q h => absurd h List.not_mem_nil) dX9_cell_170
  · have c17_ := i_eq c17
    clear h9
    refine lv_ldc hx hb hown lk8 dX9_cell_20 ?_
    subst hQ
    exact W.iret (v := (-1000000001)) hx hb hr (fun t ht hW => ⟨(-1000000001), rfl, trivial, ht⟩) (fun q h => absurd h List.not_mem_nil) dX9_cell_22
