def rm_X10_told : Room := { frames := 1, cells := 0, slots := 0, locals := 21 }
set_option maxHeartbeats 4000000 in
set_option maxRecDepth 100000 in
theorem c_X10_told (l : Launch) (E : Ev) (A : Nat → Prop) (am : Nat → Nat) (vm : Vf) (what : Int32) (hH : MdH vm) : Met l yX10_told wsX10_told rm_X10_told (RdP E A [.ref (am 0), .int what] (mdL E am vm)) (vp_Si (fun r => (True) ∧ (TabP 14 what r (mTv vm)))) 0 0 (fun _ => False) := by
  refine Met.ofW (cc := cX10_told) (maxL := 2) (ret := (some .int)) (by decide) rfl ?_
  intro p e s m args below meth c s₁ B hml hv
  obtain ⟨rfl, hE, hP⟩ := hv
  have hx := B.exec
  have hb := B.bytes
  have hr := B.returns
  have hts := atoms_spec (ws := wsX10_told) B.pre
  have hown : s.vm.findClass RX10 = some m.cls := findClass_of_methodNamed B.named
  have hlocks := B.notSynchronized
  have hK := hE.1
  have in_X10 : ∀ w ∈ u_ws RX10 TX10 79, w ∈ wsX10_told := fun w h => List.mem_cons_of_mem _ (List.mem_append_right _ h)
  have lk0 := hts (.constant RX10 175 (-1000000002)) (List.mem_of_getElem? (i := 16) rfl)
  have lk1 := hts (.fieldLink RX10 159 "TidedGroundModel" "wide" "I") (List.mem_of_getElem? (i := 1) rfl)
  have lk2 := hts (.fieldLink RX10 162 "TidedGroundModel" "deep" "I") (List.mem_of_getElem? (i := 2) rfl)
  have lk3 := hts (.fieldLink RX10 267 "TidedGroundModel" "moons" "I") (List.mem_of_getElem? (i := 3) rfl)
  have lk4 := hts (.fieldLink RX10 270 "TidedGroundModel" "houses" "I") (List.mem_of_getElem? (i := 4) rfl)
  have lk5 := hts (.fieldLink RX10 273 "TidedGroundModel" "cracks" "I") (List.mem_of_getElem? (i := 5) rfl)
  have lk6 := hts (.fieldLink RX10 276 "TidedGroundModel" "wells" "I") (List.mem_of_getElem? (i := 6) rfl)
  have lk7 := hts (.fieldLink RX10 279 "TidedGroundModel" "deeds" "I") (List.mem_of_getElem? (i := 7) rfl)
  have lk8 := hts (.fieldLink RX10 176 "TidedGroundModel" "texted" "I") (List.mem_of_getElem? (i := 8) rfl)
  have lk9 := hts (.fieldLink RX10 291 "TidedGroundModel" "step" "I") (List.mem_of_getElem? (i := 9) rfl)
  have lk10 := hts (.fieldLink RX10 55 "TidedGroundModel" "period" "I") (List.mem_of_getElem? (i := 10) rfl)
  have lk11 := hts (.fieldLink RX10 294 "TidedGroundModel" "cart" "I") (List.mem_of_getElem? (i := 11) rfl)
  have lk12 := hts (.fieldLink RX10 297 "TidedGroundModel" "pushed" "I") (List.mem_of_getElem? (i := 12) rfl)
  have lk13 := hts (.fieldLink RX10 68 "TidedGroundModel" "steep" "I") (List.mem_of_getElem? (i := 13) rfl)
  have lk14 := hts (.fieldLink RX10 300 "TidedGroundModel" "sights" "I") (List.mem_of_getElem? (i := 14) rfl)
  have lk15 := hts (.fieldLink RX10 303 "TidedGroundModel" "booked" "I") (List.mem_of_getElem? (i := 15) rfl)
  have n_m1000000002 : ((-1000000002) : Int32).toInt = -1000000002 := by decide
  have n_0 : (0 : Int32).toInt = 0 := by decide
  have hl := lv_entry ([.ref (am 0), .int what]) (n := 2) (Nat.le_of_ble_eq_true rfl)
  rw [lg_entry_eq]
  generalize (lg_sl ([.ref (am 0), .int what]) ++ List.replicate (2 - (lg_sl ([.ref (am 0), .int what])).length) Slot.unset).toArray = ls at hl ⊢
  have hl : lv_has ls 2 [(0, .ref (am 0)), (1, .int what)] := hl
  refine W_abs (fun Q hQ => ?_)
  obtain ⟨hmG, hmC, hmZ, hmM, hmA, hmS, hmT⟩ := id hH
  obtain ⟨hG1, hG2, hG3⟩ := id hmG
  obtain ⟨hC1, hC2, hC3, hC4, hC5, hC6⟩ := id hmC
  obtain ⟨hM1, hM2, hM3, hM4⟩ := id hmM
  obtain ⟨hA1, hA2, hA3, hA4, hA5⟩ := id hmA
  obtain ⟨hS1, hS2, hS3, hS4, hS5, hS6⟩ := id hmS
  obtain ⟨hT1, hT2, hT3, hT4, hT5⟩ := id hmT
  refine lv_iload_n hx hb dX10_told_0 rfl (lv_at hl 1 rfl) ?_
  by_cases tb1 : what.toInt < 0 ∨ 14 < what.toInt
  · refine lv_tableOut (tgt := 166) hx hb dX10_told_1 tb1 (by decide) ?_
    refine lv_ldc hx hb hown lk0 dX10_told_166 ?_
    subst hQ
    exact W.iret (v := (-1000000002)) hx hb hr (fun t ht hW => ⟨(-1000000002), rfl, ⟨trivial, (Or.inl ⟨tb1, by omega⟩)⟩, ht⟩) (fun q h => absurd h List.not_mem_nil) dX10_told_168
  · rcases (show what.toInt = 0 ∨ what.toInt = 1 ∨ what.toInt = 2 ∨ what.toInt = 3 ∨ what.toInt = 4 ∨ what.toInt = 5 ∨ what.toInt = 6 ∨ what.toInt = 7 ∨ what.toInt = 8 ∨ what.toInt = 9 ∨ what.toInt = 10 ∨ what.toInt = 11 ∨ what.toInt = 12 ∨ what.toInt = 13 ∨ what.toInt = 14 by omega) with sw1 | sw1 | sw1 | sw1 | sw1 | sw1 | sw1 | sw1 | sw1 | sw1 | sw1 | sw1 | sw1 | sw1 | sw1
    · refine lv_tableIn (off := 75) (tgt := 76) hx hb dX10_told_1 (by omega) (by omega) (by rw [sw1]; rfl) (by decide) ?_
      refine lv_aload_n hx hb dX10_told_76 rfl (lv_at hl 0 rfl) ?_
      refine va_get (D := eD E) (ci := 10) (v := .int (vm 0 0)) (C := RX10) (T := TX10) (N := 79) hx hb hts in_X10 hown hK hP 0 rfl rfl 0 (by decide) lk1 (fun _ h9 => h9) rfl dX10_told_77 ?_
      subst hQ
      exact W.iret (v := (vm 0 0)) hx hb hr (fun t ht hW => ⟨(vm 0 0), rfl, ⟨trivial, (Or.inr ⟨0, sw1, by decide, rfl⟩)⟩, ht⟩) (fun q h => absurd h List.not_mem_nil) dX10_told_80
    · refine lv_tableIn (off := 80) (tgt := 81) hx hb dX10_told_1 (by omega) (by omega) (by rw [sw1]; rfl) (by decide) ?_
      refine lv_aload_n hx hb dX10_told_81 rfl (lv_at hl 0 rfl) ?_
      refine va_get (D := eD E) (ci := 10) (v := .int (vm 1 0)) (C := RX10) (T := TX10) (N := 79) hx hb hts in_X10 hown hK hP 0 rfl rfl 1 (by decide) lk2 (fun _ h9 => h9) rfl dX10_told_82 ?_
      subst hQ
      exact W.iret (v := (vm 1 0)) hx hb hr (fun t ht hW => ⟨(vm 1 0), rfl, ⟨trivial, (Or.inr ⟨1, sw1, by decide, rfl⟩)⟩, ht⟩) (fun q h => absurd h List.not_mem_nil) dX10_told_85
    · refine lv_tableIn (off := 85) (tgt := 86) hx hb dX10_told_1 (by omega) (by omega) (by rw [sw1]; rfl) (by decide) ?_
      refine lv_aload_n hx hb dX10_told_86 rfl (lv_at hl 0 rfl) ?_
      refine va_get (D := eD E) (ci := 10) (v := .int (vm 4 0)) (C := RX10) (T := TX10) (N := 79) hx hb hts in_X10 hown hK hP 0 rfl rfl 4 (by decide) lk3 (fun _ h9 => h9) rfl dX10_told_87 ?_
      subst hQ
      exact W.iret (v := (vm 4 0)) hx hb hr (fun t ht hW => ⟨(vm 4 0), rfl, ⟨trivial, (Or.inr ⟨2, sw1, by decide, rfl⟩)⟩, ht⟩) (fun q h => absurd h List.not_mem_nil) dX10_told_90
    · refine lv_tableIn (off := 90) (tgt := 91) hx hb dX10_told_1 (by omega) (by omega) (by rw [sw1]; rfl) (by decide) ?_
      refine lv_aload_n hx hb dX10_told_91 rfl (lv_at hl 0 rfl) ?_
      refine va_get (D := eD E) (ci := 10) (v := .int (vm 9 0)) (C := RX10) (T := TX10) (N := 79) hx hb hts in_X10 hown hK hP 0 rfl rfl 9 (by decide) lk4 (fun _ h9 => h9) rfl dX10_told_92 ?_
      subst hQ
      exact W.iret (v := (vm 9 0)) hx hb hr (fun t ht hW => ⟨(vm 9 0), rfl, ⟨trivial, (Or.inr ⟨3, sw1, by decide, rfl⟩)⟩, ht⟩) (fun q h => absurd h List.not_mem_nil) dX10_told_95
    · refine lv_tableIn (off := 95) (tgt := 96) hx hb dX10_told_1 (by omega) (by omega) (by rw [sw1]; rfl) (by decide) ?_
      refine lv_aload_n hx hb dX10_told_96 rfl (lv_at hl 0 rfl) ?_
      refine va_get (D := eD E) (ci := 10) (v := .int (vm 12 0)) (C := RX10) (T := TX10) (N := 79) hx hb hts in_X10 hown hK hP 0 rfl rfl 12 (by decide) lk5 (fun _ h9 => h9) rfl dX10_told_97 ?_
      subst hQ
      exact W.iret (v := (vm 12 0)) hx hb hr (fun t ht hW => ⟨(vm 12 0), rfl, ⟨trivial, (Or.inr ⟨4, sw1, by decide, rfl⟩)⟩, ht⟩) (fun q h => absurd h List.not_mem_nil) dX10_told_100
    · refine lv_tableIn (off := 100) (tgt := 101) hx hb dX10_told_1 (by omega) (by omega) (by rw [sw1]; rfl) (by decide) ?_
      refine lv_aload_n hx hb dX10_told_101 rfl (lv_at hl 0 rfl) ?_
      refine va_get (D := eD E) (ci := 10) (v := .int (vm 16 0)) (C := RX10) (T := TX10) (N := 79) hx hb hts in_X10 hown hK hP 0 rfl rfl 16 (by decide) lk6 (fun _ h9 => h9) rfl dX10_told_102 ?_
      subst hQ
      exact W.iret (v := (vm 16 0)) hx hb hr (fun t ht hW => ⟨(vm 16 0), rfl, ⟨trivial, (Or.inr ⟨5, sw1, by decide, rfl⟩)⟩, ht⟩) (fun q h => absurd h List.not_mem_nil) dX10_told_105
    · refine lv_tableIn (off := 105) (tgt := 106) hx hb dX10_told_1 (by omega) (by omega) (by rw [sw1]; rfl) (by decide) ?_
      refine lv_aload_n hx hb dX10_told_106 rfl (lv_at hl 0 rfl) ?_
      refine va_get (D := eD E) (ci := 10) (v := .int (vm 19 0)) (C := RX10) (T := TX10) (N := 79) hx hb hts in_X10 hown hK hP 0 rfl rfl 19 (by decide) lk7 (fun _ h9 => h9) rfl dX10_told_107 ?_
      subst hQ
      exact W.iret (v := (vm 19 0)) hx hb hr (fun t ht hW => ⟨(vm 19 0), rfl, ⟨trivial, (Or.inr ⟨6, sw1, by decide, rfl⟩)⟩, ht⟩) (fun q h => absurd h List.not_mem_nil) dX10_told_110
    · refine lv_tableIn (off := 110) (tgt := 111) hx hb dX10_told_1 (by omega) (by omega) (by rw [sw1]; rfl) (by decide) ?_
      refine lv_aload_n hx hb dX10_told_111 rfl (lv_at hl 0 rfl) ?_
      refine va_get (D := eD E) (ci := 10) (v := .int (vm 32 0)) (C := RX10) (T := TX10) (N := 79) hx hb hts in_X10 hown hK hP 0 rfl rfl 32 (by decide) lk8 (fun _ h9 => h9) rfl dX10_told_112 ?_
      subst hQ
      exact W.iret (v := (vm 32 0)) hx hb hr (fun t ht hW => ⟨(vm 32 0), rfl, ⟨trivial, (Or.inr ⟨7, sw1, by decide, rfl⟩)⟩, ht⟩) (fun q h => absurd h List.not_mem_nil) dX10_told_115
    · refine lv_tableIn (off := 115) (tgt := 116) hx hb dX10_told_1 (by omega) (by omega) (by rw [sw1]; rfl) (by decide) ?_
      refine lv_aload_n hx hb dX10_told_116 rfl (lv_at hl 0 rfl) ?_
      refine va_get (D := eD E) (ci := 10) (v := .int (vm 23 0)) (C := RX10) (T := TX10) (N := 79) hx hb hts in_X10 hown hK hP 0 rfl rfl 23 (by decide) lk9 (fun _ h9 => h9) rfl dX10_told_117 ?_
      subst hQ
      exact W.iret (v := (vm 23 0)) hx hb hr (fun t ht hW => ⟨(vm 23 0), rfl, ⟨trivial, (Or.inr ⟨8, sw1, by decide, rfl⟩)⟩, ht⟩) (fun q h => absurd h List.not_mem_nil) dX10_told_120
    · refine lv_tableIn (off := 120) (tgt := 121) hx hb dX10_told_1 (by omega) (by omega) (by rw [sw1]; rfl) (by decide) ?_
      refine lv_aload_n hx hb dX10_told_121 rfl (lv_at hl 0 rfl) ?_
      refine va_get (D := eD E) (ci := 10) (v := .int (vm 22 0)) (C := RX10) (T := TX10) (N := 79) hx hb hts in_X10 hown hK hP 0 rfl rfl 22 (by decide) lk10 (fun _ h9 => h9) rfl dX10_told_122 ?_
      subst hQ
      exact W.iret (v := (vm 22 0)) hx hb hr (fun t ht hW => ⟨(vm 22 0), rfl, ⟨trivial, (Or.inr ⟨9, sw1, by decide, rfl⟩)⟩, ht⟩) (fun q h => absurd h List.not_mem_nil) dX10_told_125
    · refine lv_tableIn (off := 125) (tgt := 126) hx hb dX10_told_1 (by omega) (by omega) (by rw [sw1]; rfl) (by decide) ?_
      refine lv_aload_n hx hb dX10_told_126 rfl (lv_at hl 0 rfl) ?_
      refine va_get (D := eD E) (ci := 10) (v := .int (vm 0 0)) (C := RX10) (T := TX10) (N := 79) hx hb hts in_X10 hown hK hP 0 rfl rfl 0 (by decide) lk1 (fun _ h9 => h9) rfl dX10_told_127 ?_
      refine lv_if_ne (tgt := 137) hx hb dX10_told_130 (by decide) (fun c130 => ?_) (fun c130 => ?_)
      · have c130_ := i_ne c130
        refine lv_aload_n hx hb dX10_told_137 rfl (lv_at hl 0 rfl) ?_
        refine lv_aload_n hx hb dX10_told_138 rfl (lv_at hl 0 rfl) ?_
        refine va_get (D := eD E) (ci := 10) (v := .int (vm 27 0)) (C := RX10) (T := TX10) (N := 79) hx hb hts in_X10 hown hK hP 0 rfl rfl 27 (by decide) lk11 (fun _ h9 => h9) rfl dX10_told_139 ?_
        refine rd_V (As := [.int (vm 27 0)]) (rest := []) (C := RX10) (ci := 10) ⟨hx, hb, hml, hown, hts⟩ (c_X10_pairOf l E A am vm (vm 27 0) hH (by omega) (by omega)) (cwV 1 hts gX10_told_X10_pairOf rfl rfl rfl (by decide +kernel) ⟨Nat.le_of_ble_eq_true rfl, Nat.le_of_ble_eq_true rfl⟩) hE (hP.sub (ws' := mdL E am vm) [0, 1, 2, 3, 4, 5, 6, 7, 8, 9, 10, 11, 12, 13, 14, 15, 16, 17, 18, 19, 20, 21, 22, 23, 24, 25, 26, 27, 28, 29, 30, 31, 32, 33, 34, 35, 36, 37, 38, 39, 40, 41, 42, 43, 44, 45] rfl) rfl rfl rfl rfl hl.1 rfl (Nat.le_of_ble_eq_true rfl) dX10_told_142 ⟨Nat.zero_le _, Nat.zero_le _⟩ (fun r142 h142 => ?_)
        have hf142 := h142.2
        replace h142 := h142.1
        subst hQ
        exact W.iret (v := r142) hx hb hr (fun t ht hW => ⟨r142, rfl, ⟨trivial, (Or.inr ⟨10, sw1, by decide, (by show _ = if (vm 0 0).toInt = 0 then 0 else mPair vm (vm 27 0); first | (have zz := hf142; rw [if_neg (show ¬ (vm 0 0).toInt = 0 by omega)]; exact zz) | rw [if_pos (show (vm 0 0).toInt = 0 by omega)])⟩)⟩, ht⟩) (fun q h => absurd h List.not_mem_nil) dX10_told_145
      · have c130_ := i_eq c130
        refine lv_iconst (v := 0) hx hb dX10_told_133 (by decide) ?_
        refine lv_goto (tgt := 145) hx hb dX10_told_134 (by decide) ?_
        subst hQ
        exact W.iret (v := 0) hx hb hr (fun t ht hW => ⟨0, rfl, ⟨trivial, (Or.inr ⟨10, sw1, by decide, (by show _ = if (vm 0 0).toInt = 0 then 0 else mPair vm (vm 27 0); first | (have zz := hf142; rw [if_neg (show ¬ (vm 0 0).toInt = 0 by omega)]; exact zz) | rw [if_pos (show (vm 0 0).toInt = 0 by omega)])⟩)⟩, ht⟩) (fun q h => absurd h List.not_mem_nil) dX10_told_145
    · refine lv_tableIn (off := 145) (tgt := 146) hx hb dX10_told_1 (by omega) (by omega) (by rw [sw1]; rfl) (by decide) ?_
      refine lv_aload_n hx hb dX10_told_146 rfl (lv_at hl 0 rfl) ?_
      refine va_get (D := eD E) (ci := 10) (v := .int (vm 28 0)) (C := RX10) (T := TX10) (N := 79) hx hb hts in_X10 hown hK hP 0 rfl rfl 28 (by decide) lk12 (fun _ h9 => h9) rfl dX10_told_147 ?_
      subst hQ
      exact W.iret (v := (vm 28 0)) hx hb hr (fun t ht hW => ⟨(vm 28 0), rfl, ⟨trivial, (Or.inr ⟨11, sw1, by decide, rfl⟩)⟩, ht⟩) (fun q h => absurd h List.not_mem_nil) dX10_told_150
    · refine lv_tableIn (off := 150) (tgt := 151) hx hb dX10_told_1 (by omega) (by omega) (by rw [sw1]; rfl) (by decide) ?_
      refine lv_aload_n hx hb dX10_told_151 rfl (lv_at hl 0 rfl) ?_
      refine va_get (D := eD E) (ci := 10) (v := .int (vm 29 0)) (C := RX10) (T := TX10) (N := 79) hx hb hts in_X10 hown hK hP 0 rfl rfl 29 (by decide) lk13 (fun _ h9 => h9) rfl dX10_told_152 ?_
      subst hQ
      exact W.iret (v := (vm 29 0)) hx hb hr (fun t ht hW => ⟨(vm 29 0), rfl, ⟨trivial, (Or.inr ⟨12, sw1, by decide, rfl⟩)⟩, ht⟩) (fun q h => absurd h List.not_mem_nil) dX10_told_155
    · refine lv_tableIn (off := 155) (tgt := 156) hx hb dX10_told_1 (by omega) (by omega) (by rw [sw1]; rfl) (by decide) ?_
      refine lv_aload_n hx hb dX10_told_156 rfl (lv_at hl 0 rfl) ?_
      refine va_get (D := eD E) (ci := 10) (v := .int (vm 67 0)) (C := RX10) (T := TX10) (N := 79) hx hb hts in_X10 hown hK hP 0 rfl rfl 67 (by decide) lk14 (fun _ h9 => h9) rfl dX10_told_157 ?_
      subst hQ
      exact W.iret (v := (vm 67 0)) hx hb hr (fun t ht hW => ⟨(vm 67 0), rfl, ⟨trivial, (Or.inr ⟨13, sw1, by decide, rfl⟩)⟩, ht⟩) (fun q h => absurd h List.not_mem_nil) dX10_told_160
    · refine lv_tableIn (off := 160) (tgt := 161) hx hb dX10_told_1 (by omega) (by omega) (by rw [sw1]; rfl) (by decide) ?_
      refine lv_aload_n hx hb dX10_told_161 rfl (lv_at hl 0 rfl) ?_
      refine va_get (D := eD E) (ci := 10) (v := .int (vm 75 0)) (C := RX10) (T := TX10) (N := 79) hx hb hts in_X10 hown hK hP 0 rfl rfl 75 (by decide) lk15 (fun _ h9 => h9) rfl dX10_told_162 ?_
      subst hQ
      exact W.iret (v := (vm 75 0)) hx hb hr (fun t ht hW => ⟨(vm 75 0), rfl, ⟨trivial, (Or.inr ⟨14, sw1, by decide, rfl⟩)⟩, ht⟩) (fun q h => absurd h List.not_mem_nil) dX10_told_165
def rm_X10_cell : Room := { frames := 4, cells := 0, slots := 0, locals := 97 }
set_option maxHeartbeats 4000000 in
set_option maxRecDepth 100000 in
theorem c_X10_cell (l : Launch) (E : Ev) (A : Nat → Prop) (am : Nat → Nat) (vm : Vf) (x : Int32) (y : Int32) (what : Int32) (hH : MdH vm) : Met l yX10_cell wsX10_cell rm_X10_cell (RdP E A [.ref (am 0), .int x, .int y, .int what] (mdL E am vm)) (vp_Si (fun r => (True) ∧ (UnkP (inG x y (vm 0 0) (vm 1 0)) r (TabP 6 what r (mCv vm (mC vm x y)))))) 0 0 (fun _ => False) := by
  refine Met.ofW (cc := cX10_cell) (maxL := 5) (ret := (some .int)) (by decide) rfl ?_
  intro p e s m args below meth c s₁ B hml hv
  obtain ⟨rfl, hE, hP⟩ := hv
  have hx := B.exec
  have hb := B.bytes
  have hr := B.returns
  have hts := atoms_spec (ws := wsX10_cell) B.pre
  have hown : s.vm.findClass RX10 = some m.cls := findClass_of_methodNamed B.named
  have hlocks := B.notSynchronized
  have hK := hE.1
  have in_X10 : ∀ w ∈ u_ws RX10 TX10 79, w ∈ wsX10_cell := fun w h => List.mem_cons_of_mem _ (List.mem_append_right _ h)
  have lk0 := hts (.fieldLink RX10 159 "TidedGroundModel" "wide" "I") (List.mem_of_getElem? (i := 2) rfl)
  have lk1 := hts (.constant RX10 175 (-1000000002)) (List.mem_of_getElem? (i := 7) rfl)
  have lk2 := hts (.fieldLink RX10 7 "TidedGroundModel" "base" "[I") (List.mem_of_getElem? (i := 3) rfl)
  have lk3 := hts (.fieldLink RX10 13 "TidedGroundModel" "soft" "[I") (List.mem_of_getElem? (i := 4) rfl)
  have lk4 := hts (.fieldLink RX10 62 "TidedGroundModel" "load" "[I") (List.mem_of_getElem? (i := 5) rfl)
  have lk5 := hts (.fieldLink RX10 291 "TidedGroundModel" "step" "I") (List.mem_of_getElem? (i := 6) rfl)
  have lk6 := hts (.constant RX10 329 (-1000000001)) (List.mem_of_getElem? (i := 1) rfl)
  have n_m1000000002 : ((-1000000002) : Int32).toInt = -1000000002 := by decide
  have n_m1000000001 : ((-1000000001) : Int32).toInt = -1000000001 := by decide
  have n_0 : (0 : Int32).toInt = 0 := by decide
  have hl := lv_entry ([.ref (am 0), .int x, .int y, .int what]) (n := 5) (Nat.le_of_ble_eq_true rfl)
  rw [lg_entry_eq]
  generalize (lg_sl ([.ref (am 0), .int x, .int y, .int what]) ++ List.replicate (5 - (lg_sl ([.ref (am 0), .int x, .int y, .int what])).length) Slot.unset).toArray = ls at hl ⊢
  have hl : lv_has ls 5 [(0, .ref (am 0)), (1, .int x), (2, .int y), (3, .int what)] := hl
  refine W_abs (fun Q hQ => ?_)
  obtain ⟨hmG, hmC, hmZ, hmM, hmA, hmS, hmT⟩ := id hH
  obtain ⟨hG1, hG2, hG3⟩ := id hmG
  obtain ⟨hC1, hC2, hC3, hC4, hC5, hC6⟩ := id hmC
  obtain ⟨hM1, hM2, hM3, hM4⟩ := id hmM
  obtain ⟨hA1, hA2, hA3, hA4, hA5⟩ := id hmA
  obtain ⟨hS1, hS2, hS3, hS4, hS5, hS6⟩ := id hmS
  obtain ⟨hT1, hT2, hT3, hT4, hT5⟩ := id hmT
  refine lv_aload_n hx hb dX10_cell_0 rfl (lv_at hl 0 rfl) ?_
  refine lv_iload_n hx hb dX10_cell_1 rfl (lv_at hl 1 rfl) ?_
  refine lv_iload_n hx hb dX10_cell_2 rfl (lv_at hl 2 rfl) ?_
  refine rd_V (As := [.int x, .int y]) (rest := []) (C := RX10) (ci := 10) ⟨hx, hb, hml, hown, hts⟩ (c_X10_isCell l E A am vm x y hH) (cwV 2 hts gX10_cell_X10_isCell rfl rfl rfl (by decide +kernel) ⟨Nat.le_of_ble_eq_true rfl, Nat.le_of_ble_eq_true rfl⟩) hE (hP.sub (ws' := mdL E am vm) [0, 1, 2, 3, 4, 5, 6, 7, 8, 9, 10, 11, 12, 13, 14, 15, 16, 17, 18, 19, 20, 21, 22, 23, 24, 25, 26, 27, 28, 29, 30, 31, 32, 33, 34, 35, 36, 37, 38, 39, 40, 41, 42, 43, 44, 45] rfl) rfl rfl rfl rfl hl.1 rfl (Nat.le_of_ble_eq_true rfl) dX10_cell_3 ⟨Nat.zero_le _, Nat.zero_le _⟩ (fun r3 h3 => ?_)
  refine lv_if_ne (tgt := 13) hx hb dX10_cell_6 (by decide) (fun c6 => ?_) (fun c6 => ?_)
  · have c6_ := i_ne c6
    replace h3 := or_y h3 c6_
    clear c6_
    have sv13_x : 0 ≤ x.toInt ∧ x.toInt ≤ 5 := by omega
    have sv13_y : 0 ≤ y.toInt ∧ y.toInt ≤ 5 := by omega
    have hcel : inG x y (vm 0 0) (vm 1 0) := (by unfold inG; omega)
    refine lv_aload_n hx hb dX10_cell_13 rfl (lv_at hl 0 rfl) ?_
    refine va_get (D := eD E) (ci := 10) (v := .int (vm 0 0)) (C := RX10) (T := TX10) (N := 79) hx hb hts in_X10 hown hK hP 0 rfl rfl 0 (by decide) lk0 (fun _ h9 => h9) rfl dX10_cell_14 ?_
    refine lv_iload_n hx hb dX10_cell_17 rfl (lv_at hl 2 rfl) ?_
    refine lv_imul hx hb dX10_cell_18 ?_
    refine lv_topi (fun x18 e18 => ?_)
    have qm18 := mcell_lt hG1 hG3 (x := x) (y := y) (by omega) (by omega) (by omega) (by omega)
    have t18 := i_mul e18 (by omega)
    refine lv_iload_n hx hb dX10_cell_19 rfl (lv_at hl 1 rfl) ?_
    refine lv_iadd hx hb dX10_cell_20 ?_
    refine lv_topi (fun x20 e20 => ?_)
    have t20 := i_add e20 (by omega)
    refine lv_istore (lv' := [(4, .int x20), (0, .ref (am 0)), (1, .int x), (2, .int y), (3, .int what)]) hx hb dX10_cell_21 hl (by decide) rfl (fun ls hl => ?_)
    refine lv_iload_n hx hb dX10_cell_23 rfl (lv_at hl 4 rfl) ?_
    by_cases tb24 : what.toInt < 0 ∨ 6 < what.toInt
    · refine lv_tableOut (tgt := 132) hx hb dX10_cell_24 tb24 (by decide) ?_
      refine lv_ldc hx hb hown lk1 dX10_cell_132 ?_
      subst hQ
      exact W.iret (v := (-1000000002)) hx hb hr (fun t ht hW => ⟨(-1000000002), rfl, ⟨trivial, (Or.inr ⟨hcel, Or.inl ⟨tb24, by omega⟩⟩)⟩, ht⟩) (fun q h => absurd h List.not_mem_nil) dX10_cell_134
    · rcases (show what.toInt = 0 ∨ what.toInt = 1 ∨ what.toInt = 2 ∨ what.toInt = 3 ∨ what.toInt = 4 ∨ what.toInt = 5 ∨ what.toInt = 6 by omega) with sw24 | sw24 | sw24 | sw24 | sw24 | sw24 | sw24
      · refine lv_tableIn (off := 44) (tgt := 68) hx hb dX10_cell_24 (by omega) (by omega) (by rw [sw24]; rfl) (by decide) ?_
        refine lv_aload_n hx hb dX10_cell_68 rfl (lv_at hl 1 rfl) ?_
        refine va_get (D := eD E) (ci := 10) (v := .ref (am 2)) (C := RX10) (T := TX10) (N := 79) hx hb hts in_X10 hown hK hP 0 rfl rfl 2 (by decide) lk2 (fun _ h9 => h9) rfl dX10_cell_69 ?_
        refine lv_iload hx hb dX10_cell_72 (lv_at hl 0 rfl) ?_
        refine va_iald hx hb hK hP 1 0 rfl rfl (n := 24) (f := (vm 2)) (i_in (by omega) (by omega)) dX10_cell_74 ?_
        refine lv_topi (fun x74 e74 => ?_)
        subst hQ
        exact W.iret (v := x74) hx hb hr (fun t ht hW => ⟨x74, rfl, ⟨trivial, (Or.inr ⟨hcel, Or.inr ⟨0, sw24, by decide, (by rw [show mC vm x y = x20 from (by unfold mC; rw [e20, e18])]; exact e74)⟩⟩)⟩, ht⟩) (fun q h => absurd h List.not_mem_nil) dX10_cell_75
      · refine lv_tableIn (off := 52) (tgt := 76) hx hb dX10_cell_24 (by omega) (by omega) (by rw [sw24]; rfl) (by decide) ?_
        refine lv_aload_n hx hb dX10_cell_76 rfl (lv_at hl 1 rfl) ?_
        refine va_get (D := eD E) (ci := 10) (v := .ref (am 3)) (C := RX10) (T := TX10) (N := 79) hx hb hts in_X10 hown hK hP 0 rfl rfl 3 (by decide) lk3 (fun _ h9 => h9) rfl dX10_cell_77 ?_
        refine lv_iload hx hb dX10_cell_80 (lv_at hl 0 rfl) ?_
        refine va_iald hx hb hK hP 2 0 rfl rfl (n := 24) (f := (vm 3)) (i_in (by omega) (by omega)) dX10_cell_82 ?_
        refine lv_topi (fun x82 e82 => ?_)
        subst hQ
        exact W.iret (v := x82) hx hb hr (fun t ht hW => ⟨x82, rfl, ⟨trivial, (Or.inr ⟨hcel, Or.inr ⟨1, sw24, by decide, (by rw [show mC vm x y = x20 from (by unfold mC; rw [e20, e18])]; exact e82)⟩⟩)⟩, ht⟩) (fun q h => absurd h List.not_mem_nil) dX10_cell_83
      · refine lv_tableIn (off := 60) (tgt := 84) hx hb dX10_cell_24 (by omega) (by omega) (by rw [sw24]; rfl) (by decide) ?_
        refine lv_aload_n hx hb dX10_cell_84 rfl (lv_at hl 1 rfl) ?_
        refine va_get (D := eD E) (ci := 10) (v := .ref (am 25)) (C := RX10) (T := TX10) (N := 79) hx hb hts in_X10 hown hK hP 0 rfl rfl 25 (by decide) lk4 (fun _ h9 => h9) rfl dX10_cell_85 ?_
        refine lv_iload hx hb dX10_cell_88 (lv_at hl 0 rfl) ?_
        refine va_iald hx hb hK hP 17 0 rfl rfl (n := 24) (f := (vm 25)) (i_in (by omega) (by omega)) dX10_cell_90 ?_
        refine lv_topi (fun x90 e90 => ?_)
        have b90 := hS3 x20.toNatClampNeg (i_natlt (by omega) (by decide))
        rw [← e90] at b90
        subst hQ
        exact W.iret (v := x90) hx hb hr (fun t ht hW => ⟨x90, rfl, ⟨trivial, (Or.inr ⟨hcel, Or.inr ⟨2, sw24, by decide, (by rw [show mC vm x y = x20 from (by unfold mC; rw [e20, e18])]; exact e90)⟩⟩)⟩, ht⟩) (fun q h => absurd h List.not_mem_nil) dX10_cell_91
      · refine lv_tableIn (off := 68) (tgt := 92) hx hb dX10_cell_24 (by omega) (by omega) (by rw [sw24]; rfl) (by decide) ?_
        refine lv_aload_n hx hb dX10_cell_92 rfl (lv_at hl 1 rfl) ?_
        refine lv_iload hx hb dX10_cell_93 (lv_at hl 0 rfl) ?_
        refine rd_V (As := [.int x20]) (rest := []) (C := RX10) (ci := 10) ⟨hx, hb, hml, hown, hts⟩ (c_X10_stiffOf l E A am vm x20 hH (by omega) (by omega)) (cwV 1 hts gX10_cell_X10_stiffOf rfl rfl rfl (by decide +kernel) ⟨Nat.le_of_ble_eq_true rfl, Nat.le_of_ble_eq_true rfl⟩) hE (hP.sub (ws' := mdL E am vm) [0, 1, 2, 3, 4, 5, 6, 7, 8, 9, 10, 11, 12, 13, 14, 15, 16, 17, 18, 19, 20, 21, 22, 23, 24, 25, 26, 27, 28, 29, 30, 31, 32, 33, 34, 35, 36, 37, 38, 39, 40, 41, 42, 43, 44, 45] rfl) rfl rfl rfl rfl hl.1 rfl (Nat.le_of_ble_eq_true rfl) dX10_cell_95 ⟨Nat.zero_le _, Nat.zero_le _⟩ (fun r95 h95 => ?_)
        subst hQ
        exact W.iret (v := r95) hx hb hr (fun t ht hW => ⟨r95, rfl, ⟨trivial, (Or.inr ⟨hcel, Or.inr ⟨3, sw24, by decide, (by rw [show mC vm x y = x20 from (by unfold mC; rw [e20, e18])]; exact h95.1)⟩⟩)⟩, ht⟩) (fun q h => absurd h List.not_mem_nil) dX10_cell_98
      · refine lv_tableIn (off := 75) (tgt := 99) hx hb dX10_cell_24 (by omega) (by omega) (by rw [sw24]; rfl) (by decide) ?_
        refine lv_aload_n hx hb dX10_cell_99 rfl (lv_at hl 1 rfl) ?_
        refine lv_iload hx hb dX10_cell_100 (lv_at hl 0 rfl) ?_
        refine lv_aload_n hx hb dX10_cell_102 rfl (lv_at hl 1 rfl) ?_
        refine va_get (D := eD E) (ci := 10) (v := .int (vm 23 0)) (C := RX10) (T := TX10) (N := 79) hx hb hts in_X10 hown hK hP 0 rfl rfl 23 (by decide) lk5 (fun _ h9 => h9) rfl dX10_cell_103 ?_
        refine rd_V (As := [.int x20, .int (vm 23 0)]) (rest := []) (C := RX10) (ci := 10) ⟨hx, hb, hml, hown, hts⟩ (c_X10_pullAt l E A am vm x20 (vm 23 0) hH (by omega) (by omega) (by omega)) (cwV 2 hts gX10_cell_X10_pullAt rfl rfl rfl (by decide +kernel) ⟨Nat.le_of_ble_eq_true rfl, Nat.le_of_ble_eq_true rfl⟩) hE (hP.sub (ws' := mdL E am vm) [0, 1, 2, 3, 4, 5, 6, 7, 8, 9, 10, 11, 12, 13, 14, 15, 16, 17, 18, 19, 20, 21, 22, 23, 24, 25, 26, 27, 28, 29, 30, 31, 32, 33, 34, 35, 36, 37, 38, 39, 40, 41, 42, 43, 44, 45] rfl) rfl rfl rfl rfl hl.1 rfl (Nat.le_of_ble_eq_true rfl) dX10_cell_106 ⟨Nat.zero_le _, Nat.zero_le _⟩ (fun r106 h106 => ?_)
        subst hQ
        exact W.iret (v := r106) hx hb hr (fun t ht hW => ⟨r106, rfl, ⟨trivial, (Or.inr ⟨hcel, Or.inr ⟨4, sw24, by decide, (by rw [show mC vm x y = x20 from (by unfold mC; rw [e20, e18])]; exact h106.1)⟩⟩)⟩, ht⟩) (fun q h => absurd h List.not_mem_nil) dX10_cell_109
      · refine lv_tableIn (off := 86) (tgt := 110) hx hb dX10_cell_24 (by omega) (by omega) (by rw [sw24]; rfl) (by decide) ?_
        refine lv_aload_n hx hb dX10_cell_110 rfl (lv_at hl 1 rfl) ?_
        refine lv_iload hx hb dX10_cell_111 (lv_at hl 0 rfl) ?_
        refine lv_aload_n hx hb dX10_cell_113 rfl (lv_at hl 1 rfl) ?_
        refine va_get (D := eD E) (ci := 10) (v := .int (vm 23 0)) (C := RX10) (T := TX10) (N := 79) hx hb hts in_X10 hown hK hP 0 rfl rfl 23 (by decide) lk5 (fun _ h9 => h9) rfl dX10_cell_114 ?_
        refine rd_V (As := [.int x20, .int (vm 23 0)]) (rest := []) (C := RX10) (ci := 10) ⟨hx, hb, hml, hown, hts⟩ (c_X10_heightAt l E A am vm x20 (vm 23 0) hH (by omega) (by omega) (by omega)) (cwV 2 hts gX10_cell_X10_heightAt rfl rfl rfl (by decide +kernel) ⟨Nat.le_of_ble_eq_true rfl, Nat.le_of_ble_eq_true rfl⟩) hE (hP.sub (ws' := mdL E am vm) [0, 1, 2, 3, 4, 5, 6, 7, 8, 9, 10, 11, 12, 13, 14, 15, 16, 17, 18, 19, 20, 21, 22, 23, 24, 25, 26, 27, 28, 29, 30, 31, 32, 33, 34, 35, 36, 37, 38, 39, 40, 41, 42, 43, 44, 45] rfl) rfl rfl rfl rfl hl.1 rfl (Nat.le_of_ble_eq_true rfl) dX10_cell_117 ⟨Nat.zero_le _, Nat.zero_le _⟩ (fun r117 h117 => ?_)
        subst hQ
        exact W.iret (v := r117) hx hb hr (fun t ht hW => ⟨r117, rfl, ⟨trivial, (Or.inr ⟨hcel, Or.inr ⟨5, sw24, by decide, (by rw [show mC vm x y = x20 from (by unfold mC; rw [e20, e18])]; exact h117.1)⟩⟩)⟩, ht⟩) (fun q h => absurd h List.not_mem_nil) dX10_cell_120
      · refine lv_tableIn (off := 97) (tgt := 121) hx hb dX10_cell_24 (by omega) (by omega) (by rw [sw24]; rfl) (by decide) ?_
        refine lv_aload_n hx hb dX10_cell_121 rfl (lv_at hl 1 rfl) ?_
        refine lv_iload hx hb dX10_cell_122 (lv_at hl 0 rfl) ?_
        refine lv_aload_n hx hb dX10_cell_124 rfl (lv_at hl 1 rfl) ?_
        refine va_get (D := eD E) (ci := 10) (v := .int (vm 23 0)) (C := RX10) (T := TX10) (N := 79) hx hb hts in_X10 hown hK hP 0 rfl rfl 23 (by decide) lk5 (fun _ h9 => h9) rfl dX10_cell_125 ?_
        refine rd_V (As := [.int x20, .int (vm 23 0)]) (rest := []) (C := RX10) (ci := 10) ⟨hx, hb, hml, hown, hts⟩ (c_X10_leanAt l E A am vm x20 (vm 23 0) hH (by omega) (by omega) (by omega)) (cwV 2 hts gX10_cell_X10_leanAt rfl rfl rfl (by decide +kernel) ⟨Nat.le_of_ble_eq_true rfl, Nat.le_of_ble_eq_true rfl⟩) hE (hP.sub (ws' := mdL E am vm) [0, 1, 2, 3, 4, 5, 6, 7, 8, 9, 10, 11, 12, 13, 14, 15, 16, 17, 18, 19, 20, 21, 22, 23, 24, 25, 26, 27, 28, 29, 30, 31, 32, 33, 34, 35, 36, 37, 38, 39, 40, 41, 42, 43, 44, 45] rfl) rfl rfl rfl rfl hl.1 rfl (Nat.le_of_ble_eq_true rfl) dX10_cell_128 ⟨Nat.zero_le _, Nat.zero_le _⟩ (fun r128 h128 => ?_)
        have hf128 := h128.2
        replace h128 := h128.1
        subst hQ
        exact W.iret (v := r128) hx hb hr (fun t ht hW => ⟨r128, rfl, ⟨trivial, (Or.inr ⟨hcel, Or.inr ⟨6, sw24, by decide, (by rw [show mC vm x y = x20 from (by unfold mC; rw [e20, e18])]; exact hf128)⟩⟩)⟩, ht⟩) (fun q h => absurd h List.not_mem_nil) dX10_cell_131
  · have c6_ := i_eq c6
    replace h3 := or_n h3 c6_
    refine lv_ldcw hx hb hown lk6 dX10_cell_9 ?_
    subst hQ
    exact W.iret (v := (-1000000001)) hx hb hr (fun t ht hW => ⟨(-1000000001), rfl, ⟨trivial, (Or.inl ⟨by omega, (by unfold inG; omega)⟩)⟩, ht⟩) (fun q h => absurd h List.not_mem_nil) dX10_cell_12
def rm_X10_height : Room := { frames := 3, cells := 0, slots := 0, locals := 69 }
set_option maxHeartbeats 4000000 in
set_option maxRecDepth 100000 in
theorem c_X10_height (l : Launch) (E : Ev) (A : Nat → Prop) (am : Nat → Nat) (vm : Vf) (x : Int32) (y : Int32) (step : Int32) (hH : MdH vm) : Met l yX10_height wsX10_height rm_X10_height (RdP E A [.ref (am 0), .int x, .int y, .int step] (mdL E am vm)) (vp_Si (fun r => (True) ∧ (UnkP (inG x y (vm 0 0) (vm 1 0)) r (OutP (0 ≤ step.toInt ∧ step.toInt ≤ 999999) r (r = mH vm (mC vm x y) step))))) 0 0 (fun _ => False) := by
  refine Met.ofW (cc := cX10_height) (maxL := 4) (ret := (some .int)) (by decide) rfl ?_
  intro p e s m args below meth c s₁ B hml hv
  obtain ⟨rfl, hE, hP⟩ := hv
  have hx := B.exec
  have hb := B.bytes
  have hr := B.returns
  have hts := atoms_spec (ws := wsX10_height) B.pre
  have hown : s.vm.findClass RX10 = some m.cls := findClass_of_methodNamed B.named
  have hlocks := B.notSynchronized
  have hK := hE.1
  have in_X10 : ∀ w ∈ u_ws RX10 TX10 79, w ∈ wsX10_height := fun w h => List.mem_cons_of_mem _ (List.mem_append_right _ h)
  have lk0 := hts (.constantLong RX10 333 999999) (List.mem_of_getElem? (i := 2) rfl)
  have lk1 := hts (.constant RX10 175 (-1000000002)) (List.mem_of_getElem? (i := 4) rfl)
  have lk2 := hts (.fieldLink RX10 159 "TidedGroundModel" "wide" "I") (List.mem_of_getElem? (i := 3) rfl)
  have lk3 := hts (.constant RX10 329 (-1000000001)) (List.mem_of_getElem? (i := 1) rfl)
  have n_m1000000002 : ((-1000000002) : Int32).toInt = -1000000002 := by decide
  have n_m1000000001 : ((-1000000001) : Int32).toInt = -1000000001 := by decide
  have n_0 : (0 : Int32).toInt = 0 := by decide
  have hl := lv_entry ([.ref (am 0), .int x, .int y, .int step]) (n := 4) (Nat.le_of_ble_eq_true rfl)
  rw [lg_entry_eq]
  generalize (lg_sl ([.ref (am 0), .int x, .int y, .int step]) ++ List.replicate (4 - (lg_sl ([.ref (am 0), .int x, .int y, .int step])).length) Slot.unset).toArray = ls at hl ⊢
  have hl : lv_has ls 4 [(0, .ref (am 0)), (1, .int x), (2, .int y), (3, .int step)] := hl
  refine W_abs (fun Q hQ => ?_)
  obtain ⟨hmG, hmC, hmZ, hmM, hmA, hmS, hmT⟩ := id hH
  obtain ⟨hG1, hG2, hG3⟩ := id hmG
  obtain ⟨hC1, hC2, hC3, hC4, hC5, hC6⟩ := id hmC
  obtain ⟨hM1, hM2, hM3, hM4⟩ := id hmM
  obtain ⟨hA1, hA2, hA3, hA4, hA5⟩ := id hmA
  obtain ⟨hS1, hS2, hS3, hS4, hS5, hS6⟩ := id hmS
  obtain ⟨hT1, hT2, hT3, hT4, hT5⟩ := id hmT
  refine lv_aload_n hx hb dX10_height_0 rfl (lv_at hl 0 rfl) ?_
  refine lv_iload_n hx hb dX10_height_1 rfl (lv_at hl 1 rfl) ?_
  refine lv_iload_n hx hb dX10_height_2 rfl (lv_at hl 2 rfl) ?_
  refine rd_V (As := [.int x, .int y]) (rest := []) (C := RX10) (ci := 10) ⟨hx, hb, hml, hown, hts⟩ (c_X10_isCell l E A am vm x y hH) (cwV 2 hts gX10_height_X10_isCell rfl rfl rfl (by decide +kernel) ⟨Nat.le_of_ble_eq_true rfl, Nat.le_of_ble_eq_true rfl⟩) hE (hP.sub (ws' := mdL E am vm) [0, 1, 2, 3, 4, 5, 6, 7, 8, 9, 10, 11, 12, 13, 14, 15, 16, 17, 18, 19, 20, 21, 22, 23, 24, 25, 26, 27, 28, 29, 30, 31, 32, 33, 34, 35, 36, 37, 38, 39, 40, 41, 42, 43, 44, 45] rfl) rfl rfl rfl rfl hl.1 rfl (Nat.le_of_ble_eq_true rfl) dX10_height_3 ⟨Nat.zero_le _, Nat.zero_le _⟩ (fun r3 h3 => ?_)
  refine lv_if_ne (tgt := 13) hx hb dX10_height_6 (by decide) (fun c6 => ?_) (fun c6 => ?_)
  · have c6_ := i_ne c6
    replace h3 := or_y h3 c6_
    clear c6_
    have sv13_x : 0 ≤ x.toInt ∧ x.toInt ≤ 5 := by omega
    have sv13_y : 0 ≤ y.toInt ∧ y.toInt ≤ 5 := by omega
    have hcel : inG x y (vm 0 0) (vm 1 0) := (by unfold inG; omega)
    refine lv_iload_n hx hb dX10_height_13 rfl (lv_at hl 3 rfl) ?_
    refine lv_i2l hx hb dX10_height_14 rfl ?_
    refine lv_lconst (v := 0) hx hb dX10_height_15 (by decide) ?_
    refine lv_ldc2 hx hb hown lk0 dX10_height_16 ?_
    have lt19_0 : (step.toInt64).toInt = step.toInt := Int32.toInt_toInt64 _
    have lt19_1 : (0 : Int64).toInt = 0 := by decide
    have lt19_2 : (999999 : Int64).toInt = 999999 := by decide
    refine rd_S (As := [.long step.toInt64, .long 0, .long 999999]) (rest := []) ⟨hx, hb, hml, hown, hts⟩ (c_X10_in l E A step.toInt64 0 999999) (va_cwS 3 hts gX10_height_X10_in rfl rfl rfl (by decide +kernel) ⟨Nat.le_of_ble_eq_true rfl, Nat.le_of_ble_eq_true rfl⟩) hE (hP.sub (ws' := []) [] rfl) rfl hl.1 rfl (Nat.le_of_ble_eq_true rfl) dX10_height_19 ⟨Nat.zero_le _, Nat.zero_le _⟩ (fun r19 h19 => ?_)
    refine lv_if_eq (tgt := 41) hx hb dX10_height_22 (by decide) (fun c22 => ?_) (fun c22 => ?_)
    · have c22_ := i_eq c22
      replace h19 := or_n h19 c22_
      refine lv_ldc hx hb hown lk1 dX10_height_41 ?_
      subst hQ
      exact W.iret (v := (-1000000002)) hx hb hr (fun t ht hW => ⟨(-1000000002), rfl, ⟨trivial, (by first | (have zz := h35.1; exact Or.inr ⟨hcel, Or.inr ⟨by omega, by rw [show mC vm x y = x33 from (by unfold mC; rw [e33, e31])]; exact zz⟩⟩) | exact Or.inr ⟨hcel, Or.inl ⟨by omega, by omega⟩⟩)⟩, ht⟩) (fun q h => absurd h List.not_mem_nil) dX10_height_43
    · have c22_ := i_ne c22
      replace h19 := or_y h19 c22_
      clear c22_
      refine lv_aload_n hx hb dX10_height_25 rfl (lv_at hl 0 rfl) ?_
      refine lv_aload_n hx hb dX10_height_26 rfl (lv_at hl 0 rfl) ?_
      refine va_get (D := eD E) (ci := 10) (v := .int (vm 0 0)) (C := RX10) (T := TX10) (N := 79) hx hb hts in_X10 hown hK hP 0 rfl rfl 0 (by decide) lk2 (fun _ h9 => h9) rfl dX10_height_27 ?_
      refine lv_iload_n hx hb dX10_height_30 rfl (lv_at hl 2 rfl) ?_
      refine lv_imul hx hb dX10_height_31 ?_
      refine lv_topi (fun x31 e31 => ?_)
      have qm31 := mcell_lt hG1 hG3 (x := x) (y := y) (by omega) (by omega) (by omega) (by omega)
      have t31 := i_mul e31 (by omega)
      refine lv_iload_n hx hb dX10_height_32 rfl (lv_at hl 1 rfl) ?_
      refine lv_iadd hx hb dX10_height_33 ?_
      refine lv_topi (fun x33 e33 => ?_)
      have t33 := i_add e33 (by omega)
      refine lv_iload_n hx hb dX10_height_34 rfl (lv_at hl 3 rfl) ?_
      refine rd_V (As := [.int x33, .int step]) (rest := []) (C := RX10) (ci := 10) ⟨hx, hb, hml, hown, hts⟩ (c_X10_heightAt l E A am vm x33 step hH (by omega) (by omega) (by omega)) (cwV 2 hts gX10_height_X10_heightAt rfl rfl rfl (by decide +kernel) ⟨Nat.le_of_ble_eq_true rfl, Nat.le_of_ble_eq_true rfl⟩) hE (hP.sub (ws' := mdL E am vm) [0, 1, 2, 3, 4, 5, 6, 7, 8, 9, 10, 11, 12, 13, 14, 15, 16, 17, 18, 19, 20, 21, 22, 23, 24, 25, 26, 27, 28, 29, 30, 31, 32, 33, 34, 35, 36, 37, 38, 39, 40, 41, 42, 43, 44, 45] rfl) rfl rfl rfl rfl hl.1 rfl (Nat.le_of_ble_eq_true rfl) dX10_height_35 ⟨Nat.zero_le _, Nat.zero_le _⟩ (fun r35 h35 => ?_)
      refine lv_goto (tgt := 43) hx hb dX10_height_38 (by decide) ?_
      subst hQ
      exact W.iret (v := r35) hx hb hr (fun t ht hW => ⟨r35, rfl, ⟨trivial, (by first | (have zz := h35.1; exact Or.inr ⟨hcel, Or.inr ⟨by omega, by rw [show mC vm x y = x33 from (by unfold mC; rw [e33, e31])]; exact zz⟩⟩) | exact Or.inr ⟨hcel, Or.inl ⟨by omega, by omega⟩⟩)⟩, ht⟩) (fun q h => absurd h List.not_mem_nil) dX10_height_43
  · have c6_ := i_eq c6
    replace h3 := or_n h3 c6_
    refine lv_ldcw hx hb hown lk3 dX10_height_9 ?_
    subst hQ
    exact W.iret (v := (-1000000001)) hx hb hr (fun t ht hW => ⟨(-1000000001), rfl, ⟨trivial, (Or.inl ⟨by omega, (by unfold inG; omega)⟩)⟩, ht⟩) (fun q h => absurd h List.not_mem_nil) dX10_height_12
def rm_X10_moon : Room := { frames := 1, cells := 0, slots := 0, locals := 25 }
set_option maxHeartbeats 4000000 in
set_option maxRecDepth 100000 in
theorem c_X10_moon (l : Launch) (E : Ev) (A : Nat → Prop) (am : Nat → Nat) (vm : Vf) (i : Int32) (what : Int32) (hH : MdH vm) : Met l yX10_moon wsX10_moon rm_X10_moon (RdP E A [.ref (am 0), .int i, .int what] (mdL E am vm)) (vp_Si (fun r => (True) ∧ (UnkP (0 ≤ i.toInt ∧ i.toInt < (vm 4 0).toInt) r (TabP 4 what r (mMv vm i))))) 0 0 (fun _ => False) := by
  refine Met.ofW (cc := cX10_moon) (maxL := 3) (ret := (some .int)) (by decide) rfl ?_
  intro p e s m args below meth c s₁ B hml hv
  obtain ⟨rfl, hE, hP⟩ := hv
  have hx := B.exec
  have hb := B.bytes
  have hr := B.returns
  have hts := atoms_spec (ws := wsX10_moon) B.pre
  have hown : s.vm.findClass RX10 = some m.cls := findClass_of_methodNamed B.named
  have hlocks := B.notSynchronized
  have hK := hE.1
  have in_X10 : ∀ w ∈ u_ws RX10 TX10 79, w ∈ wsX10_moon := fun w h => List.mem_cons_of_mem _ (List.mem_append_right _ h)
  have lk0 := hts (.fieldLink RX10 267 "TidedGroundModel" "moons" "I") (List.mem_of_getElem? (i := 1) rfl)
  have lk1 := hts (.constant RX10 175 (-1000000002)) (List.mem_of_getElem? (i := 8) rfl)
  have lk2 := hts (.fieldLink RX10 16 "TidedGroundModel" "many" "[I") (List.mem_of_getElem? (i := 3) rfl)
  have lk3 := hts (.fieldLink RX10 19 "TidedGroundModel" "lateX" "[I") (List.mem_of_getElem? (i := 4) rfl)
  have lk4 := hts (.fieldLink RX10 22 "TidedGroundModel" "lateY" "[I") (List.mem_of_getElem? (i := 5) rfl)
  have lk5 := hts (.fieldLink RX10 59 "TidedGroundModel" "shift" "[I") (List.mem_of_getElem? (i := 6) rfl)
  have lk6 := hts (.fieldLink RX10 291 "TidedGroundModel" "step" "I") (List.mem_of_getElem? (i := 7) rfl)
  have lk7 := hts (.constant RX10 329 (-1000000001)) (List.mem_of_getElem? (i := 2) rfl)
  have n_m1000000002 : ((-1000000002) : Int32).toInt = -1000000002 := by decide
  have n_m1000000001 : ((-1000000001) : Int32).toInt = -1000000001 := by decide
  have n_0 : (0 : Int32).toInt = 0 := by decide
  have n_1 : (1 : Int32).toInt = 1 := by decide
  have hl := lv_entry ([.ref (am 0), .int i, .int what]) (n := 3) (Nat.le_of_ble_eq_true rfl)
  rw [lg_entry_eq]
  generalize (lg_sl ([.ref (am 0), .int i, .int what]) ++ List.replicate (3 - (lg_sl ([.ref (am 0), .int i, .int what])).length) Slot.unset).toArray = ls at hl ⊢
  have hl : lv_has ls 3 [(0, .ref (am 0)), (1, .int i), (2, .int what)] := hl
  refine W_abs (fun Q hQ => ?_)
  obtain ⟨hmG, hmC, hmZ, hmM, hmA, hmS, hmT⟩ := id hH
  obtain ⟨hG1, hG2, hG3⟩ := id hmG
  obtain ⟨hC1, hC2, hC3, hC4, hC5, hC6⟩ := id hmC
  obtain ⟨hM1, hM2, hM3, hM4⟩ := id hmM
  obtain ⟨hA1, hA2, hA3, hA4, hA5⟩ := id hmA
  obtain ⟨hS1, hS2, hS3, hS4, hS5, hS6⟩ := id hmS
  obtain ⟨hT1, hT2, hT3, hT4, hT5⟩ := id hmT
  refine lv_iload_n hx hb dX10_moon_0 rfl (lv_at hl 1 rfl) ?_
  refine lv_i2l hx hb dX10_moon_1 rfl ?_
  refine lv_lconst (v := 0) hx hb dX10_moon_2 (by decide) ?_
  refine lv_aload_n hx hb dX10_moon_3 rfl (lv_at hl 0 rfl) ?_
  refine va_get (D := eD E) (ci := 10) (v := .int (vm 4 0)) (C := RX10) (T := TX10) (N := 79) hx hb hts in_X10 hown hK hP 0 rfl rfl 4 (by decide) lk0 (fun _ h9 => h9) rfl dX10_moon_4 ?_
  refine lv_iconst (v := 1) hx hb dX10_moon_7 (by decide) ?_
  refine lv_isub hx hb dX10_moon_8 ?_
  refine lv_topi (fun x8 e8 => ?_)
  have t8 := i_sub e8 (by omega)
  refine lv_i2l hx hb dX10_moon_9 rfl ?_
  have lt10_0 : (i.toInt64).toInt = i.toInt := Int32.toInt_toInt64 _
  have lt10_1 : (0 : Int64).toInt = 0 := by decide
  have lt10_2 : (x8.toInt64).toInt = x8.toInt := Int32.toInt_toInt64 _
  refine rd_S (As := [.long i.toInt64, .long 0, .long x8.toInt64]) (rest := []) ⟨hx, hb, hml, hown, hts⟩ (c_X10_in l E A i.toInt64 0 x8.toInt64) (va_cwS 3 hts gX10_moon_X10_in rfl rfl rfl (by decide +kernel) ⟨Nat.le_of_ble_eq_true rfl, Nat.le_of_ble_eq_true rfl⟩) hE (hP.sub (ws' := []) [] rfl) rfl hl.1 rfl (Nat.le_of_ble_eq_true rfl) dX10_moon_10 ⟨Nat.zero_le _, Nat.zero_le _⟩ (fun r10 h10 => ?_)
  refine lv_if_ne (tgt := 20) hx hb dX10_moon_13 (by decide) (fun c13 => ?_) (fun c13 => ?_)
  · have c13_ := i_ne c13
    replace h10 := or_y h10 c13_
    clear c13_
    have sv20_i : 0 ≤ i.toInt ∧ i.toInt ≤ 2 := by omega
    refine lv_iload_n hx hb dX10_moon_20 rfl (lv_at hl 2 rfl) ?_
    by_cases tb21 : what.toInt < 0 ∨ 4 < what.toInt
    · refine lv_tableOut (tgt := 95) hx hb dX10_moon_21 tb21 (by decide) ?_
      refine lv_ldc hx hb hown lk1 dX10_moon_95 ?_
      subst hQ
      exact W.iret (v := (-1000000002)) hx hb hr (fun t ht hW => ⟨(-1000000002), rfl, ⟨trivial, (Or.inr ⟨by omega, Or.inl ⟨tb21, by omega⟩⟩)⟩, ht⟩) (fun q h => absurd h List.not_mem_nil) dX10_moon_97
    · rcases (show what.toInt = 0 ∨ what.toInt = 1 ∨ what.toInt = 2 ∨ what.toInt = 3 ∨ what.toInt = 4 by omega) with sw21 | sw21 | sw21 | sw21 | sw21
      · refine lv_tableIn (off := 35) (tgt := 56) hx hb dX10_moon_21 (by omega) (by omega) (by rw [sw21]; rfl) (by decide) ?_
        refine lv_aload_n hx hb dX10_moon_56 rfl (lv_at hl 0 rfl) ?_
        refine va_get (D := eD E) (ci := 10) (v := .ref (am 5)) (C := RX10) (T := TX10) (N := 79) hx hb hts in_X10 hown hK hP 0 rfl rfl 5 (by decide) lk2 (fun _ h9 => h9) rfl dX10_moon_57 ?_
        refine lv_iload_n hx hb dX10_moon_60 rfl (lv_at hl 1 rfl) ?_
        refine va_iald hx hb hK hP 3 0 rfl rfl (n := 3) (f := (vm 5)) (i_in (by omega) (by omega)) dX10_moon_61 ?_
        refine lv_topi (fun x61 e61 => ?_)
        have b61 := hM1 i.toNatClampNeg (i_natlt (by omega) (by decide))
        rw [← e61] at b61
        subst hQ
        exact W.iret (v := x61) hx hb hr (fun t ht hW => ⟨x61, rfl, ⟨trivial, (Or.inr ⟨by omega, Or.inr ⟨0, sw21, by decide, e61⟩⟩)⟩, ht⟩) (fun q h => absurd h List.not_mem_nil) dX10_moon_62
      · refine lv_tableIn (off := 42) (tgt := 63) hx hb dX10_moon_21 (by omega) (by omega) (by rw [sw21]; rfl) (by decide) ?_
        refine lv_aload_n hx hb dX10_moon_63 rfl (lv_at hl 0 rfl) ?_
        refine va_get (D := eD E) (ci := 10) (v := .ref (am 6)) (C := RX10) (T := TX10) (N := 79) hx hb hts in_X10 hown hK hP 0 rfl rfl 6 (by decide) lk3 (fun _ h9 => h9) rfl dX10_moon_64 ?_
        refine lv_iload_n hx hb dX10_moon_67 rfl (lv_at hl 1 rfl) ?_
        refine va_iald hx hb hK hP 4 0 rfl rfl (n := 3) (f := (vm 6)) (i_in (by omega) (by omega)) dX10_moon_68 ?_
        refine lv_topi (fun x68 e68 => ?_)
        subst hQ
        exact W.iret (v := x68) hx hb hr (fun t ht hW => ⟨x68, rfl, ⟨trivial, (Or.inr ⟨by omega, Or.inr ⟨1, sw21, by decide, e68⟩⟩)⟩, ht⟩) (fun q h => absurd h List.not_mem_nil) dX10_moon_69
      · refine lv_tableIn (off := 49) (tgt := 70) hx hb dX10_moon_21 (by omega) (by omega) (by rw [sw21]; rfl) (by decide) ?_
        refine lv_aload_n hx hb dX10_moon_70 rfl (lv_at hl 0 rfl) ?_
        refine va_get (D := eD E) (ci := 10) (v := .ref (am 7)) (C := RX10) (T := TX10) (N := 79) hx hb hts in_X10 hown hK hP 0 rfl rfl 7 (by decide) lk4 (fun _ h9 => h9) rfl dX10_moon_71 ?_
        refine lv_iload_n hx hb dX10_moon_74 rfl (lv_at hl 1 rfl) ?_
        refine va_iald hx hb hK hP 5 0 rfl rfl (n := 3) (f := (vm 7)) (i_in (by omega) (by omega)) dX10_moon_75 ?_
        refine lv_topi (fun x75 e75 => ?_)
        subst hQ
        exact W.iret (v := x75) hx hb hr (fun t ht hW => ⟨x75, rfl, ⟨trivial, (Or.inr ⟨by omega, Or.inr ⟨2, sw21, by decide, e75⟩⟩)⟩, ht⟩) (fun q h => absurd h List.not_mem_nil) dX10_moon_76
      · refine lv_tableIn (off := 56) (tgt := 77) hx hb dX10_moon_21 (by omega) (by omega) (by rw [sw21]; rfl) (by decide) ?_
        refine lv_aload_n hx hb dX10_moon_77 rfl (lv_at hl 0 rfl) ?_
        refine va_get (D := eD E) (ci := 10) (v := .ref (am 24)) (C := RX10) (T := TX10) (N := 79) hx hb hts in_X10 hown hK hP 0 rfl rfl 24 (by decide) lk5 (fun _ h9 => h9) rfl dX10_moon_78 ?_
        refine lv_iload_n hx hb dX10_moon_81 rfl (lv_at hl 1 rfl) ?_
        refine va_iald hx hb hK hP 16 0 rfl rfl (n := 3) (f := (vm 24)) (i_in (by omega) (by omega)) dX10_moon_82 ?_
        refine lv_topi (fun x82 e82 => ?_)
        have b82 := hS2 i.toNatClampNeg (i_natlt (by omega) (by decide))
        rw [← e82] at b82
        subst hQ
        exact W.iret (v := x82) hx hb hr (fun t ht hW => ⟨x82, rfl, ⟨trivial, (Or.inr ⟨by omega, Or.inr ⟨3, sw21, by decide, e82⟩⟩)⟩, ht⟩) (fun q h => absurd h List.not_mem_nil) dX10_moon_83
      · refine lv_tableIn (off := 63) (tgt := 84) hx hb dX10_moon_21 (by omega) (by omega) (by rw [sw21]; rfl) (by decide) ?_
        refine lv_aload_n hx hb dX10_moon_84 rfl (lv_at hl 0 rfl) ?_
        have hw : 1 ≤ (vm 0 0).toInt := (by rcases hmZ with q | q <;> omega)
        refine lv_iload_n hx hb dX10_moon_85 rfl (lv_at hl 1 rfl) ?_
        refine lv_iconst (v := 0) hx hb dX10_moon_86 (by decide) ?_
        refine lv_aload_n hx hb dX10_moon_87 rfl (lv_at hl 0 rfl) ?_
        refine va_get (D := eD E) (ci := 10) (v := .int (vm 23 0)) (C := RX10) (T := TX10) (N := 79) hx hb hts in_X10 hown hK hP 0 rfl rfl 23 (by decide) lk6 (fun _ h9 => h9) rfl dX10_moon_88 ?_
        refine rd_V (As := [.int i, .int 0, .int (vm 23 0)]) (rest := []) (C := RX10) (ci := 10) ⟨hx, hb, hml, hown, hts⟩ (c_X10_partOf l E A am vm i 0 (vm 23 0) hH (by omega) (by omega) (by omega) (by omega)) (cwV 3 hts gX10_moon_X10_partOf rfl rfl rfl (by decide +kernel) ⟨Nat.le_of_ble_eq_true rfl, Nat.le_of_ble_eq_true rfl⟩) hE (hP.sub (ws' := mdL E am vm) [0, 1, 2, 3, 4, 5, 6, 7, 8, 9, 10, 11, 12, 13, 14, 15, 16, 17, 18, 19, 20, 21, 22, 23, 24, 25, 26, 27, 28, 29, 30, 31, 32, 33, 34, 35, 36, 37, 38, 39, 40, 41, 42, 43, 44, 45] rfl) rfl rfl rfl rfl hl.1 rfl (Nat.le_of_ble_eq_true rfl) dX10_moon_91 ⟨Nat.zero_le _, Nat.zero_le _⟩ (fun r91 h91 => ?_)
        subst hQ
        exact W.iret (v := r91) hx hb hr (fun t ht hW => ⟨r91, rfl, ⟨trivial, (Or.inr ⟨by omega, Or.inr ⟨4, sw21, by decide, h91.1⟩⟩)⟩, ht⟩) (fun q h => absurd h List.not_mem_nil) dX10_moon_94
  · have c13_ := i_eq c13
    replace h10 := or_n h10 c13_
    refine lv_ldcw hx hb hown lk7 dX10_moon_16 ?_
    subst hQ
    exact W.iret (v := (-1000000001)) hx hb hr (fun t ht hW => ⟨(-1000000001), rfl, ⟨trivial, (Or.inl ⟨by omega, by omega⟩)⟩, ht⟩) (fun q h => absurd h List.not_mem_nil) dX10_moon_19
def rm_X10_doesBreak : Room := { frames := 4, cells := 0, slots := 0, locals := 97 }
set_option maxHeartbeats 4000000 in
set_option maxRecDepth 100000 in
theorem c_X10_doesBreak (l : Launch) (E : Ev) (A : Nat → Prop) (am : Nat → Nat) (vm : Vf) (h : Int32) (step : Int32) (hH : MdH vm) (hw : 1 ≤ (vm 0 0).toInt) (hh : 0 ≤ h.toInt ∧ h.toInt ≤ 5) (hstep : 0 ≤ step.toInt ∧ step.toInt ≤ 2000000) : Met l yX10_doesBreak wsX10_doesBreak rm_X10_doesBreak (RdP E A [.ref (am 0), .int h, .int step] (mdL E am vm)) (vp_Si (fun r => ((r.toInt = 0 ∨ r.toInt = 1)) ∧ (r = mBrk vm h step))) 0 0 (fun _ => False) := by
  refine Met.ofW (cc := cX10_doesBreak) (maxL := 3) (ret := (some .boolean)) (by decide) rfl ?_
  intro p e s m args below meth c s₁ B hml hv
  obtain ⟨rfl, hE, hP⟩ := hv
  have hx := B.exec
  have hb := B.bytes
  have hr := B.returns
  have hts := atoms_spec (ws := wsX10_doesBreak) B.pre
  have hown : s.vm.findClass RX10 = some m.cls := findClass_of_methodNamed B.named
  have hlocks := B.notSynchronized
  have hK := hE.1
  have in_X10 : ∀ w ∈ u_ws RX10 TX10 79, w ∈ wsX10_doesBreak := fun w h => List.mem_cons_of_mem _ (List.mem_append_right _ h)
  have lk0 := hts (.fieldLink RX10 28 "TidedGroundModel" "houseAt" "[I") (List.mem_of_getElem? (i := 1) rfl)
  have lk1 := hts (.fieldLink RX10 31 "TidedGroundModel" "hinge" "[I") (List.mem_of_getElem? (i := 2) rfl)
  have lk2 := hts (.fieldLink RX10 65 "TidedGroundModel" "props" "[I") (List.mem_of_getElem? (i := 3) rfl)
  have n_0 : (0 : Int32).toInt = 0 := by decide
  have n_1 : (1 : Int32).toInt = 1 := by decide
  have hl := lv_entry ([.ref (am 0), .int h, .int step]) (n := 3) (Nat.le_of_ble_eq_true rfl)
  rw [lg_entry_eq]
  generalize (lg_sl ([.ref (am 0), .int h, .int step]) ++ List.replicate (3 - (lg_sl ([.ref (am 0), .int h, .int step])).length) Slot.unset).toArray = ls at hl ⊢
  have hl : lv_has ls 3 [(0, .ref (am 0)), (1, .int h), (2, .int step)] := hl
  refine W_abs (fun Q hQ => ?_)
  obtain ⟨hmG, hmC, hmZ, hmM, hmA, hmS, hmT⟩ := id hH
  obtain ⟨hG1, hG2, hG3⟩ := id hmG
  obtain ⟨hC1, hC2, hC3, hC4, hC5, hC6⟩ := id hmC
  obtain ⟨hM1, hM2, hM3, hM4⟩ := id hmM
  obtain ⟨hA1, hA2, hA3, hA4, hA5⟩ := id hmA
  obtain ⟨hS1, hS2, hS3, hS4, hS5, hS6⟩ := id hmS
  obtain ⟨hT1, hT2, hT3, hT4, hT5⟩ := id hmT
  refine lv_aload_n hx hb dX10_doesBreak_0 rfl (lv_at hl 0 rfl) ?_
  refine lv_aload_n hx hb dX10_doesBreak_1 rfl (lv_at hl 0 rfl) ?_
  refine va_get (D := eD E) (ci := 10) (v := .ref (am 10)) (C := RX10) (T := TX10) (N := 79) hx hb hts in_X10 hown hK hP 0 rfl rfl 10 (by decide) lk0 (fun _ h9 => h9) rfl dX10_doesBreak_2 ?_
  refine lv_iload_n hx hb dX10_doesBreak_5 rfl (lv_at hl 1 rfl) ?_
  refine va_iald hx hb hK hP 7 0 rfl rfl (n := 6) (f := (vm 10)) (i_in (by omega) (by omega)) dX10_doesBreak_6 ?_
  refine lv_topi (fun x6 e6 => ?_)
  have b6 := hA1 h.toNatClampNeg (i_natlt (by omega) (by decide))
  rw [← e6] at b6
  refine lv_iload_n hx hb dX10_doesBreak_7 rfl (lv_at hl 2 rfl) ?_
  refine rd_V (As := [.int x6, .int step]) (rest := []) (C := RX10) (ci := 10) ⟨hx, hb, hml, hown, hts⟩ (c_X10_leanAt l E A am vm x6 step hH (by omega) (by omega) (by omega)) (cwV 2 hts gX10_doesBreak_X10_leanAt rfl rfl rfl (by decide +kernel) ⟨Nat.le_of_ble_eq_true rfl, Nat.le_of_ble_eq_true rfl⟩) hE (hP.sub (ws' := mdL E am vm) [0, 1, 2, 3, 4, 5, 6, 7, 8, 9, 10, 11, 12, 13, 14, 15, 16, 17, 18, 19, 20, 21, 22, 23, 24, 25, 26, 27, 28, 29, 30, 31, 32, 33, 34, 35, 36, 37, 38, 39, 40, 41, 42, 43, 44, 45] rfl) rfl rfl rfl rfl hl.1 rfl (Nat.le_of_ble_eq_true rfl) dX10_doesBreak_8 ⟨Nat.zero_le _, Nat.zero_le _⟩ (fun r8 h8 => ?_)
  have hf8 := h8.2
  replace h8 := h8.1
  refine lv_aload_n hx hb dX10_doesBreak_11 rfl (lv_at hl 0 rfl) ?_
  refine va_get (D := eD E) (ci := 10) (v := .ref (am 11)) (C := RX10) (T := TX10) (N := 79) hx hb hts in_X10 hown hK hP 0 rfl rfl 11 (by decide) lk1 (fun _ h9 => h9) rfl dX10_doesBreak_12 ?_
  refine lv_iload_n hx hb dX10_doesBreak_15 rfl (lv_at hl 1 rfl) ?_
  refine va_iald hx hb hK hP 8 0 rfl rfl (n := 6) (f := (vm 11)) (i_in (by omega) (by omega)) dX10_doesBreak_16 ?_
  refine lv_topi (fun x16 e16 => ?_)
  refine lv_aload_n hx hb dX10_doesBreak_17 rfl (lv_at hl 0 rfl) ?_
  refine va_get (D := eD E) (ci := 10) (v := .ref (am 26)) (C := RX10) (T := TX10) (N := 79) hx hb hts in_X10 hown hK hP 0 rfl rfl 26 (by decide) lk2 (fun _ h9 => h9) rfl dX10_doesBreak_18 ?_
  refine lv_iload_n hx hb dX10_doesBreak_21 rfl (lv_at hl 1 rfl) ?_
  refine va_iald hx hb hK hP 18 0 rfl rfl (n := 6) (f := (vm 26)) (i_in (by omega) (by omega)) dX10_doesBreak_22 ?_
  refine lv_topi (fun x22 e22 => ?_)
  refine lv_iadd hx hb dX10_doesBreak_23 ?_
  refine lv_topi (fun x23 e23 => ?_)
  refine lv_icmp_le (tgt := 31) hx hb dX10_doesBreak_24 (by decide) (fun c24 => ?_) (fun c24 => ?_)
  · have c24_ := i_le c24
    refine lv_iconst (v := 0) hx hb dX10_doesBreak_31 (by decide) ?_
    subst hQ
    exact W.zret (v := 0) hx hb hr rfl (fun t ht hW => ⟨0, rfl, ⟨(by omega), (by unfold mBrk; rw [← e6, ← hf8, ← e16, ← e22, ← e23]; first | rw [if_pos c24] | rw [if_neg c24])⟩, ht⟩) (fun q h => absurd h List.not_mem_nil) dX10_doesBreak_32
  · have c24_ := i_nle c24
    refine lv_iconst (v := 1) hx hb dX10_doesBreak_27 (by decide) ?_
    refine lv_goto (tgt := 32) hx hb dX10_doesBreak_28 (by decide) ?_
    subst hQ
    exact W.zret (v := 1) hx hb hr rfl (fun t ht hW => ⟨1, rfl, ⟨(by omega), (by unfold mBrk; rw [← e6, ← hf8, ← e16, ← e22, ← e23]; first | rw [if_pos c24] | rw [if_neg c24])⟩, ht⟩) (fun q h => absurd h List.not_mem_nil) dX10_doesBreak_32
def rm_X10_needOf : Room := { frames := 4, cells := 0, slots := 0, locals := 97 }
set_option maxHeartbeats 4000000 in
set_option maxRecDepth 100000 in
theorem c_X10_needOf (l : Launch) (E : Ev) (A : Nat → Prop) (am : Nat → Nat) (vm : Vf) (h : Int32) (hH : MdH vm) (hw : 1 ≤ (vm 0 0).toInt) (hh : 0 ≤ h.toInt ∧ h.toInt ≤ 5) : Met l yX10_needOf wsX10_needOf rm_X10_needOf (RdP E A [.ref (am 0), .int h] (mdL E am vm)) (vp_Si (fun r => (True) ∧ (r = mNeed vm h))) 0 0 (fun _ => False) := by
  refine Met.ofW (cc := cX10_needOf) (maxL := 5) (ret := (some .int)) (by decide) rfl ?_
  intro p e s m args below meth c s₁ B hml hv
  obtain ⟨rfl, hE, hP⟩ := hv
  have hx := B.exec
  have hb := B.bytes
  have hr := B.returns
  have hts := atoms_spec (ws := wsX10_needOf) B.pre
  have hown : s.vm.findClass RX10 = some m.cls := findClass_of_methodNamed B.named
  have hlocks := B.notSynchronized
  have hK := hE.1
  have in_X10 : ∀ w ∈ u_ws RX10 TX10 79, w ∈ wsX10_needOf := fun w h => List.mem_cons_of_mem _ (List.mem_append_right _ h)
  have lk0 := hts (.fieldLink RX10 55 "TidedGroundModel" "period" "I") (List.mem_of_getElem? (i := 1) rfl)
  have lk1 := hts (.fieldLink RX10 28 "TidedGroundModel" "houseAt" "[I") (List.mem_of_getElem? (i := 2) rfl)
  have lk2 := hts (.fieldLink RX10 31 "TidedGroundModel" "hinge" "[I") (List.mem_of_getElem? (i := 3) rfl)
  have n_0 : (0 : Int32).toInt = 0 := by decide
  have n_1 : (1 : Int32).toInt = 1 := by decide
  have hl := lv_entry ([.ref (am 0), .int h]) (n := 5) (Nat.le_of_ble_eq_true rfl)
  rw [lg_entry_eq]
  generalize (lg_sl ([.ref (am 0), .int h]) ++ List.replicate (5 - (lg_sl ([.ref (am 0), .int h])).length) Slot.unset).toArray = ls at hl ⊢
  have hl : lv_has ls 5 [(0, .ref (am 0)), (1, .int h)] := hl
  refine W_abs (fun Q hQ => ?_)
  obtain ⟨hmG, hmC, hmZ, hmM, hmA, hmS, hmT⟩ := id hH
  obtain ⟨hG1, hG2, hG3⟩ := id hmG
  obtain ⟨hC1, hC2, hC3, hC4, hC5, hC6⟩ := id hmC
  obtain ⟨hM1, hM2, hM3, hM4⟩ := id hmM
  obtain ⟨hA1, hA2, hA3, hA4, hA5⟩ := id hmA
  obtain ⟨hS1, hS2, hS3, hS4, hS5, hS6⟩ := id hmS
  obtain ⟨hT1, hT2, hT3, hT4, hT5⟩ := id hmT
  refine lv_iconst (v := 0) hx hb dX10_needOf_0 (by decide) ?_
  refine lv_istore_n (lv' := [(2, .int 0), (0, .ref (am 0)), (1, .int h)]) hx hb dX10_needOf_1 rfl hl (by decide) rfl (fun ls hl => ?_)
  refine lv_iconst (v := 0) hx hb dX10_needOf_2 (by decide) ?_
  refine lv_istore_n (lv' := [(3, .int 0), (2, .int 0), (0, .ref (am 0)), (1, .int h)]) hx hb dX10_needOf_3 rfl hl (by decide) rfl (fun ls hl => ?_)
  have K4 : ∀ (μ : Nat) (mo : Int32) (t : Int32) (ls : Array Slot), (729 - t.toInt).toNat < μ → (0 ≤ t.toInt ∧ t.toInt ≤ 729) → (mo = mNeedN vm h t.toNatClampNeg) → (t.toInt ≤ (vm 22 0).toInt) → lv_has ls 5 [(0, .ref (am 0)), (1, .int h), (2, .int mo), (3, .int t)] → W p l e (headSpec wsX10_needOf rm_X10_needOf).room s m ([.ref (am 0), .int h] : List Value).toArray below meth c s.heap [] 0 0 Q (F0 m 4 ls []) := by
    intro μ
    induction μ with
    | zero =>
      intro mo t ls hμ4
      exact absurd hμ4 (Nat.not_lt_zero _)
    | succ μ ih4 =>
      intro mo t ls hμ4 h4_0 h4_1 h4_2 hl
      have hx4_0 := h4_1
      clear h4_1
      have hx4_1 := h4_2
      clear h4_2
      refine lv_iload_n hx hb dX10_needOf_4 rfl (lv_at hl 3 rfl) ?_
      refine lv_aload_n hx hb dX10_needOf_5 rfl (lv_at hl 0 rfl) ?_
      refine va_get (D := eD E) (ci := 10) (v := .int (vm 22 0)) (C := RX10) (T := TX10) (N := 79) hx hb hts in_X10 hown hK hP 0 rfl rfl 22 (by decide) lk0 (fun _ h9 => h9) rfl dX10_needOf_6 ?_
      refine lv_icmp_ge (tgt := 51) hx hb dX10_needOf_9 (by decide) (fun c9 => ?_) (fun c9 => ?_)
      · have c9_ := i_le c9
        refine lv_iload_n hx hb dX10_needOf_51 rfl (lv_at hl 2 rfl) ?_
        subst hQ
        exact W.iret (v := mo) hx hb hr (fun t ht hW => ⟨mo, rfl, ⟨trivial, (by show mo = mNeedN vm h (vm 22 0).toNatClampNeg; exact hx4_0.trans (congrArg (mNeedN vm h) (congrArg Int32.toNatClampNeg (i_eqr (by omega)))))⟩, ht⟩) (fun q h => absurd h List.not_mem_nil) dX10_needOf_52
      · have c9_ := i_nle c9
        refine lv_aload_n hx hb dX10_needOf_12 rfl (lv_at hl 0 rfl) ?_
        refine lv_aload_n hx hb dX10_needOf_13 rfl (lv_at hl 0 rfl) ?_
        refine va_get (D := eD E) (ci := 10) (v := .ref (am 10)) (C := RX10) (T := TX10) (N := 79) hx hb hts in_X10 hown hK hP 0 rfl rfl 10 (by decide) lk1 (fun _ h9 => h9) rfl dX10_needOf_14 ?_
        refine lv_iload_n hx hb dX10_needOf_17 rfl (lv_at hl 1 rfl) ?_
        refine va_iald hx hb hK hP 7 0 rfl rfl (n := 6) (f := (vm 10)) (i_in (by omega) (by omega)) dX10_needOf_18 ?_
        refine lv_topi (fun x18 e18 => ?_)
        have b18 := hA1 h.toNatClampNeg (i_natlt (by omega) (by decide))
        rw [← e18] at b18
        refine lv_iload_n hx hb dX10_needOf_19 rfl (lv_at hl 3 rfl) ?_
        refine rd_V (As := [.int x18, .int t]) (rest := []) (C := RX10) (ci := 10) ⟨hx, hb, hml, hown, hts⟩ (c_X10_leanAt l E A am vm x18 t hH (by omega) (by omega) (by omega)) (cwV 2 hts gX10_needOf_X10_leanAt rfl rfl rfl (by decide +kernel) ⟨Nat.le_of_ble_eq_true rfl, Nat.le_of_ble_eq_true rfl⟩) hE (hP.sub (ws' := mdL E am vm) [0, 1, 2, 3, 4, 5, 6, 7, 8, 9, 10, 11, 12, 13, 14, 15, 16, 17, 18, 19, 20, 21, 22, 23, 24, 25, 26, 27, 28, 29, 30, 31, 32, 33, 34, 35, 36, 37, 38, 39, 40, 41, 42, 43, 44, 45] rfl) rfl rfl rfl rfl hl.1 rfl (Nat.le_of_ble_eq_true rfl) dX10_needOf_20 ⟨Nat.zero_le _, Nat.zero_le _⟩ (fun r20 h20 => ?_)
        have hf20 := h20.2
        replace h20 := h20.1
        refine lv_aload_n hx hb dX10_needOf_23 rfl (lv_at hl 0 rfl) ?_
        refine va_get (D := eD E) (ci := 10) (v := .ref (am 11)) (C := RX10) (T := TX10) (N := 79) hx hb hts in_X10 hown hK hP 0 rfl rfl 11 (by decide) lk2 (fun _ h9 => h9) rfl dX10_needOf_24 ?_
        refine lv_iload_n hx hb dX10_needOf_27 rfl (lv_at hl 1 rfl) ?_
        refine va_iald hx hb hK hP 8 0 rfl rfl (n := 6) (f := (vm 11)) (i_in (by omega) (by omega)) dX10_needOf_28 ?_
        refine lv_topi (fun x28 e28 => ?_)
        refine lv_isub hx hb dX10_needOf_29 ?_
        refine lv_topi (fun x29 e29 => ?_)
        refine lv_istore (lv' := [(4, .int x29), (0, .ref (am 0)), (1, .int h), (2, .int mo), (3, .int t)]) hx hb dX10_needOf_30 hl (by decide) rfl (fun ls hl => ?_)
        refine lv_iload hx hb dX10_needOf_32 (lv_at hl 0 rfl) ?_
        refine lv_iload_n hx hb dX10_needOf_34 rfl (lv_at hl 3 rfl) ?_
        have K44 : ∀  (d1 : Int32) (ls : Array Slot), (d1 = mMx mo x29) → lv_has ls 5 [(0, .ref (am 0)), (1, .int h), (2, .int mo), (3, .int t), (4, .int x29)] → W p l e (headSpec wsX10_needOf rm_X10_needOf).room s m ([.ref (am 0), .int h] : List Value).toArray below meth c s.heap [] 0 0 Q (F0 m 44 ls [.int d1]) := by
          intro d1 ls h44_0 hl
          have hx44_0 := h44_0
          clear h44_0
          refine lv_istore_n (lv' := [(2, .int d1), (0, .ref (am 0)), (1, .int h), (3, .int t), (4, .int x29)]) hx hb dX10_needOf_44 rfl hl (by decide) rfl (fun ls hl => ?_)
          obtain ⟨x45, e45⟩ : ∃ y : Int32, y = t + 1 := ⟨_, rfl⟩
          refine lv_iinc (v := x45) (lv' := [(3, .int x45), (2, .int d1), (0, .ref (am 0)), (1, .int h), (4, .int x29)]) hx hb dX10_needOf_45 hl (k := 3) rfl (by rw [e45]; rfl) (by decide) rfl (fun ls hl => ?_)
          have t45 := i_add e45 (by omega)
          refine lv_goto (tgt := 4) hx hb dX10_needOf_48 (by decide) ?_
          exact ih4 d1 x45 ls (by omega) (by omega) (need_m hx4_0 (by omega) t45 (by rw [e29, hf20, e18, e28]) hx44_0) (by omega) (lv_sub hl [2, 3, 1, 0] rfl)
        refine lv_icmp_le (tgt := 43) hx hb dX10_needOf_35 (by decide) (fun c35 => ?_) (fun c35 => ?_)
        · have c35_ := i_le c35
          refine lv_iload_n hx hb dX10_needOf_43 rfl (lv_at hl 3 rfl) ?_
          exact K44 mo ls (by unfold mMx; first | rw [if_neg (Int32.not_lt.mpr c35)] | rw [if_pos (Int32.not_le.mp c35)]) (lv_sub hl [1, 2, 3, 4, 0] rfl)
        · have c35_ := i_nle c35
          refine lv_iload hx hb dX10_needOf_38 (lv_at hl 0 rfl) ?_
          refine lv_goto (tgt := 44) hx hb dX10_needOf_40 (by decide) ?_
          exact K44 x29 ls (by unfold mMx; first | rw [if_neg (Int32.not_lt.mpr c35)] | rw [if_pos (Int32.not_le.mp c35)]) (lv_sub hl [1, 2, 3, 4, 0] rfl)
  exact K4 _ 0 0 ls (Nat.lt_succ_self _) (by omega) rfl (by rw [n_0]; omega) (lv_sub hl [2, 3, 1, 0] rfl)
def rm_X10_house : Room := { frames := 5, cells := 0, slots := 0, locals := 121 }
set_option maxHeartbeats 4000000 in
set_option maxRecDepth 100000 in
theorem c_X10_house (l : Launch) (E : Ev) (A : Nat → Prop) (am : Nat → Nat) (vm : Vf) (h : Int32) (what : Int32) (hH : MdH vm) : Met l yX10_house wsX10_house rm_X10_house (RdP E A [.ref (am 0), .int h, .int what] (mdL E am vm)) (vp_Si (fun r => (True) ∧ (UnkP (0 ≤ h.toInt ∧ h.toInt < (vm 9 0).toInt) r (TabP 4 what r (mHv vm h))))) 0 0 (fun _ => False) := by
  refine Met.ofW (cc := cX10_house) (maxL := 3) (ret := (some .int)) (by decide) rfl ?_
  intro p e s m args below meth c s₁ B hml hv
  obtain ⟨rfl, hE, hP⟩ := hv
  have hx := B.exec
  have hb := B.bytes
  have hr := B.returns
  have hts := atoms_spec (ws := wsX10_house) B.pre
  have hown : s.vm.findClass RX10 = some m.cls := findClass_of_methodNamed B.named
  have hlocks := B.notSynchronized
  have hK := hE.1
  have in_X10 : ∀ w ∈ u_ws RX10 TX10 79, w ∈ wsX10_house := fun w h => List.mem_cons_of_mem _ (List.mem_append_right _ h)
  have lk0 := hts (.fieldLink RX10 270 "TidedGroundModel" "houses" "I") (List.mem_of_getElem? (i := 1) rfl)
  have lk1 := hts (.constant RX10 175 (-1000000002)) (List.mem_of_getElem? (i := 7) rfl)
  have lk2 := hts (.fieldLink RX10 28 "TidedGroundModel" "houseAt" "[I") (List.mem_of_getElem? (i := 3) rfl)
  have lk3 := hts (.fieldLink RX10 31 "TidedGroundModel" "hinge" "[I") (List.mem_of_getElem? (i := 4) rfl)
  have lk4 := hts (.fieldLink RX10 65 "TidedGroundModel" "props" "[I") (List.mem_of_getElem? (i := 5) rfl)
  have lk5 := hts (.fieldLink RX10 291 "TidedGroundModel" "step" "I") (List.mem_of_getElem? (i := 6) rfl)
  have lk6 := hts (.constant RX10 329 (-1000000001)) (List.mem_of_getElem? (i := 2) rfl)
  have n_m1000000002 : ((-1000000002) : Int32).toInt = -1000000002 := by decide
  have n_m1000000001 : ((-1000000001) : Int32).toInt = -1000000001 := by decide
  have n_0 : (0 : Int32).toInt = 0 := by decide
  have n_1 : (1 : Int32).toInt = 1 := by decide
  have hl := lv_entry ([.ref (am 0), .int h, .int what]) (n := 3) (Nat.le_of_ble_eq_true rfl)
  rw [lg_entry_eq]
  generalize (lg_sl ([.ref (am 0), .int h, .int what]) ++ List.replicate (3 - (lg_sl ([.ref (am 0), .int h, .int what])).length) Slot.unset).toArray = ls at hl ⊢
  have hl : lv_has ls 3 [(0, .ref (am 0)), (1, .int h), (2, .int what)] := hl
  refine W_abs (fun Q hQ => ?_)
  obtain ⟨hmG, hmC, hmZ, hmM, hmA, hmS, hmT⟩ := id hH
  obtain ⟨hG1, hG2, hG3⟩ := id hmG
  obtain ⟨hC1, hC2, hC3, hC4, hC5, hC6⟩ := id hmC
  obtain ⟨hM1, hM2, hM3, hM4⟩ := id hmM
  obtain ⟨hA1, hA2, hA3, hA4, hA5⟩ := id hmA
  obtain ⟨hS1, hS2, hS3, hS4, hS5, hS6⟩ := id hmS
  obtain ⟨hT1, hT2, hT3, hT4, hT5⟩ := id hmT
  refine lv_iload_n hx hb dX10_house_0 rfl (lv_at hl 1 rfl) ?_
  refine lv_i2l hx hb dX10_house_1 rfl ?_
  refine lv_lconst (v := 0) hx hb dX10_house_2 (by decide) ?_
  refine lv_aload_n hx hb dX10_house_3 rfl (lv_at hl 0 rfl) ?_
  refine va_get (D := eD E) (ci := 10) (v := .int (vm 9 0)) (C := RX10) (T := TX10) (N := 79) hx hb hts in_X10 hown hK hP 0 rfl rfl 9 (by decide) lk0 (fun _ h9 => h9) rfl dX10_house_4 ?_
  refine lv_iconst (v := 1) hx hb dX10_house_7 (by decide) ?_
  refine lv_isub hx hb dX10_house_8 ?_
  refine lv_topi (fun x8 e8 => ?_)
  have t8 := i_sub e8 (by omega)
  refine lv_i2l hx hb dX10_house_9 rfl ?_
  have lt10_0 : (h.toInt64).toInt = h.toInt := Int32.toInt_toInt64 _
  have lt10_1 : (0 : Int64).toInt = 0 := by decide
  have lt10_2 : (x8.toInt64).toInt = x8.toInt := Int32.toInt_toInt64 _
  refine rd_S (As := [.long h.toInt64, .long 0, .long x8.toInt64]) (rest := []) ⟨hx, hb, hml, hown, hts⟩ (c_X10_in l E A h.toInt64 0 x8.toInt64) (va_cwS 3 hts gX10_house_X10_in rfl rfl rfl (by decide +kernel) ⟨Nat.le_of_ble_eq_true rfl, Nat.le_of_ble_eq_true rfl⟩) hE (hP.sub (ws' := []) [] rfl) rfl hl.1 rfl (Nat.le_of_ble_eq_true rfl) dX10_house_10 ⟨Nat.zero_le _, Nat.zero_le _⟩ (fun r10 h10 => ?_)
  refine lv_if_ne (tgt := 20) hx hb dX10_house_13 (by decide) (fun c13 => ?_) (fun c13 => ?_)
  · have c13_ := i_ne c13
    replace h10 := or_y h10 c13_
    clear c13_
    have sv20_h : 0 ≤ h.toInt ∧ h.toInt ≤ 5 := by omega
    have hw : 1 ≤ (vm 0 0).toInt := (by rcases hmZ with q | q <;> omega)
    refine lv_iload_n hx hb dX10_house_20 rfl (lv_at hl 2 rfl) ?_
    by_cases tb21 : what.toInt < 0 ∨ 4 < what.toInt
    · refine lv_tableOut (tgt := 105) hx hb dX10_house_21 tb21 (by decide) ?_
      refine lv_ldc hx hb hown lk1 dX10_house_105 ?_
      subst hQ
      exact W.iret (v := (-1000000002)) hx hb hr (fun t ht hW => ⟨(-1000000002), rfl, ⟨trivial, (Or.inr ⟨by omega, Or.inl ⟨tb21, by omega⟩⟩)⟩, ht⟩) (fun q h => absurd h List.not_mem_nil) dX10_house_107
    · rcases (show what.toInt = 0 ∨ what.toInt = 1 ∨ what.toInt = 2 ∨ what.toInt = 3 ∨ what.toInt = 4 by omega) with sw21 | sw21 | sw21 | sw21 | sw21
      · refine lv_tableIn (off := 35) (tgt := 56) hx hb dX10_house_21 (by omega) (by omega) (by rw [sw21]; rfl) (by decide) ?_
        refine lv_aload_n hx hb dX10_house_56 rfl (lv_at hl 0 rfl) ?_
        refine lv_aload_n hx hb dX10_house_57 rfl (lv_at hl 0 rfl) ?_
        refine va_get (D := eD E) (ci := 10) (v := .ref (am 10)) (C := RX10) (T := TX10) (N := 79) hx hb hts in_X10 hown hK hP 0 rfl rfl 10 (by decide) lk2 (fun _ h9 => h9) rfl dX10_house_58 ?_
        refine lv_iload_n hx hb dX10_house_61 rfl (lv_at hl 1 rfl) ?_
        refine va_iald hx hb hK hP 7 0 rfl rfl (n := 6) (f := (vm 10)) (i_in (by omega) (by omega)) dX10_house_62 ?_
        refine lv_topi (fun x62 e62 => ?_)
        have b62 := hA1 h.toNatClampNeg (i_natlt (by omega) (by decide))
        rw [← e62] at b62
        refine rd_V (As := [.int x62]) (rest := []) (C := RX10) (ci := 10) ⟨hx, hb, hml, hown, hts⟩ (c_X10_pairOf l E A am vm x62 hH (by omega) (by omega)) (cwV 1 hts gX10_house_X10_pairOf rfl rfl rfl (by decide +kernel) ⟨Nat.le_of_ble_eq_true rfl, Nat.le_of_ble_eq_true rfl⟩) hE (hP.sub (ws' := mdL E am vm) [0, 1, 2, 3, 4, 5, 6, 7, 8, 9, 10, 11, 12, 13, 14, 15, 16, 17, 18, 19, 20, 21, 22, 23, 24, 25, 26, 27, 28, 29, 30, 31, 32, 33, 34, 35, 36, 37, 38, 39, 40, 41, 42, 43, 44, 45] rfl) rfl rfl rfl rfl hl.1 rfl (Nat.le_of_ble_eq_true rfl) dX10_house_63 ⟨Nat.zero_le _, Nat.zero_le _⟩ (fun r63 h63 => ?_)
        have hf63 := h63.2
        replace h63 := h63.1
        subst hQ
        exact W.iret (v := r63) hx hb hr (fun t ht hW => ⟨r63, rfl, ⟨trivial, (Or.inr ⟨by omega, Or.inr ⟨0, sw21, by decide, (hf63.trans (by rw [e62]; rfl))⟩⟩)⟩, ht⟩) (fun q h => absurd h List.not_mem_nil) dX10_house_66
      · refine lv_tableIn (off := 46) (tgt := 67) hx hb dX10_house_21 (by omega) (by omega) (by rw [sw21]; rfl) (by decide) ?_
        refine lv_aload_n hx hb dX10_house_67 rfl (lv_at hl 0 rfl) ?_
        refine va_get (D := eD E) (ci := 10) (v := .ref (am 11)) (C := RX10) (T := TX10) (N := 79) hx hb hts in_X10 hown hK hP 0 rfl rfl 11 (by decide) lk3 (fun _ h9 => h9) rfl dX10_house_68 ?_
        refine lv_iload_n hx hb dX10_house_71 rfl (lv_at hl 1 rfl) ?_
        refine va_iald hx hb hK hP 8 0 rfl rfl (n := 6) (f := (vm 11)) (i_in (by omega) (by omega)) dX10_house_72 ?_
        refine lv_topi (fun x72 e72 => ?_)
        subst hQ
        exact W.iret (v := x72) hx hb hr (fun t ht hW => ⟨x72, rfl, ⟨trivial, (Or.inr ⟨by omega, Or.inr ⟨1, sw21, by decide, e72⟩⟩)⟩, ht⟩) (fun q h => absurd h List.not_mem_nil) dX10_house_73
      · refine lv_tableIn (off := 53) (tgt := 74) hx hb dX10_house_21 (by omega) (by omega) (by rw [sw21]; rfl) (by decide) ?_
        refine lv_aload_n hx hb dX10_house_74 rfl (lv_at hl 0 rfl) ?_
        refine va_get (D := eD E) (ci := 10) (v := .ref (am 26)) (C := RX10) (T := TX10) (N := 79) hx hb hts in_X10 hown hK hP 0 rfl rfl 26 (by decide) lk4 (fun _ h9 => h9) rfl dX10_house_75 ?_
        refine lv_iload_n hx hb dX10_house_78 rfl (lv_at hl 1 rfl) ?_
        refine va_iald hx hb hK hP 18 0 rfl rfl (n := 6) (f := (vm 26)) (i_in (by omega) (by omega)) dX10_house_79 ?_
        refine lv_topi (fun x79 e79 => ?_)
        subst hQ
        exact W.iret (v := x79) hx hb hr (fun t ht hW => ⟨x79, rfl, ⟨trivial, (Or.inr ⟨by omega, Or.inr ⟨2, sw21, by decide, e79⟩⟩)⟩, ht⟩) (fun q h => absurd h List.not_mem_nil) dX10_house_80
      · refine lv_tableIn (off := 60) (tgt := 81) hx hb dX10_house_21 (by omega) (by omega) (by rw [sw21]; rfl) (by decide) ?_
        refine lv_aload_n hx hb dX10_house_81 rfl (lv_at hl 0 rfl) ?_
        refine lv_iload_n hx hb dX10_house_82 rfl (lv_at hl 1 rfl) ?_
        refine lv_aload_n hx hb dX10_house_83 rfl (lv_at hl 0 rfl) ?_
        refine va_get (D := eD E) (ci := 10) (v := .int (vm 23 0)) (C := RX10) (T := TX10) (N := 79) hx hb hts in_X10 hown hK hP 0 rfl rfl 23 (by decide) lk5 (fun _ h9 => h9) rfl dX10_house_84 ?_
        refine rd_V (As := [.int h, .int (vm 23 0)]) (rest := []) (C := RX10) (ci := 10) ⟨hx, hb, hml, hown, hts⟩ (c_X10_doesBreak l E A am vm h (vm 23 0) hH (by omega) (by omega) (by omega)) (cwV 2 hts gX10_house_X10_doesBreak rfl rfl rfl (by decide +kernel) ⟨Nat.le_of_ble_eq_true rfl, Nat.le_of_ble_eq_true rfl⟩) hE (hP.sub (ws' := mdL E am vm) [0, 1, 2, 3, 4, 5, 6, 7, 8, 9, 10, 11, 12, 13, 14, 15, 16, 17, 18, 19, 20, 21, 22, 23, 24, 25, 26, 27, 28, 29, 30, 31, 32, 33, 34, 35, 36, 37, 38, 39, 40, 41, 42, 43, 44, 45] rfl) rfl rfl rfl rfl hl.1 rfl (Nat.le_of_ble_eq_true rfl) dX10_house_87 ⟨Nat.zero_le _, Nat.zero_le _⟩ (fun r87 h87 => ?_)
        have hf87 := h87.2
        replace h87 := h87.1
        refine lv_if_eq (tgt := 97) hx hb dX10_house_90 (by decide) (fun c90 => ?_) (fun c90 => ?_)
        · have c90_ := i_eq c90
          clear h87
          refine lv_iconst (v := 0) hx hb dX10_house_97 (by decide) ?_
          subst hQ
          exact W.iret (v := 0) hx hb hr (fun t ht hW => ⟨0, rfl, ⟨trivial, (Or.inr ⟨by omega, Or.inr ⟨3, sw21, by decide, (by show _ = mBrk vm h (vm 23 0); rw [← hf87]; exact i_eqr (by omega))⟩⟩)⟩, ht⟩) (fun q h => absurd h List.not_mem_nil) dX10_house_98
        · have c90_ := i_ne c90
          replace h87 := b_y h87 c90_
          clear c90_
          refine lv_iconst (v := 1) hx hb dX10_house_93 (by decide) ?_
          refine lv_goto (tgt := 98) hx hb dX10_house_94 (by decide) ?_
          subst hQ
          exact W.iret (v := 1) hx hb hr (fun t ht hW => ⟨1, rfl, ⟨trivial, (Or.inr ⟨by omega, Or.inr ⟨3, sw21, by decide, (by show _ = mBrk vm h (vm 23 0); rw [← hf87]; exact i_eqr (by omega))⟩⟩)⟩, ht⟩) (fun q h => absurd h List.not_mem_nil) dX10_house_98
      · refine lv_tableIn (off := 78) (tgt := 99) hx hb dX10_house_21 (by omega) (by omega) (by rw [sw21]; rfl) (by decide) ?_
        refine lv_aload_n hx hb dX10_house_99 rfl (lv_at hl 0 rfl) ?_
        refine lv_iload_n hx hb dX10_house_100 rfl (lv_at hl 1 rfl) ?_
        refine rd_V (As := [.int h]) (rest := []) (C := RX10) (ci := 10) ⟨hx, hb, hml, hown, hts⟩ (c_X10_needOf l E A am vm h hH (by omega) (by omega)) (cwV 1 hts gX10_house_X10_needOf rfl rfl rfl (by decide +kernel) ⟨Nat.le_of_ble_eq_true rfl, Nat.le_of_ble_eq_true rfl⟩) hE (hP.sub (ws' := mdL E am vm) [0, 1, 2, 3, 4, 5, 6, 7, 8, 9, 10, 11, 12, 13, 14, 15, 16, 17, 18, 19, 20, 21, 22, 23, 24, 25, 26, 27, 28, 29, 30, 31, 32, 33, 34, 35, 36, 37, 38, 39, 40, 41, 42, 43, 44, 45] rfl) rfl rfl rfl rfl hl.1 rfl (Nat.le_of_ble_eq_true rfl) dX10_house_101 ⟨Nat.zero_le _, Nat.zero_le _⟩ (fun r101 h101 => ?_)
        have hf101 := h101.2
        replace h101 := h101.1
        subst hQ
        exact W.iret (v := r101) hx hb hr (fun t ht hW => ⟨r101, rfl, ⟨trivial, (Or.inr ⟨by omega, Or.inr ⟨4, sw21, by decide, hf101⟩⟩)⟩, ht⟩) (fun q h => absurd h List.not_mem_nil) dX10_house_104
  · have c13_ := i_eq c13
    replace h10 := or_n h10 c13_
    refine lv_ldcw hx hb hown lk6 dX10_house_16 ?_
    subst hQ
    exact W.iret (v := (-1000000001)) hx hb hr (fun t ht hW => ⟨(-1000000001), rfl, ⟨trivial, (Or.inl ⟨by omega, by omega⟩)⟩, ht⟩) (fun q h => absurd h List.not_mem_nil) dX10_house_19
def rm_X10_crack : Room := { frames := 3, cells := 0, slots := 0, locals := 69 }
set_option maxHeartbeats 4000000 in
set_option maxRecDepth 100000 in
theorem c_X10_crack (l : Launch) (E : Ev) (A : Nat → Prop) (am : Nat → Nat) (vm : Vf) (h : Int32) (step : Int32) (hH : MdH vm) : Met l yX10_crack wsX10_crack rm_X10_crack (RdP E A [.ref (am 0), .int h, .int step] (mdL E am vm)) (vp_Si (fun r => (True) ∧ (UnkP (0 ≤ h.toInt ∧ h.toInt < (vm 12 0).toInt) r (OutP (0 ≤ step.toInt ∧ step.toInt ≤ 999999) r (r = mOpen vm h step))))) 0 0 (fun _ => False) := by
  refine Met.ofW (cc := cX10_crack) (maxL := 3) (ret := (some .int)) (by decide) rfl ?_
  intro p e s m args below meth c s₁ B hml hv
  obtain ⟨rfl, hE, hP⟩ := hv
  have hx := B.exec
  have hb := B.bytes
  have hr := B.returns
  have hts := atoms_spec (ws := wsX10_crack) B.pre
  have hown : s.vm.findClass RX10 = some m.cls := findClass_of_methodNamed B.named
  have hlocks := B.notSynchronized
  have hK := hE.1
  have in_X10 : ∀ w ∈ u_ws RX10 TX10 79, w ∈ wsX10_crack := fun w h => List.mem_cons_of_mem _ (List.mem_append_right _ h)
  have lk0 := hts (.fieldLink RX10 273 "TidedGroundModel" "cracks" "I") (List.mem_of_getElem? (i := 1) rfl)
  have lk1 := hts (.constantLong RX10 333 999999) (List.mem_of_getElem? (i := 3) rfl)
  have lk2 := hts (.constant RX10 175 (-1000000002)) (List.mem_of_getElem? (i := 4) rfl)
  have lk3 := hts (.constant RX10 329 (-1000000001)) (List.mem_of_getElem? (i := 2) rfl)
  have n_m1000000002 : ((-1000000002) : Int32).toInt = -1000000002 := by decide
  have n_m1000000001 : ((-1000000001) : Int32).toInt = -1000000001 := by decide
  have n_0 : (0 : Int32).toInt = 0 := by decide
  have n_1 : (1 : Int32).toInt = 1 := by decide
  have hl := lv_entry ([.ref (am 0), .int h, .int step]) (n := 3) (Nat.le_of_ble_eq_true rfl)
  rw [lg_entry_eq]
  generalize (lg_sl ([.ref (am 0), .int h, .int step]) ++ List.replicate (3 - (lg_sl ([.ref (am 0), .int h, .int step])).length) Slot.unset).toArray = ls at hl ⊢
  have hl : lv_has ls 3 [(0, .ref (am 0)), (1, .int h), (2, .int step)] := hl
  refine W_abs (fun Q hQ => ?_)
  obtain ⟨hmG, hmC, hmZ, hmM, hmA, hmS, hmT⟩ := id hH
  obtain ⟨hG1, hG2, hG3⟩ := id hmG
  obtain ⟨hC1, hC2, hC3, hC4, hC5, hC6⟩ := id hmC
  obtain ⟨hM1, hM2, hM3, hM4⟩ := id hmM
  obtain ⟨hA1, hA2, hA3, hA4, hA5⟩ := id hmA
  obtain ⟨hS1, hS2, hS3, hS4, hS5, hS6⟩ := id hmS
  obtain ⟨hT1, hT2, hT3, hT4, hT5⟩ := id hmT
  refine lv_iload_n hx hb dX10_crack_0 rfl (lv_at hl 1 rfl) ?_
  refine lv_i2l hx hb dX10_crack_1 rfl ?_
  refine lv_lconst (v := 0) hx hb dX10_crack_2 (by decide) ?_
  refine lv_aload_n hx hb dX10_crack_3 rfl (lv_at hl 0 rfl) ?_
  refine va_get (D := eD E) (ci := 10) (v := .int (vm 12 0)) (C := RX10) (T := TX10) (N := 79) hx hb hts in_X10 hown hK hP 0 rfl rfl 12 (by decide) lk0 (fun _ h9 => h9) rfl dX10_crack_4 ?_
  refine lv_iconst (v := 1) hx hb dX10_crack_7 (by decide) ?_
  refine lv_isub hx hb dX10_crack_8 ?_
  refine lv_topi (fun x8 e8 => ?_)
  have t8 := i_sub e8 (by omega)
  refine lv_i2l hx hb dX10_crack_9 rfl ?_
  have lt10_0 : (h.toInt64).toInt = h.toInt := Int32.toInt_toInt64 _
  have lt10_1 : (0 : Int64).toInt = 0 := by decide
  have lt10_2 : (x8.toInt64).toInt = x8.toInt := Int32.toInt_toInt64 _
  refine rd_S (As := [.long h.toInt64, .long 0, .long x8.toInt64]) (rest := []) ⟨hx, hb, hml, hown, hts⟩ (c_X10_in l E A h.toInt64 0 x8.toInt64) (va_cwS 3 hts gX10_crack_X10_in rfl rfl rfl (by decide +kernel) ⟨Nat.le_of_ble_eq_true rfl, Nat.le_of_ble_eq_true rfl⟩) hE (hP.sub (ws' := []) [] rfl) rfl hl.1 rfl (Nat.le_of_ble_eq_true rfl) dX10_crack_10 ⟨Nat.zero_le _, Nat.zero_le _⟩ (fun r10 h10 => ?_)
  refine lv_if_ne (tgt := 20) hx hb dX10_crack_13 (by decide) (fun c13 => ?_) (fun c13 => ?_)
  · have c13_ := i_ne c13
    replace h10 := or_y h10 c13_
    clear c13_
    have sv20_h : 0 ≤ h.toInt ∧ h.toInt ≤ 5 := by omega
    have hw : 1 ≤ (vm 0 0).toInt := (by rcases hmZ with q | q <;> omega)
    refine lv_iload_n hx hb dX10_crack_20 rfl (lv_at hl 2 rfl) ?_
    refine lv_i2l hx hb dX10_crack_21 rfl ?_
    refine lv_lconst (v := 0) hx hb dX10_crack_22 (by decide) ?_
    refine lv_ldc2 hx hb hown lk1 dX10_crack_23 ?_
    have lt26_0 : (step.toInt64).toInt = step.toInt := Int32.toInt_toInt64 _
    have lt26_1 : (0 : Int64).toInt = 0 := by decide
    have lt26_2 : (999999 : Int64).toInt = 999999 := by decide
    refine rd_S (As := [.long step.toInt64, .long 0, .long 999999]) (rest := []) ⟨hx, hb, hml, hown, hts⟩ (c_X10_in l E A step.toInt64 0 999999) (va_cwS 3 hts gX10_crack_X10_in rfl rfl rfl (by decide +kernel) ⟨Nat.le_of_ble_eq_true rfl, Nat.le_of_ble_eq_true rfl⟩) hE (hP.sub (ws' := []) [] rfl) rfl hl.1 rfl (Nat.le_of_ble_eq_true rfl) dX10_crack_26 ⟨Nat.zero_le _, Nat.zero_le _⟩ (fun r26 h26 => ?_)
    refine lv_if_ne (tgt := 37) hx hb dX10_crack_29 (by decide) (fun c29 => ?_) (fun c29 => ?_)
    · have c29_ := i_ne c29
      replace h26 := or_y h26 c29_
      clear c29_
      refine lv_aload_n hx hb dX10_crack_37 rfl (lv_at hl 0 rfl) ?_
      refine lv_iload_n hx hb dX10_crack_38 rfl (lv_at hl 1 rfl) ?_
      refine lv_iload_n hx hb dX10_crack_39 rfl (lv_at hl 2 rfl) ?_
      refine rd_V (As := [.int h, .int step]) (rest := []) (C := RX10) (ci := 10) ⟨hx, hb, hml, hown, hts⟩ (c_X10_isOpen l E A am vm h step hH (by omega) (by omega) (by omega)) (cwV 2 hts gX10_crack_X10_isOpen rfl rfl rfl (by decide +kernel) ⟨Nat.le_of_ble_eq_true rfl, Nat.le_of_ble_eq_true rfl⟩) hE (hP.sub (ws' := mdL E am vm) [0, 1, 2, 3, 4, 5, 6, 7, 8, 9, 10, 11, 12, 13, 14, 15, 16, 17, 18, 19, 20, 21, 22, 23, 24, 25, 26, 27, 28, 29, 30, 31, 32, 33, 34, 35, 36, 37, 38, 39, 40, 41, 42, 43, 44, 45] rfl) rfl rfl rfl rfl hl.1 rfl (Nat.le_of_ble_eq_true rfl) dX10_crack_40 ⟨Nat.zero_le _, Nat.zero_le _⟩ (fun r40 h40 => ?_)
      refine lv_if_eq (tgt := 50) hx hb dX10_crack_43 (by decide) (fun c43 => ?_) (fun c43 => ?_)
      · have c43_ := i_eq c43
        refine lv_iconst (v := 0) hx hb dX10_crack_50 (by decide) ?_
        subst hQ
        exact W.iret (v := 0) hx hb hr (fun t ht hW => ⟨0, rfl, ⟨trivial, (by first | (have zz := h40.1; exact Or.inr ⟨by omega, Or.inr ⟨by omega, by rw [← zz]; exact i_eqr (by omega)⟩⟩) | exact Or.inr ⟨by omega, Or.inl ⟨by omega, by omega⟩⟩)⟩, ht⟩) (fun q h => absurd h List.not_mem_nil) dX10_crack_51
      · have c43_ := i_ne c43
        refine lv_iconst (v := 1) hx hb dX10_crack_46 (by decide) ?_
        refine lv_goto (tgt := 51) hx hb dX10_crack_47 (by decide) ?_
        subst hQ
        exact W.iret (v := 1) hx hb hr (fun t ht hW => ⟨1, rfl, ⟨trivial, (by first | (have zz := h40.1; exact Or.inr ⟨by omega, Or.inr ⟨by omega, by rw [← zz]; exact i_eqr (by omega)⟩⟩) | exact Or.inr ⟨by omega, Or.inl ⟨by omega, by omega⟩⟩)⟩, ht⟩) (fun q h => absurd h List.not_mem_nil) dX10_crack_51
    · have c29_ := i_eq c29
      replace h26 := or_n h26 c29_
      refine lv_ldc hx hb hown lk2 dX10_crack_32 ?_
      refine lv_goto (tgt := 51) hx hb dX10_crack_34 (by decide) ?_
      subst hQ
      exact W.iret (v := (-1000000002)) hx hb hr (fun t ht hW => ⟨(-1000000002), rfl, ⟨trivial, (by first | (have zz := h40.1; exact Or.inr ⟨by omega, Or.inr ⟨by omega, by rw [← zz]; exact i_eqr (by omega)⟩⟩) | exact Or.inr ⟨by omega, Or.inl ⟨by omega, by omega⟩⟩)⟩, ht⟩) (fun q h => absurd h List.not_mem_nil) dX10_crack_51
  · have c13_ := i_eq c13
    replace h10 := or_n h10 c13_
    refine lv_ldcw hx hb hown lk3 dX10_crack_16 ?_
    subst hQ
    exact W.iret (v := (-1000000001)) hx hb hr (fun t ht hW => ⟨(-1000000001), rfl, ⟨trivial, (Or.inl ⟨by omega, by omega⟩)⟩, ht⟩) (fun q h => absurd h List.not_mem_nil) dX10_crack_19
def rm_X10_isLevel : Room := { frames := 3, cells := 0, slots := 0, locals := 69 }
set_option maxHeartbeats 4000000 in
set_option maxRecDepth 100000 in
theorem c_X10_isLevel (l : Launch) (E : Ev) (A : Nat → Prop) (am : Nat → Nat) (vm : Vf) (set : Int32) (e0 : Int32) (step : Int32) (hH : MdH vm) (hstep : 0 ≤ step.toInt ∧ step.toInt ≤ 2000000) : Met l yX10_isLevel wsX10_isLevel rm_X10_isLevel (RdP E A [.ref (am 0), .int set, .int e0, .int step] (mdL E am vm)) (vp_Si (fun r => (r.toInt = 0 ∨ r.toInt = 1))) 0 0 (fun _ => False) := by
  refine Met.ofW (cc := cX10_isLevel) (maxL := 8) (ret := (some .boolean)) (by decide) rfl ?_
  intro p e s m args below meth c s₁ B hml hv
  obtain ⟨rfl, hE, hP⟩ := hv
  have hx := B.exec
  have hb := B.bytes
  have hr := B.returns
  have hts := atoms_spec (ws := wsX10_isLevel) B.pre
  have hown : s.vm.findClass RX10 = some m.cls := findClass_of_methodNamed B.named
  have hlocks := B.notSynchronized
  have hK := hE.1
  have lk0 := hts (.constant RX10 392 1000000000) (List.mem_of_getElem? (i := 1) rfl)
  have lk1 := hts (.constant RX10 393 (-1000000000)) (List.mem_of_getElem? (i := 2) rfl)
  have n_m1000000000 : ((-1000000000) : Int32).toInt = -1000000000 := by decide
  have n_0 : (0 : Int32).toInt = 0 := by decide
  have n_1 : (1 : Int32).toInt = 1 := by decide
  have n_1000000000 : (1000000000 : Int32).toInt = 1000000000 := by decide
  have hl := lv_entry ([.ref (am 0), .int set, .int e0, .int step]) (n := 8) (Nat.le_of_ble_eq_true rfl)
  rw [lg_entry_eq]
  generalize (lg_sl ([.ref (am 0), .int set, .int e0, .int step]) ++ List.replicate (8 - (lg_sl ([.ref (am 0), .int set, .int e0, .int step])).length) Slot.unset).toArray = ls at hl ⊢
  have hl : lv_has ls 8 [(0, .ref (am 0)), (1, .int set), (2, .int e0), (3, .int step)] := hl
  refine W_abs (fun Q hQ => ?_)
  obtain ⟨hmG, hmC, hmZ, hmM, hmA, hmS, hmT⟩ := id hH
  obtain ⟨hG1, hG2, hG3⟩ := id hmG
  obtain ⟨hC1, hC2, hC3, hC4, hC5, hC6⟩ := id hmC
  obtain ⟨hM1, hM2, hM3, hM4⟩ := id hmM
  obtain ⟨hA1, hA2, hA3, hA4, hA5⟩ := id hmA
  obtain ⟨hS1, hS2, hS3, hS4, hS5, hS6⟩ := id hmS
  obtain ⟨hT1, hT2, hT3, hT4, hT5⟩ := id hmT
  refine lv_ldcw hx hb hown lk0 dX10_isLevel_0 ?_
  refine lv_istore (lv' := [(4, .int 1000000000), (0, .ref (am 0)), (1, .int set), (2, .int e0), (3, .int step)]) hx hb dX10_isLevel_3 hl (by decide) rfl (fun ls hl => ?_)
  refine lv_ldcw hx hb hown lk1 dX10_isLevel_5 ?_
  refine lv_istore (lv' := [(5, .int (-1000000000)), (4, .int 1000000000), (0, .ref (am 0)), (1, .int set), (2, .int e0), (3, .int step)]) hx hb dX10_isLevel_8 hl (by decide) rfl (fun ls hl => ?_)
  refine lv_iconst (v := 0) hx hb dX10_isLevel_10 (by decide) ?_
  refine lv_istore (lv' := [(6, .int 0), (5, .int (-1000000000)), (4, .int 1000000000), (0, .ref (am 0)), (1, .int set), (2, .int e0), (3, .int step)]) hx hb dX10_isLevel_11 hl (by decide) rfl (fun ls hl => ?_)
  have K13 : ∀ (μ : Nat) (lo : Int32) (hi : Int32) (k : Int32) (ls : Array Slot), (24 - k.toInt).toNat < μ → (0 ≤ k.toInt ∧ k.toInt ≤ 24) → lv_has ls 8 [(0, .ref (am 0)), (1, .int set), (2, .int e0), (3, .int step), (4, .int lo), (5, .int hi), (6, .int k)] → W p l e (headSpec wsX10_isLevel rm_X10_isLevel).room s m ([.ref (am 0), .int set, .int e0, .int step] : List Value).toArray below meth c s.heap [] 0 0 Q (F0 m 13 ls []) := by
    intro μ
    induction μ with
    | zero =>
      intro lo hi k ls hμ13
      exact absurd hμ13 (Nat.not_lt_zero _)
    | succ μ ih13 =>
      intro lo hi k ls hμ13 h13_0 hl
      refine lv_iload hx hb dX10_isLevel_13 (lv_at hl 6 rfl) ?_
      refine lv_aload_n hx hb dX10_isLevel_15 rfl (lv_at hl 0 rfl) ?_
      refine rd_V (As := []) (rest := [.int k]) (C := RX10) (ci := 10) ⟨hx, hb, hml, hown, hts⟩ (c_X10_cells l E A am vm hH) (cwV 0 hts gX10_isLevel_X10_cells rfl rfl rfl (by decide +kernel) ⟨Nat.le_of_ble_eq_true rfl, Nat.le_of_ble_eq_true rfl⟩) hE (hP.sub (ws' := mdL E am vm) [0, 1, 2, 3, 4, 5, 6, 7, 8, 9, 10, 11, 12, 13, 14, 15, 16, 17, 18, 19, 20, 21, 22, 23, 24, 25, 26, 27, 28, 29, 30, 31, 32, 33, 34, 35, 36, 37, 38, 39, 40, 41, 42, 43, 44, 45] rfl) rfl rfl rfl rfl hl.1 rfl (Nat.le_of_ble_eq_true rfl) dX10_isLevel_16 ⟨Nat.zero_le _, Nat.zero_le _⟩ (fun r16 h16 => ?_)
      refine lv_icmp_ge (tgt := 78) hx hb dX10_isLevel_19 (by decide) (fun c19 => ?_) (fun c19 => ?_)
      · have c19_ := i_le c19
        refine lv_iload hx hb dX10_isLevel_78 (lv_at hl 5 rfl) ?_
        refine lv_iload hx hb dX10_isLevel_80 (lv_at hl 4 rfl) ?_
        refine lv_isub hx hb dX10_isLevel_82 ?_
        refine lv_topi (fun x82 e82 => ?_)
        refine lv_iload_n hx hb dX10_isLevel_83 rfl (lv_at hl 2 rfl) ?_
        refine lv_icmp_gt (tgt := 91) hx hb dX10_isLevel_84 (by decide) (fun c84 => ?_) (fun c84 => ?_)
        · have c84_ := i_lt c84
          refine lv_iconst (v := 0) hx hb dX10_isLevel_91 (by decide) ?_
          subst hQ
          exact W.zret (v := 0) hx hb hr rfl (fun t ht hW => ⟨0, rfl, (by omega), ht⟩) (fun q h => absurd h List.not_mem_nil) dX10_isLevel_92
        · have c84_ := i_nlt c84
          refine lv_iconst (v := 1) hx hb dX10_isLevel_87 (by decide) ?_
          refine lv_goto (tgt := 92) hx hb dX10_isLevel_88 (by decide) ?_
          subst hQ
          exact W.zret (v := 1) hx hb hr rfl (fun t ht hW => ⟨1, rfl, (by omega), ht⟩) (fun q h => absurd h List.not_mem_nil) dX10_isLevel_92
      · have c19_ := i_nle c19
        have hw : 1 ≤ (vm 0 0).toInt := wd_pos (d := (vm 1 0).toInt) hG1.1 (by omega)
        refine lv_iload_n hx hb dX10_isLevel_22 rfl (lv_at hl 1 rfl) ?_
        refine lv_iload hx hb dX10_isLevel_23 (lv_at hl 6 rfl) ?_
        refine rd_S (As := [.int set, .int k]) (rest := []) ⟨hx, hb, hml, hown, hts⟩ (c_X10_has l E A set k) (va_cwS 2 hts gX10_isLevel_X10_has rfl rfl rfl (by decide +kernel) ⟨Nat.le_of_ble_eq_true rfl, Nat.le_of_ble_eq_true rfl⟩) hE (hP.sub (ws' := []) [] rfl) rfl hl.1 rfl (Nat.le_of_ble_eq_true rfl) dX10_isLevel_25 ⟨Nat.zero_le _, Nat.zero_le _⟩ (fun r25 h25 => ?_)
        have hf25 := h25.2
        replace h25 := h25.1
        refine lv_if_eq (tgt := 72) hx hb dX10_isLevel_28 (by decide) (fun c28 => ?_) (fun c28 => ?_)
        · have c28_ := i_eq c28
          clear h25
          obtain ⟨x72, e72⟩ : ∃ y : Int32, y = k + 1 := ⟨_, rfl⟩
          refine lv_iinc (v := x72) (lv' := [(6, .int x72), (0, .ref (am 0)), (1, .int set), (2, .int e0), (3, .int step), (4, .int lo), (5, .int hi)]) hx hb dX10_isLevel_72 hl (k := 6) rfl (by rw [e72]; rfl) (by decide) rfl (fun ls hl => ?_)
          have t72 := i_add e72 (by omega)
          refine lv_goto (tgt := 13) hx hb dX10_isLevel_75 (by decide) ?_
          exact ih13 lo hi x72 ls (by omega) (by omega) (lv_sub hl [1, 2, 3, 4, 5, 6, 0] rfl)
        · have c28_ := i_ne c28
          replace h25 := b_y h25 c28_
          clear c28_
          refine lv_aload_n hx hb dX10_isLevel_31 rfl (lv_at hl 0 rfl) ?_
          refine lv_iload hx hb dX10_isLevel_32 (lv_at hl 6 rfl) ?_
          refine lv_iload_n hx hb dX10_isLevel_34 rfl (lv_at hl 3 rfl) ?_
          refine rd_V (As := [.int k, .int step]) (rest := []) (C := RX10) (ci := 10) ⟨hx, hb, hml, hown, hts⟩ (c_X10_heightAt l E A am vm k step hH (by omega) (by omega) (by omega)) (cwV 2 hts gX10_isLevel_X10_heightAt rfl rfl rfl (by decide +kernel) ⟨Nat.le_of_ble_eq_true rfl, Nat.le_of_ble_eq_true rfl⟩) hE (hP.sub (ws' := mdL E am vm) [0, 1, 2, 3, 4, 5, 6, 7, 8, 9, 10, 11, 12, 13, 14, 15, 16, 17, 18, 19, 20, 21, 22, 23, 24, 25, 26, 27, 28, 29, 30, 31, 32, 33, 34, 35, 36, 37, 38, 39, 40, 41, 42, 43, 44, 45] rfl) rfl rfl rfl rfl hl.1 rfl (Nat.le_of_ble_eq_true rfl) dX10_isLevel_35 ⟨Nat.zero_le _, Nat.zero_le _⟩ (fun r35 h35 => ?_)
          refine lv_istore (lv' := [(7, .int r35), (0, .ref (am 0)), (1, .int set), (2, .int e0), (3, .int step), (4, .int lo), (5, .int hi), (6, .int k)]) hx hb dX10_isLevel_38 hl (by decide) rfl (fun ls hl => ?_)
          refine lv_iload hx hb dX10_isLevel_40 (lv_at hl 0 rfl) ?_
          refine lv_iload hx hb dX10_isLevel_42 (lv_at hl 5 rfl) ?_
          have K54 : ∀  (d1 : Int32) (ls : Array Slot), lv_has ls 8 [(0, .ref (am 0)), (1, .int set), (2, .int e0), (3, .int step), (4, .int lo), (5, .int hi), (6, .int k), (7, .int r35)] → W p l e (headSpec wsX10_isLevel rm_X10_isLevel).room s m ([.ref (am 0), .int set, .int e0, .int step] : List Value).toArray below meth c s.heap [] 0 0 Q (F0 m 54 ls [.int d1]) := by
            intro d1 ls hl
            refine lv_istore (lv' := [(4, .int d1), (0, .ref (am 0)), (1, .int set), (2, .int e0), (3, .int step), (5, .int hi), (6, .int k), (7, .int r35)]) hx hb dX10_isLevel_54 hl (by decide) rfl (fun ls hl => ?_)
            refine lv_iload hx hb dX10_isLevel_56 (lv_at hl 7 rfl) ?_
            refine lv_iload hx hb dX10_isLevel_58 (lv_at hl 5 rfl) ?_
            have K70 : ∀  (d2 : Int32) (ls : Array Slot), lv_has ls 8 [(0, .ref (am 0)), (1, .int set), (2, .int e0), (3, .int step), (4, .int d1), (5, .int hi), (6, .int k), (7, .int r35)] → W p l e (headSpec wsX10_isLevel rm_X10_isLevel).room s m ([.ref (am 0), .int set, .int e0, .int step] : List Value).toArray below meth c s.heap [] 0 0 Q (F0 m 70 ls [.int d2]) := by
              intro d2 ls hl
              refine lv_istore (lv' := [(5, .int d2), (0, .ref (am 0)), (1, .int set), (2, .int e0), (3, .int step), (4, .int d1), (6, .int k), (7, .int r35)]) hx hb dX10_isLevel_70 hl (by decide) rfl (fun ls hl => ?_)
              obtain ⟨x72, e72⟩ : ∃ y : Int32, y = k + 1 := ⟨_, rfl⟩
              refine lv_iinc (v := x72) (lv' := [(6, .int x72), (5, .int d2), (0, .ref (am 0)), (1, .int set), (2, .int e0), (3, .int step), (4, .int d1), (7, .int r35)]) hx hb dX10_isLevel_72 hl (k := 6) rfl (by rw [e72]; rfl) (by decide) rfl (fun ls hl => ?_)
              have t72 := i_add e72 (by omega)
              refine lv_goto (tgt := 13) hx hb dX10_isLevel_75 (by decide) ?_
              exact ih13 d1 d2 x72 ls (by omega) (by omega) (lv_sub hl [2, 3, 4, 5, 6, 1, 0] rfl)
            refine lv_icmp_le (tgt := 68) hx hb dX10_isLevel_60 (by decide) (fun c60 => ?_) (fun c60 => ?_)
            · have c60_ := i_le c60
              refine lv_iload hx hb dX10_isLevel_68 (lv_at hl 5 rfl) ?_
              exact K70 hi ls (lv_sub hl [1, 2, 3, 4, 0, 5, 6, 7] rfl)
            · have c60_ := i_nle c60
              refine lv_iload hx hb dX10_isLevel_63 (lv_at hl 7 rfl) ?_
              refine lv_goto (tgt := 70) hx hb dX10_isLevel_65 (by decide) ?_
              exact K70 r35 ls (lv_sub hl [1, 2, 3, 4, 0, 5, 6, 7] rfl)
          refine lv_icmp_ge (tgt := 52) hx hb dX10_isLevel_44 (by decide) (fun c44 => ?_) (fun c44 => ?_)
          · have c44_ := i_le c44
            refine lv_iload hx hb dX10_isLevel_52 (lv_at hl 5 rfl) ?_
            exact K54 lo ls (lv_sub hl [1, 2, 3, 4, 5, 6, 7, 0] rfl)
          · have c44_ := i_nle c44
            refine lv_iload hx hb dX10_isLevel_47 (lv_at hl 0 rfl) ?_
            refine lv_goto (tgt := 54) hx hb dX10_isLevel_49 (by decide) ?_
            exact K54 r35 ls (lv_sub hl [1, 2, 3, 4, 5, 6, 7, 0] rfl)
  exact K13 _ 1000000000 (-1000000000) 0 ls (Nat.lt_succ_self _) (by omega) (lv_sub hl [3, 4, 5, 6, 2, 1, 0] rfl)
def rm_X10_level : Room := { frames := 4, cells := 0, slots := 0, locals := 96 }
set_option maxHeartbeats 4000000 in
set_option maxRecDepth 100000 in
theorem c_X10_level (l : Launch) (E : Ev) (A : Nat → Prop) (am : Nat → Nat) (vm : Vf) (set : Int32) (e0 : Int32) (step : Int32) (hH : MdH vm) : Met l yX10_level wsX10_level rm_X10_level (RdP E A [.ref (am 0), .int set, .int e0, .int step] (mdL E am vm)) (vp_Si (fun r => True)) 0 0 (fun _ => False) := by
  refine Met.ofW (cc := cX10_level) (maxL := 5) (ret := (some .int)) (by decide) rfl ?_
  intro p e s m args below meth c s₁ B hml hv
  obtain ⟨rfl, hE, hP⟩ := hv
  have hx := B.exec
  have hb := B.bytes
  have hr := B.returns
  have hts := atoms_spec (ws := wsX10_level) B.pre
  have hown : s.vm.findClass RX10 = some m.cls := findClass_of_methodNamed B.named
  have hlocks := B.notSynchronized
  have hK := hE.1
  have in_X10 : ∀ w ∈ u_ws RX10 TX10 79, w ∈ wsX10_level := fun w h => List.mem_cons_of_mem _ (List.mem_append_right _ h)
  have lk0 := hts (.constant RX10 329 (-1000000001)) (List.mem_of_getElem? (i := 1) rfl)
  have lk1 := hts (.constantLong RX10 370 99) (List.mem_of_getElem? (i := 2) rfl)
  have lk2 := hts (.constant RX10 175 (-1000000002)) (List.mem_of_getElem? (i := 3) rfl)
  have lk3 := hts (.fieldLink RX10 55 "TidedGroundModel" "period" "I") (List.mem_of_getElem? (i := 4) rfl)
  have n_m1000000002 : ((-1000000002) : Int32).toInt = -1000000002 := by decide
  have n_m1000000001 : ((-1000000001) : Int32).toInt = -1000000001 := by decide
  have n_m1 : ((-1) : Int32).toInt = -1 := by decide
  have n_0 : (0 : Int32).toInt = 0 := by decide
  have n_1 : (1 : Int32).toInt = 1 := by decide
  have hl := lv_entry ([.ref (am 0), .int set, .int e0, .int step]) (n := 5) (Nat.le_of_ble_eq_true rfl)
  rw [lg_entry_eq]
  generalize (lg_sl ([.ref (am 0), .int set, .int e0, .int step]) ++ List.replicate (5 - (lg_sl ([.ref (am 0), .int set, .int e0, .int step])).length) Slot.unset).toArray = ls at hl ⊢
  have hl : lv_has ls 5 [(0, .ref (am 0)), (1, .int set), (2, .int e0), (3, .int step)] := hl
  refine W_abs (fun Q hQ => ?_)
  obtain ⟨hmG, hmC, hmZ, hmM, hmA, hmS, hmT⟩ := id hH
  obtain ⟨hG1, hG2, hG3⟩ := id hmG
  obtain ⟨hC1, hC2, hC3, hC4, hC5, hC6⟩ := id hmC
  obtain ⟨hM1, hM2, hM3, hM4⟩ := id hmM
  obtain ⟨hA1, hA2, hA3, hA4, hA5⟩ := id hmA
  obtain ⟨hS1, hS2, hS3, hS4, hS5, hS6⟩ := id hmS
  obtain ⟨hT1, hT2, hT3, hT4, hT5⟩ := id hmT
  refine lv_iload_n hx hb dX10_level_0 rfl (lv_at hl 1 rfl) ?_
  refine lv_if_le (tgt := 13) hx hb dX10_level_1 (by decide) (fun c1 => ?_) (fun c1 => ?_)
  · have c1_ := i_le c1
    refine lv_ldcw hx hb hown lk0 dX10_level_13 ?_
    subst hQ
    exact W.iret (v := (-1000000001)) hx hb hr (fun t ht hW => ⟨(-1000000001), rfl, trivial, ht⟩) (fun q h => absurd h List.not_mem_nil) dX10_level_16
  · have c1_ := i_nle c1
    refine lv_iload_n hx hb dX10_level_4 rfl (lv_at hl 1 rfl) ?_
    refine lv_aload_n hx hb dX10_level_5 rfl (lv_at hl 0 rfl) ?_
    refine rd_V (As := []) (rest := [.int set]) (C := RX10) (ci := 10) ⟨hx, hb, hml, hown, hts⟩ (c_X10_cells l E A am vm hH) (cwV 0 hts gX10_level_X10_cells rfl rfl rfl (by decide +kernel) ⟨Nat.le_of_ble_eq_true rfl, Nat.le_of_ble_eq_true rfl⟩) hE (hP.sub (ws' := mdL E am vm) [0, 1, 2, 3, 4, 5, 6, 7, 8, 9, 10, 11, 12, 13, 14, 15, 16, 17, 18, 19, 20, 21, 22, 23, 24, 25, 26, 27, 28, 29, 30, 31, 32, 33, 34, 35, 36, 37, 38, 39, 40, 41, 42, 43, 44, 45] rfl) rfl rfl rfl rfl hl.1 rfl (Nat.le_of_ble_eq_true rfl) dX10_level_6 ⟨Nat.zero_le _, Nat.zero_le _⟩ (fun r6 h6 => ?_)
    refine lv_ishr hx hb dX10_level_9 ?_
    refine lv_topi (fun x9 e9 => ?_)
    refine lv_if_eq (tgt := 17) hx hb dX10_level_10 (by decide) (fun c10 => ?_) (fun c10 => ?_)
    · have c10_ := i_eq c10
      refine lv_iload_n hx hb dX10_level_17 rfl (lv_at hl 2 rfl) ?_
      refine lv_i2l hx hb dX10_level_18 rfl ?_
      refine lv_lconst (v := 0) hx hb dX10_level_19 (by decide) ?_
      refine lv_ldc2 hx hb hown lk1 dX10_level_20 ?_
      have lt23_0 : (e0.toInt64).toInt = e0.toInt := Int32.toInt_toInt64 _
      have lt23_1 : (0 : Int64).toInt = 0 := by decide
      have lt23_2 : (99 : Int64).toInt = 99 := by decide
      refine rd_S (As := [.long e0.toInt64, .long 0, .long 99]) (rest := []) ⟨hx, hb, hml, hown, hts⟩ (c_X10_in l E A e0.toInt64 0 99) (va_cwS 3 hts gX10_level_X10_in rfl rfl rfl (by decide +kernel) ⟨Nat.le_of_ble_eq_true rfl, Nat.le_of_ble_eq_true rfl⟩) hE (hP.sub (ws' := []) [] rfl) rfl hl.1 rfl (Nat.le_of_ble_eq_true rfl) dX10_level_23 ⟨Nat.zero_le _, Nat.zero_le _⟩ (fun r23 h23 => ?_)
      refine lv_if_eq (tgt := 36) hx hb dX10_level_26 (by decide) (fun c26 => ?_) (fun c26 => ?_)
      · have c26_ := i_eq c26
        replace h23 := or_n h23 c26_
        refine lv_ldc hx hb hown lk2 dX10_level_36 ?_
        subst hQ
        exact W.iret (v := (-1000000002)) hx hb hr (fun t ht hW => ⟨(-1000000002), rfl, trivial, ht⟩) (fun q h => absurd h List.not_mem_nil) dX10_level_38
      · have c26_ := i_ne c26
        replace h23 := or_y h23 c26_
        clear c26_
        refine lv_iload_n hx hb dX10_level_29 rfl (lv_at hl 3 rfl) ?_
        refine rd_S (As := [.int step]) (rest := []) ⟨hx, hb, hml, hown, hts⟩ (c_X10_isStep l E A step) (va_cwS 1 hts gX10_level_X10_isStep rfl rfl rfl (by decide +kernel) ⟨Nat.le_of_ble_eq_true rfl, Nat.le_of_ble_eq_true rfl⟩) hE (hP.sub (ws' := []) [] rfl) rfl hl.1 rfl (Nat.le_of_ble_eq_true rfl) dX10_level_30 ⟨Nat.zero_le _, Nat.zero_le _⟩ (fun r30 h30 => ?_)
        refine lv_if_ne (tgt := 39) hx hb dX10_level_33 (by decide) (fun c33 => ?_) (fun c33 => ?_)
        · have c33_ := i_ne c33
          replace h30 := or_y h30 c33_
          clear c33_
          have sv39_step : 0 ≤ step.toInt ∧ step.toInt ≤ 900000 := by omega
          refine lv_iconst (v := 0) hx hb dX10_level_39 (by decide) ?_
          refine lv_istore (lv' := [(4, .int 0), (0, .ref (am 0)), (1, .int set), (2, .int e0), (3, .int step)]) hx hb dX10_level_40 hl (by decide) rfl (fun ls hl => ?_)
          have K42 : ∀ (μ : Nat) (i : Int32) (ls : Array Slot), (729 - i.toInt).toNat < μ → (0 ≤ i.toInt ∧ i.toInt ≤ 729) → lv_has ls 5 [(0, .ref (am 0)), (1, .int set), (2, .int e0), (3, .int step), (4, .int i)] → W p l e (headSpec wsX10_level rm_X10_level).room s m ([.ref (am 0), .int set, .int e0, .int step] : List Value).toArray below meth c s.heap [] 0 0 Q (F0 m 42 ls []) := by
            intro μ
            induction μ with
            | zero =>
              intro i ls hμ42
              exact absurd hμ42 (Nat.not_lt_zero _)
            | succ μ ih42 =>
              intro i ls hμ42 h42_0 hl
              refine lv_iload hx hb dX10_level_42 (lv_at hl 4 rfl) ?_
              refine lv_aload_n hx hb dX10_level_44 rfl (lv_at hl 0 rfl) ?_
              refine va_get (D := eD E) (ci := 10) (v := .int (vm 22 0)) (C := RX10) (T := TX10) (N := 79) hx hb hts in_X10 hown hK hP 0 rfl rfl 22 (by decide) lk3 (fun _ h9 => h9) rfl dX10_level_45 ?_
              refine lv_icmp_ge (tgt := 73) hx hb dX10_level_48 (by decide) (fun c48 => ?_) (fun c48 => ?_)
              · have c48_ := i_le c48
                refine lv_iconst (v := (-1)) hx hb dX10_level_73 (by decide) ?_
                subst hQ
                exact W.iret (v := (-1)) hx hb hr (fun t ht hW => ⟨(-1), rfl, trivial, ht⟩) (fun q h => absurd h List.not_mem_nil) dX10_level_74
              · have c48_ := i_nle c48
                refine lv_aload_n hx hb dX10_level_51 rfl (lv_at hl 0 rfl) ?_
                refine lv_iload_n hx hb dX10_level_52 rfl (lv_at hl 1 rfl) ?_
                refine lv_iload_n hx hb dX10_level_53 rfl (lv_at hl 2 rfl) ?_
                refine lv_iload_n hx hb dX10_level_54 rfl (lv_at hl 3 rfl) ?_
                refine lv_iload hx hb dX10_level_55 (lv_at hl 4 rfl) ?_
                refine lv_iadd hx hb dX10_level_57 ?_
                refine lv_topi (fun x57 e57 => ?_)
                have t57 := i_add e57 (by omega)
                refine rd_V (As := [.int set, .int e0, .int x57]) (rest := []) (C := RX10) (ci := 10) ⟨hx, hb, hml, hown, hts⟩ (c_X10_isLevel l E A am vm set e0 x57 hH (by omega)) (cwV 3 hts gX10_level_X10_isLevel rfl rfl rfl (by decide +kernel) ⟨Nat.le_of_ble_eq_true rfl, Nat.le_of_ble_eq_true rfl⟩) hE (hP.sub (ws' := mdL E am vm) [0, 1, 2, 3, 4, 5, 6, 7, 8, 9, 10, 11, 12, 13, 14, 15, 16, 17, 18, 19, 20, 21, 22, 23, 24, 25, 26, 27, 28, 29, 30, 31, 32, 33, 34, 35, 36, 37, 38, 39, 40, 41, 42, 43, 44, 45] rfl) rfl rfl rfl rfl hl.1 rfl (Nat.le_of_ble_eq_true rfl) dX10_level_58 ⟨Nat.zero_le _, Nat.zero_le _⟩ (fun r58 h58 => ?_)
                refine lv_if_eq (tgt := 67) hx hb dX10_level_61 (by decide) (fun c61 => ?_) (fun c61 => ?_)
                · have c61_ := i_eq c61
                  clear h58
                  obtain ⟨x67, e67⟩ : ∃ y : Int32, y = i + 1 := ⟨_, rfl⟩
                  refine lv_iinc (v := x67) (lv' := [(4, .int x67), (0, .ref (am 0)), (1, .int set), (2, .int e0), (3, .int step)]) hx hb dX10_level_67 hl (k := 4) rfl (by rw [e67]; rfl) (by decide) rfl (fun ls hl => ?_)
                  have t67 := i_add e67 (by omega)
                  refine lv_goto (tgt := 42) hx hb dX10_level_70 (by decide) ?_
                  exact ih42 x67 ls (by omega) (by omega) (lv_sub hl [1, 2, 3, 4, 0] rfl)
                · have c61_ := i_ne c61
                  replace h58 := b_y h58 c61_
                  clear c61_
                  refine lv_iload hx hb dX10_level_64 (lv_at hl 4 rfl) ?_
                  subst hQ
                  exact W.iret (v := i) hx hb hr (fun t ht hW => ⟨i, rfl, trivial, ht⟩) (fun q h => absurd h List.not_mem_nil) dX10_level_66
          exact K42 _ 0 ls (Nat.lt_succ_self _) (by omega) (lv_sub hl [1, 2, 3, 4, 0] rfl)
        · have c33_ := i_eq c33
          replace h30 := or_n h30 c33_
          refine lv_ldc hx hb hown lk2 dX10_level_36 ?_
          subst hQ
          exact W.iret (v := (-1000000002)) hx hb hr (fun t ht hW => ⟨(-1000000002), rfl, trivial, ht⟩) (fun q h => absurd h List.not_mem_nil) dX10_level_38
    · have c10_ := i_ne c10
      refine lv_ldcw hx hb hown lk0 dX10_level_13 ?_
      subst hQ
      exact W.iret (v := (-1000000001)) hx hb hr (fun t ht hW => ⟨(-1000000001), rfl, trivial, ht⟩) (fun q h => absurd h List.not_mem_nil) dX10_level_16
