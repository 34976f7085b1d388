def rm_X8_pushTo : Room := { frames := 3, cells := 0, slots := 0, locals := 71 }
set_option maxHeartbeats 4000000 in
set_option maxRecDepth 100000 in
theorem c_X8_pushTo (l : Launch) (E : Ev) (A : Nat → Prop) (qw : Nat) (ap : Nat → Nat) (vp : Vf) (as_ : Nat → Nat) (vs : Vf) (cell : Int32) (there : Int32) (step : Int32) (hI : PlanI vp) (hJ : StateI vs) (hcell : 0 ≤ cell.toInt ∧ cell.toInt ≤ 23) (hthere : there.toInt = -1 ∨ (0 ≤ there.toInt ∧ there.toInt ≤ 23)) (hstep : 0 ≤ step.toInt ∧ step.toInt ≤ 2000000) : Met l yX8_pushTo wsX8_pushTo rm_X8_pushTo (RdP E A [.ref qw, .int cell, .int there, .int step] (wpsL E qw ap vp as_ vs)) (vp_Si (fun r => r.toInt = -1 ∨ (0 ≤ there.toInt ∧ 0 ≤ r.toInt))) 0 0 (fun _ => False) := by
  refine Met.ofW (cc := cX8_pushTo) (maxL := 6) (ret := (some .int)) (by decide) rfl ?_
  intro p e s m args below meth c s₁ B hml hv
  obtain ⟨rfl, hE, hP⟩ := hv
  have hx := B.exec
  have hb := B.bytes
  have hr := B.returns
  have hts := atoms_spec (ws := wsX8_pushTo) B.pre
  have hown : s.vm.findClass RX8 = some m.cls := findClass_of_methodNamed B.named
  have hlocks := B.notSynchronized
  have hK := hE.1
  have in_X8 : ∀ w ∈ u_ws RX8 TX8 2, w ∈ wsX8_pushTo := fun w h => List.mem_cons_of_mem _ (List.mem_append_left _ (List.mem_append_left _ (List.mem_append_left _ (List.mem_append_left _ (List.mem_append_right _ h)))))
  have in_X6 : ∀ w ∈ u_ws RX6 TX6 9, w ∈ wsX8_pushTo := fun w h => List.mem_cons_of_mem _ (List.mem_append_left _ (List.mem_append_left _ (List.mem_append_left _ (List.mem_append_right _ h))))
  have lk0 := hts (.fieldLink RX8 15 "TidedGround$World" "now" "LTidedGround$State;") (by decide +kernel)
  have lk1 := hts (.fieldLink RX8 129 "TidedGround$State" "steep" "I") (by decide +kernel)
  have lk2 := hts (.methodLink RX8 47 Lib.Math.max.name) (by decide +kernel)
  have lk3 := hts (.static Lib.Math.max.name) (by decide +kernel)
  have lk4 := hts (.initialized "java/lang/Math") (by decide +kernel)
  have lk5 := hts (.code Lib.Math.max.name Lib.Math.max.code 2 (some .int)) (by decide +kernel)
  have n_m1 : ((-1) : Int32).toInt = -1 := by decide
  have n_0 : (0 : Int32).toInt = 0 := by decide
  have hl := lv_entry ([.ref qw, .int cell, .int there, .int step]) (n := 6) (Nat.le_of_ble_eq_true rfl)
  rw [lg_entry_eq]
  generalize (lg_sl ([.ref qw, .int cell, .int there, .int step]) ++ List.replicate (6 - (lg_sl ([.ref qw, .int cell, .int there, .int step])).length) Slot.unset).toArray = ls at hl ⊢
  have hl : lv_has ls 6 [(0, .ref qw), (1, .int cell), (2, .int there), (3, .int step)] := hl
  refine W_abs (fun Q hQ => ?_)
  obtain ⟨hg, hmc, hm0, hm1, hm2, hs0, hs1, hs2, hs3⟩ := id hI
  obtain ⟨hg1, hg2, hg3, hg4⟩ := id hg
  have hz0 := hm0.1
  have hz1 := hm1.1
  have hz2 := hm2.1
  have hc0 := hs0.1
  have hc1 := hs1.1
  have hc2 := hs2.1
  have hc3 := hs3.1
  obtain ⟨hj0, hj1, hj2⟩ := id hJ
  refine lv_iload_n hx hb dX8_pushTo_0 rfl (lv_at hl 2 rfl) ?_
  refine lv_iload_n hx hb dX8_pushTo_1 rfl (lv_at hl 1 rfl) ?_
  refine lv_icmp_ne (tgt := 7) hx hb dX8_pushTo_2 (by decide) (fun c2 => ?_) (fun c2 => ?_)
  · have c2_ := i_ne c2
    refine lv_iload_n hx hb dX8_pushTo_7 rfl (lv_at hl 2 rfl) ?_
    refine lv_iconst (v := (-1)) hx hb dX8_pushTo_8 (by decide) ?_
    refine lv_icmp_ne (tgt := 14) hx hb dX8_pushTo_9 (by decide) (fun c9 => ?_) (fun c9 => ?_)
    · have c9_ := i_ne c9
      refine lv_aload_n hx hb dX8_pushTo_14 rfl (lv_at hl 0 rfl) ?_
      refine lv_iload_n hx hb dX8_pushTo_15 rfl (lv_at hl 1 rfl) ?_
      refine lv_iload_n hx hb dX8_pushTo_16 rfl (lv_at hl 2 rfl) ?_
      refine rd_V (As := [.int cell, .int there]) (rest := []) (C := RX8) (ci := 8) ⟨hx, hb, hml, hown, hts⟩ (c_X8_crackBetween l E A qw ap vp as_ vs cell there hI hJ (by omega) (by omega)) (cwV 2 hts gX8_pushTo_X8_crackBetween rfl rfl rfl (by decide +kernel) ⟨Nat.le_of_ble_eq_true rfl, Nat.le_of_ble_eq_true rfl⟩) hE (hP.sub (ws' := wpsL E qw ap vp as_ vs) [0, 1, 2, 3, 4, 5, 6, 7, 8, 9, 10, 11, 12, 13, 14, 15, 16, 17, 18, 19, 20, 21, 22, 23, 24, 25, 26, 27, 28, 29, 30, 31, 32, 33] rfl) rfl rfl rfl rfl hl.1 rfl (Nat.le_of_ble_eq_true rfl) dX8_pushTo_17 ⟨Nat.zero_le _, Nat.zero_le _⟩ (fun r17 h17 => ?_)
      refine lv_istore (lv' := [(4, .int r17), (0, .ref qw), (1, .int cell), (2, .int there), (3, .int step)]) hx hb dX8_pushTo_20 hl (by decide) rfl (fun ls hl => ?_)
      refine lv_iload hx hb dX8_pushTo_22 (lv_at hl 0 rfl) ?_
      refine lv_iconst (v := (-1)) hx hb dX8_pushTo_24 (by decide) ?_
      refine lv_icmp_eq (tgt := 40) hx hb dX8_pushTo_25 (by decide) (fun c25 => ?_) (fun c25 => ?_)
      · have c25_ := i_eq c25
        clear h17
        refine lv_aload_n hx hb dX8_pushTo_40 rfl (lv_at hl 1 rfl) ?_
        refine lv_iload_n hx hb dX8_pushTo_41 rfl (lv_at hl 3 rfl) ?_
        refine lv_iload_n hx hb dX8_pushTo_42 rfl (lv_at hl 4 rfl) ?_
        refine lv_iconst (v := (-1)) hx hb dX8_pushTo_43 (by decide) ?_
        refine rd_V (As := [.int there, .int step, .int (-1)]) (rest := []) (C := RX8) (ci := 8) ⟨hx, hb, hml, hown, hts⟩ (c_X8_heightAt l E A qw ap vp as_ vs there step (-1) hI hJ (by omega) (by omega)) (cwV 3 hts gX8_pushTo_X8_heightAt rfl rfl rfl (by decide +kernel) ⟨Nat.le_of_ble_eq_true rfl, Nat.le_of_ble_eq_true rfl⟩) hE (hP.sub (ws' := wpsL E qw ap vp as_ vs) [0, 1, 2, 3, 4, 5, 6, 7, 8, 9, 10, 11, 12, 13, 14, 15, 16, 17, 18, 19, 20, 21, 22, 23, 24, 25, 26, 27, 28, 29, 30, 31, 32, 33] rfl) rfl rfl rfl rfl hl.1 rfl (Nat.le_of_ble_eq_true rfl) dX8_pushTo_44 ⟨Nat.zero_le _, Nat.zero_le _⟩ (fun r44 h44 => ?_)
        refine lv_aload_n hx hb dX8_pushTo_47 rfl (lv_at hl 1 rfl) ?_
        refine lv_iload_n hx hb dX8_pushTo_48 rfl (lv_at hl 2 rfl) ?_
        refine lv_iload_n hx hb dX8_pushTo_49 rfl (lv_at hl 4 rfl) ?_
        refine lv_iconst (v := (-1)) hx hb dX8_pushTo_50 (by decide) ?_
        refine rd_V (As := [.int cell, .int step, .int (-1)]) (rest := [.int r44]) (C := RX8) (ci := 8) ⟨hx, hb, hml, hown, hts⟩ (c_X8_heightAt l E A qw ap vp as_ vs cell step (-1) hI hJ (by omega) (by omega)) (cwV 3 hts gX8_pushTo_X8_heightAt rfl rfl rfl (by decide +kernel) ⟨Nat.le_of_ble_eq_true rfl, Nat.le_of_ble_eq_true rfl⟩) hE (hP.sub (ws' := wpsL E qw ap vp as_ vs) [0, 1, 2, 3, 4, 5, 6, 7, 8, 9, 10, 11, 12, 13, 14, 15, 16, 17, 18, 19, 20, 21, 22, 23, 24, 25, 26, 27, 28, 29, 30, 31, 32, 33] rfl) rfl rfl rfl rfl hl.1 rfl (Nat.le_of_ble_eq_true rfl) dX8_pushTo_51 ⟨Nat.zero_le _, Nat.zero_le _⟩ (fun r51 h51 => ?_)
        refine lv_isub hx hb dX8_pushTo_54 ?_
        refine lv_topi (fun x54 e54 => ?_)
        refine lv_istore (lv' := [(5, .int x54), (4, .int r17), (0, .ref qw), (1, .int cell), (2, .int there), (3, .int step)]) hx hb dX8_pushTo_55 hl (by decide) rfl (fun ls hl => ?_)
        refine lv_iload hx hb dX8_pushTo_57 (lv_at hl 0 rfl) ?_
        refine lv_aload_n hx hb dX8_pushTo_59 rfl (lv_at hl 2 rfl) ?_
        refine va_get (D := eD E) (ci := 8) (v := .ref (as_ 0)) (C := RX8) (T := TX8) (N := 2) hx hb hts in_X8 hown hK hP 0 rfl rfl 1 (by decide) lk0 (fun _ h9 => h9) rfl dX8_pushTo_60 ?_
        refine va_get (D := eD E) (ci := 6) (v := .int (vs 6 0)) (C := RX6) (T := TX6) (N := 9) hx hb hts in_X6 hown hK hP 30 rfl rfl 6 (by decide) lk1 (fun _ h9 => h9) rfl dX8_pushTo_63 ?_
        refine lv_icmp_le (tgt := 73) hx hb dX8_pushTo_66 (by decide) (fun c66 => ?_) (fun c66 => ?_)
        · have c66_ := i_le c66
          refine lv_iload hx hb dX8_pushTo_73 (lv_at hl 0 rfl) ?_
          refine lv_iconst (v := 0) hx hb dX8_pushTo_75 (by decide) ?_
          refine va_mmax hx hb (hml.trans hl.1.symm) hown lk2 lk3 lk4 lk5 (Nat.le_of_ble_eq_true rfl) (Nat.le_of_ble_eq_true rfl) (Nat.zero_le _) (Nat.zero_le _) dX8_pushTo_76 ?_
          refine lv_topi (fun x76 e76 => ?_)
          have t76 := i_max e76
          subst hQ
          exact W.iret (v := x76) hx hb hr (fun t ht hW => ⟨x76, rfl, (by omega), ht⟩) (fun q h => absurd h List.not_mem_nil) dX8_pushTo_79
        · have c66_ := i_nle c66
          refine lv_iconst (v := (-1)) hx hb dX8_pushTo_69 (by decide) ?_
          refine lv_goto (tgt := 79) hx hb dX8_pushTo_70 (by decide) ?_
          subst hQ
          exact W.iret (v := (-1)) hx hb hr (fun t ht hW => ⟨(-1), rfl, (by omega), ht⟩) (fun q h => absurd h List.not_mem_nil) dX8_pushTo_79
      · have c25_ := i_ne c25
        replace h17 := cm_n h17 c25_
        clear c25_
        refine lv_aload_n hx hb dX8_pushTo_28 rfl (lv_at hl 1 rfl) ?_
        refine lv_iload hx hb dX8_pushTo_29 (lv_at hl 0 rfl) ?_
        refine lv_iload_n hx hb dX8_pushTo_31 rfl (lv_at hl 4 rfl) ?_
        refine rd_V (As := [.int r17, .int step]) (rest := []) (C := RX8) (ci := 8) ⟨hx, hb, hml, hown, hts⟩ (c_X8_isOpen l E A qw ap vp as_ vs r17 step hI hJ (by omega) (by omega)) (cwV 2 hts gX8_pushTo_X8_isOpen rfl rfl rfl (by decide +kernel) ⟨Nat.le_of_ble_eq_true rfl, Nat.le_of_ble_eq_true rfl⟩) hE (hP.sub (ws' := wpsL E qw ap vp as_ vs) [0, 1, 2, 3, 4, 5, 6, 7, 8, 9, 10, 11, 12, 13, 14, 15, 16, 17, 18, 19, 20, 21, 22, 23, 24, 25, 26, 27, 28, 29, 30, 31, 32, 33] rfl) rfl rfl rfl rfl hl.1 rfl (Nat.le_of_ble_eq_true rfl) dX8_pushTo_32 ⟨Nat.zero_le _, Nat.zero_le _⟩ (fun r32 h32 => ?_)
        refine lv_if_eq (tgt := 40) hx hb dX8_pushTo_35 (by decide) (fun c35 => ?_) (fun c35 => ?_)
        · have c35_ := i_eq c35
          clear h32
          refine lv_aload_n hx hb dX8_pushTo_40 rfl (lv_at hl 1 rfl) ?_
          refine lv_iload_n hx hb dX8_pushTo_41 rfl (lv_at hl 3 rfl) ?_
          refine lv_iload_n hx hb dX8_pushTo_42 rfl (lv_at hl 4 rfl) ?_
          refine lv_iconst (v := (-1)) hx hb dX8_pushTo_43 (by decide) ?_
          refine rd_V (As := [.int there, .int step, .int (-1)]) (rest := []) (C := RX8) (ci := 8) ⟨hx, hb, hml, hown, hts⟩ (c_X8_heightAt l E A qw ap vp as_ vs there step (-1) hI hJ (by omega) (by omega)) (cwV 3 hts gX8_pushTo_X8_heightAt rfl rfl rfl (by decide +kernel) ⟨Nat.le_of_ble_eq_true rfl, Nat.le_of_ble_eq_true rfl⟩) hE (hP.sub (ws' := wpsL E qw ap vp as_ vs) [0, 1, 2, 3, 4, 5, 6, 7, 8, 9, 10, 11, 12, 13, 14, 15, 16, 17, 18, 19, 20, 21, 22, 23, 24, 25, 26, 27, 28, 29, 30, 31, 32, 33] rfl) rfl rfl rfl rfl hl.1 rfl (Nat.le_of_ble_eq_true rfl) dX8_pushTo_44 ⟨Nat.zero_le _, Nat.zero_le _⟩ (fun r44 h44 => ?_)
          refine lv_aload_n hx hb dX8_pushTo_47 rfl (lv_at hl 1 rfl) ?_
          refine lv_iload_n hx hb dX8_pushTo_48 rfl (lv_at hl 2 rfl) ?_
          refine lv_iload_n hx hb dX8_pushTo_49 rfl (lv_at hl 4 rfl) ?_
          refine lv_iconst (v := (-1)) hx hb dX8_pushTo_50 (by decide) ?_
          refine rd_V (As := [.int cell, .int step, .int (-1)]) (rest := [.int r44]) (C := RX8) (ci := 8) ⟨hx, hb, hml, hown, hts⟩ (c_X8_heightAt l E A qw ap vp as_ vs cell step (-1) hI hJ (by omega) (by omega)) (cwV 3 hts gX8_pushTo_X8_heightAt rfl rfl rfl (by decide +kernel) ⟨Nat.le_of_ble_eq_true rfl, Nat.le_of_ble_eq_true rfl⟩) hE (hP.sub (ws' := wpsL E qw ap vp as_ vs) [0, 1, 2, 3, 4, 5, 6, 7, 8, 9, 10, 11, 12, 13, 14, 15, 16, 17, 18, 19, 20, 21, 22, 23, 24, 25, 26, 27, 28, 29, 30, 31, 32, 33] rfl) rfl rfl rfl rfl hl.1 rfl (Nat.le_of_ble_eq_true rfl) dX8_pushTo_51 ⟨Nat.zero_le _, Nat.zero_le _⟩ (fun r51 h51 => ?_)
          refine lv_isub hx hb dX8_pushTo_54 ?_
          refine lv_topi (fun x54 e54 => ?_)
          refine lv_istore (lv' := [(5, .int x54), (4, .int r17), (0, .ref qw), (1, .int cell), (2, .int there), (3, .int step)]) hx hb dX8_pushTo_55 hl (by decide) rfl (fun ls hl => ?_)
          refine lv_iload hx hb dX8_pushTo_57 (lv_at hl 0 rfl) ?_
          refine lv_aload_n hx hb dX8_pushTo_59 rfl (lv_at hl 2 rfl) ?_
          refine va_get (D := eD E) (ci := 8) (v := .ref (as_ 0)) (C := RX8) (T := TX8) (N := 2) hx hb hts in_X8 hown hK hP 0 rfl rfl 1 (by decide) lk0 (fun _ h9 => h9) rfl dX8_pushTo_60 ?_
          refine va_get (D := eD E) (ci := 6) (v := .int (vs 6 0)) (C := RX6) (T := TX6) (N := 9) hx hb hts in_X6 hown hK hP 30 rfl rfl 6 (by decide) lk1 (fun _ h9 => h9) rfl dX8_pushTo_63 ?_
          refine lv_icmp_le (tgt := 73) hx hb dX8_pushTo_66 (by decide) (fun c66 => ?_) (fun c66 => ?_)
          · have c66_ := i_le c66
            refine lv_iload hx hb dX8_pushTo_73 (lv_at hl 0 rfl) ?_
            refine lv_iconst (v := 0) hx hb dX8_pushTo_75 (by decide) ?_
            refine va_mmax hx hb (hml.trans hl.1.symm) hown lk2 lk3 lk4 lk5 (Nat.le_of_ble_eq_true rfl) (Nat.le_of_ble_eq_true rfl) (Nat.zero_le _) (Nat.zero_le _) dX8_pushTo_76 ?_
            refine lv_topi (fun x76 e76 => ?_)
            have t76 := i_max e76
            subst hQ
            exact W.iret (v := x76) hx hb hr (fun t ht hW => ⟨x76, rfl, (by omega), ht⟩) (fun q h => absurd h List.not_mem_nil) dX8_pushTo_79
          · have c66_ := i_nle c66
            refine lv_iconst (v := (-1)) hx hb dX8_pushTo_69 (by decide) ?_
            refine lv_goto (tgt := 79) hx hb dX8_pushTo_70 (by decide) ?_
            subst hQ
            exact W.iret (v := (-1)) hx hb hr (fun t ht hW => ⟨(-1), rfl, (by omega), ht⟩) (fun q h => absurd h List.not_mem_nil) dX8_pushTo_79
        · have c35_ := i_ne c35
          replace h32 := b_y h32 c35_
          clear c35_
          refine lv_iconst (v := (-1)) hx hb dX8_pushTo_38 (by decide) ?_
          subst hQ
          exact W.iret (v := (-1)) hx hb hr (fun t ht hW => ⟨(-1), rfl, (by omega), ht⟩) (fun q h => absurd h List.not_mem_nil) dX8_pushTo_39
    · have c9_ := i_eq c9
      refine lv_iconst (v := (-1)) hx hb dX8_pushTo_12 (by decide) ?_
      subst hQ
      exact W.iret (v := (-1)) hx hb hr (fun t ht hW => ⟨(-1), rfl, (by omega), ht⟩) (fun q h => absurd h List.not_mem_nil) dX8_pushTo_13
  · have c2_ := i_eq c2
    refine lv_iconst (v := 0) hx hb dX8_pushTo_5 (by decide) ?_
    subst hQ
    exact W.iret (v := 0) hx hb hr (fun t ht hW => ⟨0, rfl, (by omega), ht⟩) (fun q h => absurd h List.not_mem_nil) dX8_pushTo_6
