def rm_X8_pullAt : Room := { frames := 1, cells := 0, slots := 0, locals := 23 }
set_option maxHeartbeats 4000000 in
set_option maxRecDepth 100000 in
theorem c_X8_pullAt (l : Launch) (E : Ev) (A : Nat → Prop) (qw : Nat) (ap : Nat → Nat) (vp : Vf) (as_ : Nat → Nat) (vs : Vf) (cell : Int32) (step : Int32) (gone : Int32) (hI : PlanI vp) (hJ : StateI vs) (hcell : 0 ≤ cell.toInt ∧ cell.toInt ≤ 23) (hstep : 0 ≤ step.toInt ∧ step.toInt ≤ 2000000) : Met l yX8_pullAt wsX8_pullAt rm_X8_pullAt (RdP E A [.ref qw, .int cell, .int step, .int gone] (wpsL E qw ap vp as_ vs)) (vp_Si (fun r => True)) 0 0 (fun _ => False) := by
  refine Met.ofW (cc := cX8_pullAt) (maxL := 6) (ret := (some .int)) (by decide) rfl ?_
  intro p e s m args below meth c s₁ B hml hv
  obtain ⟨rfl, hE, hP⟩ := hv
  have hx := B.exec
  have hb := B.bytes
  have hr := B.returns
  have hts := atoms_spec (ws := wsX8_pullAt) B.pre
  have hown : s.vm.findClass RX8 = some m.cls := findClass_of_methodNamed B.named
  have hlocks := B.notSynchronized
  have hK := hE.1
  have in_X8 : ∀ w ∈ u_ws RX8 TX8 2, w ∈ wsX8_pullAt := fun w h => List.mem_cons_of_mem _ (List.mem_append_left _ (List.mem_append_left _ (List.mem_append_left _ (List.mem_append_right _ h))))
  have in_X1 : ∀ w ∈ u_ws RX1 TX1 11, w ∈ wsX8_pullAt := fun w h => List.mem_cons_of_mem _ (List.mem_append_left _ (List.mem_append_left _ (List.mem_append_right _ h)))
  have in_X6 : ∀ w ∈ u_ws RX6 TX6 9, w ∈ wsX8_pullAt := fun w h => List.mem_cons_of_mem _ (List.mem_append_left _ (List.mem_append_right _ h))
  have lk0 := hts (.fieldLink RX8 9 "TidedGround$World" "plan" "LTidedGround$Plan;") (by decide +kernel)
  have lk1 := hts (.fieldLink RX8 19 "TidedGround$Plan" "moonCount" "I") (by decide +kernel)
  have lk2 := hts (.fieldLink RX8 25 "TidedGround$Plan" "moons" "[LTidedGround$Moon;") (by decide +kernel)
  have lk3 := hts (.fieldLink RX8 15 "TidedGround$World" "now" "LTidedGround$State;") (by decide +kernel)
  have lk4 := hts (.fieldLink RX8 29 "TidedGround$State" "shifts" "[I") (by decide +kernel)
  have n_0 : (0 : Int32).toInt = 0 := by decide
  have n_1 : (1 : Int32).toInt = 1 := by decide
  have n_2 : (2 : Int32).toInt = 2 := by decide
  have n_3 : (3 : Int32).toInt = 3 := by decide
  have hl := lv_entry ([.ref qw, .int cell, .int step, .int gone]) (n := 6) (Nat.le_of_ble_eq_true rfl)
  rw [lg_entry_eq]
  generalize (lg_sl ([.ref qw, .int cell, .int step, .int gone]) ++ List.replicate (6 - (lg_sl ([.ref qw, .int cell, .int step, .int gone])).length) Slot.unset).toArray = ls at hl ⊢
  have hl : lv_has ls 6 [(0, .ref qw), (1, .int cell), (2, .int step), (3, .int gone)] := hl
  refine W_abs (fun Q hQ => ?_)
  obtain ⟨hg, hmc, hm0, hm1, hm2, hs0, hs1, hs2, hs3⟩ := id hI
  obtain ⟨hg1, hg2, hg3, hg4⟩ := id hg
  have hz0 := hm0.1
  have hz1 := hm1.1
  have hz2 := hm2.1
  have hc0 := hs0.1
  have hc1 := hs1.1
  have hc2 := hs2.1
  have hc3 := hs3.1
  obtain ⟨hj0, hj1, hj2⟩ := id hJ
  refine lv_iconst (v := 0) hx hb dX8_pullAt_0 (by decide) ?_
  refine lv_istore (lv' := [(4, .int 0), (0, .ref qw), (1, .int cell), (2, .int step), (3, .int gone)]) hx hb dX8_pullAt_1 hl (by decide) rfl (fun ls hl => ?_)
  refine lv_iconst (v := 0) hx hb dX8_pullAt_3 (by decide) ?_
  refine lv_istore (lv' := [(5, .int 0), (4, .int 0), (0, .ref qw), (1, .int cell), (2, .int step), (3, .int gone)]) hx hb dX8_pullAt_4 hl (by decide) rfl (fun ls hl => ?_)
  have K6 : ∀ (μ : Nat) (sum : Int32) (i : Int32) (ls : Array Slot), (3 - i.toInt).toNat < μ → (0 ≤ i.toInt ∧ i.toInt ≤ 3) → lv_has ls 6 [(0, .ref qw), (1, .int cell), (2, .int step), (3, .int gone), (4, .int sum), (5, .int i)] → W p l e (headSpec wsX8_pullAt rm_X8_pullAt).room s m ([.ref qw, .int cell, .int step, .int gone] : List Value).toArray below meth c s.heap [] 0 0 Q (F0 m 6 ls []) := by
    intro μ
    induction μ with
    | zero =>
      intro sum i ls hμ6
      exact absurd hμ6 (Nat.not_lt_zero _)
    | succ μ ih6 =>
      intro sum i ls hμ6 h6_0 hl
      refine lv_iload hx hb dX8_pullAt_6 (lv_at hl 5 rfl) ?_
      refine lv_aload_n hx hb dX8_pullAt_8 rfl (lv_at hl 0 rfl) ?_
      refine va_get (D := eD E) (ci := 8) (v := .ref (ap 0)) (C := RX8) (T := TX8) (N := 2) hx hb hts in_X8 hown hK hP 0 rfl rfl 0 (by decide) lk0 (fun _ h9 => h9) rfl dX8_pullAt_9 ?_
      refine va_get (D := eD E) (ci := 1) (v := .int (vp 5 0)) (C := RX1) (T := TX1) (N := 11) hx hb hts in_X1 hown hK hP 1 rfl rfl 5 (by decide) lk1 (fun _ h9 => h9) rfl dX8_pullAt_12 ?_
      refine lv_icmp_ge (tgt := 60) hx hb dX8_pullAt_15 (by decide) (fun c15 => ?_) (fun c15 => ?_)
      · have c15_ := i_le c15
        refine lv_iload hx hb dX8_pullAt_60 (lv_at hl 4 rfl) ?_
        subst hQ
        exact W.iret (v := sum) hx hb hr (fun t ht hW => ⟨sum, rfl, trivial, ht⟩) (fun q h => absurd h List.not_mem_nil) dX8_pullAt_62
      · have c15_ := i_nle c15
        rcases (show i = 0 ∨ i = 1 ∨ i = 2 from i_c3 (by omega) (by omega)) with rfl | rfl | rfl
        · refine lv_iload hx hb dX8_pullAt_18 (lv_at hl 5 rfl) ?_
          refine lv_iload_n hx hb dX8_pullAt_20 rfl (lv_at hl 3 rfl) ?_
          refine lv_icmp_eq (tgt := 54) hx hb dX8_pullAt_21 (by decide) (fun c21 => ?_) (fun c21 => ?_)
          · have c21_ := i_eq c21
            refine lv_iinc (v := 1) (lv' := [(5, .int 1), (0, .ref qw), (1, .int cell), (2, .int step), (3, .int gone), (4, .int sum)]) hx hb dX8_pullAt_54 hl (k := 5) rfl (by decide) (by decide) rfl (fun ls hl => ?_)
            refine lv_goto (tgt := 6) hx hb dX8_pullAt_57 (by decide) ?_
            exact ih6 sum 1 ls (by omega) (by omega) (lv_sub hl [1, 2, 3, 4, 5, 0] rfl)
          · have c21_ := i_ne c21
            refine lv_iload hx hb dX8_pullAt_24 (lv_at hl 4 rfl) ?_
            refine lv_aload_n hx hb dX8_pullAt_26 rfl (lv_at hl 0 rfl) ?_
            refine va_get (D := eD E) (ci := 8) (v := .ref (ap 0)) (C := RX8) (T := TX8) (N := 2) hx hb hts in_X8 hown hK hP 0 rfl rfl 0 (by decide) lk0 (fun _ h9 => h9) rfl dX8_pullAt_27 ?_
            refine va_get (D := eD E) (ci := 1) (v := .ref (ap 6)) (C := RX1) (T := TX1) (N := 11) hx hb hts in_X1 hown hK hP 1 rfl rfl 6 (by decide) lk2 (fun _ h9 => h9) rfl dX8_pullAt_30 ?_
            refine lv_iload hx hb dX8_pullAt_33 (lv_at hl 5 rfl) ?_
            refine va_aldq hx hb hK hP 4 2 rfl rfl (i_in (by decide) (by decide)) dX8_pullAt_35 ?_
            refine W.eq (g2 := F0 m 36 ls [.ref (ap 20), .int sum]) rfl ?_
            refine lv_iload_n hx hb dX8_pullAt_36 rfl (lv_at hl 1 rfl) ?_
            refine lv_iload_n hx hb dX8_pullAt_37 rfl (lv_at hl 2 rfl) ?_
            refine lv_aload_n hx hb dX8_pullAt_38 rfl (lv_at hl 0 rfl) ?_
            refine va_get (D := eD E) (ci := 8) (v := .ref (as_ 0)) (C := RX8) (T := TX8) (N := 2) hx hb hts in_X8 hown hK hP 0 rfl rfl 1 (by decide) lk3 (fun _ h9 => h9) rfl dX8_pullAt_39 ?_
            refine va_get (D := eD E) (ci := 6) (v := .ref (as_ 1)) (C := RX6) (T := TX6) (N := 9) hx hb hts in_X6 hown hK hP 30 rfl rfl 1 (by decide) lk4 (fun _ h9 => h9) rfl dX8_pullAt_42 ?_
            refine lv_iload hx hb dX8_pullAt_45 (lv_at hl 5 rfl) ?_
            refine va_iald hx hb hK hP 31 0 rfl rfl (n := 3) (f := (vs 1)) (i_in (by omega) (by omega)) dX8_pullAt_47 ?_
            refine lv_topi (fun x47 e47 => ?_)
            have e47 : x47 = (vs 1) 0 := e47
            have b47 := hj1 0 (by decide)
            rw [← e47] at b47
            refine rd_V (As := [.int cell, .int step, .int x47]) (rest := [.int sum]) (C := RX0) (ci := 0) ⟨hx, hb, hml, hown, hts⟩ (c_X0_partAt l E A (ap 20) (ap 23) (ap 24) (vp 20 0) (vp 21 0) (vp 22 0) (vp 23) (vp 24) cell step x47 hm0 (by omega) (by omega) (by omega)) (cwV 3 hts gX8_pullAt_X0_partAt rfl rfl rfl (by decide +kernel) ⟨Nat.le_of_ble_eq_true rfl, Nat.le_of_ble_eq_true rfl⟩) hE (hP.sub (ws' := moonL E (ap 20) (ap 23) (ap 24) (vp 20 0) (vp 21 0) (vp 22 0) (vp 23) (vp 24)) [5, 6, 7] rfl) rfl rfl rfl rfl hl.1 rfl (Nat.le_of_ble_eq_true rfl) dX8_pullAt_48 ⟨Nat.zero_le _, Nat.zero_le _⟩ (fun r48 h48 => ?_)
            refine lv_iadd hx hb dX8_pullAt_51 ?_
            refine lv_topi (fun x51 e51 => ?_)
            refine lv_istore (lv' := [(4, .int x51), (0, .ref qw), (1, .int cell), (2, .int step), (3, .int gone), (5, .int 0)]) hx hb dX8_pullAt_52 hl (by decide) rfl (fun ls hl => ?_)
            refine lv_iinc (v := 1) (lv' := [(5, .int 1), (4, .int x51), (0, .ref qw), (1, .int cell), (2, .int step), (3, .int gone)]) hx hb dX8_pullAt_54 hl (k := 5) rfl (by decide) (by decide) rfl (fun ls hl => ?_)
            refine lv_goto (tgt := 6) hx hb dX8_pullAt_57 (by decide) ?_
            exact ih6 x51 1 ls (by omega) (by omega) (lv_sub hl [2, 3, 4, 5, 1, 0] rfl)
        · refine lv_iload hx hb dX8_pullAt_18 (lv_at hl 5 rfl) ?_
          refine lv_iload_n hx hb dX8_pullAt_20 rfl (lv_at hl 3 rfl) ?_
          refine lv_icmp_eq (tgt := 54) hx hb dX8_pullAt_21 (by decide) (fun c21 => ?_) (fun c21 => ?_)
          · have c21_ := i_eq c21
            refine lv_iinc (v := 2) (lv' := [(5, .int 2), (0, .ref qw), (1, .int cell), (2, .int step), (3, .int gone), (4, .int sum)]) hx hb dX8_pullAt_54 hl (k := 5) rfl (by decide) (by decide) rfl (fun ls hl => ?_)
            refine lv_goto (tgt := 6) hx hb dX8_pullAt_57 (by decide) ?_
            exact ih6 sum 2 ls (by omega) (by omega) (lv_sub hl [1, 2, 3, 4, 5, 0] rfl)
          · have c21_ := i_ne c21
            refine lv_iload hx hb dX8_pullAt_24 (lv_at hl 4 rfl) ?_
            refine lv_aload_n hx hb dX8_pullAt_26 rfl (lv_at hl 0 rfl) ?_
            refine va_get (D := eD E) (ci := 8) (v := .ref (ap 0)) (C := RX8) (T := TX8) (N := 2) hx hb hts in_X8 hown hK hP 0 rfl rfl 0 (by decide) lk0 (fun _ h9 => h9) rfl dX8_pullAt_27 ?_
            refine va_get (D := eD E) (ci := 1) (v := .ref (ap 6)) (C := RX1) (T := TX1) (N := 11) hx hb hts in_X1 hown hK hP 1 rfl rfl 6 (by decide) lk2 (fun _ h9 => h9) rfl dX8_pullAt_30 ?_
            refine lv_iload hx hb dX8_pullAt_33 (lv_at hl 5 rfl) ?_
            refine va_aldq hx hb hK hP 4 2 rfl rfl (i_in (by decide) (by decide)) dX8_pullAt_35 ?_
            refine W.eq (g2 := F0 m 36 ls [.ref (ap 30), .int sum]) rfl ?_
            refine lv_iload_n hx hb dX8_pullAt_36 rfl (lv_at hl 1 rfl) ?_
            refine lv_iload_n hx hb dX8_pullAt_37 rfl (lv_at hl 2 rfl) ?_
            refine lv_aload_n hx hb dX8_pullAt_38 rfl (lv_at hl 0 rfl) ?_
            refine va_get (D := eD E) (ci := 8) (v := .ref (as_ 0)) (C := RX8) (T := TX8) (N := 2) hx hb hts in_X8 hown hK hP 0 rfl rfl 1 (by decide) lk3 (fun _ h9 => h9) rfl dX8_pullAt_39 ?_
            refine va_get (D := eD E) (ci := 6) (v := .ref (as_ 1)) (C := RX6) (T := TX6) (N := 9) hx hb hts in_X6 hown hK hP 30 rfl rfl 1 (by decide) lk4 (fun _ h9 => h9) rfl dX8_pullAt_42 ?_
            refine lv_iload hx hb dX8_pullAt_45 (lv_at hl 5 rfl) ?_
            refine va_iald hx hb hK hP 31 0 rfl rfl (n := 3) (f := (vs 1)) (i_in (by omega) (by omega)) dX8_pullAt_47 ?_
            refine lv_topi (fun x47 e47 => ?_)
            have e47 : x47 = (vs 1) 1 := e47
            have b47 := hj1 1 (by decide)
            rw [← e47] at b47
            refine rd_V (As := [.int cell, .int step, .int x47]) (rest := [.int sum]) (C := RX0) (ci := 0) ⟨hx, hb, hml, hown, hts⟩ (c_X0_partAt l E A (ap 30) (ap 33) (ap 34) (vp 30 0) (vp 31 0) (vp 32 0) (vp 33) (vp 34) cell step x47 hm1 (by omega) (by omega) (by omega)) (cwV 3 hts gX8_pullAt_X0_partAt rfl rfl rfl (by decide +kernel) ⟨Nat.le_of_ble_eq_true rfl, Nat.le_of_ble_eq_true rfl⟩) hE (hP.sub (ws' := moonL E (ap 30) (ap 33) (ap 34) (vp 30 0) (vp 31 0) (vp 32 0) (vp 33) (vp 34)) [8, 9, 10] rfl) rfl rfl rfl rfl hl.1 rfl (Nat.le_of_ble_eq_true rfl) dX8_pullAt_48 ⟨Nat.zero_le _, Nat.zero_le _⟩ (fun r48 h48 => ?_)
            refine lv_iadd hx hb dX8_pullAt_51 ?_
            refine lv_topi (fun x51 e51 => ?_)
            refine lv_istore (lv' := [(4, .int x51), (0, .ref qw), (1, .int cell), (2, .int step), (3, .int gone), (5, .int 1)]) hx hb dX8_pullAt_52 hl (by decide) rfl (fun ls hl => ?_)
            refine lv_iinc (v := 2) (lv' := [(5, .int 2), (4, .int x51), (0, .ref qw), (1, .int cell), (2, .int step), (3, .int gone)]) hx hb dX8_pullAt_54 hl (k := 5) rfl (by decide) (by decide) rfl (fun ls hl => ?_)
            refine lv_goto (tgt := 6) hx hb dX8_pullAt_57 (by decide) ?_
            exact ih6 x51 2 ls (by omega) (by omega) (lv_sub hl [2, 3, 4, 5, 1, 0] rfl)
        · refine lv_iload hx hb dX8_pullAt_18 (lv_at hl 5 rfl) ?_
          refine lv_iload_n hx hb dX8_pullAt_20 rfl (lv_at hl 3 rfl) ?_
          refine lv_icmp_eq (tgt := 54) hx hb dX8_pullAt_21 (by decide) (fun c21 => ?_) (fun c21 => ?_)
          · have c21_ := i_eq c21
            refine lv_iinc (v := 3) (lv' := [(5, .int 3), (0, .ref qw), (1, .int cell), (2, .int step), (3, .int gone), (4, .int sum)]) hx hb dX8_pullAt_54 hl (k := 5) rfl (by decide) (by decide) rfl (fun ls hl => ?_)
            refine lv_goto (tgt := 6) hx hb dX8_pullAt_57 (by decide) ?_
            exact ih6 sum 3 ls (by omega) (by omega) (lv_sub hl [1, 2, 3, 4, 5, 0] rfl)
          · have c21_ := i_ne c21
            refine lv_iload hx hb dX8_pullAt_24 (lv_at hl 4 rfl) ?_
            refine lv_aload_n hx hb dX8_pullAt_26 rfl (lv_at hl 0 rfl) ?_
            refine va_get (D := eD E) (ci := 8) (v := .ref (ap 0)) (C := RX8) (T := TX8) (N := 2) hx hb hts in_X8 hown hK hP 0 rfl rfl 0 (by decide) lk0 (fun _ h9 => h9) rfl dX8_pullAt_27 ?_
            refine va_get (D := eD E) (ci := 1) (v := .ref (ap 6)) (C := RX1) (T := TX1) (N := 11) hx hb hts in_X1 hown hK hP 1 rfl rfl 6 (by decide) lk2 (fun _ h9 => h9) rfl dX8_pullAt_30 ?_
            refine lv_iload hx hb dX8_pullAt_33 (lv_at hl 5 rfl) ?_
            refine va_aldq hx hb hK hP 4 2 rfl rfl (i_in (by decide) (by decide)) dX8_pullAt_35 ?_
            refine W.eq (g2 := F0 m 36 ls [.ref (ap 40), .int sum]) rfl ?_
            refine lv_iload_n hx hb dX8_pullAt_36 rfl (lv_at hl 1 rfl) ?_
            refine lv_iload_n hx hb dX8_pullAt_37 rfl (lv_at hl 2 rfl) ?_
            refine lv_aload_n hx hb dX8_pullAt_38 rfl (lv_at hl 0 rfl) ?_
            refine va_get (D := eD E) (ci := 8) (v := .ref (as_ 0)) (C := RX8) (T := TX8) (N := 2) hx hb hts in_X8 hown hK hP 0 rfl rfl 1 (by decide) lk3 (fun _ h9 => h9) rfl dX8_pullAt_39 ?_
            refine va_get (D := eD E) (ci := 6) (v := .ref (as_ 1)) (C := RX6) (T := TX6) (N := 9) hx hb hts in_X6 hown hK hP 30 rfl rfl 1 (by decide) lk4 (fun _ h9 => h9) rfl dX8_pullAt_42 ?_
            refine lv_iload hx hb dX8_pullAt_45 (lv_at hl 5 rfl) ?_
            refine va_iald hx hb hK hP 31 0 rfl rfl (n := 3) (f := (vs 1)) (i_in (by omega) (by omega)) dX8_pullAt_47 ?_
            refine lv_topi (fun x47 e47 => ?_)
            have e47 : x47 = (vs 1) 2 := e47
            have b47 := hj1 2 (by decide)
            rw [← e47] at b47
            refine rd_V (As := [.int cell, .int step, .int x47]) (rest := [.int sum]) (C := RX0) (ci := 0) ⟨hx, hb, hml, hown, hts⟩ (c_X0_partAt l E A (ap 40) (ap 43) (ap 44) (vp 40 0) (vp 41 0) (vp 42 0) (vp 43) (vp 44) cell step x47 hm2 (by omega) (by omega) (by omega)) (cwV 3 hts gX8_pullAt_X0_partAt rfl rfl rfl (by decide +kernel) ⟨Nat.le_of_ble_eq_true rfl, Nat.le_of_ble_eq_true rfl⟩) hE (hP.sub (ws' := moonL E (ap 40) (ap 43) (ap 44) (vp 40 0) (vp 41 0) (vp 42 0) (vp 43) (vp 44)) [11, 12, 13] rfl) rfl rfl rfl rfl hl.1 rfl (Nat.le_of_ble_eq_true rfl) dX8_pullAt_48 ⟨Nat.zero_le _, Nat.zero_le _⟩ (fun r48 h48 => ?_)
            refine lv_iadd hx hb dX8_pullAt_51 ?_
            refine lv_topi (fun x51 e51 => ?_)
            refine lv_istore (lv' := [(4, .int x51), (0, .ref qw), (1, .int cell), (2, .int step), (3, .int gone), (5, .int 2)]) hx hb dX8_pullAt_52 hl (by decide) rfl (fun ls hl => ?_)
            refine lv_iinc (v := 3) (lv' := [(5, .int 3), (4, .int x51), (0, .ref qw), (1, .int cell), (2, .int step), (3, .int gone)]) hx hb dX8_pullAt_54 hl (k := 5) rfl (by decide) (by decide) rfl (fun ls hl => ?_)
            refine lv_goto (tgt := 6) hx hb dX8_pullAt_57 (by decide) ?_
            exact ih6 x51 3 ls (by omega) (by omega) (lv_sub hl [2, 3, 4, 5, 1, 0] rfl)
  exact K6 _ 0 0 ls (Nat.lt_succ_self _) (by omega) (lv_sub hl [2, 3, 4, 5, 1, 0] rfl)
