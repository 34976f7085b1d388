def rm_X8_pullAt : Room := { frames := 1, cells := 0, slots := 0, locals := 23 }
set_option maxHeartbeats 4000000 in
set_option maxRecDepth 100000 in
theorem c_X8_pullAt (l : Launch) (E : Ev) (A : Nat → Prop) (qw : Nat) (ap : Nat → Nat) (vp : Vf) (as_ : Nat → Nat) (vs : Vf) (cell : Int32) (step : Int32) (gone : Int32) (hI : PlanI vp) (hJ : StateI vs) (hcell : 0 ≤ cell.toInt ∧ cell.toInt ≤ 23) (hstep : 0 ≤ step.toInt ∧ step.toInt ≤ 2000000) : Met l yX8_pullAt wsX8_pullAt rm_X8_pullAt (RdP E A [.ref qw, .int cell, .int step, .int gone] (wpsL E qw ap vp as_ vs)) (vp_Si (fun r => (True) ∧ (∀ vm : Vf, RW vm vp vs → gone = vm 62 0 → cW vm cell → r = mPull vm cell step))) 0 0 (fun _ => False) := by
  refine Met.ofW (cc := cX8_pullAt) (maxL := 6) (ret := (some .int)) (by decide) rfl ?_
  intro p e s m args below meth c s₁ B hml hv
  obtain ⟨rfl, hE, hP⟩ := hv
  have hx := B.exec
  have hb := B.bytes
  have hr := B.returns
  have hts := atoms_spec (ws := wsX8_pullAt) B.pre
  have hown : s.vm.findClass RX8 = some m.cls := findClass_of_methodNamed B.named
  have hlocks := B.notSynchronized
  have hK := hE.1
  have in_X8 : ∀ w ∈ u_ws RX8 TX8 2, w ∈ wsX8_pullAt := fun w h => List.mem_cons_of_mem _ (List.mem_append_left _ (List.mem_append_left _ (List.mem_append_left _ (List.mem_append_right _ h))))
  have in_X1 : ∀ w ∈ u_ws RX1 TX1 11, w ∈ wsX8_pullAt := fun w h => List.mem_cons_of_mem _ (List.mem_append_left _ (List.mem_append_left _ (List.mem_append_right _ h)))
  have in_X6 : ∀ w ∈ u_ws RX6 TX6 9, w ∈ wsX8_pullAt := fun w h => List.mem_cons_of_mem _ (List.mem_append_left _ (List.mem_append_right _ h))
  have lk0 := hts (.fieldLink RX8 9 "TidedGround$World" "plan" "LTidedGround$Plan;") (List.mem_of_getElem? (i := 1) rfl)
  have lk1 := hts (.fieldLink RX8 19 "TidedGround$Plan" "moonCount" "I") (List.mem_of_getElem? (i := 2) rfl)
  have lk2 := hts (.fieldLink RX8 25 "TidedGround$Plan" "moons" "[LTidedGround$Moon;") (List.mem_of_getElem? (i := 3) rfl)
  have lk3 := hts (.fieldLink RX8 15 "TidedGround$World" "now" "LTidedGround$State;") (List.mem_of_getElem? (i := 4) rfl)
  have lk4 := hts (.fieldLink RX8 29 "TidedGround$State" "shifts" "[I") (List.mem_of_getElem? (i := 5) rfl)
  have n_0 : (0 : Int32).toInt = 0 := by decide
  have n_1 : (1 : Int32).toInt = 1 := by decide
  have n_2 : (2 : Int32).toInt = 2 := by decide
  have n_3 : (3 : Int32).toInt = 3 := by decide
  have hl := lv_entry ([.ref qw, .int cell, .int step, .int gone]) (n := 6) (Nat.le_of_ble_eq_true rfl)
  rw [lg_entry_eq]
  generalize (lg_sl ([.ref qw, .int cell, .int step, .int gone]) ++ List.replicate (6 - (lg_sl ([.ref qw, .int cell, .int step, .int gone])).length) Slot.unset).toArray = ls at hl ⊢
  have hl : lv_has ls 6 [(0, .ref qw), (1, .int cell), (2, .int step), (3, .int gone)] := hl
  refine W_abs (fun Q hQ => ?_)
  obtain ⟨hg, hmc, hm0, hm1, hm2, hs0, hs1, hs2, hs3⟩ := id hI
  obtain ⟨hg1, hg2, hg3, hg4⟩ := id hg
  have hz0 := hm0.1
  have hz1 := hm1.1
  have hz2 := hm2.1
  have hc0 := hs0.1
  have hc1 := hs1.1
  have hc2 := hs2.1
  have hc3 := hs3.1
  obtain ⟨hj0, hj1, hj2⟩ := id hJ
  refine lv_iconst (v := 0) hx hb dX8_pullAt_0 (by decide) ?_
  refine lv_istore (lv' := [(4, .int 0), (0, .ref qw), (1, .int cell), (2, .int step), (3, .int gone)]) hx hb dX8_pullAt_1 hl (by decide) rfl (fun ls hl => ?_)
  refine lv_iconst (v := 0) hx hb dX8_pullAt_3 (by decide) ?_
  refine lv_istore (lv' := [(5, .int 0), (4, .int 0), (0, .ref qw), (1, .int cell), (2, .int step), (3, .int gone)]) hx hb dX8_pullAt_4 hl (by decide) rfl (fun ls hl => ?_)
  have K6 : ∀ (μ : Nat) (sum : Int32) (i : Int32) (ls : Array Slot), (3 - i.toInt).toNat < μ → (0 ≤ i.toInt ∧ i.toInt ≤ 3) → (∀ vm : Vf, RW vm vp vs → gone = vm 62 0 → cW vm cell → sum = mPullN vm cell step i.toNatClampNeg) → (i.toInt ≤ (vp 5 0).toInt) → lv_has ls 6 [(0, .ref qw), (1, .int cell), (2, .int step), (3, .int gone), (4, .int sum), (5, .int i)] → W p l e (headSpec wsX8_pullAt rm_X8_pullAt).room s m ([.ref qw, .int cell, .int step, .int gone] : List Value).toArray below meth c s.heap [] 0 0 Q (F0 m 6 ls []) := by
    intro μ
    induction μ with
    | zero =>
      intro sum i ls hμ6
      exact absurd hμ6 (Nat.not_lt_zero _)
    | succ μ ih6 =>
      intro sum i ls hμ6 h6_0 h6_1 h6_2 hl
      have hx6_0 := h6_1
      clear h6_1
      have hx6_1 := h6_2
      clear h6_2
      refine lv_iload hx hb dX8_pullAt_6 (lv_at hl 5 rfl) ?_
      refine lv_aload_n hx hb dX8_pullAt_8 rfl (lv_at hl 0 rfl) ?_
      refine va_get (D := eD E) (ci := 8) (v := .ref (ap 0)) (C := RX8) (T := TX8) (N := 2) hx hb hts in_X8 hown hK hP 0 rfl rfl 0 (by decide) lk0 (fun _ h9 => h9) rfl dX8_pullAt_9 ?_
      refine va_get (D := eD E) (ci := 1) (v := .int (vp 5 0)) (C := RX1) (T := TX1) (N := 11) hx hb hts in_X1 hown hK hP 1 rfl rfl 5 (by decide) lk1 (fun _ h9 => h9) rfl dX8_pullAt_12 ?_
      refine lv_icmp_ge (tgt := 60) hx hb dX8_pullAt_15 (by decide) (fun c15 => ?_) (fun c15 => ?_)
      · have c15_ := i_le c15
        refine lv_iload hx hb dX8_pullAt_60 (lv_at hl 4 rfl) ?_
        subst hQ
        exact W.iret (v := sum) hx hb hr (fun t ht hW => ⟨sum, rfl, ⟨trivial, (fun vm hR hg hc => by unfold mPull; rw [hx6_0 vm hR hg hc, show i = vm 4 0 from i_eqr (by rw [← hR.1.2.1.1]; omega)])⟩, ht⟩) (fun q h => absurd h List.not_mem_nil) dX8_pullAt_62
      · have c15_ := i_nle c15
        rcases (show i = 0 ∨ i = 1 ∨ i = 2 from i_c3 (by omega) (by omega)) with rfl | rfl | rfl
        · refine lv_iload hx hb dX8_pullAt_18 (lv_at hl 5 rfl) ?_
          refine lv_iload_n hx hb dX8_pullAt_20 rfl (lv_at hl 3 rfl) ?_
          refine lv_icmp_eq (tgt := 54) hx hb dX8_pullAt_21 (by decide) (fun c21 => ?_) (fun c21 => ?_)
          · have c21_ := i_eq c21
            refine lv_iinc (v := 1) (lv' := [(5, .int 1), (0, .ref qw), (1, .int cell), (2, .int step), (3, .int gone), (4, .int sum)]) hx hb dX8_pullAt_54 hl (k := 5) rfl (by decide) (by decide) rfl (fun ls hl => ?_)
            refine lv_goto (tgt := 6) hx hb dX8_pullAt_57 (by decide) ?_
            exact ih6 sum 1 ls (by omega) (by omega) (fun vm hR hg hc => pull_skip (k := 0) (k2 := 1) (hx6_0 vm hR hg hc) (by decide) (by decide) c21 hg) (by omega) (lv_sub hl [1, 2, 3, 4, 5, 0] rfl)
          · have c21_ := i_ne c21
            refine lv_iload hx hb dX8_pullAt_24 (lv_at hl 4 rfl) ?_
            refine lv_aload_n hx hb dX8_pullAt_26 rfl (lv_at hl 0 rfl) ?_
            refine va_get (D := eD E) (ci := 8) (v := .ref (ap 0)) (C := RX8) (T := TX8) (N := 2) hx hb hts in_X8 hown hK hP 0 rfl rfl 0 (by decide) lk0 (fun _ h9 => h9) rfl dX8_pullAt_27 ?_
            refine va_get (D := eD E) (ci := 1) (v := .ref (ap 6)) (C := RX1) (T := TX1) (N := 11) hx hb hts in_X1 hown hK hP 1 rfl rfl 6 (by decide) lk2 (fun _ h9 => h9) rfl dX8_pullAt_30 ?_
            refine lv_iload hx hb dX8_pullAt_33 (lv_at hl 5 rfl) ?_
            refine va_aldq hx hb hK hP 4 2 rfl rfl (i_in (by decide) (by decide)) dX8_pullAt_35 ?_
            refine W.eq (g2 := F0 m 36 ls [.ref (ap 20), .int sum]) rfl ?_
            refine lv_iload_n hx hb dX8_pullAt_36 rfl (lv_at hl 1 rfl) ?_
            refine lv_iload_n hx hb dX8_pullAt_37 rfl (lv_at hl 2 rfl) ?_
            refine lv_aload_n hx hb dX8_pullAt_38 rfl (lv_at hl 0 rfl) ?_
            refine va_get (D := eD E) (ci := 8) (v := .ref (as_ 0)) (C := RX8) (T := TX8) (N := 2) hx hb hts in_X8 hown hK hP 0 rfl rfl 1 (by decide) lk3 (fun _ h9 => h9) rfl dX8_pullAt_39 ?_
            refine va_get (D := eD E) (ci := 6) (v := .ref (as_ 1)) (C := RX6) (T := TX6) (N := 9) hx hb hts in_X6 hown hK hP 30 rfl rfl 1 (by decide) lk4 (fun _ h9 => h9) rfl dX8_pullAt_42 ?_
            refine lv_iload hx hb dX8_pullAt_45 (lv_at hl 5 rfl) ?_
            refine va_iald hx hb hK hP 31 0 rfl rfl (n := 3) (f := (vs 1)) (i_in (by omega) (by omega)) dX8_pullAt_47 ?_
            refine lv_topi (fun x47 e47 => ?_)
            have e47 : x47 = (vs 1) 0 := e47
            have b47 := hj1 0 (by decide)
            rw [← e47] at b47
            refine rd_V (As := [.int cell, .int step, .int x47]) (rest := [.int sum]) (C := RX0) (ci := 0) ⟨hx, hb, hml, hown, hts⟩ (c_X0_partAt l E A (ap 20) (ap 23) (ap 24) (vp 20 0) (vp 21 0) (vp 22 0) (vp 23) (vp 24) cell step x47 hm0 (by omega) (by omega) (by omega)) (cwV 3 hts gX8_pullAt_X0_partAt rfl rfl rfl (by decide +kernel) ⟨Nat.le_of_ble_eq_true rfl, Nat.le_of_ble_eq_true rfl⟩) hE (hP.sub (ws' := moonL E (ap 20) (ap 23) (ap 24) (vp 20 0) (vp 21 0) (vp 22 0) (vp 23) (vp 24)) [5, 6, 7] rfl) rfl rfl rfl rfl hl.1 rfl (Nat.le_of_ble_eq_true rfl) dX8_pullAt_48 ⟨Nat.zero_le _, Nat.zero_le _⟩ (fun r48 h48 => ?_)
            have hf48 := h48.2
            replace h48 := h48.1
            refine lv_iadd hx hb dX8_pullAt_51 ?_
            refine lv_topi (fun x51 e51 => ?_)
            refine lv_istore (lv' := [(4, .int x51), (0, .ref qw), (1, .int cell), (2, .int step), (3, .int gone), (5, .int 0)]) hx hb dX8_pullAt_52 hl (by decide) rfl (fun ls hl => ?_)
            refine lv_iinc (v := 1) (lv' := [(5, .int 1), (4, .int x51), (0, .ref qw), (1, .int cell), (2, .int step), (3, .int gone)]) hx hb dX8_pullAt_54 hl (k := 5) rfl (by decide) (by decide) rfl (fun ls hl => ?_)
            refine lv_goto (tgt := 6) hx hb dX8_pullAt_57 (by decide) ?_
            exact ih6 x51 1 ls (by omega) (by omega) (fun vm hR hg hc => mPull_next (i := 0) (i2 := 1) (hx6_0 vm hR hg hc) (by decide) (by decide) (part_cls (m := 0) hR hR.1.2.1.2.1 (by have q := hR.1.2.1.1; rw [← q]; omega) (by decide) hcell hc.2 hstep (by rw [← hg]; exact c21) (by rw [hf48, e47])) e51) (by omega) (lv_sub hl [2, 3, 4, 5, 1, 0] rfl)
        · refine lv_iload hx hb dX8_pullAt_18 (lv_at hl 5 rfl) ?_
          refine lv_iload_n hx hb dX8_pullAt_20 rfl (lv_at hl 3 rfl) ?_
          refine lv_icmp_eq (tgt := 54) hx hb dX8_pullAt_21 (by decide) (fun c21 => ?_) (fun c21 => ?_)
          · have c21_ := i_eq c21
            refine lv_iinc (v := 2) (lv' := [(5, .int 2), (0, .ref qw), (1, .int cell), (2, .int step), (3, .int gone), (4, .int sum)]) hx hb dX8_pullAt_54 hl (k := 5) rfl (by decide) (by decide) rfl (fun ls hl => ?_)
            refine lv_goto (tgt := 6) hx hb dX8_pullAt_57 (by decide) ?_
            exact ih6 sum 2 ls (by omega) (by omega) (fun vm hR hg hc => pull_skip (k := 1) (k2 := 2) (hx6_0 vm hR hg hc) (by decide) (by decide) c21 hg) (by omega) (lv_sub hl [1, 2, 3, 4, 5, 0] rfl)
          · have c21_ := i_ne c21
            refine lv_iload hx hb dX8_pullAt_24 (lv_at hl 4 rfl) ?_
            refine lv_aload_n hx hb dX8_pullAt_26 rfl (lv_at hl 0 rfl) ?_
            refine va_get (D := eD E) (ci := 8) (v := .ref (ap 0)) (C := RX8) (T := TX8) (N := 2) hx hb hts in_X8 hown hK hP 0 rfl rfl 0 (by decide) lk0 (fun _ h9 => h9) rfl dX8_pullAt_27 ?_
            refine va_get (D := eD E) (ci := 1) (v := .ref (ap 6)) (C := RX1) (T := TX1) (N := 11) hx hb hts in_X1 hown hK hP 1 rfl rfl 6 (by decide) lk2 (fun _ h9 => h9) rfl dX8_pullAt_30 ?_
            refine lv_iload hx hb dX8_pullAt_33 (lv_at hl 5 rfl) ?_
            refine va_aldq hx hb hK hP 4 2 rfl rfl (i_in (by decide) (by decide)) dX8_pullAt_35 ?_
            refine W.eq (g2 := F0 m 36 ls [.ref (ap 30), .int sum]) rfl ?_
            refine lv_iload_n hx hb dX8_pullAt_36 rfl (lv_at hl 1 rfl) ?_
            refine lv_iload_n hx hb dX8_pullAt_37 rfl (lv_at hl 2 rfl) ?_
            refine lv_aload_n hx hb dX8_pullAt_38 rfl (lv_at hl 0 rfl) ?_
            refine va_get (D := eD E) (ci := 8) (v := .ref (as_ 0)) (C := RX8) (T := TX8) (N := 2) hx hb hts in_X8 hown hK hP 0 rfl rfl 1 (by decide) lk3 (fun _ h9 => h9) rfl dX8_pullAt_39 ?_
            refine va_get (D := eD E) (ci := 6) (v := .ref (as_ 1)) (C := RX6) (T := TX6) (N := 9) hx hb hts in_X6 hown hK hP 30 rfl rfl 1 (by decide) lk4 (fun _ h9 => h9) rfl dX8_pullAt_42 ?_
            refine lv_iload hx hb dX8_pullAt_45 (lv_at hl 5 rfl) ?_
            refine va_iald hx hb hK hP 31 0 rfl rfl (n := 3) (f := (vs 1)) (i_in (by omega) (by omega)) dX8_pullAt_47 ?_
            refine lv_topi (fun x47 e47 => ?_)
            have e47 : x47 = (vs 1) 1 := e47
            have b47 := hj1 1 (by decide)
            rw [← e47] at b47
            refine rd_V (As := [.int cell, .int step, .int x47]) (rest := [.int sum]) (C := RX0) (ci := 0) ⟨hx, hb, hml, hown, hts⟩ (c_X0_partAt l E A (ap 30) (ap 33) (ap 34) (vp 30 0) (vp 31 0) (vp 32 0) (vp 33) (vp 34) cell step x47 hm1 (by omega) (by omega) (by omega)) (cwV 3 hts gX8_pullAt_X0_partAt rfl rfl rfl (by decide +kernel) ⟨Nat.le_of_ble_eq_true rfl, Nat.le_of_ble_eq_true rfl⟩) hE (hP.sub (ws' := moonL E (ap 30) (ap 33) (ap 34) (vp 30 0) (vp 31 0) (vp 32 0) (vp 33) (vp 34)) [8, 9, 10] rfl) rfl rfl rfl rfl hl.1 rfl (Nat.le_of_ble_eq_true rfl) dX8_pullAt_48 ⟨Nat.zero_le _, Nat.zero_le _⟩ (fun r48 h48 => ?_)
            have hf48 := h48.2
            replace h48 := h48.1
            refine lv_iadd hx hb dX8_pullAt_51 ?_
            refine lv_topi (fun x51 e51 => ?_)
            refine lv_istore (lv' := [(4, .int x51), (0, .ref qw), (1, .int cell), (2, .int step), (3, .int gone), (5, .int 1)]) hx hb dX8_pullAt_52 hl (by decide) rfl (fun ls hl => ?_)
            refine lv_iinc (v := 2) (lv' := [(5, .int 2), (4, .int x51), (0, .ref qw), (1, .int cell), (2, .int step), (3, .int gone)]) hx hb dX8_pullAt_54 hl (k := 5) rfl (by decide) (by decide) rfl (fun ls hl => ?_)
            refine lv_goto (tgt := 6) hx hb dX8_pullAt_57 (by decide) ?_
            exact ih6 x51 2 ls (by omega) (by omega) (fun vm hR hg hc => mPull_next (i := 1) (i2 := 2) (hx6_0 vm hR hg hc) (by decide) (by decide) (part_cls (m := 1) hR hR.1.2.1.2.2.1 (by have q := hR.1.2.1.1; rw [← q]; omega) (by decide) hcell hc.2 hstep (by rw [← hg]; exact c21) (by rw [hf48, e47])) e51) (by omega) (lv_sub hl [2, 3, 4, 5, 1, 0] rfl)
        · refine lv_iload hx hb dX8_pullAt_18 (lv_at hl 5 rfl) ?_
          refine lv_iload_n hx hb dX8_pullAt_20 rfl (lv_at hl 3 rfl) ?_
          refine lv_icmp_eq (tgt := 54) hx hb dX8_pullAt_21 (by decide) (fun c21 => ?_) (fun c21 => ?_)
          · have c21_ := i_eq c21
            refine lv_iinc (v := 3) (lv' := [(5, .int 3), (0, .ref qw), (1, .int cell), (2, .int step), (3, .int gone), (4, .int sum)]) hx hb dX8_pullAt_54 hl (k := 5) rfl (by decide) (by decide) rfl (fun ls hl => ?_)
            refine lv_goto (tgt := 6) hx hb dX8_pullAt_57 (by decide) ?_
            exact ih6 sum 3 ls (by omega) (by omega) (fun vm hR hg hc => pull_skip (k := 2) (k2 := 3) (hx6_0 vm hR hg hc) (by decide) (by decide) c21 hg) (by omega) (lv_sub hl [1, 2, 3, 4, 5, 0] rfl)
          · have c21_ := i_ne c21
            refine lv_iload hx hb dX8_pullAt_24 (lv_at hl 4 rfl) ?_
            refine lv_aload_n hx hb dX8_pullAt_26 rfl (lv_at hl 0 rfl) ?_
            refine va_get (D := eD E) (ci := 8) (v := .ref (ap 0)) (C := RX8) (T := TX8) (N := 2) hx hb hts in_X8 hown hK hP 0 rfl rfl 0 (by decide) lk0 (fun _ h9 => h9) rfl dX8_pullAt_27 ?_
            refine va_get (D := eD E) (ci := 1) (v := .ref (ap 6)) (C := RX1) (T := TX1) (N := 11) hx hb hts in_X1 hown hK hP 1 rfl rfl 6 (by decide) lk2 (fun _ h9 => h9) rfl dX8_pullAt_30 ?_
            refine lv_iload hx hb dX8_pullAt_33 (lv_at hl 5 rfl) ?_
            refine va_aldq hx hb hK hP 4 2 rfl rfl (i_in (by decide) (by decide)) dX8_pullAt_35 ?_
            refine W.eq (g2 := F0 m 36 ls [.ref (ap 40), .int sum]) rfl ?_
            refine lv_iload_n hx hb dX8_pullAt_36 rfl (lv_at hl 1 rfl) ?_
            refine lv_iload_n hx hb dX8_pullAt_37 rfl (lv_at hl 2 rfl) ?_
            refine lv_aload_n hx hb dX8_pullAt_38 rfl (lv_at hl 0 rfl) ?_
            refine va_get (D := eD E) (ci := 8) (v := .ref (as_ 0)) (C := RX8) (T := TX8) (N := 2) hx hb hts in_X8 hown hK hP 0 rfl rfl 1 (by decide) lk3 (fun _ h9 => h9) rfl dX8_pullAt_39 ?_
            refine va_get (D := eD E) (ci := 6) (v := .ref (as_ 1)) (C := RX6) (T := TX6) (N := 9) hx hb hts in_X6 hown hK hP 30 rfl rfl 1 (by decide) lk4 (fun _ h9 => h9) rfl dX8_pullAt_42 ?_
            refine lv_iload hx hb dX8_pullAt_45 (lv_at hl 5 rfl) ?_
            refine va_iald hx hb hK hP 31 0 rfl rfl (n := 3) (f := (vs 1)) (i_in (by omega) (by omega)) dX8_pullAt_47 ?_
            refine lv_topi (fun x47 e47 => ?_)
            have e47 : x47 = (vs 1) 2 := e47
            have b47 := hj1 2 (by decide)
            rw [← e47] at b47
            refine rd_V (As := [.int cell, .int step, .int x47]) (rest := [.int sum]) (C := RX0) (ci := 0) ⟨hx, hb, hml, hown, hts⟩ (c_X0_partAt l E A (ap 40) (ap 43) (ap 44) (vp 40 0) (vp 41 0) (vp 42 0) (vp 43) (vp 44) cell step x47 hm2 (by omega) (by omega) (by omega)) (cwV 3 hts gX8_pullAt_X0_partAt rfl rfl rfl (by decide +kernel) ⟨Nat.le_of_ble_eq_true rfl, Nat.le_of_ble_eq_true rfl⟩) hE (hP.sub (ws' := moonL E (ap 40) (ap 43) (ap 44) (vp 40 0) (vp 41 0) (vp 42 0) (vp 43) (vp 44)) [11, 12, 13] rfl) rfl rfl rfl rfl hl.1 rfl (Nat.le_of_ble_eq_true rfl) dX8_pullAt_48 ⟨Nat.zero_le _, Nat.zero_le _⟩ (fun r48 h48 => ?_)
            have hf48 := h48.2
            replace h48 := h48.1
            refine lv_iadd hx hb dX8_pullAt_51 ?_
            refine lv_topi (fun x51 e51 => ?_)
            refine lv_istore (lv' := [(4, .int x51), (0, .ref qw), (1, .int cell), (2, .int step), (3, .int gone), (5, .int 2)]) hx hb dX8_pullAt_52 hl (by decide) rfl (fun ls hl => ?_)
            refine lv_iinc (v := 3) (lv' := [(5, .int 3), (4, .int x51), (0, .ref qw), (1, .int cell), (2, .int step), (3, .int gone)]) hx hb dX8_pullAt_54 hl (k := 5) rfl (by decide) (by decide) rfl (fun ls hl => ?_)
            refine lv_goto (tgt := 6) hx hb dX8_pullAt_57 (by decide) ?_
            exact ih6 x51 3 ls (by omega) (by omega) (fun vm hR hg hc => mPull_next (i := 2) (i2 := 3) (hx6_0 vm hR hg hc) (by decide) (by decide) (part_cls (m := 2) hR hR.1.2.1.2.2.2 (by have q := hR.1.2.1.1; rw [← q]; omega) (by decide) hcell hc.2 hstep (by rw [← hg]; exact c21) (by rw [hf48, e47])) e51) (by omega) (lv_sub hl [2, 3, 4, 5, 1, 0] rfl)
  exact K6 _ 0 0 ls (Nat.lt_succ_self _) (by omega) (fun _ _ _ _ => rfl) (by omega) (lv_sub hl [2, 3, 4, 5, 1, 0] rfl)
def rm_X8_stiffOf : Room := { frames := 1, cells := 0, slots := 0, locals := 21 }
set_option maxHeartbeats 4000000 in
set_option maxRecDepth 100000 in
theorem c_X8_stiffOf (l : Launch) (E : Ev) (A : Nat → Prop) (qw : Nat) (ap : Nat → Nat) (vp : Vf) (as_ : Nat → Nat) (vs : Vf) (cell : Int32) (hI : PlanI vp) (hJ : StateI vs) (hcell : 0 ≤ cell.toInt ∧ cell.toInt ≤ 23) : Met l yX8_stiffOf wsX8_stiffOf rm_X8_stiffOf (RdP E A [.ref qw, .int cell] (wpsL E qw ap vp as_ vs)) (vp_Si (fun r => (True) ∧ (∀ vm : Vf, RW vm vp vs → cW vm cell → r = mStiff vm cell))) 0 0 (fun _ => False) := by
  refine Met.ofW (cc := cX8_stiffOf) (maxL := 2) (ret := (some .int)) (by decide) rfl ?_
  intro p e s m args below meth c s₁ B hml hv
  obtain ⟨rfl, hE, hP⟩ := hv
  have hx := B.exec
  have hb := B.bytes
  have hr := B.returns
  have hts := atoms_spec (ws := wsX8_stiffOf) B.pre
  have hown : s.vm.findClass RX8 = some m.cls := findClass_of_methodNamed B.named
  have hlocks := B.notSynchronized
  have hK := hE.1
  have in_X8 : ∀ w ∈ u_ws RX8 TX8 2, w ∈ wsX8_stiffOf := fun w h => List.mem_cons_of_mem _ (List.mem_append_left _ (List.mem_append_left _ (List.mem_append_right _ h)))
  have in_X1 : ∀ w ∈ u_ws RX1 TX1 11, w ∈ wsX8_stiffOf := fun w h => List.mem_cons_of_mem _ (List.mem_append_left _ (List.mem_append_right _ h))
  have in_X6 : ∀ w ∈ u_ws RX6 TX6 9, w ∈ wsX8_stiffOf := fun w h => List.mem_cons_of_mem _ (List.mem_append_right _ h)
  have lk0 := hts (.fieldLink RX8 9 "TidedGround$World" "plan" "LTidedGround$Plan;") (List.mem_of_getElem? (i := 1) rfl)
  have lk1 := hts (.fieldLink RX8 41 "TidedGround$Plan" "softness" "[I") (List.mem_of_getElem? (i := 2) rfl)
  have lk2 := hts (.fieldLink RX8 15 "TidedGround$World" "now" "LTidedGround$State;") (List.mem_of_getElem? (i := 3) rfl)
  have lk3 := hts (.fieldLink RX8 44 "TidedGround$State" "loads" "[I") (List.mem_of_getElem? (i := 4) rfl)
  have lk4 := hts (.methodLink RX8 47 Lib.Math.max.name) (List.mem_of_getElem? (i := 5) rfl)
  have lk5 := hts (.static Lib.Math.max.name) (List.mem_of_getElem? (i := 6) rfl)
  have lk6 := hts (.initialized "java/lang/Math") (List.mem_of_getElem? (i := 7) rfl)
  have lk7 := hts (.code Lib.Math.max.name Lib.Math.max.code 2 (some .int)) (List.mem_of_getElem? (i := 8) rfl)
  have n_0 : (0 : Int32).toInt = 0 := by decide
  have n_10 : (10 : Int32).toInt = 10 := by decide
  have hl := lv_entry ([.ref qw, .int cell]) (n := 2) (Nat.le_of_ble_eq_true rfl)
  rw [lg_entry_eq]
  generalize (lg_sl ([.ref qw, .int cell]) ++ List.replicate (2 - (lg_sl ([.ref qw, .int cell])).length) Slot.unset).toArray = ls at hl ⊢
  have hl : lv_has ls 2 [(0, .ref qw), (1, .int cell)] := hl
  refine W_abs (fun Q hQ => ?_)
  obtain ⟨hg, hmc, hm0, hm1, hm2, hs0, hs1, hs2, hs3⟩ := id hI
  obtain ⟨hg1, hg2, hg3, hg4⟩ := id hg
  have hz0 := hm0.1
  have hz1 := hm1.1
  have hz2 := hm2.1
  have hc0 := hs0.1
  have hc1 := hs1.1
  have hc2 := hs2.1
  have hc3 := hs3.1
  obtain ⟨hj0, hj1, hj2⟩ := id hJ
  refine lv_iconst (v := 0) hx hb dX8_stiffOf_0 (by decide) ?_
  refine lv_aload_n hx hb dX8_stiffOf_1 rfl (lv_at hl 0 rfl) ?_
  refine va_get (D := eD E) (ci := 8) (v := .ref (ap 0)) (C := RX8) (T := TX8) (N := 2) hx hb hts in_X8 hown hK hP 0 rfl rfl 0 (by decide) lk0 (fun _ h9 => h9) rfl dX8_stiffOf_2 ?_
  refine va_get (D := eD E) (ci := 1) (v := .ref (ap 4)) (C := RX1) (T := TX1) (N := 11) hx hb hts in_X1 hown hK hP 1 rfl rfl 4 (by decide) lk1 (fun _ h9 => h9) rfl dX8_stiffOf_5 ?_
  refine lv_iload_n hx hb dX8_stiffOf_8 rfl (lv_at hl 1 rfl) ?_
  refine va_iald hx hb hK hP 3 0 rfl rfl (n := 24) (f := (vp 4)) (i_in (by omega) (by omega)) dX8_stiffOf_9 ?_
  refine lv_topi (fun x9 e9 => ?_)
  refine lv_aload_n hx hb dX8_stiffOf_10 rfl (lv_at hl 0 rfl) ?_
  refine va_get (D := eD E) (ci := 8) (v := .ref (as_ 0)) (C := RX8) (T := TX8) (N := 2) hx hb hts in_X8 hown hK hP 0 rfl rfl 1 (by decide) lk2 (fun _ h9 => h9) rfl dX8_stiffOf_11 ?_
  refine va_get (D := eD E) (ci := 6) (v := .ref (as_ 2)) (C := RX6) (T := TX6) (N := 9) hx hb hts in_X6 hown hK hP 30 rfl rfl 2 (by decide) lk3 (fun _ h9 => h9) rfl dX8_stiffOf_14 ?_
  refine lv_iload_n hx hb dX8_stiffOf_17 rfl (lv_at hl 1 rfl) ?_
  refine va_iald hx hb hK hP 32 0 rfl rfl (n := 24) (f := (vs 2)) (i_in (by omega) (by omega)) dX8_stiffOf_18 ?_
  refine lv_topi (fun x18 e18 => ?_)
  refine lv_bipush (v := 10) hx hb dX8_stiffOf_19 (by decide) ?_
  refine lv_idiv hx hb dX8_stiffOf_21 (by decide) ?_
  refine lv_topi (fun x21 e21 => ?_)
  refine lv_isub hx hb dX8_stiffOf_22 ?_
  refine lv_topi (fun x22 e22 => ?_)
  refine va_mmax hx hb (hml.trans hl.1.symm) hown lk4 lk5 lk6 lk7 (Nat.le_of_ble_eq_true rfl) (Nat.le_of_ble_eq_true rfl) (Nat.zero_le _) (Nat.zero_le _) dX8_stiffOf_23 ?_
  refine lv_topi (fun x23 e23 => ?_)
  have t23 := i_max e23
  subst hQ
  exact W.iret (v := x23) hx hb hr (fun t ht hW => ⟨x23, rfl, ⟨trivial, (fun vm hR hc => by have q1 := (hR.1.1.2.2 cell.toNatClampNeg (by rw [i_nat hcell.1]; exact hc.2)).2; have q2 := hR.2.1.2.2.1 cell.toNatClampNeg (i_natlt (by omega) (by decide)); unfold mStiff; rw [← q1, ← q2, ← e9, ← e18, ← e21, ← e22, e23]; exact stiff_eq)⟩, ht⟩) (fun q h => absurd h List.not_mem_nil) dX8_stiffOf_26
def rm_X8_heightAt : Room := { frames := 2, cells := 0, slots := 0, locals := 48 }
set_option maxHeartbeats 4000000 in
set_option maxRecDepth 100000 in
theorem c_X8_heightAt (l : Launch) (E : Ev) (A : Nat → Prop) (qw : Nat) (ap : Nat → Nat) (vp : Vf) (as_ : Nat → Nat) (vs : Vf) (cell : Int32) (step : Int32) (gone : Int32) (hI : PlanI vp) (hJ : StateI vs) (hcell : 0 ≤ cell.toInt ∧ cell.toInt ≤ 23) (hstep : 0 ≤ step.toInt ∧ step.toInt ≤ 2000000) : Met l yX8_heightAt wsX8_heightAt rm_X8_heightAt (RdP E A [.ref qw, .int cell, .int step, .int gone] (wpsL E qw ap vp as_ vs)) (vp_Si (fun r => (True) ∧ (∀ vm : Vf, RW vm vp vs → gone = vm 62 0 → cW vm cell → r = mH vm cell step))) 0 0 (fun _ => False) := by
  refine Met.ofW (cc := cX8_heightAt) (maxL := 4) (ret := (some .int)) (by decide) rfl ?_
  intro p e s m args below meth c s₁ B hml hv
  obtain ⟨rfl, hE, hP⟩ := hv
  have hx := B.exec
  have hb := B.bytes
  have hr := B.returns
  have hts := atoms_spec (ws := wsX8_heightAt) B.pre
  have hown : s.vm.findClass RX8 = some m.cls := findClass_of_methodNamed B.named
  have hlocks := B.notSynchronized
  have hK := hE.1
  have in_X8 : ∀ w ∈ u_ws RX8 TX8 2, w ∈ wsX8_heightAt := fun w h => List.mem_cons_of_mem _ (List.mem_append_left _ (List.mem_append_left _ (List.mem_append_left _ (List.mem_append_right _ h))))
  have in_X1 : ∀ w ∈ u_ws RX1 TX1 11, w ∈ wsX8_heightAt := fun w h => List.mem_cons_of_mem _ (List.mem_append_left _ (List.mem_append_left _ (List.mem_append_right _ h)))
  have lk0 := hts (.fieldLink RX8 9 "TidedGround$World" "plan" "LTidedGround$Plan;") (List.mem_of_getElem? (i := 1) rfl)
  have lk1 := hts (.fieldLink RX8 53 "TidedGround$Plan" "base" "[I") (List.mem_of_getElem? (i := 2) rfl)
  have hl := lv_entry ([.ref qw, .int cell, .int step, .int gone]) (n := 4) (Nat.le_of_ble_eq_true rfl)
  rw [lg_entry_eq]
  generalize (lg_sl ([.ref qw, .int cell, .int step, .int gone]) ++ List.replicate (4 - (lg_sl ([.ref qw, .int cell, .int step, .int gone])).length) Slot.unset).toArray = ls at hl ⊢
  have hl : lv_has ls 4 [(0, .ref qw), (1, .int cell), (2, .int step), (3, .int gone)] := hl
  refine W_abs (fun Q hQ => ?_)
  obtain ⟨hg, hmc, hm0, hm1, hm2, hs0, hs1, hs2, hs3⟩ := id hI
  obtain ⟨hg1, hg2, hg3, hg4⟩ := id hg
  have hz0 := hm0.1
  have hz1 := hm1.1
  have hz2 := hm2.1
  have hc0 := hs0.1
  have hc1 := hs1.1
  have hc2 := hs2.1
  have hc3 := hs3.1
  obtain ⟨hj0, hj1, hj2⟩ := id hJ
  refine lv_aload_n hx hb dX8_heightAt_0 rfl (lv_at hl 0 rfl) ?_
  refine va_get (D := eD E) (ci := 8) (v := .ref (ap 0)) (C := RX8) (T := TX8) (N := 2) hx hb hts in_X8 hown hK hP 0 rfl rfl 0 (by decide) lk0 (fun _ h9 => h9) rfl dX8_heightAt_1 ?_
  refine va_get (D := eD E) (ci := 1) (v := .ref (ap 3)) (C := RX1) (T := TX1) (N := 11) hx hb hts in_X1 hown hK hP 1 rfl rfl 3 (by decide) lk1 (fun _ h9 => h9) rfl dX8_heightAt_4 ?_
  refine lv_iload_n hx hb dX8_heightAt_7 rfl (lv_at hl 1 rfl) ?_
  refine va_iald hx hb hK hP 2 0 rfl rfl (n := 24) (f := (vp 3)) (i_in (by omega) (by omega)) dX8_heightAt_8 ?_
  refine lv_topi (fun x8 e8 => ?_)
  refine lv_aload_n hx hb dX8_heightAt_9 rfl (lv_at hl 0 rfl) ?_
  refine lv_iload_n hx hb dX8_heightAt_10 rfl (lv_at hl 1 rfl) ?_
  refine rd_V (As := [.int cell]) (rest := [.int x8]) (C := RX8) (ci := 8) ⟨hx, hb, hml, hown, hts⟩ (c_X8_stiffOf l E A qw ap vp as_ vs cell hI hJ (by omega)) (cwV 1 hts gX8_heightAt_X8_stiffOf rfl rfl rfl (by decide +kernel) ⟨Nat.le_of_ble_eq_true rfl, Nat.le_of_ble_eq_true rfl⟩) hE (hP.sub (ws' := wpsL E qw ap vp as_ vs) [0, 1, 2, 3, 4, 5, 6, 7, 8, 9, 10, 11, 12, 13, 14, 15, 16, 17, 18, 19, 20, 21, 22, 23, 24, 25, 26, 27, 28, 29, 30, 31, 32, 33] rfl) rfl rfl rfl rfl hl.1 rfl (Nat.le_of_ble_eq_true rfl) dX8_heightAt_11 ⟨Nat.zero_le _, Nat.zero_le _⟩ (fun r11 h11 => ?_)
  have hf11 := h11.2
  replace h11 := h11.1
  refine lv_aload_n hx hb dX8_heightAt_14 rfl (lv_at hl 0 rfl) ?_
  refine lv_iload_n hx hb dX8_heightAt_15 rfl (lv_at hl 1 rfl) ?_
  refine lv_iload_n hx hb dX8_heightAt_16 rfl (lv_at hl 2 rfl) ?_
  refine lv_iload_n hx hb dX8_heightAt_17 rfl (lv_at hl 3 rfl) ?_
  refine rd_V (As := [.int cell, .int step, .int gone]) (rest := [.int r11, .int x8]) (C := RX8) (ci := 8) ⟨hx, hb, hml, hown, hts⟩ (c_X8_pullAt l E A qw ap vp as_ vs cell step gone hI hJ (by omega) (by omega)) (cwV 3 hts gX8_heightAt_X8_pullAt rfl rfl rfl (by decide +kernel) ⟨Nat.le_of_ble_eq_true rfl, Nat.le_of_ble_eq_true rfl⟩) hE (hP.sub (ws' := wpsL E qw ap vp as_ vs) [0, 1, 2, 3, 4, 5, 6, 7, 8, 9, 10, 11, 12, 13, 14, 15, 16, 17, 18, 19, 20, 21, 22, 23, 24, 25, 26, 27, 28, 29, 30, 31, 32, 33] rfl) rfl rfl rfl rfl hl.1 rfl (Nat.le_of_ble_eq_true rfl) dX8_heightAt_18 ⟨Nat.zero_le _, Nat.zero_le _⟩ (fun r18 h18 => ?_)
  have hf18 := h18.2
  replace h18 := h18.1
  refine lv_imul hx hb dX8_heightAt_21 ?_
  refine lv_topi (fun x21 e21 => ?_)
  refine lv_iadd hx hb dX8_heightAt_22 ?_
  refine lv_topi (fun x22 e22 => ?_)
  subst hQ
  exact W.iret (v := x22) hx hb hr (fun t ht hW => ⟨x22, rfl, ⟨trivial, (fun vm hR hg hc => by have q1 := (hR.1.1.2.2 cell.toNatClampNeg (by rw [i_nat hcell.1]; exact hc.2)).1; unfold mH; rw [← hf11 vm hR hc, ← hf18 vm hR hg hc, ← q1, ← e8, ← e21, ← e22])⟩, ht⟩) (fun q h => absurd h List.not_mem_nil) dX8_heightAt_23
def rm_X8_leanAt : Room := { frames := 3, cells := 0, slots := 0, locals := 71 }
set_option maxHeartbeats 4000000 in
set_option maxRecDepth 100000 in
theorem c_X8_leanAt (l : Launch) (E : Ev) (A : Nat → Prop) (qw : Nat) (ap : Nat → Nat) (vp : Vf) (as_ : Nat → Nat) (vs : Vf) (cell : Int32) (step : Int32) (gone : Int32) (hI : PlanI vp) (hJ : StateI vs) (hcell : 0 ≤ cell.toInt ∧ cell.toInt ≤ 23) (hstep : 0 ≤ step.toInt ∧ step.toInt ≤ 2000000) : Met l yX8_leanAt wsX8_leanAt rm_X8_leanAt (RdP E A [.ref qw, .int cell, .int step, .int gone] (wpsL E qw ap vp as_ vs)) (vp_Si (fun r => (True) ∧ (∀ vm : Vf, RW vm vp vs → gone = vm 62 0 → cW vm cell → r = mLean vm cell step))) 0 0 (fun _ => False) := by
  refine Met.ofW (cc := cX8_leanAt) (maxL := 8) (ret := (some .int)) (by decide) rfl ?_
  intro p e s m args below meth c s₁ B hml hv
  obtain ⟨rfl, hE, hP⟩ := hv
  have hx := B.exec
  have hb := B.bytes
  have hr := B.returns
  have hts := atoms_spec (ws := wsX8_leanAt) B.pre
  have hown : s.vm.findClass RX8 = some m.cls := findClass_of_methodNamed B.named
  have hlocks := B.notSynchronized
  have hK := hE.1
  have in_X8 : ∀ w ∈ u_ws RX8 TX8 2, w ∈ wsX8_leanAt := fun w h => List.mem_cons_of_mem _ (List.mem_append_left _ (List.mem_append_left _ (List.mem_append_left _ (List.mem_append_right _ h))))
  have lk0 := hts (.fieldLink RX8 9 "TidedGround$World" "plan" "LTidedGround$Plan;") (List.mem_of_getElem? (i := 1) rfl)
  have lk1 := hts (.methodLink RX8 69 Lib.Math.abs.name) (List.mem_of_getElem? (i := 2) rfl)
  have lk2 := hts (.static Lib.Math.abs.name) (List.mem_of_getElem? (i := 3) rfl)
  have lk3 := hts (.initialized "java/lang/Math") (List.mem_of_getElem? (i := 4) rfl)
  have lk4 := hts (.code Lib.Math.abs.name Lib.Math.abs.code 1 (some .int)) (List.mem_of_getElem? (i := 5) rfl)
  have lk5 := hts (.methodLink RX8 47 Lib.Math.max.name) (List.mem_of_getElem? (i := 6) rfl)
  have lk6 := hts (.static Lib.Math.max.name) (List.mem_of_getElem? (i := 7) rfl)
  have lk7 := hts (.code Lib.Math.max.name Lib.Math.max.code 2 (some .int)) (List.mem_of_getElem? (i := 8) rfl)
  have n_m1 : ((-1) : Int32).toInt = -1 := by decide
  have n_0 : (0 : Int32).toInt = 0 := by decide
  have n_1 : (1 : Int32).toInt = 1 := by decide
  have n_5 : (5 : Int32).toInt = 5 := by decide
  have hl := lv_entry ([.ref qw, .int cell, .int step, .int gone]) (n := 8) (Nat.le_of_ble_eq_true rfl)
  rw [lg_entry_eq]
  generalize (lg_sl ([.ref qw, .int cell, .int step, .int gone]) ++ List.replicate (8 - (lg_sl ([.ref qw, .int cell, .int step, .int gone])).length) Slot.unset).toArray = ls at hl ⊢
  have hl : lv_has ls 8 [(0, .ref qw), (1, .int cell), (2, .int step), (3, .int gone)] := hl
  refine W_abs (fun Q hQ => ?_)
  obtain ⟨hg, hmc, hm0, hm1, hm2, hs0, hs1, hs2, hs3⟩ := id hI
  obtain ⟨hg1, hg2, hg3, hg4⟩ := id hg
  have hz0 := hm0.1
  have hz1 := hm1.1
  have hz2 := hm2.1
  have hc0 := hs0.1
  have hc1 := hs1.1
  have hc2 := hs2.1
  have hc3 := hs3.1
  obtain ⟨hj0, hj1, hj2⟩ := id hJ
  refine lv_aload_n hx hb dX8_leanAt_0 rfl (lv_at hl 0 rfl) ?_
  refine lv_iload_n hx hb dX8_leanAt_1 rfl (lv_at hl 1 rfl) ?_
  refine lv_iload_n hx hb dX8_leanAt_2 rfl (lv_at hl 2 rfl) ?_
  refine lv_iload_n hx hb dX8_leanAt_3 rfl (lv_at hl 3 rfl) ?_
  refine rd_V (As := [.int cell, .int step, .int gone]) (rest := []) (C := RX8) (ci := 8) ⟨hx, hb, hml, hown, hts⟩ (c_X8_heightAt l E A qw ap vp as_ vs cell step gone hI hJ (by omega) (by omega)) (cwV 3 hts gX8_leanAt_X8_heightAt rfl rfl rfl (by decide +kernel) ⟨Nat.le_of_ble_eq_true rfl, Nat.le_of_ble_eq_true rfl⟩) hE (hP.sub (ws' := wpsL E qw ap vp as_ vs) [0, 1, 2, 3, 4, 5, 6, 7, 8, 9, 10, 11, 12, 13, 14, 15, 16, 17, 18, 19, 20, 21, 22, 23, 24, 25, 26, 27, 28, 29, 30, 31, 32, 33] rfl) rfl rfl rfl rfl hl.1 rfl (Nat.le_of_ble_eq_true rfl) dX8_leanAt_4 ⟨Nat.zero_le _, Nat.zero_le _⟩ (fun r4 h4 => ?_)
  have hf4 := h4.2
  replace h4 := h4.1
  refine lv_istore (lv' := [(4, .int r4), (0, .ref qw), (1, .int cell), (2, .int step), (3, .int gone)]) hx hb dX8_leanAt_7 hl (by decide) rfl (fun ls hl => ?_)
  refine lv_iconst (v := 0) hx hb dX8_leanAt_9 (by decide) ?_
  refine lv_istore (lv' := [(5, .int 0), (4, .int r4), (0, .ref qw), (1, .int cell), (2, .int step), (3, .int gone)]) hx hb dX8_leanAt_10 hl (by decide) rfl (fun ls hl => ?_)
  refine lv_iconst (v := 1) hx hb dX8_leanAt_12 (by decide) ?_
  refine lv_istore (lv' := [(6, .int 1), (5, .int 0), (4, .int r4), (0, .ref qw), (1, .int cell), (2, .int step), (3, .int gone)]) hx hb dX8_leanAt_13 hl (by decide) rfl (fun ls hl => ?_)
  have K15 : ∀ (μ : Nat) (lean : Int32) (way : Int32) (ls : Array Slot), (5 - way.toInt).toNat < μ → (0 ≤ way.toInt ∧ way.toInt ≤ 5) → (∀ vm : Vf, RW vm vp vs → gone = vm 62 0 → cW vm cell → (lean = mLeanN vm cell step (way.toInt - 1).toNat ∧ 0 ≤ lean.toInt)) → (1 ≤ way.toInt) → lv_has ls 8 [(0, .ref qw), (1, .int cell), (2, .int step), (3, .int gone), (4, .int r4), (5, .int lean), (6, .int way)] → W p l e (headSpec wsX8_leanAt rm_X8_leanAt).room s m ([.ref qw, .int cell, .int step, .int gone] : List Value).toArray below meth c s.heap [] 0 0 Q (F0 m 15 ls []) := by
    intro μ
    induction μ with
    | zero =>
      intro lean way ls hμ15
      exact absurd hμ15 (Nat.not_lt_zero _)
    | succ μ ih15 =>
      intro lean way ls hμ15 h15_0 h15_1 h15_2 hl
      have hx15_0 := h15_1
      clear h15_1
      have hx15_1 := h15_2
      clear h15_2
      refine lv_iload hx hb dX8_leanAt_15 (lv_at hl 6 rfl) ?_
      refine lv_iconst (v := 5) hx hb dX8_leanAt_17 (by decide) ?_
      refine lv_icmp_ge (tgt := 66) hx hb dX8_leanAt_18 (by decide) (fun c18 => ?_) (fun c18 => ?_)
      · have c18_ := i_le c18
        refine lv_iload hx hb dX8_leanAt_66 (lv_at hl 5 rfl) ?_
        subst hQ
        exact W.iret (v := lean) hx hb hr (fun t ht hW => ⟨lean, rfl, ⟨trivial, (fun vm hR hg hc => by have q := (hx15_0 vm hR hg hc).1; rw [show (way.toInt - 1).toNat = 4 by omega] at q; exact q)⟩, ht⟩) (fun q h => absurd h List.not_mem_nil) dX8_leanAt_68
      · have c18_ := i_nle c18
        refine lv_aload_n hx hb dX8_leanAt_21 rfl (lv_at hl 0 rfl) ?_
        refine va_get (D := eD E) (ci := 8) (v := .ref (ap 0)) (C := RX8) (T := TX8) (N := 2) hx hb hts in_X8 hown hK hP 0 rfl rfl 0 (by decide) lk0 (fun _ h9 => h9) rfl dX8_leanAt_22 ?_
        refine lv_iload_n hx hb dX8_leanAt_25 rfl (lv_at hl 1 rfl) ?_
        refine lv_iload hx hb dX8_leanAt_26 (lv_at hl 6 rfl) ?_
        refine rd_V (As := [.int cell, .int way]) (rest := []) (C := RX1) (ci := 1) ⟨hx, hb, hml, hown, hts⟩ (c_X1_beside l E A ap vp cell way hI (by omega)) (cwV 2 hts gX8_leanAt_X1_beside rfl rfl rfl (by decide +kernel) ⟨Nat.le_of_ble_eq_true rfl, Nat.le_of_ble_eq_true rfl⟩) hE (hP.sub (ws' := planL E ap vp) [1, 2, 3, 4, 5, 6, 7, 8, 9, 10, 11, 12, 13, 14, 15, 16, 17, 18, 19, 20, 21, 22, 23, 24, 25, 26, 27, 28, 29] rfl) rfl rfl rfl rfl hl.1 rfl (Nat.le_of_ble_eq_true rfl) dX8_leanAt_28 ⟨Nat.zero_le _, Nat.zero_le _⟩ (fun r28 h28 => ?_)
        have hf28 := h28.2
        replace h28 := h28.1
        refine lv_istore (lv' := [(7, .int r28), (0, .ref qw), (1, .int cell), (2, .int step), (3, .int gone), (4, .int r4), (5, .int lean), (6, .int way)]) hx hb dX8_leanAt_31 hl (by decide) rfl (fun ls hl => ?_)
        refine lv_iload hx hb dX8_leanAt_33 (lv_at hl 0 rfl) ?_
        refine lv_iconst (v := (-1)) hx hb dX8_leanAt_35 (by decide) ?_
        refine lv_icmp_eq (tgt := 60) hx hb dX8_leanAt_36 (by decide) (fun c36 => ?_) (fun c36 => ?_)
        · have c36_ := i_eq c36
          clear h28
          obtain ⟨x60, e60⟩ : ∃ y : Int32, y = way + 1 := ⟨_, rfl⟩
          refine lv_iinc (v := x60) (lv' := [(6, .int x60), (7, .int r28), (0, .ref qw), (1, .int cell), (2, .int step), (3, .int gone), (4, .int r4), (5, .int lean)]) hx hb dX8_leanAt_60 hl (k := 7) rfl (by rw [e60]; rfl) (by decide) rfl (fun ls hl => ?_)
          have t60 := i_add e60 (by omega)
          refine lv_goto (tgt := 15) hx hb dX8_leanAt_63 (by decide) ?_
          exact ih15 lean x60 ls (by omega) (by omega) (fun vm hR hg hc => by have hG := hR.2.2.2.1.1; have hW : 1 ≤ (vm 0 0).toInt := wd_pos hG.1.1 (show 1 ≤ (vm 0 0).toInt * (vm 1 0).toInt by have z1 := hc.1; have z2 := hc.2; omega); have hb := hf28.2 vm hR.1.1.1 hR.1.1.2.1 hG (by rw [hR.1.1.1]; exact hW) (by omega); exact lean_skip (hx15_0 vm hR hg hc) (by omega) (by omega) (by rw [← hb]; omega)) (by omega) (lv_sub hl [2, 3, 4, 5, 6, 7, 0] rfl)
        · have c36_ := i_ne c36
          replace h28 := cm_n h28 c36_
          clear c36_
          refine lv_iload hx hb dX8_leanAt_39 (lv_at hl 6 rfl) ?_
          refine lv_aload_n hx hb dX8_leanAt_41 rfl (lv_at hl 1 rfl) ?_
          refine lv_iload hx hb dX8_leanAt_42 (lv_at hl 0 rfl) ?_
          refine lv_iload_n hx hb dX8_leanAt_44 rfl (lv_at hl 3 rfl) ?_
          refine lv_iload_n hx hb dX8_leanAt_45 rfl (lv_at hl 4 rfl) ?_
          refine rd_V (As := [.int r28, .int step, .int gone]) (rest := [.int lean]) (C := RX8) (ci := 8) ⟨hx, hb, hml, hown, hts⟩ (c_X8_heightAt l E A qw ap vp as_ vs r28 step gone hI hJ (by omega) (by omega)) (cwV 3 hts gX8_leanAt_X8_heightAt rfl rfl rfl (by decide +kernel) ⟨Nat.le_of_ble_eq_true rfl, Nat.le_of_ble_eq_true rfl⟩) hE (hP.sub (ws' := wpsL E qw ap vp as_ vs) [0, 1, 2, 3, 4, 5, 6, 7, 8, 9, 10, 11, 12, 13, 14, 15, 16, 17, 18, 19, 20, 21, 22, 23, 24, 25, 26, 27, 28, 29, 30, 31, 32, 33] rfl) rfl rfl rfl rfl hl.1 rfl (Nat.le_of_ble_eq_true rfl) dX8_leanAt_46 ⟨Nat.zero_le _, Nat.zero_le _⟩ (fun r46 h46 => ?_)
          have hf46 := h46.2
          replace h46 := h46.1
          refine lv_iload hx hb dX8_leanAt_49 (lv_at hl 5 rfl) ?_
          refine lv_isub hx hb dX8_leanAt_51 ?_
          refine lv_topi (fun x51 e51 => ?_)
          refine va_mabs hx hb (hml.trans hl.1.symm) hown lk1 lk2 lk3 lk4 (Nat.le_of_ble_eq_true rfl) (Nat.le_of_ble_eq_true rfl) (Nat.zero_le _) (Nat.zero_le _) dX8_leanAt_52 ?_
          refine lv_topi (fun x52 e52 => ?_)
          refine va_mmax hx hb (hml.trans hl.1.symm) hown lk5 lk6 lk3 lk7 (Nat.le_of_ble_eq_true rfl) (Nat.le_of_ble_eq_true rfl) (Nat.zero_le _) (Nat.zero_le _) dX8_leanAt_55 ?_
          refine lv_topi (fun x55 e55 => ?_)
          have t55 := i_max e55
          refine lv_istore (lv' := [(5, .int x55), (7, .int r28), (0, .ref qw), (1, .int cell), (2, .int step), (3, .int gone), (4, .int r4), (6, .int way)]) hx hb dX8_leanAt_58 hl (by decide) rfl (fun ls hl => ?_)
          obtain ⟨x60, e60⟩ : ∃ y : Int32, y = way + 1 := ⟨_, rfl⟩
          refine lv_iinc (v := x60) (lv' := [(6, .int x60), (5, .int x55), (7, .int r28), (0, .ref qw), (1, .int cell), (2, .int step), (3, .int gone), (4, .int r4)]) hx hb dX8_leanAt_60 hl (k := 7) rfl (by rw [e60]; rfl) (by decide) rfl (fun ls hl => ?_)
          have t60 := i_add e60 (by omega)
          refine lv_goto (tgt := 15) hx hb dX8_leanAt_63 (by decide) ?_
          exact ih15 x55 x60 ls (by omega) (by omega) (fun vm hR hg hc => by have hG := hR.2.2.2.1.1; have hW : 1 ≤ (vm 0 0).toInt := wd_pos hG.1.1 (show 1 ≤ (vm 0 0).toInt * (vm 1 0).toInt by have z1 := hc.1; have z2 := hc.2; omega); have hb := hf28.2 vm hR.1.1.1 hR.1.1.2.1 hG (by rw [hR.1.1.1]; exact hW) (by omega); have hbc : cW vm r28 := (by have z : 0 ≤ r28.toInt := (by omega); rw [hb] at z ⊢; exact bes_cW hG z); exact lean_next (hx15_0 vm hR hg hc) (by omega) (by omega) hR.2.2.2.1 hW hcell (by omega) hstep hb (hf46 vm hR hg hbc) (hf4 vm hR hg hc) e51 e52 e55) (by omega) (lv_sub hl [3, 4, 5, 6, 7, 1, 0] rfl)
  exact K15 _ 0 1 ls (Nat.lt_succ_self _) (by omega) (fun vm _ _ _ => ⟨by rw [n_1]; rfl, by decide⟩) (by omega) (lv_sub hl [3, 4, 5, 6, 2, 1, 0] rfl)
def rm_X8_isBroken : Room := { frames := 4, cells := 0, slots := 0, locals := 98 }
set_option maxHeartbeats 4000000 in
set_option maxRecDepth 100000 in
theorem c_X8_isBroken (l : Launch) (E : Ev) (A : Nat → Prop) (qw : Nat) (ap : Nat → Nat) (vp : Vf) (as_ : Nat → Nat) (vs : Vf) (h : Int32) (step : Int32) (hI : PlanI vp) (hJ : StateI vs) (hh : 0 ≤ h.toInt ∧ h.toInt ≤ 5) (hstep : 0 ≤ step.toInt ∧ step.toInt ≤ 2000000) : Met l yX8_isBroken wsX8_isBroken rm_X8_isBroken (RdP E A [.ref qw, .int h, .int step] (wpsL E qw ap vp as_ vs)) (vp_Si (fun r => ((r.toInt = 0 ∨ r.toInt = 1)) ∧ (∀ vm : Vf, RW vm vp vs → (-1 : Int32) = vm 62 0 → h.toInt < (vm 9 0).toInt → r = mBrk vm h step))) 0 0 (fun _ => False) := by
  refine Met.ofW (cc := cX8_isBroken) (maxL := 3) (ret := (some .boolean)) (by decide) rfl ?_
  intro p e s m args below meth c s₁ B hml hv
  obtain ⟨rfl, hE, hP⟩ := hv
  have hx := B.exec
  have hb := B.bytes
  have hr := B.returns
  have hts := atoms_spec (ws := wsX8_isBroken) B.pre
  have hown : s.vm.findClass RX8 = some m.cls := findClass_of_methodNamed B.named
  have hlocks := B.notSynchronized
  have hK := hE.1
  have in_X8 : ∀ w ∈ u_ws RX8 TX8 2, w ∈ wsX8_isBroken := fun w h => List.mem_cons_of_mem _ (List.mem_append_left _ (List.mem_append_left _ (List.mem_append_left _ (List.mem_append_left _ (List.mem_append_right _ h)))))
  have in_X1 : ∀ w ∈ u_ws RX1 TX1 11, w ∈ wsX8_isBroken := fun w h => List.mem_cons_of_mem _ (List.mem_append_left _ (List.mem_append_left _ (List.mem_append_left _ (List.mem_append_right _ h))))
  have in_X5 : ∀ w ∈ u_ws RX5 TX5 4, w ∈ wsX8_isBroken := fun w h => List.mem_cons_of_mem _ (List.mem_append_left _ (List.mem_append_left _ (List.mem_append_right _ h)))
  have in_X6 : ∀ w ∈ u_ws RX6 TX6 9, w ∈ wsX8_isBroken := fun w h => List.mem_cons_of_mem _ (List.mem_append_left _ (List.mem_append_right _ h))
  have lk0 := hts (.fieldLink RX8 9 "TidedGround$World" "plan" "LTidedGround$Plan;") (List.mem_of_getElem? (i := 1) rfl)
  have lk1 := hts (.fieldLink RX8 72 "TidedGround$Plan" "houses" "LTidedGround$Sites;") (List.mem_of_getElem? (i := 2) rfl)
  have lk2 := hts (.fieldLink RX8 76 "TidedGround$Sites" "cell" "[I") (List.mem_of_getElem? (i := 3) rfl)
  have lk3 := hts (.fieldLink RX8 84 "TidedGround$Sites" "first" "[I") (List.mem_of_getElem? (i := 4) rfl)
  have lk4 := hts (.fieldLink RX8 15 "TidedGround$World" "now" "LTidedGround$State;") (List.mem_of_getElem? (i := 5) rfl)
  have lk5 := hts (.fieldLink RX8 87 "TidedGround$State" "props" "[I") (List.mem_of_getElem? (i := 6) rfl)
  have n_m1 : ((-1) : Int32).toInt = -1 := by decide
  have n_0 : (0 : Int32).toInt = 0 := by decide
  have n_1 : (1 : Int32).toInt = 1 := by decide
  have hl := lv_entry ([.ref qw, .int h, .int step]) (n := 3) (Nat.le_of_ble_eq_true rfl)
  rw [lg_entry_eq]
  generalize (lg_sl ([.ref qw, .int h, .int step]) ++ List.replicate (3 - (lg_sl ([.ref qw, .int h, .int step])).length) Slot.unset).toArray = ls at hl ⊢
  have hl : lv_has ls 3 [(0, .ref qw), (1, .int h), (2, .int step)] := hl
  refine W_abs (fun Q hQ => ?_)
  obtain ⟨hg, hmc, hm0, hm1, hm2, hs0, hs1, hs2, hs3⟩ := id hI
  obtain ⟨hg1, hg2, hg3, hg4⟩ := id hg
  have hz0 := hm0.1
  have hz1 := hm1.1
  have hz2 := hm2.1
  have hc0 := hs0.1
  have hc1 := hs1.1
  have hc2 := hs2.1
  have hc3 := hs3.1
  obtain ⟨hj0, hj1, hj2⟩ := id hJ
  have hh_ := hh
  refine lv_aload_n hx hb dX8_isBroken_0 rfl (lv_at hl 0 rfl) ?_
  refine lv_aload_n hx hb dX8_isBroken_1 rfl (lv_at hl 0 rfl) ?_
  refine va_get (D := eD E) (ci := 8) (v := .ref (ap 0)) (C := RX8) (T := TX8) (N := 2) hx hb hts in_X8 hown hK hP 0 rfl rfl 0 (by decide) lk0 (fun _ h9 => h9) rfl dX8_isBroken_2 ?_
  refine va_get (D := eD E) (ci := 1) (v := .ref (ap 7)) (C := RX1) (T := TX1) (N := 11) hx hb hts in_X1 hown hK hP 1 rfl rfl 7 (by decide) lk1 (fun _ h9 => h9) rfl dX8_isBroken_5 ?_
  refine va_get (D := eD E) (ci := 5) (v := .ref (ap 61)) (C := RX5) (T := TX5) (N := 4) hx hb hts in_X5 hown hK hP 14 rfl rfl 1 (by decide) lk2 (fun _ h9 => h9) rfl dX8_isBroken_8 ?_
  refine lv_iload_n hx hb dX8_isBroken_11 rfl (lv_at hl 1 rfl) ?_
  refine va_iald hx hb hK hP 15 0 rfl rfl (n := 6) (f := (vp 61)) (i_in (by omega) (by omega)) dX8_isBroken_12 ?_
  refine lv_topi (fun x12 e12 => ?_)
  have b12 := hs0.2 h.toNatClampNeg (i_natlt (by omega) (by decide))
  rw [← e12] at b12
  refine lv_iload_n hx hb dX8_isBroken_13 rfl (lv_at hl 2 rfl) ?_
  refine lv_iconst (v := (-1)) hx hb dX8_isBroken_14 (by decide) ?_
  refine rd_V (As := [.int x12, .int step, .int (-1)]) (rest := []) (C := RX8) (ci := 8) ⟨hx, hb, hml, hown, hts⟩ (c_X8_leanAt l E A qw ap vp as_ vs x12 step (-1) hI hJ (by omega) (by omega)) (cwV 3 hts gX8_isBroken_X8_leanAt rfl rfl rfl (by decide +kernel) ⟨Nat.le_of_ble_eq_true rfl, Nat.le_of_ble_eq_true rfl⟩) hE (hP.sub (ws' := wpsL E qw ap vp as_ vs) [0, 1, 2, 3, 4, 5, 6, 7, 8, 9, 10, 11, 12, 13, 14, 15, 16, 17, 18, 19, 20, 21, 22, 23, 24, 25, 26, 27, 28, 29, 30, 31, 32, 33] rfl) rfl rfl rfl rfl hl.1 rfl (Nat.le_of_ble_eq_true rfl) dX8_isBroken_15 ⟨Nat.zero_le _, Nat.zero_le _⟩ (fun r15 h15 => ?_)
  have hf15 := h15.2
  replace h15 := h15.1
  refine lv_aload_n hx hb dX8_isBroken_18 rfl (lv_at hl 0 rfl) ?_
  refine va_get (D := eD E) (ci := 8) (v := .ref (ap 0)) (C := RX8) (T := TX8) (N := 2) hx hb hts in_X8 hown hK hP 0 rfl rfl 0 (by decide) lk0 (fun _ h9 => h9) rfl dX8_isBroken_19 ?_
  refine va_get (D := eD E) (ci := 1) (v := .ref (ap 7)) (C := RX1) (T := TX1) (N := 11) hx hb hts in_X1 hown hK hP 1 rfl rfl 7 (by decide) lk1 (fun _ h9 => h9) rfl dX8_isBroken_22 ?_
  refine va_get (D := eD E) (ci := 5) (v := .ref (ap 62)) (C := RX5) (T := TX5) (N := 4) hx hb hts in_X5 hown hK hP 14 rfl rfl 2 (by decide) lk3 (fun _ h9 => h9) rfl dX8_isBroken_25 ?_
  refine lv_iload_n hx hb dX8_isBroken_28 rfl (lv_at hl 1 rfl) ?_
  refine va_iald hx hb hK hP 16 0 rfl rfl (n := 6) (f := (vp 62)) (i_in (by omega) (by omega)) dX8_isBroken_29 ?_
  refine lv_topi (fun x29 e29 => ?_)
  refine lv_aload_n hx hb dX8_isBroken_30 rfl (lv_at hl 0 rfl) ?_
  refine va_get (D := eD E) (ci := 8) (v := .ref (as_ 0)) (C := RX8) (T := TX8) (N := 2) hx hb hts in_X8 hown hK hP 0 rfl rfl 1 (by decide) lk4 (fun _ h9 => h9) rfl dX8_isBroken_31 ?_
  refine va_get (D := eD E) (ci := 6) (v := .ref (as_ 3)) (C := RX6) (T := TX6) (N := 9) hx hb hts in_X6 hown hK hP 30 rfl rfl 3 (by decide) lk5 (fun _ h9 => h9) rfl dX8_isBroken_34 ?_
  refine lv_iload_n hx hb dX8_isBroken_37 rfl (lv_at hl 1 rfl) ?_
  refine va_iald hx hb hK hP 33 0 rfl rfl (n := 6) (f := (vs 3)) (i_in (by omega) (by omega)) dX8_isBroken_38 ?_
  refine lv_topi (fun x38 e38 => ?_)
  refine lv_iadd hx hb dX8_isBroken_39 ?_
  refine lv_topi (fun x39 e39 => ?_)
  refine lv_icmp_le (tgt := 47) hx hb dX8_isBroken_40 (by decide) (fun c40 => ?_) (fun c40 => ?_)
  · have c40_ := i_le c40
    refine lv_iconst (v := 0) hx hb dX8_isBroken_47 (by decide) ?_
    subst hQ
    exact W.zret (v := 0) hx hb hr rfl (fun t ht hW => ⟨0, rfl, ⟨(by omega), (fun vm hR hg hh => by have hn := i_nat hh_.1; have q := hR.1.2.2.1.2 h.toNatClampNeg (by omega); have p := hR.2.1.2.2.2.1 h.toNatClampNeg (by omega); have e := hf15 vm hR hg (house_c hR hh_.1 hh e12); unfold mBrk; rw [← q.1, ← q.2, ← p, ← e12, ← e29, ← e38, ← e39, ← e]; first | rw [if_pos c40] | rw [if_neg c40])⟩, ht⟩) (fun q h => absurd h List.not_mem_nil) dX8_isBroken_48
  · have c40_ := i_nle c40
    refine lv_iconst (v := 1) hx hb dX8_isBroken_43 (by decide) ?_
    refine lv_goto (tgt := 48) hx hb dX8_isBroken_44 (by decide) ?_
    subst hQ
    exact W.zret (v := 1) hx hb hr rfl (fun t ht hW => ⟨1, rfl, ⟨(by omega), (fun vm hR hg hh => by have hn := i_nat hh_.1; have q := hR.1.2.2.1.2 h.toNatClampNeg (by omega); have p := hR.2.1.2.2.2.1 h.toNatClampNeg (by omega); have e := hf15 vm hR hg (house_c hR hh_.1 hh e12); unfold mBrk; rw [← q.1, ← q.2, ← p, ← e12, ← e29, ← e38, ← e39, ← e]; first | rw [if_pos c40] | rw [if_neg c40])⟩, ht⟩) (fun q h => absurd h List.not_mem_nil) dX8_isBroken_48
def rm_X8_leastBroken : Room := { frames := 5, cells := 0, slots := 0, locals := 120 }
set_option maxHeartbeats 4000000 in
set_option maxRecDepth 100000 in
theorem c_X8_leastBroken (l : Launch) (E : Ev) (A : Nat → Prop) (qw : Nat) (ap : Nat → Nat) (vp : Vf) (as_ : Nat → Nat) (vs : Vf) (step : Int32) (hI : PlanI vp) (hJ : StateI vs) (hstep : 0 ≤ step.toInt ∧ step.toInt ≤ 2000000) : Met l yX8_leastBroken wsX8_leastBroken rm_X8_leastBroken (RdP E A [.ref qw, .int step] (wpsL E qw ap vp as_ vs)) (vp_Si (fun r => (True) ∧ (∀ vm : Vf, RW vm vp vs → (-1 : Int32) = vm 62 0 → (r.toInt = -1 ∧ NoH vm step (vm 9 0).toInt) ∨ ((0 ≤ r.toInt ∧ r.toInt < (vm 9 0).toInt) ∧ NoH vm step r.toInt ∧ mBrk vm r step ≠ 0)))) 0 0 (fun _ => False) := by
  refine Met.ofW (cc := cX8_leastBroken) (maxL := 3) (ret := (some .int)) (by decide) rfl ?_
  intro p e s m args below meth c s₁ B hml hv
  obtain ⟨rfl, hE, hP⟩ := hv
  have hx := B.exec
  have hb := B.bytes
  have hr := B.returns
  have hts := atoms_spec (ws := wsX8_leastBroken) B.pre
  have hown : s.vm.findClass RX8 = some m.cls := findClass_of_methodNamed B.named
  have hlocks := B.notSynchronized
  have hK := hE.1
  have in_X8 : ∀ w ∈ u_ws RX8 TX8 2, w ∈ wsX8_leastBroken := fun w h => List.mem_cons_of_mem _ (List.mem_append_left _ (List.mem_append_left _ (List.mem_append_left _ (List.mem_append_left _ (List.mem_append_right _ h)))))
  have in_X1 : ∀ w ∈ u_ws RX1 TX1 11, w ∈ wsX8_leastBroken := fun w h => List.mem_cons_of_mem _ (List.mem_append_left _ (List.mem_append_left _ (List.mem_append_left _ (List.mem_append_right _ h))))
  have in_X5 : ∀ w ∈ u_ws RX5 TX5 4, w ∈ wsX8_leastBroken := fun w h => List.mem_cons_of_mem _ (List.mem_append_left _ (List.mem_append_left _ (List.mem_append_right _ h)))
  have lk0 := hts (.fieldLink RX8 9 "TidedGround$World" "plan" "LTidedGround$Plan;") (List.mem_of_getElem? (i := 1) rfl)
  have lk1 := hts (.fieldLink RX8 72 "TidedGround$Plan" "houses" "LTidedGround$Sites;") (List.mem_of_getElem? (i := 2) rfl)
  have lk2 := hts (.fieldLink RX8 90 "TidedGround$Sites" "count" "I") (List.mem_of_getElem? (i := 3) rfl)
  have n_m1 : ((-1) : Int32).toInt = -1 := by decide
  have n_0 : (0 : Int32).toInt = 0 := by decide
  have n_1 : (1 : Int32).toInt = 1 := by decide
  have hl := lv_entry ([.ref qw, .int step]) (n := 3) (Nat.le_of_ble_eq_true rfl)
  rw [lg_entry_eq]
  generalize (lg_sl ([.ref qw, .int step]) ++ List.replicate (3 - (lg_sl ([.ref qw, .int step])).length) Slot.unset).toArray = ls at hl ⊢
  have hl : lv_has ls 3 [(0, .ref qw), (1, .int step)] := hl
  refine W_abs (fun Q hQ => ?_)
  obtain ⟨hg, hmc, hm0, hm1, hm2, hs0, hs1, hs2, hs3⟩ := id hI
  obtain ⟨hg1, hg2, hg3, hg4⟩ := id hg
  have hz0 := hm0.1
  have hz1 := hm1.1
  have hz2 := hm2.1
  have hc0 := hs0.1
  have hc1 := hs1.1
  have hc2 := hs2.1
  have hc3 := hs3.1
  obtain ⟨hj0, hj1, hj2⟩ := id hJ
  refine lv_iconst (v := 0) hx hb dX8_leastBroken_0 (by decide) ?_
  refine lv_istore_n (lv' := [(2, .int 0), (0, .ref qw), (1, .int step)]) hx hb dX8_leastBroken_1 rfl hl (by decide) rfl (fun ls hl => ?_)
  have K2 : ∀ (μ : Nat) (h : Int32) (ls : Array Slot), (6 - h.toInt).toNat < μ → (0 ≤ h.toInt ∧ h.toInt ≤ 6) → (∀ vm : Vf, RW vm vp vs → (-1 : Int32) = vm 62 0 → NoH vm step h.toInt) → lv_has ls 3 [(0, .ref qw), (1, .int step), (2, .int h)] → W p l e (headSpec wsX8_leastBroken rm_X8_leastBroken).room s m ([.ref qw, .int step] : List Value).toArray below meth c s.heap [] 0 0 Q (F0 m 2 ls []) := by
    intro μ
    induction μ with
    | zero =>
      intro h ls hμ2
      exact absurd hμ2 (Nat.not_lt_zero _)
    | succ μ ih2 =>
      intro h ls hμ2 h2_0 h2_1 hl
      have hx2_0 := h2_1
      clear h2_1
      refine lv_iload_n hx hb dX8_leastBroken_2 rfl (lv_at hl 2 rfl) ?_
      refine lv_aload_n hx hb dX8_leastBroken_3 rfl (lv_at hl 0 rfl) ?_
      refine va_get (D := eD E) (ci := 8) (v := .ref (ap 0)) (C := RX8) (T := TX8) (N := 2) hx hb hts in_X8 hown hK hP 0 rfl rfl 0 (by decide) lk0 (fun _ h9 => h9) rfl dX8_leastBroken_4 ?_
      refine va_get (D := eD E) (ci := 1) (v := .ref (ap 7)) (C := RX1) (T := TX1) (N := 11) hx hb hts in_X1 hown hK hP 1 rfl rfl 7 (by decide) lk1 (fun _ h9 => h9) rfl dX8_leastBroken_7 ?_
      refine va_get (D := eD E) (ci := 5) (v := .int (vp 60 0)) (C := RX5) (T := TX5) (N := 4) hx hb hts in_X5 hown hK hP 14 rfl rfl 0 (by decide) lk2 (fun _ h9 => h9) rfl dX8_leastBroken_10 ?_
      refine lv_icmp_ge (tgt := 33) hx hb dX8_leastBroken_13 (by decide) (fun c13 => ?_) (fun c13 => ?_)
      · have c13_ := i_le c13
        refine lv_iconst (v := (-1)) hx hb dX8_leastBroken_33 (by decide) ?_
        subst hQ
        exact W.iret (v := (-1)) hx hb hr (fun t ht hW => ⟨(-1), rfl, ⟨trivial, (fun vm hR hg => by have hmi : (vp 60 0).toInt = (vm 9 0).toInt := (by rw [hR.1.2.2.1.1]); exact Or.inl ⟨by omega, fun k hk => hx2_0 vm hR hg k (by omega)⟩)⟩, ht⟩) (fun q h => absurd h List.not_mem_nil) dX8_leastBroken_34
      · have c13_ := i_nle c13
        refine lv_aload_n hx hb dX8_leastBroken_16 rfl (lv_at hl 0 rfl) ?_
        refine lv_iload_n hx hb dX8_leastBroken_17 rfl (lv_at hl 2 rfl) ?_
        refine lv_iload_n hx hb dX8_leastBroken_18 rfl (lv_at hl 1 rfl) ?_
        refine rd_V (As := [.int h, .int step]) (rest := []) (C := RX8) (ci := 8) ⟨hx, hb, hml, hown, hts⟩ (c_X8_isBroken l E A qw ap vp as_ vs h step hI hJ (by omega) (by omega)) (cwV 2 hts gX8_leastBroken_X8_isBroken rfl rfl rfl (by decide +kernel) ⟨Nat.le_of_ble_eq_true rfl, Nat.le_of_ble_eq_true rfl⟩) hE (hP.sub (ws' := wpsL E qw ap vp as_ vs) [0, 1, 2, 3, 4, 5, 6, 7, 8, 9, 10, 11, 12, 13, 14, 15, 16, 17, 18, 19, 20, 21, 22, 23, 24, 25, 26, 27, 28, 29, 30, 31, 32, 33] rfl) rfl rfl rfl rfl hl.1 rfl (Nat.le_of_ble_eq_true rfl) dX8_leastBroken_19 ⟨Nat.zero_le _, Nat.zero_le _⟩ (fun r19 h19 => ?_)
        have hf19 := h19.2
        replace h19 := h19.1
        refine lv_if_eq (tgt := 27) hx hb dX8_leastBroken_22 (by decide) (fun c22 => ?_) (fun c22 => ?_)
        · have c22_ := i_eq c22
          clear h19
          obtain ⟨x27, e27⟩ : ∃ y : Int32, y = h + 1 := ⟨_, rfl⟩
          refine lv_iinc (v := x27) (lv' := [(2, .int x27), (0, .ref qw), (1, .int step)]) hx hb dX8_leastBroken_27 hl (k := 2) rfl (by rw [e27]; rfl) (by decide) rfl (fun ls hl => ?_)
          have t27 := i_add e27 (by omega)
          refine lv_goto (tgt := 2) hx hb dX8_leastBroken_30 (by decide) ?_
          exact ih2 x27 ls (by omega) (by omega) (fun vm hR hg => noh_next (hx2_0 vm hR hg) (by omega) t27 (fun z => z (by rw [← hf19 vm hR hg (by rw [← hR.1.2.2.1.1]; omega)]; exact c22))) (lv_sub hl [1, 2, 0] rfl)
        · have c22_ := i_ne c22
          replace h19 := b_y h19 c22_
          clear c22_
          refine lv_iload_n hx hb dX8_leastBroken_25 rfl (lv_at hl 2 rfl) ?_
          subst hQ
          exact W.iret (v := h) hx hb hr (fun t ht hW => ⟨h, rfl, ⟨trivial, (fun vm hR hg => by have hmi : (vp 60 0).toInt = (vm 9 0).toInt := (by rw [hR.1.2.2.1.1]); exact Or.inr ⟨by omega, hx2_0 vm hR hg, by rw [← hf19 vm hR hg (by omega)]; exact c22⟩)⟩, ht⟩) (fun q h => absurd h List.not_mem_nil) dX8_leastBroken_26
  exact K2 _ 0 ls (Nat.lt_succ_self _) (by omega) (fun vm _ _ j hj => absurd hj (by rw [n_0]; omega)) (lv_sub hl [1, 2, 0] rfl)
def rm_X8_needOf : Room := { frames := 4, cells := 0, slots := 0, locals := 98 }
set_option maxHeartbeats 4000000 in
set_option maxRecDepth 100000 in
theorem c_X8_needOf (l : Launch) (E : Ev) (A : Nat → Prop) (qw : Nat) (ap : Nat → Nat) (vp : Vf) (as_ : Nat → Nat) (vs : Vf) (h : Int32) (hI : PlanI vp) (hJ : StateI vs) (hh : 0 ≤ h.toInt ∧ h.toInt ≤ 5) : Met l yX8_needOf wsX8_needOf rm_X8_needOf (RdP E A [.ref qw, .int h] (wpsL E qw ap vp as_ vs)) (vp_Si (fun r => (True) ∧ (∀ vm : Vf, RW vm vp vs → (-1 : Int32) = vm 62 0 → h.toInt < (vm 9 0).toInt → r = mNeed vm h))) 0 0 (fun _ => False) := by
  refine Met.ofW (cc := cX8_needOf) (maxL := 5) (ret := (some .int)) (by decide) rfl ?_
  intro p e s m args below meth c s₁ B hml hv
  obtain ⟨rfl, hE, hP⟩ := hv
  have hx := B.exec
  have hb := B.bytes
  have hr := B.returns
  have hts := atoms_spec (ws := wsX8_needOf) B.pre
  have hown : s.vm.findClass RX8 = some m.cls := findClass_of_methodNamed B.named
  have hlocks := B.notSynchronized
  have hK := hE.1
  have in_X8 : ∀ w ∈ u_ws RX8 TX8 2, w ∈ wsX8_needOf := fun w h => List.mem_cons_of_mem _ (List.mem_append_left _ (List.mem_append_left _ (List.mem_append_left _ (List.mem_append_left _ (List.mem_append_right _ h)))))
  have in_X1 : ∀ w ∈ u_ws RX1 TX1 11, w ∈ wsX8_needOf := fun w h => List.mem_cons_of_mem _ (List.mem_append_left _ (List.mem_append_left _ (List.mem_append_left _ (List.mem_append_right _ h))))
  have in_X5 : ∀ w ∈ u_ws RX5 TX5 4, w ∈ wsX8_needOf := fun w h => List.mem_cons_of_mem _ (List.mem_append_left _ (List.mem_append_left _ (List.mem_append_right _ h)))
  have lk0 := hts (.fieldLink RX8 9 "TidedGround$World" "plan" "LTidedGround$Plan;") (List.mem_of_getElem? (i := 1) rfl)
  have lk1 := hts (.fieldLink RX8 72 "TidedGround$Plan" "houses" "LTidedGround$Sites;") (List.mem_of_getElem? (i := 2) rfl)
  have lk2 := hts (.fieldLink RX8 84 "TidedGround$Sites" "first" "[I") (List.mem_of_getElem? (i := 8) rfl)
  have lk3 := hts (.methodLink RX8 47 Lib.Math.max.name) (List.mem_of_getElem? (i := 4) rfl)
  have lk4 := hts (.static Lib.Math.max.name) (List.mem_of_getElem? (i := 5) rfl)
  have lk5 := hts (.initialized "java/lang/Math") (List.mem_of_getElem? (i := 6) rfl)
  have lk6 := hts (.code Lib.Math.max.name Lib.Math.max.code 2 (some .int)) (List.mem_of_getElem? (i := 7) rfl)
  have lk7 := hts (.fieldLink RX8 76 "TidedGround$Sites" "cell" "[I") (List.mem_of_getElem? (i := 3) rfl)
  have n_m1 : ((-1) : Int32).toInt = -1 := by decide
  have n_0 : (0 : Int32).toInt = 0 := by decide
  have n_1 : (1 : Int32).toInt = 1 := by decide
  have hl := lv_entry ([.ref qw, .int h]) (n := 5) (Nat.le_of_ble_eq_true rfl)
  rw [lg_entry_eq]
  generalize (lg_sl ([.ref qw, .int h]) ++ List.replicate (5 - (lg_sl ([.ref qw, .int h])).length) Slot.unset).toArray = ls at hl ⊢
  have hl : lv_has ls 5 [(0, .ref qw), (1, .int h)] := hl
  refine W_abs (fun Q hQ => ?_)
  obtain ⟨hg, hmc, hm0, hm1, hm2, hs0, hs1, hs2, hs3⟩ := id hI
  obtain ⟨hg1, hg2, hg3, hg4⟩ := id hg
  have hz0 := hm0.1
  have hz1 := hm1.1
  have hz2 := hm2.1
  have hc0 := hs0.1
  have hc1 := hs1.1
  have hc2 := hs2.1
  have hc3 := hs3.1
  obtain ⟨hj0, hj1, hj2⟩ := id hJ
  have hh_ := hh
  refine lv_aload_n hx hb dX8_needOf_0 rfl (lv_at hl 0 rfl) ?_
  refine va_get (D := eD E) (ci := 8) (v := .ref (ap 0)) (C := RX8) (T := TX8) (N := 2) hx hb hts in_X8 hown hK hP 0 rfl rfl 0 (by decide) lk0 (fun _ h9 => h9) rfl dX8_needOf_1 ?_
  refine rd_V (As := []) (rest := []) (C := RX1) (ci := 1) ⟨hx, hb, hml, hown, hts⟩ (c_X1_period l E A ap vp hI) (cwV 0 hts gX8_needOf_X1_period rfl rfl rfl (by decide +kernel) ⟨Nat.le_of_ble_eq_true rfl, Nat.le_of_ble_eq_true rfl⟩) hE (hP.sub (ws' := planL E ap vp) [1, 2, 3, 4, 5, 6, 7, 8, 9, 10, 11, 12, 13, 14, 15, 16, 17, 18, 19, 20, 21, 22, 23, 24, 25, 26, 27, 28, 29] rfl) rfl rfl rfl rfl hl.1 rfl (Nat.le_of_ble_eq_true rfl) dX8_needOf_4 ⟨Nat.zero_le _, Nat.zero_le _⟩ (fun r4 h4 => ?_)
  have hf4 := h4.2
  replace h4 := h4.1
  refine lv_istore_n (lv' := [(2, .int r4), (0, .ref qw), (1, .int h)]) hx hb dX8_needOf_7 rfl hl (by decide) rfl (fun ls hl => ?_)
  refine lv_iconst (v := 0) hx hb dX8_needOf_8 (by decide) ?_
  refine lv_istore_n (lv' := [(3, .int 0), (2, .int r4), (0, .ref qw), (1, .int h)]) hx hb dX8_needOf_9 rfl hl (by decide) rfl (fun ls hl => ?_)
  refine lv_iconst (v := 0) hx hb dX8_needOf_10 (by decide) ?_
  refine lv_istore (lv' := [(4, .int 0), (3, .int 0), (2, .int r4), (0, .ref qw), (1, .int h)]) hx hb dX8_needOf_11 hl (by decide) rfl (fun ls hl => ?_)
  have K13 : ∀ (μ : Nat) (worst : Int32) (t : Int32) (ls : Array Slot), (729 - t.toInt).toNat < μ → (0 ≤ t.toInt ∧ t.toInt ≤ 729) → (∀ vm : Vf, RW vm vp vs → (-1 : Int32) = vm 62 0 → h.toInt < (vm 9 0).toInt → WoP (leI vm h) t.toInt worst.toInt) → (t.toInt ≤ r4.toInt) → lv_has ls 5 [(0, .ref qw), (1, .int h), (2, .int r4), (3, .int worst), (4, .int t)] → W p l e (headSpec wsX8_needOf rm_X8_needOf).room s m ([.ref qw, .int h] : List Value).toArray below meth c s.heap [] 0 0 Q (F0 m 13 ls []) := by
    intro μ
    induction μ with
    | zero =>
      intro worst t ls hμ13
      exact absurd hμ13 (Nat.not_lt_zero _)
    | succ μ ih13 =>
      intro worst t ls hμ13 h13_0 h13_1 h13_2 hl
      have hx13_0 := h13_1
      clear h13_1
      have hx13_1 := h13_2
      clear h13_2
      refine lv_iload hx hb dX8_needOf_13 (lv_at hl 4 rfl) ?_
      refine lv_iload_n hx hb dX8_needOf_15 rfl (lv_at hl 2 rfl) ?_
      refine lv_icmp_ge (tgt := 49) hx hb dX8_needOf_16 (by decide) (fun c16 => ?_) (fun c16 => ?_)
      · have c16_ := i_le c16
        refine lv_iconst (v := 0) hx hb dX8_needOf_49 (by decide) ?_
        refine lv_iload_n hx hb dX8_needOf_50 rfl (lv_at hl 3 rfl) ?_
        refine lv_aload_n hx hb dX8_needOf_51 rfl (lv_at hl 0 rfl) ?_
        refine va_get (D := eD E) (ci := 8) (v := .ref (ap 0)) (C := RX8) (T := TX8) (N := 2) hx hb hts in_X8 hown hK hP 0 rfl rfl 0 (by decide) lk0 (fun _ h9 => h9) rfl dX8_needOf_52 ?_
        refine va_get (D := eD E) (ci := 1) (v := .ref (ap 7)) (C := RX1) (T := TX1) (N := 11) hx hb hts in_X1 hown hK hP 1 rfl rfl 7 (by decide) lk1 (fun _ h9 => h9) rfl dX8_needOf_55 ?_
        refine va_get (D := eD E) (ci := 5) (v := .ref (ap 62)) (C := RX5) (T := TX5) (N := 4) hx hb hts in_X5 hown hK hP 14 rfl rfl 2 (by decide) lk2 (fun _ h9 => h9) rfl dX8_needOf_58 ?_
        refine lv_iload_n hx hb dX8_needOf_61 rfl (lv_at hl 1 rfl) ?_
        refine va_iald hx hb hK hP 16 0 rfl rfl (n := 6) (f := (vp 62)) (i_in (by omega) (by omega)) dX8_needOf_62 ?_
        refine lv_topi (fun x62 e62 => ?_)
        refine lv_isub hx hb dX8_needOf_63 ?_
        refine lv_topi (fun x63 e63 => ?_)
        refine va_mmax hx hb (hml.trans hl.1.symm) hown lk3 lk4 lk5 lk6 (Nat.le_of_ble_eq_true rfl) (Nat.le_of_ble_eq_true rfl) (Nat.zero_le _) (Nat.zero_le _) dX8_needOf_64 ?_
        refine lv_topi (fun x64 e64 => ?_)
        have t64 := i_max e64
        subst hQ
        exact W.iret (v := x64) hx hb hr (fun t ht hW => ⟨x64, rfl, ⟨trivial, (fun vm hR hg hh => need_cls hR hh_.1 hh (per_eq hR hf4) (hx13_0 vm hR hg hh) (by omega) e62 e63 t64)⟩, ht⟩) (fun q h => absurd h List.not_mem_nil) dX8_needOf_67
      · have c16_ := i_nle c16
        refine lv_iload_n hx hb dX8_needOf_19 rfl (lv_at hl 3 rfl) ?_
        refine lv_aload_n hx hb dX8_needOf_20 rfl (lv_at hl 0 rfl) ?_
        refine lv_aload_n hx hb dX8_needOf_21 rfl (lv_at hl 0 rfl) ?_
        refine va_get (D := eD E) (ci := 8) (v := .ref (ap 0)) (C := RX8) (T := TX8) (N := 2) hx hb hts in_X8 hown hK hP 0 rfl rfl 0 (by decide) lk0 (fun _ h9 => h9) rfl dX8_needOf_22 ?_
        refine va_get (D := eD E) (ci := 1) (v := .ref (ap 7)) (C := RX1) (T := TX1) (N := 11) hx hb hts in_X1 hown hK hP 1 rfl rfl 7 (by decide) lk1 (fun _ h9 => h9) rfl dX8_needOf_25 ?_
        refine va_get (D := eD E) (ci := 5) (v := .ref (ap 61)) (C := RX5) (T := TX5) (N := 4) hx hb hts in_X5 hown hK hP 14 rfl rfl 1 (by decide) lk7 (fun _ h9 => h9) rfl dX8_needOf_28 ?_
        refine lv_iload_n hx hb dX8_needOf_31 rfl (lv_at hl 1 rfl) ?_
        refine va_iald hx hb hK hP 15 0 rfl rfl (n := 6) (f := (vp 61)) (i_in (by omega) (by omega)) dX8_needOf_32 ?_
        refine lv_topi (fun x32 e32 => ?_)
        have b32 := hs0.2 h.toNatClampNeg (i_natlt (by omega) (by decide))
        rw [← e32] at b32
        refine lv_iload hx hb dX8_needOf_33 (lv_at hl 4 rfl) ?_
        refine lv_iconst (v := (-1)) hx hb dX8_needOf_35 (by decide) ?_
        refine rd_V (As := [.int x32, .int t, .int (-1)]) (rest := [.int worst]) (C := RX8) (ci := 8) ⟨hx, hb, hml, hown, hts⟩ (c_X8_leanAt l E A qw ap vp as_ vs x32 t (-1) hI hJ (by omega) (by omega)) (cwV 3 hts gX8_needOf_X8_leanAt rfl rfl rfl (by decide +kernel) ⟨Nat.le_of_ble_eq_true rfl, Nat.le_of_ble_eq_true rfl⟩) hE (hP.sub (ws' := wpsL E qw ap vp as_ vs) [0, 1, 2, 3, 4, 5, 6, 7, 8, 9, 10, 11, 12, 13, 14, 15, 16, 17, 18, 19, 20, 21, 22, 23, 24, 25, 26, 27, 28, 29, 30, 31, 32, 33] rfl) rfl rfl rfl rfl hl.1 rfl (Nat.le_of_ble_eq_true rfl) dX8_needOf_36 ⟨Nat.zero_le _, Nat.zero_le _⟩ (fun r36 h36 => ?_)
        have hf36 := h36.2
        replace h36 := h36.1
        refine va_mmax hx hb (hml.trans hl.1.symm) hown lk3 lk4 lk5 lk6 (Nat.le_of_ble_eq_true rfl) (Nat.le_of_ble_eq_true rfl) (Nat.zero_le _) (Nat.zero_le _) dX8_needOf_39 ?_
        refine lv_topi (fun x39 e39 => ?_)
        have t39 := i_max e39
        refine lv_istore_n (lv' := [(3, .int x39), (0, .ref qw), (1, .int h), (2, .int r4), (4, .int t)]) hx hb dX8_needOf_42 rfl hl (by decide) rfl (fun ls hl => ?_)
        obtain ⟨x43, e43⟩ : ∃ y : Int32, y = t + 1 := ⟨_, rfl⟩
        refine lv_iinc (v := x43) (lv' := [(4, .int x43), (3, .int x39), (0, .ref qw), (1, .int h), (2, .int r4)]) hx hb dX8_needOf_43 hl (k := 4) rfl (by rw [e43]; rfl) (by decide) rfl (fun ls hl => ?_)
        have t43 := i_add e43 (by omega)
        refine lv_goto (tgt := 13) hx hb dX8_needOf_46 (by decide) ?_
        exact ih13 x39 x43 ls (by omega) (by omega) (fun vm hR hg hh => wo_step hR hh_.1 hh (hx13_0 vm hR hg hh) (by omega) t43 e32 (hf36 vm hR hg (house_c hR hh_.1 hh e32)) t39) (by omega) (lv_sub hl [2, 3, 4, 1, 0] rfl)
  exact K13 _ 0 0 ls (Nat.lt_succ_self _) (by omega) (fun vm _ _ _ => ⟨by rw [n_0]; omega, fun i hi => absurd hi (by rw [n_0]; omega), Or.inl n_0⟩) (by rw [n_0]; omega) (lv_sub hl [3, 4, 2, 1, 0] rfl)
def rm_X8_isOpen : Room := { frames := 2, cells := 0, slots := 0, locals := 48 }
set_option maxHeartbeats 4000000 in
set_option maxRecDepth 100000 in
theorem c_X8_isOpen (l : Launch) (E : Ev) (A : Nat → Prop) (qw : Nat) (ap : Nat → Nat) (vp : Vf) (as_ : Nat → Nat) (vs : Vf) (h : Int32) (step : Int32) (hI : PlanI vp) (hJ : StateI vs) (hh : 0 ≤ h.toInt ∧ h.toInt ≤ 5) (hstep : 0 ≤ step.toInt ∧ step.toInt ≤ 2000000) : Met l yX8_isOpen wsX8_isOpen rm_X8_isOpen (RdP E A [.ref qw, .int h, .int step] (wpsL E qw ap vp as_ vs)) (vp_Si (fun r => ((r.toInt = 0 ∨ r.toInt = 1)) ∧ (∀ vm : Vf, RW vm vp vs → (-1 : Int32) = vm 62 0 → h.toInt < (vm 12 0).toInt → r = mOpen vm h step))) 0 0 (fun _ => False) := by
  refine Met.ofW (cc := cX8_isOpen) (maxL := 3) (ret := (some .boolean)) (by decide) rfl ?_
  intro p e s m args below meth c s₁ B hml hv
  obtain ⟨rfl, hE, hP⟩ := hv
  have hx := B.exec
  have hb := B.bytes
  have hr := B.returns
  have hts := atoms_spec (ws := wsX8_isOpen) B.pre
  have hown : s.vm.findClass RX8 = some m.cls := findClass_of_methodNamed B.named
  have hlocks := B.notSynchronized
  have hK := hE.1
  have in_X8 : ∀ w ∈ u_ws RX8 TX8 2, w ∈ wsX8_isOpen := fun w h => List.mem_cons_of_mem _ (List.mem_append_left _ (List.mem_append_left _ (List.mem_append_left _ (List.mem_append_left _ (List.mem_append_right _ h)))))
  have in_X1 : ∀ w ∈ u_ws RX1 TX1 11, w ∈ wsX8_isOpen := fun w h => List.mem_cons_of_mem _ (List.mem_append_left _ (List.mem_append_left _ (List.mem_append_left _ (List.mem_append_right _ h))))
  have in_X5 : ∀ w ∈ u_ws RX5 TX5 4, w ∈ wsX8_isOpen := fun w h => List.mem_cons_of_mem _ (List.mem_append_left _ (List.mem_append_left _ (List.mem_append_right _ h)))
  have lk0 := hts (.fieldLink RX8 9 "TidedGround$World" "plan" "LTidedGround$Plan;") (List.mem_of_getElem? (i := 1) rfl)
  have lk1 := hts (.fieldLink RX8 101 "TidedGround$Plan" "cracks" "LTidedGround$Sites;") (List.mem_of_getElem? (i := 2) rfl)
  have lk2 := hts (.fieldLink RX8 76 "TidedGround$Sites" "cell" "[I") (List.mem_of_getElem? (i := 3) rfl)
  have lk3 := hts (.fieldLink RX8 104 "TidedGround$Sites" "second" "[I") (List.mem_of_getElem? (i := 4) rfl)
  have n_m1 : ((-1) : Int32).toInt = -1 := by decide
  have n_0 : (0 : Int32).toInt = 0 := by decide
  have n_1 : (1 : Int32).toInt = 1 := by decide
  have hl := lv_entry ([.ref qw, .int h, .int step]) (n := 3) (Nat.le_of_ble_eq_true rfl)
  rw [lg_entry_eq]
  generalize (lg_sl ([.ref qw, .int h, .int step]) ++ List.replicate (3 - (lg_sl ([.ref qw, .int h, .int step])).length) Slot.unset).toArray = ls at hl ⊢
  have hl : lv_has ls 3 [(0, .ref qw), (1, .int h), (2, .int step)] := hl
  refine W_abs (fun Q hQ => ?_)
  obtain ⟨hg, hmc, hm0, hm1, hm2, hs0, hs1, hs2, hs3⟩ := id hI
  obtain ⟨hg1, hg2, hg3, hg4⟩ := id hg
  have hz0 := hm0.1
  have hz1 := hm1.1
  have hz2 := hm2.1
  have hc0 := hs0.1
  have hc1 := hs1.1
  have hc2 := hs2.1
  have hc3 := hs3.1
  obtain ⟨hj0, hj1, hj2⟩ := id hJ
  have hh_ := hh
  refine lv_aload_n hx hb dX8_isOpen_0 rfl (lv_at hl 0 rfl) ?_
  refine lv_aload_n hx hb dX8_isOpen_1 rfl (lv_at hl 0 rfl) ?_
  refine va_get (D := eD E) (ci := 8) (v := .ref (ap 0)) (C := RX8) (T := TX8) (N := 2) hx hb hts in_X8 hown hK hP 0 rfl rfl 0 (by decide) lk0 (fun _ h9 => h9) rfl dX8_isOpen_2 ?_
  refine va_get (D := eD E) (ci := 1) (v := .ref (ap 8)) (C := RX1) (T := TX1) (N := 11) hx hb hts in_X1 hown hK hP 1 rfl rfl 8 (by decide) lk1 (fun _ h9 => h9) rfl dX8_isOpen_5 ?_
  refine va_get (D := eD E) (ci := 5) (v := .ref (ap 71)) (C := RX5) (T := TX5) (N := 4) hx hb hts in_X5 hown hK hP 18 rfl rfl 1 (by decide) lk2 (fun _ h9 => h9) rfl dX8_isOpen_8 ?_
  refine lv_iload_n hx hb dX8_isOpen_11 rfl (lv_at hl 1 rfl) ?_
  refine va_iald hx hb hK hP 19 0 rfl rfl (n := 6) (f := (vp 71)) (i_in (by omega) (by omega)) dX8_isOpen_12 ?_
  refine lv_topi (fun x12 e12 => ?_)
  have b12 := hs1.2 h.toNatClampNeg (i_natlt (by omega) (by decide))
  rw [← e12] at b12
  refine lv_iload_n hx hb dX8_isOpen_13 rfl (lv_at hl 2 rfl) ?_
  refine lv_iconst (v := (-1)) hx hb dX8_isOpen_14 (by decide) ?_
  refine rd_V (As := [.int x12, .int step, .int (-1)]) (rest := []) (C := RX8) (ci := 8) ⟨hx, hb, hml, hown, hts⟩ (c_X8_pullAt l E A qw ap vp as_ vs x12 step (-1) hI hJ (by omega) (by omega)) (cwV 3 hts gX8_isOpen_X8_pullAt rfl rfl rfl (by decide +kernel) ⟨Nat.le_of_ble_eq_true rfl, Nat.le_of_ble_eq_true rfl⟩) hE (hP.sub (ws' := wpsL E qw ap vp as_ vs) [0, 1, 2, 3, 4, 5, 6, 7, 8, 9, 10, 11, 12, 13, 14, 15, 16, 17, 18, 19, 20, 21, 22, 23, 24, 25, 26, 27, 28, 29, 30, 31, 32, 33] rfl) rfl rfl rfl rfl hl.1 rfl (Nat.le_of_ble_eq_true rfl) dX8_isOpen_15 ⟨Nat.zero_le _, Nat.zero_le _⟩ (fun r15 h15 => ?_)
  have hf15 := h15.2
  replace h15 := h15.1
  refine lv_aload_n hx hb dX8_isOpen_18 rfl (lv_at hl 0 rfl) ?_
  refine va_get (D := eD E) (ci := 8) (v := .ref (ap 0)) (C := RX8) (T := TX8) (N := 2) hx hb hts in_X8 hown hK hP 0 rfl rfl 0 (by decide) lk0 (fun _ h9 => h9) rfl dX8_isOpen_19 ?_
  refine va_get (D := eD E) (ci := 1) (v := .ref (ap 8)) (C := RX1) (T := TX1) (N := 11) hx hb hts in_X1 hown hK hP 1 rfl rfl 8 (by decide) lk1 (fun _ h9 => h9) rfl dX8_isOpen_22 ?_
  refine va_get (D := eD E) (ci := 5) (v := .ref (ap 73)) (C := RX5) (T := TX5) (N := 4) hx hb hts in_X5 hown hK hP 18 rfl rfl 3 (by decide) lk3 (fun _ h9 => h9) rfl dX8_isOpen_25 ?_
  refine lv_iload_n hx hb dX8_isOpen_28 rfl (lv_at hl 1 rfl) ?_
  refine va_iald hx hb hK hP 21 0 rfl rfl (n := 6) (f := (vp 73)) (i_in (by omega) (by omega)) dX8_isOpen_29 ?_
  refine lv_topi (fun x29 e29 => ?_)
  refine lv_icmp_le (tgt := 37) hx hb dX8_isOpen_30 (by decide) (fun c30 => ?_) (fun c30 => ?_)
  · have c30_ := i_le c30
    refine lv_iconst (v := 0) hx hb dX8_isOpen_37 (by decide) ?_
    subst hQ
    exact W.zret (v := 0) hx hb hr rfl (fun t ht hW => ⟨0, rfl, ⟨(by omega), (fun vm hR hg hh => by have hn := i_nat hh_.1; have q := hR.1.2.2.2.1.2 h.toNatClampNeg (by omega); have o := (hR.2.2.2.2.2.1 h.toNatClampNeg (by omega)).1; have e := hf15 vm hR hg ⟨by omega, by rw [e12, q.1]; exact o⟩; unfold mOpen; rw [← q.1, ← q.2.2, ← e12, ← e29, ← e]; first | rw [if_pos c30] | rw [if_neg c30])⟩, ht⟩) (fun q h => absurd h List.not_mem_nil) dX8_isOpen_38
  · have c30_ := i_nle c30
    refine lv_iconst (v := 1) hx hb dX8_isOpen_33 (by decide) ?_
    refine lv_goto (tgt := 38) hx hb dX8_isOpen_34 (by decide) ?_
    subst hQ
    exact W.zret (v := 1) hx hb hr rfl (fun t ht hW => ⟨1, rfl, ⟨(by omega), (fun vm hR hg hh => by have hn := i_nat hh_.1; have q := hR.1.2.2.2.1.2 h.toNatClampNeg (by omega); have o := (hR.2.2.2.2.2.1 h.toNatClampNeg (by omega)).1; have e := hf15 vm hR hg ⟨by omega, by rw [e12, q.1]; exact o⟩; unfold mOpen; rw [← q.1, ← q.2.2, ← e12, ← e29, ← e]; first | rw [if_pos c30] | rw [if_neg c30])⟩, ht⟩) (fun q h => absurd h List.not_mem_nil) dX8_isOpen_38
def rm_X8_spreadOf : Room := { frames := 3, cells := 0, slots := 0, locals := 71 }
set_option maxHeartbeats 4000000 in
set_option maxRecDepth 100000 in
theorem c_X8_spreadOf (l : Launch) (E : Ev) (A : Nat → Prop) (qw : Nat) (ap : Nat → Nat) (vp : Vf) (as_ : Nat → Nat) (vs : Vf) (set : Int32) (step : Int32) (hI : PlanI vp) (hJ : StateI vs) (hstep : 0 ≤ step.toInt ∧ step.toInt ≤ 2000000) : Met l yX8_spreadOf wsX8_spreadOf rm_X8_spreadOf (RdP E A [.ref qw, .int set, .int step] (wpsL E qw ap vp as_ vs)) (vp_Si (fun r => True)) 0 0 (fun _ => False) := by
  refine Met.ofW (cc := cX8_spreadOf) (maxL := 8) (ret := (some .int)) (by decide) rfl ?_
  intro p e s m args below meth c s₁ B hml hv
  obtain ⟨rfl, hE, hP⟩ := hv
  have hx := B.exec
  have hb := B.bytes
  have hr := B.returns
  have hts := atoms_spec (ws := wsX8_spreadOf) B.pre
  have hown : s.vm.findClass RX8 = some m.cls := findClass_of_methodNamed B.named
  have hlocks := B.notSynchronized
  have hK := hE.1
  have in_X8 : ∀ w ∈ u_ws RX8 TX8 2, w ∈ wsX8_spreadOf := fun w h => List.mem_cons_of_mem _ (List.mem_append_left _ (List.mem_append_left _ (List.mem_append_left _ (List.mem_append_right _ h))))
  have in_X1 : ∀ w ∈ u_ws RX1 TX1 11, w ∈ wsX8_spreadOf := fun w h => List.mem_cons_of_mem _ (List.mem_append_left _ (List.mem_append_left _ (List.mem_append_right _ h)))
  have lk0 := hts (.fieldLink RX8 9 "TidedGround$World" "plan" "LTidedGround$Plan;") (List.mem_of_getElem? (i := 1) rfl)
  have lk1 := hts (.fieldLink RX8 107 "TidedGround$Plan" "cells" "I") (List.mem_of_getElem? (i := 2) rfl)
  have lk2 := hts (.methodLink RX8 47 Lib.Math.max.name) (List.mem_of_getElem? (i := 7) rfl)
  have lk3 := hts (.static Lib.Math.max.name) (List.mem_of_getElem? (i := 8) rfl)
  have lk4 := hts (.initialized "java/lang/Math") (List.mem_of_getElem? (i := 5) rfl)
  have lk5 := hts (.code Lib.Math.max.name Lib.Math.max.code 2 (some .int)) (List.mem_of_getElem? (i := 9) rfl)
  have lk6 := hts (.methodLink RX8 110 Lib.Math.min.name) (List.mem_of_getElem? (i := 3) rfl)
  have lk7 := hts (.static Lib.Math.min.name) (List.mem_of_getElem? (i := 4) rfl)
  have lk8 := hts (.code Lib.Math.min.name Lib.Math.min.code 2 (some .int)) (List.mem_of_getElem? (i := 6) rfl)
  have n_m1 : ((-1) : Int32).toInt = -1 := by decide
  have n_0 : (0 : Int32).toInt = 0 := by decide
  have n_1 : (1 : Int32).toInt = 1 := by decide
  have hl := lv_entry ([.ref qw, .int set, .int step]) (n := 8) (Nat.le_of_ble_eq_true rfl)
  rw [lg_entry_eq]
  generalize (lg_sl ([.ref qw, .int set, .int step]) ++ List.replicate (8 - (lg_sl ([.ref qw, .int set, .int step])).length) Slot.unset).toArray = ls at hl ⊢
  have hl : lv_has ls 8 [(0, .ref qw), (1, .int set), (2, .int step)] := hl
  refine W_abs (fun Q hQ => ?_)
  obtain ⟨hg, hmc, hm0, hm1, hm2, hs0, hs1, hs2, hs3⟩ := id hI
  obtain ⟨hg1, hg2, hg3, hg4⟩ := id hg
  have hz0 := hm0.1
  have hz1 := hm1.1
  have hz2 := hm2.1
  have hc0 := hs0.1
  have hc1 := hs1.1
  have hc2 := hs2.1
  have hc3 := hs3.1
  obtain ⟨hj0, hj1, hj2⟩ := id hJ
  refine lv_iconst (v := 0) hx hb dX8_spreadOf_0 (by decide) ?_
  refine lv_istore_n (lv' := [(3, .int 0), (0, .ref qw), (1, .int set), (2, .int step)]) hx hb dX8_spreadOf_1 rfl hl (by decide) rfl (fun ls hl => ?_)
  refine lv_iconst (v := 0) hx hb dX8_spreadOf_2 (by decide) ?_
  refine lv_istore (lv' := [(4, .int 0), (3, .int 0), (0, .ref qw), (1, .int set), (2, .int step)]) hx hb dX8_spreadOf_3 hl (by decide) rfl (fun ls hl => ?_)
  refine lv_iconst (v := 0) hx hb dX8_spreadOf_5 (by decide) ?_
  refine lv_istore (lv' := [(5, .int 0), (4, .int 0), (3, .int 0), (0, .ref qw), (1, .int set), (2, .int step)]) hx hb dX8_spreadOf_6 hl (by decide) rfl (fun ls hl => ?_)
  refine lv_iconst (v := 0) hx hb dX8_spreadOf_8 (by decide) ?_
  refine lv_istore (lv' := [(6, .int 0), (5, .int 0), (4, .int 0), (3, .int 0), (0, .ref qw), (1, .int set), (2, .int step)]) hx hb dX8_spreadOf_9 hl (by decide) rfl (fun ls hl => ?_)
  have K11 : ∀ (μ : Nat) (low : Int32) (high : Int32) (fd : Int32) (k : Int32) (ls : Array Slot), (24 - k.toInt).toNat < μ → (0 ≤ k.toInt ∧ k.toInt ≤ 24) → lv_has ls 8 [(0, .ref qw), (1, .int set), (2, .int step), (3, .int low), (4, .int high), (5, .int fd), (6, .int k)] → W p l e (headSpec wsX8_spreadOf rm_X8_spreadOf).room s m ([.ref qw, .int set, .int step] : List Value).toArray below meth c s.heap [] 0 0 Q (F0 m 11 ls []) := by
    intro μ
    induction μ with
    | zero =>
      intro low high fd k ls hμ11
      exact absurd hμ11 (Nat.not_lt_zero _)
    | succ μ ih11 =>
      intro low high fd k ls hμ11 h11_0 hl
      refine lv_iload hx hb dX8_spreadOf_11 (lv_at hl 6 rfl) ?_
      refine lv_aload_n hx hb dX8_spreadOf_13 rfl (lv_at hl 0 rfl) ?_
      refine va_get (D := eD E) (ci := 8) (v := .ref (ap 0)) (C := RX8) (T := TX8) (N := 2) hx hb hts in_X8 hown hK hP 0 rfl rfl 0 (by decide) lk0 (fun _ h9 => h9) rfl dX8_spreadOf_14 ?_
      refine va_get (D := eD E) (ci := 1) (v := .int (vp 2 0)) (C := RX1) (T := TX1) (N := 11) hx hb hts in_X1 hown hK hP 1 rfl rfl 2 (by decide) lk1 (fun _ h9 => h9) rfl dX8_spreadOf_17 ?_
      refine lv_icmp_ge (tgt := 87) hx hb dX8_spreadOf_20 (by decide) (fun c20 => ?_) (fun c20 => ?_)
      · have c20_ := i_le c20
        refine lv_iload hx hb dX8_spreadOf_87 (lv_at hl 4 rfl) ?_
        refine lv_iload_n hx hb dX8_spreadOf_89 rfl (lv_at hl 3 rfl) ?_
        refine lv_isub hx hb dX8_spreadOf_90 ?_
        refine lv_topi (fun x90 e90 => ?_)
        subst hQ
        exact W.iret (v := x90) hx hb hr (fun t ht hW => ⟨x90, rfl, trivial, ht⟩) (fun q h => absurd h List.not_mem_nil) dX8_spreadOf_91
      · have c20_ := i_nle c20
        refine lv_iload_n hx hb dX8_spreadOf_23 rfl (lv_at hl 1 rfl) ?_
        refine lv_iload hx hb dX8_spreadOf_24 (lv_at hl 6 rfl) ?_
        refine lv_ishr hx hb dX8_spreadOf_26 ?_
        refine lv_topi (fun x26 e26 => ?_)
        refine lv_iconst (v := 1) hx hb dX8_spreadOf_27 (by decide) ?_
        refine lv_iand hx hb dX8_spreadOf_28 ?_
        refine lv_topi (fun x28 e28 => ?_)
        refine lv_if_eq (tgt := 81) hx hb dX8_spreadOf_29 (by decide) (fun c29 => ?_) (fun c29 => ?_)
        · have c29_ := i_eq c29
          obtain ⟨x81, e81⟩ : ∃ y : Int32, y = k + 1 := ⟨_, rfl⟩
          refine lv_iinc (v := x81) (lv' := [(6, .int x81), (0, .ref qw), (1, .int set), (2, .int step), (3, .int low), (4, .int high), (5, .int fd)]) hx hb dX8_spreadOf_81 hl (k := 6) rfl (by rw [e81]; rfl) (by decide) rfl (fun ls hl => ?_)
          have t81 := i_add e81 (by omega)
          refine lv_goto (tgt := 11) hx hb dX8_spreadOf_84 (by decide) ?_
          exact ih11 low high fd x81 ls (by omega) (by omega) (lv_sub hl [1, 2, 3, 4, 5, 6, 0] rfl)
        · have c29_ := i_ne c29
          refine lv_aload_n hx hb dX8_spreadOf_32 rfl (lv_at hl 0 rfl) ?_
          refine lv_iload hx hb dX8_spreadOf_33 (lv_at hl 6 rfl) ?_
          refine lv_iload_n hx hb dX8_spreadOf_35 rfl (lv_at hl 2 rfl) ?_
          refine lv_iconst (v := (-1)) hx hb dX8_spreadOf_36 (by decide) ?_
          refine rd_V (As := [.int k, .int step, .int (-1)]) (rest := []) (C := RX8) (ci := 8) ⟨hx, hb, hml, hown, hts⟩ (c_X8_heightAt l E A qw ap vp as_ vs k step (-1) hI hJ (by omega) (by omega)) (cwV 3 hts gX8_spreadOf_X8_heightAt rfl rfl rfl (by decide +kernel) ⟨Nat.le_of_ble_eq_true rfl, Nat.le_of_ble_eq_true rfl⟩) hE (hP.sub (ws' := wpsL E qw ap vp as_ vs) [0, 1, 2, 3, 4, 5, 6, 7, 8, 9, 10, 11, 12, 13, 14, 15, 16, 17, 18, 19, 20, 21, 22, 23, 24, 25, 26, 27, 28, 29, 30, 31, 32, 33] rfl) rfl rfl rfl rfl hl.1 rfl (Nat.le_of_ble_eq_true rfl) dX8_spreadOf_37 ⟨Nat.zero_le _, Nat.zero_le _⟩ (fun r37 h37 => ?_)
          have hf37 := h37.2
          replace h37 := h37.1
          refine lv_istore (lv' := [(7, .int r37), (0, .ref qw), (1, .int set), (2, .int step), (3, .int low), (4, .int high), (5, .int fd), (6, .int k)]) hx hb dX8_spreadOf_40 hl (by decide) rfl (fun ls hl => ?_)
          refine lv_iload hx hb dX8_spreadOf_42 (lv_at hl 6 rfl) ?_
          refine lv_if_eq (tgt := 56) hx hb dX8_spreadOf_44 (by decide) (fun c44 => ?_) (fun c44 => ?_)
          · have c44_ := i_eq c44
            refine lv_iload hx hb dX8_spreadOf_56 (lv_at hl 0 rfl) ?_
            refine lv_istore_n (lv' := [(3, .int r37), (7, .int r37), (0, .ref qw), (1, .int set), (2, .int step), (4, .int high), (5, .int fd), (6, .int k)]) hx hb dX8_spreadOf_58 rfl hl (by decide) rfl (fun ls hl => ?_)
            refine lv_iload hx hb dX8_spreadOf_59 (lv_at hl 6 rfl) ?_
            refine lv_if_eq (tgt := 74) hx hb dX8_spreadOf_61 (by decide) (fun c61 => ?_) (fun c61 => ?_)
            · have c61_ := i_eq c61
              refine lv_iload hx hb dX8_spreadOf_74 (lv_at hl 1 rfl) ?_
              refine lv_istore (lv' := [(4, .int r37), (3, .int r37), (7, .int r37), (0, .ref qw), (1, .int set), (2, .int step), (5, .int fd), (6, .int k)]) hx hb dX8_spreadOf_76 hl (by decide) rfl (fun ls hl => ?_)
              refine lv_iconst (v := 1) hx hb dX8_spreadOf_78 (by decide) ?_
              refine lv_istore (lv' := [(5, .int 1), (4, .int r37), (3, .int r37), (7, .int r37), (0, .ref qw), (1, .int set), (2, .int step), (6, .int k)]) hx hb dX8_spreadOf_79 hl (by decide) rfl (fun ls hl => ?_)
              obtain ⟨x81, e81⟩ : ∃ y : Int32, y = k + 1 := ⟨_, rfl⟩
              refine lv_iinc (v := x81) (lv' := [(6, .int x81), (5, .int 1), (4, .int r37), (3, .int r37), (7, .int r37), (0, .ref qw), (1, .int set), (2, .int step)]) hx hb dX8_spreadOf_81 hl (k := 7) rfl (by rw [e81]; rfl) (by decide) rfl (fun ls hl => ?_)
              have t81 := i_add e81 (by omega)
              refine lv_goto (tgt := 11) hx hb dX8_spreadOf_84 (by decide) ?_
              exact ih11 r37 r37 1 x81 ls (by omega) (by omega) (lv_sub hl [5, 6, 7, 3, 2, 1, 0] rfl)
            · have c61_ := i_ne c61
              refine lv_iload hx hb dX8_spreadOf_64 (lv_at hl 5 rfl) ?_
              refine lv_iload hx hb dX8_spreadOf_66 (lv_at hl 1 rfl) ?_
              refine va_mmax hx hb (hml.trans hl.1.symm) hown lk2 lk3 lk4 lk5 (Nat.le_of_ble_eq_true rfl) (Nat.le_of_ble_eq_true rfl) (Nat.zero_le _) (Nat.zero_le _) dX8_spreadOf_68 ?_
              refine lv_topi (fun x68 e68 => ?_)
              have t68 := i_max e68
              refine lv_goto (tgt := 76) hx hb dX8_spreadOf_71 (by decide) ?_
              refine lv_istore (lv' := [(4, .int x68), (3, .int r37), (7, .int r37), (0, .ref qw), (1, .int set), (2, .int step), (5, .int fd), (6, .int k)]) hx hb dX8_spreadOf_76 hl (by decide) rfl (fun ls hl => ?_)
              refine lv_iconst (v := 1) hx hb dX8_spreadOf_78 (by decide) ?_
              refine lv_istore (lv' := [(5, .int 1), (4, .int x68), (3, .int r37), (7, .int r37), (0, .ref qw), (1, .int set), (2, .int step), (6, .int k)]) hx hb dX8_spreadOf_79 hl (by decide) rfl (fun ls hl => ?_)
              obtain ⟨x81, e81⟩ : ∃ y : Int32, y = k + 1 := ⟨_, rfl⟩
              refine lv_iinc (v := x81) (lv' := [(6, .int x81), (5, .int 1), (4, .int x68), (3, .int r37), (7, .int r37), (0, .ref qw), (1, .int set), (2, .int step)]) hx hb dX8_spreadOf_81 hl (k := 7) rfl (by rw [e81]; rfl) (by decide) rfl (fun ls hl => ?_)
              have t81 := i_add e81 (by omega)
              refine lv_goto (tgt := 11) hx hb dX8_spreadOf_84 (by decide) ?_
              exact ih11 r37 x68 1 x81 ls (by omega) (by omega) (lv_sub hl [5, 6, 7, 3, 2, 1, 0] rfl)
          · have c44_ := i_ne c44
            refine lv_iload_n hx hb dX8_spreadOf_47 rfl (lv_at hl 4 rfl) ?_
            refine lv_iload hx hb dX8_spreadOf_48 (lv_at hl 0 rfl) ?_
            refine va_mmin hx hb (hml.trans hl.1.symm) hown lk6 lk7 lk4 lk8 (Nat.le_of_ble_eq_true rfl) (Nat.le_of_ble_eq_true rfl) (Nat.zero_le _) (Nat.zero_le _) dX8_spreadOf_50 ?_
            refine lv_topi (fun x50 e50 => ?_)
            have t50 := i_min e50
            refine lv_goto (tgt := 58) hx hb dX8_spreadOf_53 (by decide) ?_
            refine lv_istore_n (lv' := [(3, .int x50), (7, .int r37), (0, .ref qw), (1, .int set), (2, .int step), (4, .int high), (5, .int fd), (6, .int k)]) hx hb dX8_spreadOf_58 rfl hl (by decide) rfl (fun ls hl => ?_)
            refine lv_iload hx hb dX8_spreadOf_59 (lv_at hl 6 rfl) ?_
            refine lv_if_eq (tgt := 74) hx hb dX8_spreadOf_61 (by decide) (fun c61 => ?_) (fun c61 => ?_)
            · have c61_ := i_eq c61
              refine lv_iload hx hb dX8_spreadOf_74 (lv_at hl 1 rfl) ?_
              refine lv_istore (lv' := [(4, .int r37), (3, .int x50), (7, .int r37), (0, .ref qw), (1, .int set), (2, .int step), (5, .int fd), (6, .int k)]) hx hb dX8_spreadOf_76 hl (by decide) rfl (fun ls hl => ?_)
              refine lv_iconst (v := 1) hx hb dX8_spreadOf_78 (by decide) ?_
              refine lv_istore (lv' := [(5, .int 1), (4, .int r37), (3, .int x50), (7, .int r37), (0, .ref qw), (1, .int set), (2, .int step), (6, .int k)]) hx hb dX8_spreadOf_79 hl (by decide) rfl (fun ls hl => ?_)
              obtain ⟨x81, e81⟩ : ∃ y : Int32, y = k + 1 := ⟨_, rfl⟩
              refine lv_iinc (v := x81) (lv' := [(6, .int x81), (5, .int 1), (4, .int r37), (3, .int x50), (7, .int r37), (0, .ref qw), (1, .int set), (2, .int step)]) hx hb dX8_spreadOf_81 hl (k := 7) rfl (by rw [e81]; rfl) (by decide) rfl (fun ls hl => ?_)
              have t81 := i_add e81 (by omega)
              refine lv_goto (tgt := 11) hx hb dX8_spreadOf_84 (by decide) ?_
              exact ih11 x50 r37 1 x81 ls (by omega) (by omega) (lv_sub hl [5, 6, 7, 3, 2, 1, 0] rfl)
            · have c61_ := i_ne c61
              refine lv_iload hx hb dX8_spreadOf_64 (lv_at hl 5 rfl) ?_
              refine lv_iload hx hb dX8_spreadOf_66 (lv_at hl 1 rfl) ?_
              refine va_mmax hx hb (hml.trans hl.1.symm) hown lk2 lk3 lk4 lk5 (Nat.le_of_ble_eq_true rfl) (Nat.le_of_ble_eq_true rfl) (Nat.zero_le _) (Nat.zero_le _) dX8_spreadOf_68 ?_
              refine lv_topi (fun x68 e68 => ?_)
              have t68 := i_max e68
              refine lv_goto (tgt := 76) hx hb dX8_spreadOf_71 (by decide) ?_
              refine lv_istore (lv' := [(4, .int x68), (3, .int x50), (7, .int r37), (0, .ref qw), (1, .int set), (2, .int step), (5, .int fd), (6, .int k)]) hx hb dX8_spreadOf_76 hl (by decide) rfl (fun ls hl => ?_)
              refine lv_iconst (v := 1) hx hb dX8_spreadOf_78 (by decide) ?_
              refine lv_istore (lv' := [(5, .int 1), (4, .int x68), (3, .int x50), (7, .int r37), (0, .ref qw), (1, .int set), (2, .int step), (6, .int k)]) hx hb dX8_spreadOf_79 hl (by decide) rfl (fun ls hl => ?_)
              obtain ⟨x81, e81⟩ : ∃ y : Int32, y = k + 1 := ⟨_, rfl⟩
              refine lv_iinc (v := x81) (lv' := [(6, .int x81), (5, .int 1), (4, .int x68), (3, .int x50), (7, .int r37), (0, .ref qw), (1, .int set), (2, .int step)]) hx hb dX8_spreadOf_81 hl (k := 7) rfl (by rw [e81]; rfl) (by decide) rfl (fun ls hl => ?_)
              have t81 := i_add e81 (by omega)
              refine lv_goto (tgt := 11) hx hb dX8_spreadOf_84 (by decide) ?_
              exact ih11 x50 x68 1 x81 ls (by omega) (by omega) (lv_sub hl [5, 6, 7, 3, 2, 1, 0] rfl)
  exact K11 _ 0 0 0 0 ls (Nat.lt_succ_self _) (by omega) (lv_sub hl [4, 5, 6, 3, 2, 1, 0] rfl)
def rm_X8_isLike : Room := { frames := 3, cells := 0, slots := 0, locals := 71 }
set_option maxHeartbeats 4000000 in
set_option maxRecDepth 100000 in
theorem c_X8_isLike (l : Launch) (E : Ev) (A : Nat → Prop) (qw : Nat) (ap : Nat → Nat) (vp : Vf) (as_ : Nat → Nat) (vs : Vf) (cell : Int32) (other : Int32) (step : Int32) (hI : PlanI vp) (hJ : StateI vs) (hcell : 0 ≤ cell.toInt ∧ cell.toInt ≤ 23) (hother : other.toInt = -1 ∨ (0 ≤ other.toInt ∧ other.toInt ≤ 23)) (hstep : 0 ≤ step.toInt ∧ step.toInt ≤ 2000000) : Met l yX8_isLike wsX8_isLike rm_X8_isLike (RdP E A [.ref qw, .int cell, .int other, .int step] (wpsL E qw ap vp as_ vs)) (vp_Si (fun r => ((r.toInt = 0 ∨ r.toInt = 1)) ∧ (∀ vm : Vf, RW vm vp vs → (-1 : Int32) = vm 62 0 → cW vm cell → ∀ way : Int32, other = mBes vm cell way → (r.toInt ≠ 0 ↔ LikP vm cell way step)))) 0 0 (fun _ => False) := by
  refine Met.ofW (cc := cX8_isLike) (maxL := 4) (ret := (some .boolean)) (by decide) rfl ?_
  intro p e s m args below meth c s₁ B hml hv
  obtain ⟨rfl, hE, hP⟩ := hv
  have hx := B.exec
  have hb := B.bytes
  have hr := B.returns
  have hts := atoms_spec (ws := wsX8_isLike) B.pre
  have hown : s.vm.findClass RX8 = some m.cls := findClass_of_methodNamed B.named
  have hlocks := B.notSynchronized
  have hK := hE.1
  have n_m1 : ((-1) : Int32).toInt = -1 := by decide
  have n_0 : (0 : Int32).toInt = 0 := by decide
  have n_1 : (1 : Int32).toInt = 1 := by decide
  have hl := lv_entry ([.ref qw, .int cell, .int other, .int step]) (n := 4) (Nat.le_of_ble_eq_true rfl)
  rw [lg_entry_eq]
  generalize (lg_sl ([.ref qw, .int cell, .int other, .int step]) ++ List.replicate (4 - (lg_sl ([.ref qw, .int cell, .int other, .int step])).length) Slot.unset).toArray = ls at hl ⊢
  have hl : lv_has ls 4 [(0, .ref qw), (1, .int cell), (2, .int other), (3, .int step)] := hl
  refine W_abs (fun Q hQ => ?_)
  obtain ⟨hg, hmc, hm0, hm1, hm2, hs0, hs1, hs2, hs3⟩ := id hI
  obtain ⟨hg1, hg2, hg3, hg4⟩ := id hg
  have hz0 := hm0.1
  have hz1 := hm1.1
  have hz2 := hm2.1
  have hc0 := hs0.1
  have hc1 := hs1.1
  have hc2 := hs2.1
  have hc3 := hs3.1
  obtain ⟨hj0, hj1, hj2⟩ := id hJ
  refine lv_iload_n hx hb dX8_isLike_0 rfl (lv_at hl 2 rfl) ?_
  refine lv_iconst (v := (-1)) hx hb dX8_isLike_1 (by decide) ?_
  refine lv_icmp_eq (tgt := 26) hx hb dX8_isLike_2 (by decide) (fun c2 => ?_) (fun c2 => ?_)
  · have c2_ := i_eq c2
    have hno2 : other.toInt < 0 := by omega
    refine lv_iconst (v := 0) hx hb dX8_isLike_26 (by decide) ?_
    subst hQ
    exact W.zret (v := 0) hx hb hr rfl (fun t ht hW => ⟨0, rfl, ⟨(by omega), (fun vm hR hg hc way hb => by first | exact lik_none hb hno2 (by decide) | exact lik_cmp hb hyes2 (hf9 vm hR hg hc) (hf16 vm hR hg (by have z := hyes2; rw [hb] at z ⊢; exact bes_cW hR.2.2.2.1.1 z)) ⟨fun _ => heq19, fun _ => by decide⟩ | exact lik_cmp hb hyes2 (hf9 vm hR hg hc) (hf16 vm hR hg (by have z := hyes2; rw [hb] at z ⊢; exact bes_cW hR.2.2.2.1.1 z)) ⟨fun z => absurd (by decide : (0 : Int32).toInt = 0) z, fun z => absurd z hne19⟩)⟩, ht⟩) (fun q h => absurd h List.not_mem_nil) dX8_isLike_27
  · have c2_ := i_ne c2
    have hyes2 : 0 ≤ other.toInt := by omega
    refine lv_aload_n hx hb dX8_isLike_5 rfl (lv_at hl 0 rfl) ?_
    refine lv_iload_n hx hb dX8_isLike_6 rfl (lv_at hl 1 rfl) ?_
    refine lv_iload_n hx hb dX8_isLike_7 rfl (lv_at hl 3 rfl) ?_
    refine lv_iconst (v := (-1)) hx hb dX8_isLike_8 (by decide) ?_
    refine rd_V (As := [.int cell, .int step, .int (-1)]) (rest := []) (C := RX8) (ci := 8) ⟨hx, hb, hml, hown, hts⟩ (c_X8_heightAt l E A qw ap vp as_ vs cell step (-1) hI hJ (by omega) (by omega)) (cwV 3 hts gX8_isLike_X8_heightAt rfl rfl rfl (by decide +kernel) ⟨Nat.le_of_ble_eq_true rfl, Nat.le_of_ble_eq_true rfl⟩) hE (hP.sub (ws' := wpsL E qw ap vp as_ vs) [0, 1, 2, 3, 4, 5, 6, 7, 8, 9, 10, 11, 12, 13, 14, 15, 16, 17, 18, 19, 20, 21, 22, 23, 24, 25, 26, 27, 28, 29, 30, 31, 32, 33] rfl) rfl rfl rfl rfl hl.1 rfl (Nat.le_of_ble_eq_true rfl) dX8_isLike_9 ⟨Nat.zero_le _, Nat.zero_le _⟩ (fun r9 h9 => ?_)
    have hf9 := h9.2
    replace h9 := h9.1
    refine lv_aload_n hx hb dX8_isLike_12 rfl (lv_at hl 0 rfl) ?_
    refine lv_iload_n hx hb dX8_isLike_13 rfl (lv_at hl 2 rfl) ?_
    refine lv_iload_n hx hb dX8_isLike_14 rfl (lv_at hl 3 rfl) ?_
    refine lv_iconst (v := (-1)) hx hb dX8_isLike_15 (by decide) ?_
    refine rd_V (As := [.int other, .int step, .int (-1)]) (rest := [.int r9]) (C := RX8) (ci := 8) ⟨hx, hb, hml, hown, hts⟩ (c_X8_heightAt l E A qw ap vp as_ vs other step (-1) hI hJ (by omega) (by omega)) (cwV 3 hts gX8_isLike_X8_heightAt rfl rfl rfl (by decide +kernel) ⟨Nat.le_of_ble_eq_true rfl, Nat.le_of_ble_eq_true rfl⟩) hE (hP.sub (ws' := wpsL E qw ap vp as_ vs) [0, 1, 2, 3, 4, 5, 6, 7, 8, 9, 10, 11, 12, 13, 14, 15, 16, 17, 18, 19, 20, 21, 22, 23, 24, 25, 26, 27, 28, 29, 30, 31, 32, 33] rfl) rfl rfl rfl rfl hl.1 rfl (Nat.le_of_ble_eq_true rfl) dX8_isLike_16 ⟨Nat.zero_le _, Nat.zero_le _⟩ (fun r16 h16 => ?_)
    have hf16 := h16.2
    replace h16 := h16.1
    refine lv_icmp_ne (tgt := 26) hx hb dX8_isLike_19 (by decide) (fun c19 => ?_) (fun c19 => ?_)
    · have c19_ := i_ne c19
      have hne19 : ¬ r9 = r16 := c19
      refine lv_iconst (v := 0) hx hb dX8_isLike_26 (by decide) ?_
      subst hQ
      exact W.zret (v := 0) hx hb hr rfl (fun t ht hW => ⟨0, rfl, ⟨(by omega), (fun vm hR hg hc way hb => by first | exact lik_none hb hno2 (by decide) | exact lik_cmp hb hyes2 (hf9 vm hR hg hc) (hf16 vm hR hg (by have z := hyes2; rw [hb] at z ⊢; exact bes_cW hR.2.2.2.1.1 z)) ⟨fun _ => heq19, fun _ => by decide⟩ | exact lik_cmp hb hyes2 (hf9 vm hR hg hc) (hf16 vm hR hg (by have z := hyes2; rw [hb] at z ⊢; exact bes_cW hR.2.2.2.1.1 z)) ⟨fun z => absurd (by decide : (0 : Int32).toInt = 0) z, fun z => absurd z hne19⟩)⟩, ht⟩) (fun q h => absurd h List.not_mem_nil) dX8_isLike_27
    · have c19_ := i_eq c19
      have heq19 : r9 = r16 := c19
      refine lv_iconst (v := 1) hx hb dX8_isLike_22 (by decide) ?_
      refine lv_goto (tgt := 27) hx hb dX8_isLike_23 (by decide) ?_
      subst hQ
      exact W.zret (v := 1) hx hb hr rfl (fun t ht hW => ⟨1, rfl, ⟨(by omega), (fun vm hR hg hc way hb => by first | exact lik_none hb hno2 (by decide) | exact lik_cmp hb hyes2 (hf9 vm hR hg hc) (hf16 vm hR hg (by have z := hyes2; rw [hb] at z ⊢; exact bes_cW hR.2.2.2.1.1 z)) ⟨fun _ => heq19, fun _ => by decide⟩ | exact lik_cmp hb hyes2 (hf9 vm hR hg hc) (hf16 vm hR hg (by have z := hyes2; rw [hb] at z ⊢; exact bes_cW hR.2.2.2.1.1 z)) ⟨fun z => absurd (by decide : (0 : Int32).toInt = 0) z, fun z => absurd z hne19⟩)⟩, ht⟩) (fun q h => absurd h List.not_mem_nil) dX8_isLike_27
def rm_X8_isAslant : Room := { frames := 4, cells := 0, slots := 0, locals := 94 }
set_option maxHeartbeats 4000000 in
set_option maxRecDepth 100000 in
theorem c_X8_isAslant (l : Launch) (E : Ev) (A : Nat → Prop) (qw : Nat) (ap : Nat → Nat) (vp : Vf) (as_ : Nat → Nat) (vs : Vf) (step : Int32) (hI : PlanI vp) (hJ : StateI vs) (hstep : 0 ≤ step.toInt ∧ step.toInt ≤ 2000000) : Met l yX8_isAslant wsX8_isAslant rm_X8_isAslant (RdP E A [.ref qw, .int step] (wpsL E qw ap vp as_ vs)) (vp_Si (fun r => ((r.toInt = 0 ∨ r.toInt = 1)) ∧ (∀ vm : Vf, RW vm vp vs → (-1 : Int32) = vm 62 0 → (r.toInt ≠ 0 ↔ AslQ vm step ((vm 0 0).toInt * (vm 1 0).toInt))))) 0 0 (fun _ => False) := by
  refine Met.ofW (cc := cX8_isAslant) (maxL := 3) (ret := (some .boolean)) (by decide) rfl ?_
  intro p e s m args below meth c s₁ B hml hv
  obtain ⟨rfl, hE, hP⟩ := hv
  have hx := B.exec
  have hb := B.bytes
  have hr := B.returns
  have hts := atoms_spec (ws := wsX8_isAslant) B.pre
  have hown : s.vm.findClass RX8 = some m.cls := findClass_of_methodNamed B.named
  have hlocks := B.notSynchronized
  have hK := hE.1
  have in_X8 : ∀ w ∈ u_ws RX8 TX8 2, w ∈ wsX8_isAslant := fun w h => List.mem_cons_of_mem _ (List.mem_append_left _ (List.mem_append_left _ (List.mem_append_left _ (List.mem_append_right _ h))))
  have in_X1 : ∀ w ∈ u_ws RX1 TX1 11, w ∈ wsX8_isAslant := fun w h => List.mem_cons_of_mem _ (List.mem_append_left _ (List.mem_append_left _ (List.mem_append_right _ h)))
  have lk0 := hts (.fieldLink RX8 9 "TidedGround$World" "plan" "LTidedGround$Plan;") (List.mem_of_getElem? (i := 1) rfl)
  have lk1 := hts (.fieldLink RX8 107 "TidedGround$Plan" "cells" "I") (List.mem_of_getElem? (i := 2) rfl)
  have n_0 : (0 : Int32).toInt = 0 := by decide
  have n_1 : (1 : Int32).toInt = 1 := by decide
  have n_2 : (2 : Int32).toInt = 2 := by decide
  have n_3 : (3 : Int32).toInt = 3 := by decide
  have hl := lv_entry ([.ref qw, .int step]) (n := 3) (Nat.le_of_ble_eq_true rfl)
  rw [lg_entry_eq]
  generalize (lg_sl ([.ref qw, .int step]) ++ List.replicate (3 - (lg_sl ([.ref qw, .int step])).length) Slot.unset).toArray = ls at hl ⊢
  have hl : lv_has ls 3 [(0, .ref qw), (1, .int step)] := hl
  refine W_abs (fun Q hQ => ?_)
  obtain ⟨hg, hmc, hm0, hm1, hm2, hs0, hs1, hs2, hs3⟩ := id hI
  obtain ⟨hg1, hg2, hg3, hg4⟩ := id hg
  have hz0 := hm0.1
  have hz1 := hm1.1
  have hz2 := hm2.1
  have hc0 := hs0.1
  have hc1 := hs1.1
  have hc2 := hs2.1
  have hc3 := hs3.1
  obtain ⟨hj0, hj1, hj2⟩ := id hJ
  refine lv_iconst (v := 0) hx hb dX8_isAslant_0 (by decide) ?_
  refine lv_istore_n (lv' := [(2, .int 0), (0, .ref qw), (1, .int step)]) hx hb dX8_isAslant_1 rfl hl (by decide) rfl (fun ls hl => ?_)
  have K2 : ∀ (μ : Nat) (k : Int32) (ls : Array Slot), (24 - k.toInt).toNat < μ → (0 ≤ k.toInt ∧ k.toInt ≤ 24) → (∀ vm : Vf, RW vm vp vs → (-1 : Int32) = vm 62 0 → AslQ vm step k.toInt) → lv_has ls 3 [(0, .ref qw), (1, .int step), (2, .int k)] → W p l e (headSpec wsX8_isAslant rm_X8_isAslant).room s m ([.ref qw, .int step] : List Value).toArray below meth c s.heap [] 0 0 Q (F0 m 2 ls []) := by
    intro μ
    induction μ with
    | zero =>
      intro k ls hμ2
      exact absurd hμ2 (Nat.not_lt_zero _)
    | succ μ ih2 =>
      intro k ls hμ2 h2_0 h2_1 hl
      have hx2_0 := h2_1
      clear h2_1
      refine lv_iload_n hx hb dX8_isAslant_2 rfl (lv_at hl 2 rfl) ?_
      refine lv_aload_n hx hb dX8_isAslant_3 rfl (lv_at hl 0 rfl) ?_
      refine va_get (D := eD E) (ci := 8) (v := .ref (ap 0)) (C := RX8) (T := TX8) (N := 2) hx hb hts in_X8 hown hK hP 0 rfl rfl 0 (by decide) lk0 (fun _ h9 => h9) rfl dX8_isAslant_4 ?_
      refine va_get (D := eD E) (ci := 1) (v := .int (vp 2 0)) (C := RX1) (T := TX1) (N := 11) hx hb hts in_X1 hown hK hP 1 rfl rfl 2 (by decide) lk1 (fun _ h9 => h9) rfl dX8_isAslant_7 ?_
      refine lv_icmp_ge (tgt := 57) hx hb dX8_isAslant_10 (by decide) (fun c10 => ?_) (fun c10 => ?_)
      · have c10_ := i_le c10
        refine lv_iconst (v := 1) hx hb dX8_isAslant_57 (by decide) ?_
        subst hQ
        exact W.zret (v := 1) hx hb hr rfl (fun t ht hW => ⟨1, rfl, ⟨(by omega), (fun vm hR hg => ⟨fun _ => asl_le (hx2_0 vm hR hg) (by rw [← hR.1.1.1, ← hR.1.1.2.1]; omega), fun _ => by decide⟩)⟩, ht⟩) (fun q h => absurd h List.not_mem_nil) dX8_isAslant_58
      · have c10_ := i_nle c10
        refine lv_aload_n hx hb dX8_isAslant_13 rfl (lv_at hl 0 rfl) ?_
        refine lv_iload_n hx hb dX8_isAslant_14 rfl (lv_at hl 2 rfl) ?_
        refine lv_aload_n hx hb dX8_isAslant_15 rfl (lv_at hl 0 rfl) ?_
        refine va_get (D := eD E) (ci := 8) (v := .ref (ap 0)) (C := RX8) (T := TX8) (N := 2) hx hb hts in_X8 hown hK hP 0 rfl rfl 0 (by decide) lk0 (fun _ h9 => h9) rfl dX8_isAslant_16 ?_
        refine lv_iload_n hx hb dX8_isAslant_19 rfl (lv_at hl 2 rfl) ?_
        refine lv_iconst (v := 2) hx hb dX8_isAslant_20 (by decide) ?_
        refine rd_V (As := [.int k, .int 2]) (rest := [.int k, .ref qw]) (C := RX1) (ci := 1) ⟨hx, hb, hml, hown, hts⟩ (c_X1_beside l E A ap vp k 2 hI (by omega)) (cwV 2 hts gX8_isAslant_X1_beside rfl rfl rfl (by decide +kernel) ⟨Nat.le_of_ble_eq_true rfl, Nat.le_of_ble_eq_true rfl⟩) hE (hP.sub (ws' := planL E ap vp) [1, 2, 3, 4, 5, 6, 7, 8, 9, 10, 11, 12, 13, 14, 15, 16, 17, 18, 19, 20, 21, 22, 23, 24, 25, 26, 27, 28, 29] rfl) rfl rfl rfl rfl hl.1 rfl (Nat.le_of_ble_eq_true rfl) dX8_isAslant_21 ⟨Nat.zero_le _, Nat.zero_le _⟩ (fun r21 h21 => ?_)
        have hf21 := h21.2
        replace h21 := h21.1
        refine lv_iload_n hx hb dX8_isAslant_24 rfl (lv_at hl 1 rfl) ?_
        refine rd_V (As := [.int k, .int r21, .int step]) (rest := []) (C := RX8) (ci := 8) ⟨hx, hb, hml, hown, hts⟩ (c_X8_isLike l E A qw ap vp as_ vs k r21 step hI hJ (by omega) (by omega) (by omega)) (cwV 3 hts gX8_isAslant_X8_isLike rfl rfl rfl (by decide +kernel) ⟨Nat.le_of_ble_eq_true rfl, Nat.le_of_ble_eq_true rfl⟩) hE (hP.sub (ws' := wpsL E qw ap vp as_ vs) [0, 1, 2, 3, 4, 5, 6, 7, 8, 9, 10, 11, 12, 13, 14, 15, 16, 17, 18, 19, 20, 21, 22, 23, 24, 25, 26, 27, 28, 29, 30, 31, 32, 33] rfl) rfl rfl rfl rfl hl.1 rfl (Nat.le_of_ble_eq_true rfl) dX8_isAslant_25 ⟨Nat.zero_le _, Nat.zero_le _⟩ (fun r25 h25 => ?_)
        have hf25 := h25.2
        replace h25 := h25.1
        refine lv_if_ne (tgt := 49) hx hb dX8_isAslant_28 (by decide) (fun c28 => ?_) (fun c28 => ?_)
        · have c28_ := i_ne c28
          replace h25 := b_y h25 c28_
          clear c28_
          have hl28 : r25.toInt ≠ 0 := by omega
          refine lv_iconst (v := 0) hx hb dX8_isAslant_49 (by decide) ?_
          subst hQ
          exact W.zret (v := 0) hx hb hr rfl (fun t ht hW => ⟨0, rfl, ⟨(by omega), (fun vm hR hg => by have hkc : cW vm k := ⟨by omega, by rw [← hR.1.1.1, ← hR.1.1.2.1]; omega⟩; have hG := hR.2.2.2.1.1; have hW : 1 ≤ (vm 0 0).toInt := wd_pos hG.1.1 (show 1 ≤ (vm 0 0).toInt * (vm 1 0).toInt by have z1 := hkc.1; have z2 := hkc.2; omega); exact ⟨fun z => absurd (by decide : (0 : Int32).toInt = 0) z, fun z => by have q := asl_at (k := k) z hkc.1 hkc.2; first | exact absurd ((hf25 vm hR hg hkc 2 (hf21.2 vm hR.1.1.1 hR.1.1.2.1 hG (by rw [hR.1.1.1]; exact hW) (by decide))).mp hl28) q.1 | exact absurd ((hf43 vm hR hg hkc 3 (hf39.2 vm hR.1.1.1 hR.1.1.2.1 hG (by rw [hR.1.1.1]; exact hW) (by decide))).mp hl46) q.2⟩)⟩, ht⟩) (fun q h => absurd h List.not_mem_nil) dX8_isAslant_50
        · have c28_ := i_eq c28
          clear h25
          have hz28 : r25.toInt = 0 := by omega
          refine lv_aload_n hx hb dX8_isAslant_31 rfl (lv_at hl 0 rfl) ?_
          refine lv_iload_n hx hb dX8_isAslant_32 rfl (lv_at hl 2 rfl) ?_
          refine lv_aload_n hx hb dX8_isAslant_33 rfl (lv_at hl 0 rfl) ?_
          refine va_get (D := eD E) (ci := 8) (v := .ref (ap 0)) (C := RX8) (T := TX8) (N := 2) hx hb hts in_X8 hown hK hP 0 rfl rfl 0 (by decide) lk0 (fun _ h9 => h9) rfl dX8_isAslant_34 ?_
          refine lv_iload_n hx hb dX8_isAslant_37 rfl (lv_at hl 2 rfl) ?_
          refine lv_iconst (v := 3) hx hb dX8_isAslant_38 (by decide) ?_
          refine rd_V (As := [.int k, .int 3]) (rest := [.int k, .ref qw]) (C := RX1) (ci := 1) ⟨hx, hb, hml, hown, hts⟩ (c_X1_beside l E A ap vp k 3 hI (by omega)) (cwV 2 hts gX8_isAslant_X1_beside rfl rfl rfl (by decide +kernel) ⟨Nat.le_of_ble_eq_true rfl, Nat.le_of_ble_eq_true rfl⟩) hE (hP.sub (ws' := planL E ap vp) [1, 2, 3, 4, 5, 6, 7, 8, 9, 10, 11, 12, 13, 14, 15, 16, 17, 18, 19, 20, 21, 22, 23, 24, 25, 26, 27, 28, 29] rfl) rfl rfl rfl rfl hl.1 rfl (Nat.le_of_ble_eq_true rfl) dX8_isAslant_39 ⟨Nat.zero_le _, Nat.zero_le _⟩ (fun r39 h39 => ?_)
          have hf39 := h39.2
          replace h39 := h39.1
          refine lv_iload_n hx hb dX8_isAslant_42 rfl (lv_at hl 1 rfl) ?_
          refine rd_V (As := [.int k, .int r39, .int step]) (rest := []) (C := RX8) (ci := 8) ⟨hx, hb, hml, hown, hts⟩ (c_X8_isLike l E A qw ap vp as_ vs k r39 step hI hJ (by omega) (by omega) (by omega)) (cwV 3 hts gX8_isAslant_X8_isLike rfl rfl rfl (by decide +kernel) ⟨Nat.le_of_ble_eq_true rfl, Nat.le_of_ble_eq_true rfl⟩) hE (hP.sub (ws' := wpsL E qw ap vp as_ vs) [0, 1, 2, 3, 4, 5, 6, 7, 8, 9, 10, 11, 12, 13, 14, 15, 16, 17, 18, 19, 20, 21, 22, 23, 24, 25, 26, 27, 28, 29, 30, 31, 32, 33] rfl) rfl rfl rfl rfl hl.1 rfl (Nat.le_of_ble_eq_true rfl) dX8_isAslant_43 ⟨Nat.zero_le _, Nat.zero_le _⟩ (fun r43 h43 => ?_)
          have hf43 := h43.2
          replace h43 := h43.1
          refine lv_if_eq (tgt := 51) hx hb dX8_isAslant_46 (by decide) (fun c46 => ?_) (fun c46 => ?_)
          · have c46_ := i_eq c46
            clear h43
            have hz46 : r43.toInt = 0 := by omega
            obtain ⟨x51, e51⟩ : ∃ y : Int32, y = k + 1 := ⟨_, rfl⟩
            refine lv_iinc (v := x51) (lv' := [(2, .int x51), (0, .ref qw), (1, .int step)]) hx hb dX8_isAslant_51 hl (k := 2) rfl (by rw [e51]; rfl) (by decide) rfl (fun ls hl => ?_)
            have t51 := i_add e51 (by omega)
            refine lv_goto (tgt := 2) hx hb dX8_isAslant_54 (by decide) ?_
            exact ih2 x51 ls (by omega) (by omega) (fun vm hR hg => by have hkc : cW vm k := ⟨by omega, by rw [← hR.1.1.1, ← hR.1.1.2.1]; omega⟩; have hG := hR.2.2.2.1.1; have hW : 1 ≤ (vm 0 0).toInt := wd_pos hG.1.1 (show 1 ≤ (vm 0 0).toInt * (vm 1 0).toInt by have z1 := hkc.1; have z2 := hkc.2; omega); exact asl_next (hx2_0 vm hR hg) (by omega) t51 ⟨fun z => ((hf25 vm hR hg hkc 2 (hf21.2 vm hR.1.1.1 hR.1.1.2.1 hG (by rw [hR.1.1.1]; exact hW) (by decide))).mpr z) hz28, fun z => ((hf43 vm hR hg hkc 3 (hf39.2 vm hR.1.1.1 hR.1.1.2.1 hG (by rw [hR.1.1.1]; exact hW) (by decide))).mpr z) hz46⟩) (lv_sub hl [1, 2, 0] rfl)
          · have c46_ := i_ne c46
            replace h43 := b_y h43 c46_
            clear c46_
            have hl46 : r43.toInt ≠ 0 := by omega
            refine lv_iconst (v := 0) hx hb dX8_isAslant_49 (by decide) ?_
            subst hQ
            exact W.zret (v := 0) hx hb hr rfl (fun t ht hW => ⟨0, rfl, ⟨(by omega), (fun vm hR hg => by have hkc : cW vm k := ⟨by omega, by rw [← hR.1.1.1, ← hR.1.1.2.1]; omega⟩; have hG := hR.2.2.2.1.1; have hW : 1 ≤ (vm 0 0).toInt := wd_pos hG.1.1 (show 1 ≤ (vm 0 0).toInt * (vm 1 0).toInt by have z1 := hkc.1; have z2 := hkc.2; omega); exact ⟨fun z => absurd (by decide : (0 : Int32).toInt = 0) z, fun z => by have q := asl_at (k := k) z hkc.1 hkc.2; first | exact absurd ((hf25 vm hR hg hkc 2 (hf21.2 vm hR.1.1.1 hR.1.1.2.1 hG (by rw [hR.1.1.1]; exact hW) (by decide))).mp hl28) q.1 | exact absurd ((hf43 vm hR hg hkc 3 (hf39.2 vm hR.1.1.1 hR.1.1.2.1 hG (by rw [hR.1.1.1]; exact hW) (by decide))).mp hl46) q.2⟩)⟩, ht⟩) (fun q h => absurd h List.not_mem_nil) dX8_isAslant_50
  exact K2 _ 0 ls (Nat.lt_succ_self _) (by omega) (fun vm _ _ j hj => absurd hj (by rw [n_0]; omega)) (lv_sub hl [1, 2, 0] rfl)
def rm_X8_isTurn : Room := { frames := 3, cells := 0, slots := 0, locals := 71 }
set_option maxHeartbeats 4000000 in
set_option maxRecDepth 100000 in
theorem c_X8_isTurn (l : Launch) (E : Ev) (A : Nat → Prop) (qw : Nat) (ap : Nat → Nat) (vp : Vf) (as_ : Nat → Nat) (vs : Vf) (cell : Int32) (step : Int32) (hI : PlanI vp) (hJ : StateI vs) (hcell : 0 ≤ cell.toInt ∧ cell.toInt ≤ 23) (hstep : 1 ≤ step.toInt ∧ step.toInt ≤ 1900000) : Met l yX8_isTurn wsX8_isTurn rm_X8_isTurn (RdP E A [.ref qw, .int cell, .int step] (wpsL E qw ap vp as_ vs)) (vp_Si (fun r => ((r.toInt = 0 ∨ r.toInt = 1)) ∧ (∀ vm : Vf, RW vm vp vs → (-1 : Int32) = vm 62 0 → cW vm cell → (r.toInt ≠ 0 ↔ TrnP vm cell step)))) 0 0 (fun _ => False) := by
  refine Met.ofW (cc := cX8_isTurn) (maxL := 6) (ret := (some .boolean)) (by decide) rfl ?_
  intro p e s m args below meth c s₁ B hml hv
  obtain ⟨rfl, hE, hP⟩ := hv
  have hx := B.exec
  have hb := B.bytes
  have hr := B.returns
  have hts := atoms_spec (ws := wsX8_isTurn) B.pre
  have hown : s.vm.findClass RX8 = some m.cls := findClass_of_methodNamed B.named
  have hlocks := B.notSynchronized
  have hK := hE.1
  have n_m1 : ((-1) : Int32).toInt = -1 := by decide
  have n_0 : (0 : Int32).toInt = 0 := by decide
  have n_1 : (1 : Int32).toInt = 1 := by decide
  have hl := lv_entry ([.ref qw, .int cell, .int step]) (n := 6) (Nat.le_of_ble_eq_true rfl)
  rw [lg_entry_eq]
  generalize (lg_sl ([.ref qw, .int cell, .int step]) ++ List.replicate (6 - (lg_sl ([.ref qw, .int cell, .int step])).length) Slot.unset).toArray = ls at hl ⊢
  have hl : lv_has ls 6 [(0, .ref qw), (1, .int cell), (2, .int step)] := hl
  refine W_abs (fun Q hQ => ?_)
  obtain ⟨hg, hmc, hm0, hm1, hm2, hs0, hs1, hs2, hs3⟩ := id hI
  obtain ⟨hg1, hg2, hg3, hg4⟩ := id hg
  have hz0 := hm0.1
  have hz1 := hm1.1
  have hz2 := hm2.1
  have hc0 := hs0.1
  have hc1 := hs1.1
  have hc2 := hs2.1
  have hc3 := hs3.1
  obtain ⟨hj0, hj1, hj2⟩ := id hJ
  refine lv_aload_n hx hb dX8_isTurn_0 rfl (lv_at hl 0 rfl) ?_
  refine lv_iload_n hx hb dX8_isTurn_1 rfl (lv_at hl 1 rfl) ?_
  refine lv_iload_n hx hb dX8_isTurn_2 rfl (lv_at hl 2 rfl) ?_
  refine lv_iconst (v := (-1)) hx hb dX8_isTurn_3 (by decide) ?_
  refine rd_V (As := [.int cell, .int step, .int (-1)]) (rest := []) (C := RX8) (ci := 8) ⟨hx, hb, hml, hown, hts⟩ (c_X8_heightAt l E A qw ap vp as_ vs cell step (-1) hI hJ (by omega) (by omega)) (cwV 3 hts gX8_isTurn_X8_heightAt rfl rfl rfl (by decide +kernel) ⟨Nat.le_of_ble_eq_true rfl, Nat.le_of_ble_eq_true rfl⟩) hE (hP.sub (ws' := wpsL E qw ap vp as_ vs) [0, 1, 2, 3, 4, 5, 6, 7, 8, 9, 10, 11, 12, 13, 14, 15, 16, 17, 18, 19, 20, 21, 22, 23, 24, 25, 26, 27, 28, 29, 30, 31, 32, 33] rfl) rfl rfl rfl rfl hl.1 rfl (Nat.le_of_ble_eq_true rfl) dX8_isTurn_4 ⟨Nat.zero_le _, Nat.zero_le _⟩ (fun r4 h4 => ?_)
  have hf4 := h4.2
  replace h4 := h4.1
  refine lv_istore_n (lv' := [(3, .int r4), (0, .ref qw), (1, .int cell), (2, .int step)]) hx hb dX8_isTurn_7 rfl hl (by decide) rfl (fun ls hl => ?_)
  refine lv_aload_n hx hb dX8_isTurn_8 rfl (lv_at hl 1 rfl) ?_
  refine lv_iload_n hx hb dX8_isTurn_9 rfl (lv_at hl 2 rfl) ?_
  refine lv_iload_n hx hb dX8_isTurn_10 rfl (lv_at hl 3 rfl) ?_
  refine lv_iconst (v := 1) hx hb dX8_isTurn_11 (by decide) ?_
  refine lv_isub hx hb dX8_isTurn_12 ?_
  refine lv_topi (fun x12 e12 => ?_)
  have t12 := i_sub e12 (by omega)
  refine lv_iconst (v := (-1)) hx hb dX8_isTurn_13 (by decide) ?_
  refine rd_V (As := [.int cell, .int x12, .int (-1)]) (rest := []) (C := RX8) (ci := 8) ⟨hx, hb, hml, hown, hts⟩ (c_X8_heightAt l E A qw ap vp as_ vs cell x12 (-1) hI hJ (by omega) (by omega)) (cwV 3 hts gX8_isTurn_X8_heightAt rfl rfl rfl (by decide +kernel) ⟨Nat.le_of_ble_eq_true rfl, Nat.le_of_ble_eq_true rfl⟩) hE (hP.sub (ws' := wpsL E qw ap vp as_ vs) [0, 1, 2, 3, 4, 5, 6, 7, 8, 9, 10, 11, 12, 13, 14, 15, 16, 17, 18, 19, 20, 21, 22, 23, 24, 25, 26, 27, 28, 29, 30, 31, 32, 33] rfl) rfl rfl rfl rfl hl.1 rfl (Nat.le_of_ble_eq_true rfl) dX8_isTurn_14 ⟨Nat.zero_le _, Nat.zero_le _⟩ (fun r14 h14 => ?_)
  have hf14 := h14.2
  replace h14 := h14.1
  refine lv_istore (lv' := [(4, .int r14), (3, .int r4), (0, .ref qw), (1, .int cell), (2, .int step)]) hx hb dX8_isTurn_17 hl (by decide) rfl (fun ls hl => ?_)
  refine lv_aload_n hx hb dX8_isTurn_19 rfl (lv_at hl 2 rfl) ?_
  refine lv_iload_n hx hb dX8_isTurn_20 rfl (lv_at hl 3 rfl) ?_
  refine lv_iload_n hx hb dX8_isTurn_21 rfl (lv_at hl 4 rfl) ?_
  refine lv_iconst (v := 1) hx hb dX8_isTurn_22 (by decide) ?_
  refine lv_iadd hx hb dX8_isTurn_23 ?_
  refine lv_topi (fun x23 e23 => ?_)
  have t23 := i_add e23 (by omega)
  refine lv_iconst (v := (-1)) hx hb dX8_isTurn_24 (by decide) ?_
  refine rd_V (As := [.int cell, .int x23, .int (-1)]) (rest := []) (C := RX8) (ci := 8) ⟨hx, hb, hml, hown, hts⟩ (c_X8_heightAt l E A qw ap vp as_ vs cell x23 (-1) hI hJ (by omega) (by omega)) (cwV 3 hts gX8_isTurn_X8_heightAt rfl rfl rfl (by decide +kernel) ⟨Nat.le_of_ble_eq_true rfl, Nat.le_of_ble_eq_true rfl⟩) hE (hP.sub (ws' := wpsL E qw ap vp as_ vs) [0, 1, 2, 3, 4, 5, 6, 7, 8, 9, 10, 11, 12, 13, 14, 15, 16, 17, 18, 19, 20, 21, 22, 23, 24, 25, 26, 27, 28, 29, 30, 31, 32, 33] rfl) rfl rfl rfl rfl hl.1 rfl (Nat.le_of_ble_eq_true rfl) dX8_isTurn_25 ⟨Nat.zero_le _, Nat.zero_le _⟩ (fun r25 h25 => ?_)
  have hf25 := h25.2
  replace h25 := h25.1
  refine lv_istore (lv' := [(5, .int r25), (4, .int r14), (3, .int r4), (0, .ref qw), (1, .int cell), (2, .int step)]) hx hb dX8_isTurn_28 hl (by decide) rfl (fun ls hl => ?_)
  refine lv_iload hx hb dX8_isTurn_30 (lv_at hl 1 rfl) ?_
  refine lv_iload_n hx hb dX8_isTurn_32 rfl (lv_at hl 2 rfl) ?_
  refine lv_icmp_ge (tgt := 42) hx hb dX8_isTurn_33 (by decide) (fun c33 => ?_) (fun c33 => ?_)
  · have c33_ := i_le c33
    refine lv_iload hx hb dX8_isTurn_42 (lv_at hl 1 rfl) ?_
    refine lv_iload_n hx hb dX8_isTurn_44 rfl (lv_at hl 2 rfl) ?_
    refine lv_icmp_le (tgt := 58) hx hb dX8_isTurn_45 (by decide) (fun c45 => ?_) (fun c45 => ?_)
    · have c45_ := i_le c45
      refine lv_iconst (v := 0) hx hb dX8_isTurn_58 (by decide) ?_
      subst hQ
      exact W.zret (v := 0) hx hb hr rfl (fun t ht hW => ⟨0, rfl, ⟨(by omega), (fun vm hR hg hc => by have a1 := hf4 vm hR hg hc; have a2 := hf14 vm hR hg hc; have a3 := hf25 vm hR hg hc; unfold TrnP; rw [← e12, ← e23, ← a1, ← a2, ← a3]; constructor <;> intro z <;> omega)⟩, ht⟩) (fun q h => absurd h List.not_mem_nil) dX8_isTurn_59
    · have c45_ := i_nle c45
      refine lv_iload hx hb dX8_isTurn_48 (lv_at hl 0 rfl) ?_
      refine lv_iload_n hx hb dX8_isTurn_50 rfl (lv_at hl 2 rfl) ?_
      refine lv_icmp_le (tgt := 58) hx hb dX8_isTurn_51 (by decide) (fun c51 => ?_) (fun c51 => ?_)
      · have c51_ := i_le c51
        refine lv_iconst (v := 0) hx hb dX8_isTurn_58 (by decide) ?_
        subst hQ
        exact W.zret (v := 0) hx hb hr rfl (fun t ht hW => ⟨0, rfl, ⟨(by omega), (fun vm hR hg hc => by have a1 := hf4 vm hR hg hc; have a2 := hf14 vm hR hg hc; have a3 := hf25 vm hR hg hc; unfold TrnP; rw [← e12, ← e23, ← a1, ← a2, ← a3]; constructor <;> intro z <;> omega)⟩, ht⟩) (fun q h => absurd h List.not_mem_nil) dX8_isTurn_59
      · have c51_ := i_nle c51
        refine lv_iconst (v := 1) hx hb dX8_isTurn_54 (by decide) ?_
        refine lv_goto (tgt := 59) hx hb dX8_isTurn_55 (by decide) ?_
        subst hQ
        exact W.zret (v := 1) hx hb hr rfl (fun t ht hW => ⟨1, rfl, ⟨(by omega), (fun vm hR hg hc => by have a1 := hf4 vm hR hg hc; have a2 := hf14 vm hR hg hc; have a3 := hf25 vm hR hg hc; unfold TrnP; rw [← e12, ← e23, ← a1, ← a2, ← a3]; constructor <;> intro z <;> omega)⟩, ht⟩) (fun q h => absurd h List.not_mem_nil) dX8_isTurn_59
  · have c33_ := i_nle c33
    refine lv_iload hx hb dX8_isTurn_36 (lv_at hl 0 rfl) ?_
    refine lv_iload_n hx hb dX8_isTurn_38 rfl (lv_at hl 2 rfl) ?_
    refine lv_icmp_lt (tgt := 54) hx hb dX8_isTurn_39 (by decide) (fun c39 => ?_) (fun c39 => ?_)
    · have c39_ := i_lt c39
      refine lv_iconst (v := 1) hx hb dX8_isTurn_54 (by decide) ?_
      refine lv_goto (tgt := 59) hx hb dX8_isTurn_55 (by decide) ?_
      subst hQ
      exact W.zret (v := 1) hx hb hr rfl (fun t ht hW => ⟨1, rfl, ⟨(by omega), (fun vm hR hg hc => by have a1 := hf4 vm hR hg hc; have a2 := hf14 vm hR hg hc; have a3 := hf25 vm hR hg hc; unfold TrnP; rw [← e12, ← e23, ← a1, ← a2, ← a3]; constructor <;> intro z <;> omega)⟩, ht⟩) (fun q h => absurd h List.not_mem_nil) dX8_isTurn_59
    · have c39_ := i_nlt c39
      refine lv_iload hx hb dX8_isTurn_42 (lv_at hl 1 rfl) ?_
      refine lv_iload_n hx hb dX8_isTurn_44 rfl (lv_at hl 2 rfl) ?_
      refine lv_icmp_le (tgt := 58) hx hb dX8_isTurn_45 (by decide) (fun c45 => ?_) (fun c45 => ?_)
      · have c45_ := i_le c45
        refine lv_iconst (v := 0) hx hb dX8_isTurn_58 (by decide) ?_
        subst hQ
        exact W.zret (v := 0) hx hb hr rfl (fun t ht hW => ⟨0, rfl, ⟨(by omega), (fun vm hR hg hc => by have a1 := hf4 vm hR hg hc; have a2 := hf14 vm hR hg hc; have a3 := hf25 vm hR hg hc; unfold TrnP; rw [← e12, ← e23, ← a1, ← a2, ← a3]; constructor <;> intro z <;> omega)⟩, ht⟩) (fun q h => absurd h List.not_mem_nil) dX8_isTurn_59
      · have c45_ := i_nle c45
        refine lv_iload hx hb dX8_isTurn_48 (lv_at hl 0 rfl) ?_
        refine lv_iload_n hx hb dX8_isTurn_50 rfl (lv_at hl 2 rfl) ?_
        refine lv_icmp_le (tgt := 58) hx hb dX8_isTurn_51 (by decide) (fun c51 => ?_) (fun c51 => ?_)
        · have c51_ := i_le c51
          refine lv_iconst (v := 0) hx hb dX8_isTurn_58 (by decide) ?_
          subst hQ
          exact W.zret (v := 0) hx hb hr rfl (fun t ht hW => ⟨0, rfl, ⟨(by omega), (fun vm hR hg hc => by have a1 := hf4 vm hR hg hc; have a2 := hf14 vm hR hg hc; have a3 := hf25 vm hR hg hc; unfold TrnP; rw [← e12, ← e23, ← a1, ← a2, ← a3]; constructor <;> intro z <;> omega)⟩, ht⟩) (fun q h => absurd h List.not_mem_nil) dX8_isTurn_59
        · have c51_ := i_nle c51
          refine lv_iconst (v := 1) hx hb dX8_isTurn_54 (by decide) ?_
          refine lv_goto (tgt := 59) hx hb dX8_isTurn_55 (by decide) ?_
          subst hQ
          exact W.zret (v := 1) hx hb hr rfl (fun t ht hW => ⟨1, rfl, ⟨(by omega), (fun vm hR hg hc => by have a1 := hf4 vm hR hg hc; have a2 := hf14 vm hR hg hc; have a3 := hf25 vm hR hg hc; unfold TrnP; rw [← e12, ← e23, ← a1, ← a2, ← a3]; constructor <;> intro z <;> omega)⟩, ht⟩) (fun q h => absurd h List.not_mem_nil) dX8_isTurn_59
def rm_X8_cellsWithin : Room := { frames := 3, cells := 0, slots := 0, locals := 71 }
set_option maxHeartbeats 4000000 in
set_option maxRecDepth 100000 in
theorem c_X8_cellsWithin (l : Launch) (E : Ev) (A : Nat → Prop) (qw : Nat) (ap : Nat → Nat) (vp : Vf) (as_ : Nat → Nat) (vs : Vf) (h : Int32) (step : Int32) (hI : PlanI vp) (hJ : StateI vs) (hh : 0 ≤ h.toInt ∧ h.toInt ≤ 5) (hstep : 0 ≤ step.toInt ∧ step.toInt ≤ 2000000) : Met l yX8_cellsWithin wsX8_cellsWithin rm_X8_cellsWithin (RdP E A [.ref qw, .int h, .int step] (wpsL E qw ap vp as_ vs)) (vp_Si (fun r => (True) ∧ (∀ vm : Vf, RW vm vp vs → (-1 : Int32) = vm 62 0 → h.toInt < (vm 19 0).toInt → r = mWh vm h step))) 0 0 (fun _ => False) := by
  refine Met.ofW (cc := cX8_cellsWithin) (maxL := 5) (ret := (some .int)) (by decide) rfl ?_
  intro p e s m args below meth c s₁ B hml hv
  obtain ⟨rfl, hE, hP⟩ := hv
  have hx := B.exec
  have hb := B.bytes
  have hr := B.returns
  have hts := atoms_spec (ws := wsX8_cellsWithin) B.pre
  have hown : s.vm.findClass RX8 = some m.cls := findClass_of_methodNamed B.named
  have hlocks := B.notSynchronized
  have hK := hE.1
  have in_X8 : ∀ w ∈ u_ws RX8 TX8 2, w ∈ wsX8_cellsWithin := fun w h => List.mem_cons_of_mem _ (List.mem_append_left _ (List.mem_append_left _ (List.mem_append_left _ (List.mem_append_left _ (List.mem_append_right _ h)))))
  have in_X1 : ∀ w ∈ u_ws RX1 TX1 11, w ∈ wsX8_cellsWithin := fun w h => List.mem_cons_of_mem _ (List.mem_append_left _ (List.mem_append_left _ (List.mem_append_left _ (List.mem_append_right _ h))))
  have in_X5 : ∀ w ∈ u_ws RX5 TX5 4, w ∈ wsX8_cellsWithin := fun w h => List.mem_cons_of_mem _ (List.mem_append_left _ (List.mem_append_left _ (List.mem_append_right _ h)))
  have lk0 := hts (.fieldLink RX8 9 "TidedGround$World" "plan" "LTidedGround$Plan;") (List.mem_of_getElem? (i := 1) rfl)
  have lk1 := hts (.fieldLink RX8 107 "TidedGround$Plan" "cells" "I") (List.mem_of_getElem? (i := 2) rfl)
  have lk2 := hts (.fieldLink RX8 117 "TidedGround$Plan" "deeds" "LTidedGround$Sites;") (List.mem_of_getElem? (i := 3) rfl)
  have lk3 := hts (.fieldLink RX8 84 "TidedGround$Sites" "first" "[I") (List.mem_of_getElem? (i := 4) rfl)
  have lk4 := hts (.fieldLink RX8 104 "TidedGround$Sites" "second" "[I") (List.mem_of_getElem? (i := 5) rfl)
  have lk5 := hts (.static yX9_isOff) (List.mem_of_getElem? (i := 38) rfl)
  have lk6 := hts (.initialized RX9) (List.mem_of_getElem? (i := 39) rfl)
  have n_m1 : ((-1) : Int32).toInt = -1 := by decide
  have n_0 : (0 : Int32).toInt = 0 := by decide
  have n_1 : (1 : Int32).toInt = 1 := by decide
  have hl := lv_entry ([.ref qw, .int h, .int step]) (n := 5) (Nat.le_of_ble_eq_true rfl)
  rw [lg_entry_eq]
  generalize (lg_sl ([.ref qw, .int h, .int step]) ++ List.replicate (5 - (lg_sl ([.ref qw, .int h, .int step])).length) Slot.unset).toArray = ls at hl ⊢
  have hl : lv_has ls 5 [(0, .ref qw), (1, .int h), (2, .int step)] := hl
  refine W_abs (fun Q hQ => ?_)
  obtain ⟨hg, hmc, hm0, hm1, hm2, hs0, hs1, hs2, hs3⟩ := id hI
  obtain ⟨hg1, hg2, hg3, hg4⟩ := id hg
  have hz0 := hm0.1
  have hz1 := hm1.1
  have hz2 := hm2.1
  have hc0 := hs0.1
  have hc1 := hs1.1
  have hc2 := hs2.1
  have hc3 := hs3.1
  obtain ⟨hj0, hj1, hj2⟩ := id hJ
  have hnn := Int.mul_nonneg hg1.1 hg2.1
  refine lv_iconst (v := 0) hx hb dX8_cellsWithin_0 (by decide) ?_
  refine lv_istore_n (lv' := [(3, .int 0), (0, .ref qw), (1, .int h), (2, .int step)]) hx hb dX8_cellsWithin_1 rfl hl (by decide) rfl (fun ls hl => ?_)
  refine lv_iconst (v := 0) hx hb dX8_cellsWithin_2 (by decide) ?_
  refine lv_istore (lv' := [(4, .int 0), (3, .int 0), (0, .ref qw), (1, .int h), (2, .int step)]) hx hb dX8_cellsWithin_3 hl (by decide) rfl (fun ls hl => ?_)
  have K5 : ∀ (μ : Nat) (set : Int32) (k : Int32) (ls : Array Slot), (24 - k.toInt).toNat < μ → (0 ≤ k.toInt ∧ k.toInt ≤ 24) → (∀ vm : Vf, RW vm vp vs → (-1 : Int32) = vm 62 0 → h.toInt < (vm 19 0).toInt → set = mWhN vm h step k.toNatClampNeg) → (k.toInt ≤ (vp 2 0).toInt) → lv_has ls 5 [(0, .ref qw), (1, .int h), (2, .int step), (3, .int set), (4, .int k)] → W p l e (headSpec wsX8_cellsWithin rm_X8_cellsWithin).room s m ([.ref qw, .int h, .int step] : List Value).toArray below meth c s.heap [] 0 0 Q (F0 m 5 ls []) := by
    intro μ
    induction μ with
    | zero =>
      intro set k ls hμ5
      exact absurd hμ5 (Nat.not_lt_zero _)
    | succ μ ih5 =>
      intro set k ls hμ5 h5_0 h5_1 h5_2 hl
      have hx5_0 := h5_1
      clear h5_1
      have hx5_1 := h5_2
      clear h5_2
      refine lv_iload hx hb dX8_cellsWithin_5 (lv_at hl 4 rfl) ?_
      refine lv_aload_n hx hb dX8_cellsWithin_7 rfl (lv_at hl 0 rfl) ?_
      refine va_get (D := eD E) (ci := 8) (v := .ref (ap 0)) (C := RX8) (T := TX8) (N := 2) hx hb hts in_X8 hown hK hP 0 rfl rfl 0 (by decide) lk0 (fun _ h9 => h9) rfl dX8_cellsWithin_8 ?_
      refine va_get (D := eD E) (ci := 1) (v := .int (vp 2 0)) (C := RX1) (T := TX1) (N := 11) hx hb hts in_X1 hown hK hP 1 rfl rfl 2 (by decide) lk1 (fun _ h9 => h9) rfl dX8_cellsWithin_11 ?_
      refine lv_icmp_ge (tgt := 68) hx hb dX8_cellsWithin_14 (by decide) (fun c14 => ?_) (fun c14 => ?_)
      · have c14_ := i_le c14
        refine lv_iload_n hx hb dX8_cellsWithin_68 rfl (lv_at hl 3 rfl) ?_
        subst hQ
        exact W.iret (v := set) hx hb hr (fun t ht hW => ⟨set, rfl, ⟨trivial, (fun vm hR hg hd => by have ek : k.toNatClampNeg = ((vm 0 0).toInt * (vm 1 0).toInt).toNat := (by rw [← hR.1.1.1, ← hR.1.1.2.1]; show k.toInt.toNat = _; omega); show set = mWhN vm h step ((vm 0 0).toInt * (vm 1 0).toInt).toNat; rw [← ek]; exact hx5_0 vm hR hg hd)⟩, ht⟩) (fun q h => absurd h List.not_mem_nil) dX8_cellsWithin_69
      · have c14_ := i_nle c14
        refine lv_aload_n hx hb dX8_cellsWithin_17 rfl (lv_at hl 0 rfl) ?_
        refine lv_iload hx hb dX8_cellsWithin_18 (lv_at hl 4 rfl) ?_
        refine lv_iload_n hx hb dX8_cellsWithin_20 rfl (lv_at hl 2 rfl) ?_
        refine lv_iconst (v := (-1)) hx hb dX8_cellsWithin_21 (by decide) ?_
        refine rd_V (As := [.int k, .int step, .int (-1)]) (rest := []) (C := RX8) (ci := 8) ⟨hx, hb, hml, hown, hts⟩ (c_X8_heightAt l E A qw ap vp as_ vs k step (-1) hI hJ (by omega) (by omega)) (cwV 3 hts gX8_cellsWithin_X8_heightAt rfl rfl rfl (by decide +kernel) ⟨Nat.le_of_ble_eq_true rfl, Nat.le_of_ble_eq_true rfl⟩) hE (hP.sub (ws' := wpsL E qw ap vp as_ vs) [0, 1, 2, 3, 4, 5, 6, 7, 8, 9, 10, 11, 12, 13, 14, 15, 16, 17, 18, 19, 20, 21, 22, 23, 24, 25, 26, 27, 28, 29, 30, 31, 32, 33] rfl) rfl rfl rfl rfl hl.1 rfl (Nat.le_of_ble_eq_true rfl) dX8_cellsWithin_22 ⟨Nat.zero_le _, Nat.zero_le _⟩ (fun r22 h22 => ?_)
        have hf22 := h22.2
        replace h22 := h22.1
        refine lv_aload_n hx hb dX8_cellsWithin_25 rfl (lv_at hl 0 rfl) ?_
        refine va_get (D := eD E) (ci := 8) (v := .ref (ap 0)) (C := RX8) (T := TX8) (N := 2) hx hb hts in_X8 hown hK hP 0 rfl rfl 0 (by decide) lk0 (fun _ h9 => h9) rfl dX8_cellsWithin_26 ?_
        refine va_get (D := eD E) (ci := 1) (v := .ref (ap 10)) (C := RX1) (T := TX1) (N := 11) hx hb hts in_X1 hown hK hP 1 rfl rfl 10 (by decide) lk2 (fun _ h9 => h9) rfl dX8_cellsWithin_29 ?_
        refine va_get (D := eD E) (ci := 5) (v := .ref (ap 92)) (C := RX5) (T := TX5) (N := 4) hx hb hts in_X5 hown hK hP 26 rfl rfl 2 (by decide) lk3 (fun _ h9 => h9) rfl dX8_cellsWithin_32 ?_
        refine lv_iload_n hx hb dX8_cellsWithin_35 rfl (lv_at hl 1 rfl) ?_
        refine va_iald hx hb hK hP 28 0 rfl rfl (n := 6) (f := (vp 92)) (i_in (by omega) (by omega)) dX8_cellsWithin_36 ?_
        refine lv_topi (fun x36 e36 => ?_)
        refine lv_aload_n hx hb dX8_cellsWithin_37 rfl (lv_at hl 0 rfl) ?_
        refine va_get (D := eD E) (ci := 8) (v := .ref (ap 0)) (C := RX8) (T := TX8) (N := 2) hx hb hts in_X8 hown hK hP 0 rfl rfl 0 (by decide) lk0 (fun _ h9 => h9) rfl dX8_cellsWithin_38 ?_
        refine va_get (D := eD E) (ci := 1) (v := .ref (ap 10)) (C := RX1) (T := TX1) (N := 11) hx hb hts in_X1 hown hK hP 1 rfl rfl 10 (by decide) lk2 (fun _ h9 => h9) rfl dX8_cellsWithin_41 ?_
        refine va_get (D := eD E) (ci := 5) (v := .ref (ap 93)) (C := RX5) (T := TX5) (N := 4) hx hb hts in_X5 hown hK hP 26 rfl rfl 3 (by decide) lk4 (fun _ h9 => h9) rfl dX8_cellsWithin_44 ?_
        refine lv_iload_n hx hb dX8_cellsWithin_47 rfl (lv_at hl 1 rfl) ?_
        refine va_iald hx hb hK hP 29 0 rfl rfl (n := 6) (f := (vp 93)) (i_in (by omega) (by omega)) dX8_cellsWithin_48 ?_
        refine lv_topi (fun x48 e48 => ?_)
        refine rd_SN (As := [.int r22, .int x36, .int x48]) (rest := []) ⟨hx, hb, hml, hown, hts⟩ (c_X9_isOff l E A r22 x36 x48) ⟨va_cnB 3 hts gX8_cellsWithin_X9_isOff_n120 rfl rfl rfl (hE.2.2.2.2.2.2.2 _ (List.mem_of_getElem? (i := 7) rfl)) lk6 (by decide +kernel) ⟨Nat.le_of_ble_eq_true rfl, Nat.le_of_ble_eq_true rfl⟩, lk5, trivial⟩ hE (hP.sub (ws' := []) [] rfl) rfl hl.1 rfl (Nat.le_of_ble_eq_true rfl) dX8_cellsWithin_49 ⟨Nat.zero_le _, Nat.zero_le _⟩ (fun r49 h49 => ?_)
        refine lv_if_ne (tgt := 62) hx hb dX8_cellsWithin_52 (by decide) (fun c52 => ?_) (fun c52 => ?_)
        · have c52_ := i_ne c52
          replace h49 := or_y h49 c52_
          clear c52_
          obtain ⟨x62, e62⟩ : ∃ y : Int32, y = k + 1 := ⟨_, rfl⟩
          refine lv_iinc (v := x62) (lv' := [(4, .int x62), (0, .ref qw), (1, .int h), (2, .int step), (3, .int set)]) hx hb dX8_cellsWithin_62 hl (k := 4) rfl (by rw [e62]; rfl) (by decide) rfl (fun ls hl => ?_)
          have t62 := i_add e62 (by omega)
          refine lv_goto (tgt := 5) hx hb dX8_cellsWithin_65 (by decide) ?_
          exact ih5 set x62 ls (by omega) (by omega) (fun vm hR hg hd => by have hn := i_nat (x := h) (by omega); have q := hR.1.2.2.2.2.2.2 h.toNatClampNeg (by omega); have hkc : cW vm k := ⟨by omega, by rw [← hR.1.1.1, ← hR.1.1.2.1]; omega⟩; have hH := hf22 vm hR hg hkc; exact wh_next (hx5_0 vm hR hg hd) (by omega) t62 (Or.inr ⟨by rw [← q.1, ← q.2, ← e36, ← e48, ← hH]; omega, rfl⟩)) (by omega) (lv_sub hl [1, 2, 3, 4, 0] rfl)
        · have c52_ := i_eq c52
          replace h49 := or_n h49 c52_
          refine lv_iload_n hx hb dX8_cellsWithin_55 rfl (lv_at hl 3 rfl) ?_
          refine lv_iconst (v := 1) hx hb dX8_cellsWithin_56 (by decide) ?_
          refine lv_iload hx hb dX8_cellsWithin_57 (lv_at hl 4 rfl) ?_
          refine lv_ishl hx hb dX8_cellsWithin_59 ?_
          refine lv_topi (fun x59 e59 => ?_)
          refine lv_ior hx hb dX8_cellsWithin_60 ?_
          refine lv_topi (fun x60 e60 => ?_)
          refine lv_istore_n (lv' := [(3, .int x60), (0, .ref qw), (1, .int h), (2, .int step), (4, .int k)]) hx hb dX8_cellsWithin_61 rfl hl (by decide) rfl (fun ls hl => ?_)
          obtain ⟨x62, e62⟩ : ∃ y : Int32, y = k + 1 := ⟨_, rfl⟩
          refine lv_iinc (v := x62) (lv' := [(4, .int x62), (3, .int x60), (0, .ref qw), (1, .int h), (2, .int step)]) hx hb dX8_cellsWithin_62 hl (k := 4) rfl (by rw [e62]; rfl) (by decide) rfl (fun ls hl => ?_)
          have t62 := i_add e62 (by omega)
          refine lv_goto (tgt := 5) hx hb dX8_cellsWithin_65 (by decide) ?_
          exact ih5 x60 x62 ls (by omega) (by omega) (fun vm hR hg hd => by have hn := i_nat (x := h) (by omega); have q := hR.1.2.2.2.2.2.2 h.toNatClampNeg (by omega); have hkc : cW vm k := ⟨by omega, by rw [← hR.1.1.1, ← hR.1.1.2.1]; omega⟩; have hH := hf22 vm hR hg hkc; exact wh_next (hx5_0 vm hR hg hd) (by omega) t62 (Or.inl ⟨by rw [← q.1, ← q.2, ← e36, ← e48, ← hH]; omega, by rw [e60, e59]⟩)) (by omega) (lv_sub hl [2, 3, 4, 1, 0] rfl)
  exact K5 _ 0 0 ls (Nat.lt_succ_self _) (by omega) (fun _ _ _ _ => rfl) (by rw [n_0]; omega) (lv_sub hl [2, 3, 4, 1, 0] rfl)
def rm_X8_crackBetween : Room := { frames := 2, cells := 0, slots := 0, locals := 45 }
set_option maxHeartbeats 4000000 in
set_option maxRecDepth 100000 in
theorem c_X8_crackBetween (l : Launch) (E : Ev) (A : Nat → Prop) (qw : Nat) (ap : Nat → Nat) (vp : Vf) (as_ : Nat → Nat) (vs : Vf) (cell : Int32) (there : Int32) (hI : PlanI vp) (hJ : StateI vs) (hcell : 0 ≤ cell.toInt ∧ cell.toInt ≤ 23) (hthere : 0 ≤ there.toInt ∧ there.toInt ≤ 23) : Met l yX8_crackBetween wsX8_crackBetween rm_X8_crackBetween (RdP E A [.ref qw, .int cell, .int there] (wpsL E qw ap vp as_ vs)) (vp_Si (fun r => (r.toInt = -1 ∨ (0 ≤ r.toInt ∧ r.toInt ≤ 5)) ∧ ((r.toInt = -1 ∨ r.toInt < (vp 70 0).toInt) ∧ ∀ vm : Vf, RW vm vp vs → ∀ way t : Int32, (1 ≤ way.toInt ∧ way.toInt ≤ 4) → there = mBes vm cell way → cW vm cell → 0 ≤ there.toInt → (mBar vm cell there t ≠ 0 ↔ (r.toInt ≠ -1 ∧ mOpen vm r t ≠ 0))))) 0 0 (fun _ => False) := by
  refine Met.ofW (cc := cX8_crackBetween) (maxL := 5) (ret := (some .int)) (by decide) rfl ?_
  intro p e s m args below meth c s₁ B hml hv
  obtain ⟨rfl, hE, hP⟩ := hv
  have hx := B.exec
  have hb := B.bytes
  have hr := B.returns
  have hts := atoms_spec (ws := wsX8_crackBetween) B.pre
  have hown : s.vm.findClass RX8 = some m.cls := findClass_of_methodNamed B.named
  have hlocks := B.notSynchronized
  have hK := hE.1
  have in_X8 : ∀ w ∈ u_ws RX8 TX8 2, w ∈ wsX8_crackBetween := fun w h => List.mem_cons_of_mem _ (List.mem_append_left _ (List.mem_append_left _ (List.mem_append_right _ h)))
  have in_X1 : ∀ w ∈ u_ws RX1 TX1 11, w ∈ wsX8_crackBetween := fun w h => List.mem_cons_of_mem _ (List.mem_append_left _ (List.mem_append_right _ h))
  have lk0 := hts (.methodLink RX8 110 Lib.Math.min.name) (List.mem_of_getElem? (i := 1) rfl)
  have lk1 := hts (.static Lib.Math.min.name) (List.mem_of_getElem? (i := 2) rfl)
  have lk2 := hts (.initialized "java/lang/Math") (List.mem_of_getElem? (i := 3) rfl)
  have lk3 := hts (.code Lib.Math.min.name Lib.Math.min.code 2 (some .int)) (List.mem_of_getElem? (i := 4) rfl)
  have lk4 := hts (.fieldLink RX8 9 "TidedGround$World" "plan" "LTidedGround$Plan;") (List.mem_of_getElem? (i := 5) rfl)
  have lk5 := hts (.methodLink RX8 47 Lib.Math.max.name) (List.mem_of_getElem? (i := 6) rfl)
  have lk6 := hts (.static Lib.Math.max.name) (List.mem_of_getElem? (i := 7) rfl)
  have lk7 := hts (.code Lib.Math.max.name Lib.Math.max.code 2 (some .int)) (List.mem_of_getElem? (i := 8) rfl)
  have lk8 := hts (.fieldLink RX8 101 "TidedGround$Plan" "cracks" "LTidedGround$Sites;") (List.mem_of_getElem? (i := 9) rfl)
  have n_0 : (0 : Int32).toInt = 0 := by decide
  have n_1 : (1 : Int32).toInt = 1 := by decide
  have n_2 : (2 : Int32).toInt = 2 := by decide
  have hl := lv_entry ([.ref qw, .int cell, .int there]) (n := 5) (Nat.le_of_ble_eq_true rfl)
  rw [lg_entry_eq]
  generalize (lg_sl ([.ref qw, .int cell, .int there]) ++ List.replicate (5 - (lg_sl ([.ref qw, .int cell, .int there])).length) Slot.unset).toArray = ls at hl ⊢
  have hl : lv_has ls 5 [(0, .ref qw), (1, .int cell), (2, .int there)] := hl
  refine W_abs (fun Q hQ => ?_)
  obtain ⟨hg, hmc, hm0, hm1, hm2, hs0, hs1, hs2, hs3⟩ := id hI
  obtain ⟨hg1, hg2, hg3, hg4⟩ := id hg
  have hz0 := hm0.1
  have hz1 := hm1.1
  have hz2 := hm2.1
  have hc0 := hs0.1
  have hc1 := hs1.1
  have hc2 := hs2.1
  have hc3 := hs3.1
  obtain ⟨hj0, hj1, hj2⟩ := id hJ
  refine lv_iload_n hx hb dX8_crackBetween_0 rfl (lv_at hl 1 rfl) ?_
  refine lv_iload_n hx hb dX8_crackBetween_1 rfl (lv_at hl 2 rfl) ?_
  refine va_mmin hx hb (hml.trans hl.1.symm) hown lk0 lk1 lk2 lk3 (Nat.le_of_ble_eq_true rfl) (Nat.le_of_ble_eq_true rfl) (Nat.zero_le _) (Nat.zero_le _) dX8_crackBetween_2 ?_
  refine lv_topi (fun x2 e2 => ?_)
  have t2 := i_min e2
  refine lv_istore_n (lv' := [(3, .int x2), (0, .ref qw), (1, .int cell), (2, .int there)]) hx hb dX8_crackBetween_5 rfl hl (by decide) rfl (fun ls hl => ?_)
  refine lv_aload_n hx hb dX8_crackBetween_6 rfl (lv_at hl 1 rfl) ?_
  refine va_get (D := eD E) (ci := 8) (v := .ref (ap 0)) (C := RX8) (T := TX8) (N := 2) hx hb hts in_X8 hown hK hP 0 rfl rfl 0 (by decide) lk4 (fun _ h9 => h9) rfl dX8_crackBetween_7 ?_
  refine lv_iload_n hx hb dX8_crackBetween_10 rfl (lv_at hl 0 rfl) ?_
  refine lv_iconst (v := 2) hx hb dX8_crackBetween_11 (by decide) ?_
  refine rd_V (As := [.int x2, .int 2]) (rest := []) (C := RX1) (ci := 1) ⟨hx, hb, hml, hown, hts⟩ (c_X1_beside l E A ap vp x2 2 hI (by omega)) (cwV 2 hts gX8_crackBetween_X1_beside rfl rfl rfl (by decide +kernel) ⟨Nat.le_of_ble_eq_true rfl, Nat.le_of_ble_eq_true rfl⟩) hE (hP.sub (ws' := planL E ap vp) [1, 2, 3, 4, 5, 6, 7, 8, 9, 10, 11, 12, 13, 14, 15, 16, 17, 18, 19, 20, 21, 22, 23, 24, 25, 26, 27, 28, 29] rfl) rfl rfl rfl rfl hl.1 rfl (Nat.le_of_ble_eq_true rfl) dX8_crackBetween_12 ⟨Nat.zero_le _, Nat.zero_le _⟩ (fun r12 h12 => ?_)
  have hf12 := h12.2
  replace h12 := h12.1
  refine lv_iload_n hx hb dX8_crackBetween_15 rfl (lv_at hl 2 rfl) ?_
  refine lv_iload_n hx hb dX8_crackBetween_16 rfl (lv_at hl 3 rfl) ?_
  refine va_mmax hx hb (hml.trans hl.1.symm) hown lk5 lk6 lk2 lk7 (Nat.le_of_ble_eq_true rfl) (Nat.le_of_ble_eq_true rfl) (Nat.zero_le _) (Nat.zero_le _) dX8_crackBetween_17 ?_
  refine lv_topi (fun x17 e17 => ?_)
  have t17 := i_max e17
  refine lv_icmp_ne (tgt := 27) hx hb dX8_crackBetween_20 (by decide) (fun c20 => ?_) (fun c20 => ?_)
  · have c20_ := i_ne c20
    refine lv_iconst (v := 1) hx hb dX8_crackBetween_27 (by decide) ?_
    refine lv_istore (lv' := [(4, .int 1), (3, .int x2), (0, .ref qw), (1, .int cell), (2, .int there)]) hx hb dX8_crackBetween_28 hl (by decide) rfl (fun ls hl => ?_)
    refine lv_aload_n hx hb dX8_crackBetween_30 rfl (lv_at hl 2 rfl) ?_
    refine va_get (D := eD E) (ci := 8) (v := .ref (ap 0)) (C := RX8) (T := TX8) (N := 2) hx hb hts in_X8 hown hK hP 0 rfl rfl 0 (by decide) lk4 (fun _ h9 => h9) rfl dX8_crackBetween_31 ?_
    refine va_get (D := eD E) (ci := 1) (v := .ref (ap 8)) (C := RX1) (T := TX1) (N := 11) hx hb hts in_X1 hown hK hP 1 rfl rfl 8 (by decide) lk8 (fun _ h9 => h9) rfl dX8_crackBetween_34 ?_
    refine lv_iload_n hx hb dX8_crackBetween_37 rfl (lv_at hl 1 rfl) ?_
    refine lv_iload hx hb dX8_crackBetween_38 (lv_at hl 0 rfl) ?_
    refine rd_V (As := [.int x2, .int 1]) (rest := []) (C := RX5) (ci := 5) ⟨hx, hb, hml, hown, hts⟩ (c_X5_find l E A (ap 8) (ap 71) (ap 72) (ap 73) (vp 70 0) (vp 71) (vp 72) (vp 73) x2 1 (by omega)) (cwV 2 hts gX8_crackBetween_X5_find rfl rfl rfl (by decide +kernel) ⟨Nat.le_of_ble_eq_true rfl, Nat.le_of_ble_eq_true rfl⟩) hE (hP.sub (ws' := sitesL E (ap 8) (ap 71) (ap 72) (ap 73) (vp 70 0) (vp 71) (vp 72) (vp 73)) [18, 19, 20, 21] rfl) rfl rfl rfl rfl hl.1 rfl (Nat.le_of_ble_eq_true rfl) dX8_crackBetween_40 ⟨Nat.zero_le _, Nat.zero_le _⟩ (fun r40 h40 => ?_)
    have hf40 := h40.2
    replace h40 := h40.1
    subst hQ
    exact W.iret (v := r40) hx hb hr (fun t ht hW => ⟨r40, rfl, ⟨(by omega), ⟨(Int.lt_or_le r40.toInt 0).elim (fun q => Or.inl (by omega)) (fun q => Or.inr (hf40.2 q).1), (fun vm hR way t hw hb hc h0 => bar_cls hR hw hb hc h0 t2 t17 (by have hG := hR.2.2.2.1.1; have hW : 1 ≤ (vm 0 0).toInt := wd_pos hG.1.1 (show 1 ≤ (vm 0 0).toInt * (vm 1 0).toInt by have z1 := hc.1; have z2 := hc.2; omega); rw [← hf12.2 vm hR.1.1.1 hR.1.1.2.1 hG (by rw [hR.1.1.1]; exact hW) (by decide)]; first | rw [if_pos c20] | rw [if_neg c20]) hf40)⟩⟩, ht⟩) (fun q h => absurd h List.not_mem_nil) dX8_crackBetween_43
  · have c20_ := i_eq c20
    refine lv_iconst (v := 0) hx hb dX8_crackBetween_23 (by decide) ?_
    refine lv_goto (tgt := 28) hx hb dX8_crackBetween_24 (by decide) ?_
    refine lv_istore (lv' := [(4, .int 0), (3, .int x2), (0, .ref qw), (1, .int cell), (2, .int there)]) hx hb dX8_crackBetween_28 hl (by decide) rfl (fun ls hl => ?_)
    refine lv_aload_n hx hb dX8_crackBetween_30 rfl (lv_at hl 2 rfl) ?_
    refine va_get (D := eD E) (ci := 8) (v := .ref (ap 0)) (C := RX8) (T := TX8) (N := 2) hx hb hts in_X8 hown hK hP 0 rfl rfl 0 (by decide) lk4 (fun _ h9 => h9) rfl dX8_crackBetween_31 ?_
    refine va_get (D := eD E) (ci := 1) (v := .ref (ap 8)) (C := RX1) (T := TX1) (N := 11) hx hb hts in_X1 hown hK hP 1 rfl rfl 8 (by decide) lk8 (fun _ h9 => h9) rfl dX8_crackBetween_34 ?_
    refine lv_iload_n hx hb dX8_crackBetween_37 rfl (lv_at hl 1 rfl) ?_
    refine lv_iload hx hb dX8_crackBetween_38 (lv_at hl 0 rfl) ?_
    refine rd_V (As := [.int x2, .int 0]) (rest := []) (C := RX5) (ci := 5) ⟨hx, hb, hml, hown, hts⟩ (c_X5_find l E A (ap 8) (ap 71) (ap 72) (ap 73) (vp 70 0) (vp 71) (vp 72) (vp 73) x2 0 (by omega)) (cwV 2 hts gX8_crackBetween_X5_find rfl rfl rfl (by decide +kernel) ⟨Nat.le_of_ble_eq_true rfl, Nat.le_of_ble_eq_true rfl⟩) hE (hP.sub (ws' := sitesL E (ap 8) (ap 71) (ap 72) (ap 73) (vp 70 0) (vp 71) (vp 72) (vp 73)) [18, 19, 20, 21] rfl) rfl rfl rfl rfl hl.1 rfl (Nat.le_of_ble_eq_true rfl) dX8_crackBetween_40 ⟨Nat.zero_le _, Nat.zero_le _⟩ (fun r40 h40 => ?_)
    have hf40 := h40.2
    replace h40 := h40.1
    subst hQ
    exact W.iret (v := r40) hx hb hr (fun t ht hW => ⟨r40, rfl, ⟨(by omega), ⟨(Int.lt_or_le r40.toInt 0).elim (fun q => Or.inl (by omega)) (fun q => Or.inr (hf40.2 q).1), (fun vm hR way t hw hb hc h0 => bar_cls hR hw hb hc h0 t2 t17 (by have hG := hR.2.2.2.1.1; have hW : 1 ≤ (vm 0 0).toInt := wd_pos hG.1.1 (show 1 ≤ (vm 0 0).toInt * (vm 1 0).toInt by have z1 := hc.1; have z2 := hc.2; omega); rw [← hf12.2 vm hR.1.1.1 hR.1.1.2.1 hG (by rw [hR.1.1.1]; exact hW) (by decide)]; first | rw [if_pos c20] | rw [if_neg c20]) hf40)⟩⟩, ht⟩) (fun q h => absurd h List.not_mem_nil) dX8_crackBetween_43
def rm_X8_pushTo : Room := { frames := 3, cells := 0, slots := 0, locals := 71 }
set_option maxHeartbeats 4000000 in
set_option maxRecDepth 100000 in
theorem c_X8_pushTo (l : Launch) (E : Ev) (A : Nat → Prop) (qw : Nat) (ap : Nat → Nat) (vp : Vf) (as_ : Nat → Nat) (vs : Vf) (cell : Int32) (there : Int32) (step : Int32) (hI : PlanI vp) (hJ : StateI vs) (hcell : 0 ≤ cell.toInt ∧ cell.toInt ≤ 23) (hthere : there.toInt = -1 ∨ (0 ≤ there.toInt ∧ there.toInt ≤ 23)) (hstep : 0 ≤ step.toInt ∧ step.toInt ≤ 2000000) : Met l yX8_pushTo wsX8_pushTo rm_X8_pushTo (RdP E A [.ref qw, .int cell, .int there, .int step] (wpsL E qw ap vp as_ vs)) (vp_Si (fun r => (r.toInt = -1 ∨ (0 ≤ there.toInt ∧ 0 ≤ r.toInt)) ∧ (∀ vm : Vf, RW vm vp vs → (-1 : Int32) = vm 62 0 → ∀ way : Int32, (0 ≤ way.toInt ∧ way.toInt ≤ 4) → there = mBes vm cell way → cW vm cell → PuP vm cell way there step r))) 0 0 (fun _ => False) := by
  refine Met.ofW (cc := cX8_pushTo) (maxL := 6) (ret := (some .int)) (by decide) rfl ?_
  intro p e s m args below meth c s₁ B hml hv
  obtain ⟨rfl, hE, hP⟩ := hv
  have hx := B.exec
  have hb := B.bytes
  have hr := B.returns
  have hts := atoms_spec (ws := wsX8_pushTo) B.pre
  have hown : s.vm.findClass RX8 = some m.cls := findClass_of_methodNamed B.named
  have hlocks := B.notSynchronized
  have hK := hE.1
  have in_X8 : ∀ w ∈ u_ws RX8 TX8 2, w ∈ wsX8_pushTo := fun w h => List.mem_cons_of_mem _ (List.mem_append_left _ (List.mem_append_left _ (List.mem_append_left _ (List.mem_append_left _ (List.mem_append_right _ h)))))
  have in_X6 : ∀ w ∈ u_ws RX6 TX6 9, w ∈ wsX8_pushTo := fun w h => List.mem_cons_of_mem _ (List.mem_append_left _ (List.mem_append_left _ (List.mem_append_left _ (List.mem_append_right _ h))))
  have lk0 := hts (.fieldLink RX8 15 "TidedGround$World" "now" "LTidedGround$State;") (List.mem_of_getElem? (i := 1) rfl)
  have lk1 := hts (.fieldLink RX8 129 "TidedGround$State" "steep" "I") (List.mem_of_getElem? (i := 2) rfl)
  have lk2 := hts (.methodLink RX8 47 Lib.Math.max.name) (List.mem_of_getElem? (i := 3) rfl)
  have lk3 := hts (.static Lib.Math.max.name) (List.mem_of_getElem? (i := 4) rfl)
  have lk4 := hts (.initialized "java/lang/Math") (List.mem_of_getElem? (i := 5) rfl)
  have lk5 := hts (.code Lib.Math.max.name Lib.Math.max.code 2 (some .int)) (List.mem_of_getElem? (i := 6) rfl)
  have n_m1 : ((-1) : Int32).toInt = -1 := by decide
  have n_0 : (0 : Int32).toInt = 0 := by decide
  have hl := lv_entry ([.ref qw, .int cell, .int there, .int step]) (n := 6) (Nat.le_of_ble_eq_true rfl)
  rw [lg_entry_eq]
  generalize (lg_sl ([.ref qw, .int cell, .int there, .int step]) ++ List.replicate (6 - (lg_sl ([.ref qw, .int cell, .int there, .int step])).length) Slot.unset).toArray = ls at hl ⊢
  have hl : lv_has ls 6 [(0, .ref qw), (1, .int cell), (2, .int there), (3, .int step)] := hl
  refine W_abs (fun Q hQ => ?_)
  obtain ⟨hg, hmc, hm0, hm1, hm2, hs0, hs1, hs2, hs3⟩ := id hI
  obtain ⟨hg1, hg2, hg3, hg4⟩ := id hg
  have hz0 := hm0.1
  have hz1 := hm1.1
  have hz2 := hm2.1
  have hc0 := hs0.1
  have hc1 := hs1.1
  have hc2 := hs2.1
  have hc3 := hs3.1
  obtain ⟨hj0, hj1, hj2⟩ := id hJ
  refine lv_iload_n hx hb dX8_pushTo_0 rfl (lv_at hl 2 rfl) ?_
  refine lv_iload_n hx hb dX8_pushTo_1 rfl (lv_at hl 1 rfl) ?_
  refine lv_icmp_ne (tgt := 7) hx hb dX8_pushTo_2 (by decide) (fun c2 => ?_) (fun c2 => ?_)
  · have c2_ := i_ne c2
    refine lv_iload_n hx hb dX8_pushTo_7 rfl (lv_at hl 2 rfl) ?_
    refine lv_iconst (v := (-1)) hx hb dX8_pushTo_8 (by decide) ?_
    refine lv_icmp_ne (tgt := 14) hx hb dX8_pushTo_9 (by decide) (fun c9 => ?_) (fun c9 => ?_)
    · have c9_ := i_ne c9
      refine lv_aload_n hx hb dX8_pushTo_14 rfl (lv_at hl 0 rfl) ?_
      refine lv_iload_n hx hb dX8_pushTo_15 rfl (lv_at hl 1 rfl) ?_
      refine lv_iload_n hx hb dX8_pushTo_16 rfl (lv_at hl 2 rfl) ?_
      refine rd_V (As := [.int cell, .int there]) (rest := []) (C := RX8) (ci := 8) ⟨hx, hb, hml, hown, hts⟩ (c_X8_crackBetween l E A qw ap vp as_ vs cell there hI hJ (by omega) (by omega)) (cwV 2 hts gX8_pushTo_X8_crackBetween rfl rfl rfl (by decide +kernel) ⟨Nat.le_of_ble_eq_true rfl, Nat.le_of_ble_eq_true rfl⟩) hE (hP.sub (ws' := wpsL E qw ap vp as_ vs) [0, 1, 2, 3, 4, 5, 6, 7, 8, 9, 10, 11, 12, 13, 14, 15, 16, 17, 18, 19, 20, 21, 22, 23, 24, 25, 26, 27, 28, 29, 30, 31, 32, 33] rfl) rfl rfl rfl rfl hl.1 rfl (Nat.le_of_ble_eq_true rfl) dX8_pushTo_17 ⟨Nat.zero_le _, Nat.zero_le _⟩ (fun r17 h17 => ?_)
      have hf17 := h17.2
      replace h17 := h17.1
      refine lv_istore (lv' := [(4, .int r17), (0, .ref qw), (1, .int cell), (2, .int there), (3, .int step)]) hx hb dX8_pushTo_20 hl (by decide) rfl (fun ls hl => ?_)
      refine lv_iload hx hb dX8_pushTo_22 (lv_at hl 0 rfl) ?_
      refine lv_iconst (v := (-1)) hx hb dX8_pushTo_24 (by decide) ?_
      refine lv_icmp_eq (tgt := 40) hx hb dX8_pushTo_25 (by decide) (fun c25 => ?_) (fun c25 => ?_)
      · have c25_ := i_eq c25
        clear h17
        refine lv_aload_n hx hb dX8_pushTo_40 rfl (lv_at hl 1 rfl) ?_
        refine lv_iload_n hx hb dX8_pushTo_41 rfl (lv_at hl 3 rfl) ?_
        refine lv_iload_n hx hb dX8_pushTo_42 rfl (lv_at hl 4 rfl) ?_
        refine lv_iconst (v := (-1)) hx hb dX8_pushTo_43 (by decide) ?_
        refine rd_V (As := [.int there, .int step, .int (-1)]) (rest := []) (C := RX8) (ci := 8) ⟨hx, hb, hml, hown, hts⟩ (c_X8_heightAt l E A qw ap vp as_ vs there step (-1) hI hJ (by omega) (by omega)) (cwV 3 hts gX8_pushTo_X8_heightAt rfl rfl rfl (by decide +kernel) ⟨Nat.le_of_ble_eq_true rfl, Nat.le_of_ble_eq_true rfl⟩) hE (hP.sub (ws' := wpsL E qw ap vp as_ vs) [0, 1, 2, 3, 4, 5, 6, 7, 8, 9, 10, 11, 12, 13, 14, 15, 16, 17, 18, 19, 20, 21, 22, 23, 24, 25, 26, 27, 28, 29, 30, 31, 32, 33] rfl) rfl rfl rfl rfl hl.1 rfl (Nat.le_of_ble_eq_true rfl) dX8_pushTo_44 ⟨Nat.zero_le _, Nat.zero_le _⟩ (fun r44 h44 => ?_)
        have hf44 := h44.2
        replace h44 := h44.1
        refine lv_aload_n hx hb dX8_pushTo_47 rfl (lv_at hl 1 rfl) ?_
        refine lv_iload_n hx hb dX8_pushTo_48 rfl (lv_at hl 2 rfl) ?_
        refine lv_iload_n hx hb dX8_pushTo_49 rfl (lv_at hl 4 rfl) ?_
        refine lv_iconst (v := (-1)) hx hb dX8_pushTo_50 (by decide) ?_
        refine rd_V (As := [.int cell, .int step, .int (-1)]) (rest := [.int r44]) (C := RX8) (ci := 8) ⟨hx, hb, hml, hown, hts⟩ (c_X8_heightAt l E A qw ap vp as_ vs cell step (-1) hI hJ (by omega) (by omega)) (cwV 3 hts gX8_pushTo_X8_heightAt rfl rfl rfl (by decide +kernel) ⟨Nat.le_of_ble_eq_true rfl, Nat.le_of_ble_eq_true rfl⟩) hE (hP.sub (ws' := wpsL E qw ap vp as_ vs) [0, 1, 2, 3, 4, 5, 6, 7, 8, 9, 10, 11, 12, 13, 14, 15, 16, 17, 18, 19, 20, 21, 22, 23, 24, 25, 26, 27, 28, 29, 30, 31, 32, 33] rfl) rfl rfl rfl rfl hl.1 rfl (Nat.le_of_ble_eq_true rfl) dX8_pushTo_51 ⟨Nat.zero_le _, Nat.zero_le _⟩ (fun r51 h51 => ?_)
        have hf51 := h51.2
        replace h51 := h51.1
        refine lv_isub hx hb dX8_pushTo_54 ?_
        refine lv_topi (fun x54 e54 => ?_)
        refine lv_istore (lv' := [(5, .int x54), (4, .int r17), (0, .ref qw), (1, .int cell), (2, .int there), (3, .int step)]) hx hb dX8_pushTo_55 hl (by decide) rfl (fun ls hl => ?_)
        refine lv_iload hx hb dX8_pushTo_57 (lv_at hl 0 rfl) ?_
        refine lv_aload_n hx hb dX8_pushTo_59 rfl (lv_at hl 2 rfl) ?_
        refine va_get (D := eD E) (ci := 8) (v := .ref (as_ 0)) (C := RX8) (T := TX8) (N := 2) hx hb hts in_X8 hown hK hP 0 rfl rfl 1 (by decide) lk0 (fun _ h9 => h9) rfl dX8_pushTo_60 ?_
        refine va_get (D := eD E) (ci := 6) (v := .int (vs 6 0)) (C := RX6) (T := TX6) (N := 9) hx hb hts in_X6 hown hK hP 30 rfl rfl 6 (by decide) lk1 (fun _ h9 => h9) rfl dX8_pushTo_63 ?_
        refine lv_icmp_le (tgt := 73) hx hb dX8_pushTo_66 (by decide) (fun c66 => ?_) (fun c66 => ?_)
        · have c66_ := i_le c66
          refine lv_iload hx hb dX8_pushTo_73 (lv_at hl 0 rfl) ?_
          refine lv_iconst (v := 0) hx hb dX8_pushTo_75 (by decide) ?_
          refine va_mmax hx hb (hml.trans hl.1.symm) hown lk2 lk3 lk4 lk5 (Nat.le_of_ble_eq_true rfl) (Nat.le_of_ble_eq_true rfl) (Nat.zero_le _) (Nat.zero_le _) dX8_pushTo_76 ?_
          refine lv_topi (fun x76 e76 => ?_)
          have t76 := i_max e76
          subst hQ
          exact W.iret (v := x76) hx hb hr (fun t ht hW => ⟨x76, rfl, ⟨(by omega), (fun vm hR hg way hw hb hc => by have hG := hR.2.2.2.1.1; have hW : 1 ≤ (vm 0 0).toInt := wd_pos hG.1.1 (show 1 ≤ (vm 0 0).toInt * (vm 1 0).toInt by have z1 := hc.1; have z2 := hc.2; omega); have hw1 : 1 ≤ way.toInt ∧ way.toInt ≤ 4 := (by have z := i_ne (way_ne hG hW hb hc c2); omega); have hbc : cW vm there := (by have z : 0 ≤ there.toInt := (by omega); rw [hb] at z ⊢; exact bes_cW hG z); have q44 := hf44 vm hR hg hbc; have q51 := hf51 vm hR hg hc; have e6 : vs 6 0 = vm 29 0 := hR.2.1.2.2.2.2.2.2.1; have hnb : ¬ mBar vm cell there step ≠ 0 := (fun z => by have z2 := (hf17.2 vm hR way step hw1 hb hc (by omega)).mp z; first | exact z2.2 (by rw [← hf32 vm hR hg (by have z := hf17.1; rw [hR.1.2.2.2.1.1] at z; omega)]; exact c35) | exact absurd z2.1 (by omega)); have es : x54 = mH vm there step - mH vm cell step := (by rw [e54, q44, q51]); first | exact pu_go hG hW hb hc c2 (by omega) (fun q => absurd q (fun q => q.elim hnb (fun z => by rw [← e6, ← es] at z; exact Int32.not_lt.mpr c66 z))) (fun _ => by rw [← es]; exact e76) | exact pu_go hG hW hb hc c2 (by omega) (fun _ => by decide) (fun q => absurd (Or.inr (by rw [← e6, ← es]; exact Int32.not_le.mp c66)) q))⟩, ht⟩) (fun q h => absurd h List.not_mem_nil) dX8_pushTo_79
        · have c66_ := i_nle c66
          refine lv_iconst (v := (-1)) hx hb dX8_pushTo_69 (by decide) ?_
          refine lv_goto (tgt := 79) hx hb dX8_pushTo_70 (by decide) ?_
          subst hQ
          exact W.iret (v := (-1)) hx hb hr (fun t ht hW => ⟨(-1), rfl, ⟨(by omega), (fun vm hR hg way hw hb hc => by have hG := hR.2.2.2.1.1; have hW : 1 ≤ (vm 0 0).toInt := wd_pos hG.1.1 (show 1 ≤ (vm 0 0).toInt * (vm 1 0).toInt by have z1 := hc.1; have z2 := hc.2; omega); have hw1 : 1 ≤ way.toInt ∧ way.toInt ≤ 4 := (by have z := i_ne (way_ne hG hW hb hc c2); omega); have hbc : cW vm there := (by have z : 0 ≤ there.toInt := (by omega); rw [hb] at z ⊢; exact bes_cW hG z); have q44 := hf44 vm hR hg hbc; have q51 := hf51 vm hR hg hc; have e6 : vs 6 0 = vm 29 0 := hR.2.1.2.2.2.2.2.2.1; have hnb : ¬ mBar vm cell there step ≠ 0 := (fun z => by have z2 := (hf17.2 vm hR way step hw1 hb hc (by omega)).mp z; first | exact z2.2 (by rw [← hf32 vm hR hg (by have z := hf17.1; rw [hR.1.2.2.2.1.1] at z; omega)]; exact c35) | exact absurd z2.1 (by omega)); have es : x54 = mH vm there step - mH vm cell step := (by rw [e54, q44, q51]); first | exact pu_go hG hW hb hc c2 (by omega) (fun q => absurd q (fun q => q.elim hnb (fun z => by rw [← e6, ← es] at z; exact Int32.not_lt.mpr c66 z))) (fun _ => by rw [← es]; exact e76) | exact pu_go hG hW hb hc c2 (by omega) (fun _ => by decide) (fun q => absurd (Or.inr (by rw [← e6, ← es]; exact Int32.not_le.mp c66)) q))⟩, ht⟩) (fun q h => absurd h List.not_mem_nil) dX8_pushTo_79
      · have c25_ := i_ne c25
        replace h17 := cm_n h17 c25_
        clear c25_
        refine lv_aload_n hx hb dX8_pushTo_28 rfl (lv_at hl 1 rfl) ?_
        refine lv_iload hx hb dX8_pushTo_29 (lv_at hl 0 rfl) ?_
        refine lv_iload_n hx hb dX8_pushTo_31 rfl (lv_at hl 4 rfl) ?_
        refine rd_V (As := [.int r17, .int step]) (rest := []) (C := RX8) (ci := 8) ⟨hx, hb, hml, hown, hts⟩ (c_X8_isOpen l E A qw ap vp as_ vs r17 step hI hJ (by omega) (by omega)) (cwV 2 hts gX8_pushTo_X8_isOpen rfl rfl rfl (by decide +kernel) ⟨Nat.le_of_ble_eq_true rfl, Nat.le_of_ble_eq_true rfl⟩) hE (hP.sub (ws' := wpsL E qw ap vp as_ vs) [0, 1, 2, 3, 4, 5, 6, 7, 8, 9, 10, 11, 12, 13, 14, 15, 16, 17, 18, 19, 20, 21, 22, 23, 24, 25, 26, 27, 28, 29, 30, 31, 32, 33] rfl) rfl rfl rfl rfl hl.1 rfl (Nat.le_of_ble_eq_true rfl) dX8_pushTo_32 ⟨Nat.zero_le _, Nat.zero_le _⟩ (fun r32 h32 => ?_)
        have hf32 := h32.2
        replace h32 := h32.1
        refine lv_if_eq (tgt := 40) hx hb dX8_pushTo_35 (by decide) (fun c35 => ?_) (fun c35 => ?_)
        · have c35_ := i_eq c35
          clear h32
          refine lv_aload_n hx hb dX8_pushTo_40 rfl (lv_at hl 1 rfl) ?_
          refine lv_iload_n hx hb dX8_pushTo_41 rfl (lv_at hl 3 rfl) ?_
          refine lv_iload_n hx hb dX8_pushTo_42 rfl (lv_at hl 4 rfl) ?_
          refine lv_iconst (v := (-1)) hx hb dX8_pushTo_43 (by decide) ?_
          refine rd_V (As := [.int there, .int step, .int (-1)]) (rest := []) (C := RX8) (ci := 8) ⟨hx, hb, hml, hown, hts⟩ (c_X8_heightAt l E A qw ap vp as_ vs there step (-1) hI hJ (by omega) (by omega)) (cwV 3 hts gX8_pushTo_X8_heightAt rfl rfl rfl (by decide +kernel) ⟨Nat.le_of_ble_eq_true rfl, Nat.le_of_ble_eq_true rfl⟩) hE (hP.sub (ws' := wpsL E qw ap vp as_ vs) [0, 1, 2, 3, 4, 5, 6, 7, 8, 9, 10, 11, 12, 13, 14, 15, 16, 17, 18, 19, 20, 21, 22, 23, 24, 25, 26, 27, 28, 29, 30, 31, 32, 33] rfl) rfl rfl rfl rfl hl.1 rfl (Nat.le_of_ble_eq_true rfl) dX8_pushTo_44 ⟨Nat.zero_le _, Nat.zero_le _⟩ (fun r44 h44 => ?_)
          have hf44 := h44.2
          replace h44 := h44.1
          refine lv_aload_n hx hb dX8_pushTo_47 rfl (lv_at hl 1 rfl) ?_
          refine lv_iload_n hx hb dX8_pushTo_48 rfl (lv_at hl 2 rfl) ?_
          refine lv_iload_n hx hb dX8_pushTo_49 rfl (lv_at hl 4 rfl) ?_
          refine lv_iconst (v := (-1)) hx hb dX8_pushTo_50 (by decide) ?_
          refine rd_V (As := [.int cell, .int step, .int (-1)]) (rest := [.int r44]) (C := RX8) (ci := 8) ⟨hx, hb, hml, hown, hts⟩ (c_X8_heightAt l E A qw ap vp as_ vs cell step (-1) hI hJ (by omega) (by omega)) (cwV 3 hts gX8_pushTo_X8_heightAt rfl rfl rfl (by decide +kernel) ⟨Nat.le_of_ble_eq_true rfl, Nat.le_of_ble_eq_true rfl⟩) hE (hP.sub (ws' := wpsL E qw ap vp as_ vs) [0, 1, 2, 3, 4, 5, 6, 7, 8, 9, 10, 11, 12, 13, 14, 15, 16, 17, 18, 19, 20, 21, 22, 23, 24, 25, 26, 27, 28, 29, 30, 31, 32, 33] rfl) rfl rfl rfl rfl hl.1 rfl (Nat.le_of_ble_eq_true rfl) dX8_pushTo_51 ⟨Nat.zero_le _, Nat.zero_le _⟩ (fun r51 h51 => ?_)
          have hf51 := h51.2
          replace h51 := h51.1
          refine lv_isub hx hb dX8_pushTo_54 ?_
          refine lv_topi (fun x54 e54 => ?_)
          refine lv_istore (lv' := [(5, .int x54), (4, .int r17), (0, .ref qw), (1, .int cell), (2, .int there), (3, .int step)]) hx hb dX8_pushTo_55 hl (by decide) rfl (fun ls hl => ?_)
          refine lv_iload hx hb dX8_pushTo_57 (lv_at hl 0 rfl) ?_
          refine lv_aload_n hx hb dX8_pushTo_59 rfl (lv_at hl 2 rfl) ?_
          refine va_get (D := eD E) (ci := 8) (v := .ref (as_ 0)) (C := RX8) (T := TX8) (N := 2) hx hb hts in_X8 hown hK hP 0 rfl rfl 1 (by decide) lk0 (fun _ h9 => h9) rfl dX8_pushTo_60 ?_
          refine va_get (D := eD E) (ci := 6) (v := .int (vs 6 0)) (C := RX6) (T := TX6) (N := 9) hx hb hts in_X6 hown hK hP 30 rfl rfl 6 (by decide) lk1 (fun _ h9 => h9) rfl dX8_pushTo_63 ?_
          refine lv_icmp_le (tgt := 73) hx hb dX8_pushTo_66 (by decide) (fun c66 => ?_) (fun c66 => ?_)
          · have c66_ := i_le c66
            refine lv_iload hx hb dX8_pushTo_73 (lv_at hl 0 rfl) ?_
            refine lv_iconst (v := 0) hx hb dX8_pushTo_75 (by decide) ?_
            refine va_mmax hx hb (hml.trans hl.1.symm) hown lk2 lk3 lk4 lk5 (Nat.le_of_ble_eq_true rfl) (Nat.le_of_ble_eq_true rfl) (Nat.zero_le _) (Nat.zero_le _) dX8_pushTo_76 ?_
            refine lv_topi (fun x76 e76 => ?_)
            have t76 := i_max e76
            subst hQ
            exact W.iret (v := x76) hx hb hr (fun t ht hW => ⟨x76, rfl, ⟨(by omega), (fun vm hR hg way hw hb hc => by have hG := hR.2.2.2.1.1; have hW : 1 ≤ (vm 0 0).toInt := wd_pos hG.1.1 (show 1 ≤ (vm 0 0).toInt * (vm 1 0).toInt by have z1 := hc.1; have z2 := hc.2; omega); have hw1 : 1 ≤ way.toInt ∧ way.toInt ≤ 4 := (by have z := i_ne (way_ne hG hW hb hc c2); omega); have hbc : cW vm there := (by have z : 0 ≤ there.toInt := (by omega); rw [hb] at z ⊢; exact bes_cW hG z); have q44 := hf44 vm hR hg hbc; have q51 := hf51 vm hR hg hc; have e6 : vs 6 0 = vm 29 0 := hR.2.1.2.2.2.2.2.2.1; have hnb : ¬ mBar vm cell there step ≠ 0 := (fun z => by have z2 := (hf17.2 vm hR way step hw1 hb hc (by omega)).mp z; first | exact z2.2 (by rw [← hf32 vm hR hg (by have z := hf17.1; rw [hR.1.2.2.2.1.1] at z; omega)]; exact c35) | exact absurd z2.1 (by omega)); have es : x54 = mH vm there step - mH vm cell step := (by rw [e54, q44, q51]); first | exact pu_go hG hW hb hc c2 (by omega) (fun q => absurd q (fun q => q.elim hnb (fun z => by rw [← e6, ← es] at z; exact Int32.not_lt.mpr c66 z))) (fun _ => by rw [← es]; exact e76) | exact pu_go hG hW hb hc c2 (by omega) (fun _ => by decide) (fun q => absurd (Or.inr (by rw [← e6, ← es]; exact Int32.not_le.mp c66)) q))⟩, ht⟩) (fun q h => absurd h List.not_mem_nil) dX8_pushTo_79
          · have c66_ := i_nle c66
            refine lv_iconst (v := (-1)) hx hb dX8_pushTo_69 (by decide) ?_
            refine lv_goto (tgt := 79) hx hb dX8_pushTo_70 (by decide) ?_
            subst hQ
            exact W.iret (v := (-1)) hx hb hr (fun t ht hW => ⟨(-1), rfl, ⟨(by omega), (fun vm hR hg way hw hb hc => by have hG := hR.2.2.2.1.1; have hW : 1 ≤ (vm 0 0).toInt := wd_pos hG.1.1 (show 1 ≤ (vm 0 0).toInt * (vm 1 0).toInt by have z1 := hc.1; have z2 := hc.2; omega); have hw1 : 1 ≤ way.toInt ∧ way.toInt ≤ 4 := (by have z := i_ne (way_ne hG hW hb hc c2); omega); have hbc : cW vm there := (by have z : 0 ≤ there.toInt := (by omega); rw [hb] at z ⊢; exact bes_cW hG z); have q44 := hf44 vm hR hg hbc; have q51 := hf51 vm hR hg hc; have e6 : vs 6 0 = vm 29 0 := hR.2.1.2.2.2.2.2.2.1; have hnb : ¬ mBar vm cell there step ≠ 0 := (fun z => by have z2 := (hf17.2 vm hR way step hw1 hb hc (by omega)).mp z; first | exact z2.2 (by rw [← hf32 vm hR hg (by have z := hf17.1; rw [hR.1.2.2.2.1.1] at z; omega)]; exact c35) | exact absurd z2.1 (by omega)); have es : x54 = mH vm there step - mH vm cell step := (by rw [e54, q44, q51]); first | exact pu_go hG hW hb hc c2 (by omega) (fun q => absurd q (fun q => q.elim hnb (fun z => by rw [← e6, ← es] at z; exact Int32.not_lt.mpr c66 z))) (fun _ => by rw [← es]; exact e76) | exact pu_go hG hW hb hc c2 (by omega) (fun _ => by decide) (fun q => absurd (Or.inr (by rw [← e6, ← es]; exact Int32.not_le.mp c66)) q))⟩, ht⟩) (fun q h => absurd h List.not_mem_nil) dX8_pushTo_79
        · have c35_ := i_ne c35
          replace h32 := b_y h32 c35_
          clear c35_
          refine lv_iconst (v := (-1)) hx hb dX8_pushTo_38 (by decide) ?_
          subst hQ
          exact W.iret (v := (-1)) hx hb hr (fun t ht hW => ⟨(-1), rfl, ⟨(by omega), (fun vm hR hg way hw hb hc => by have hG := hR.2.2.2.1.1; have hW : 1 ≤ (vm 0 0).toInt := wd_pos hG.1.1 (show 1 ≤ (vm 0 0).toInt * (vm 1 0).toInt by have z1 := hc.1; have z2 := hc.2; omega); have hw1 : 1 ≤ way.toInt ∧ way.toInt ≤ 4 := (by have z := i_ne (way_ne hG hW hb hc c2); omega); exact pu_go hG hW hb hc c2 (by omega) (fun _ => by decide) (fun q => absurd (Or.inl ((hf17.2 vm hR way step hw1 hb hc (by omega)).mpr ⟨by omega, by rw [← hf32 vm hR hg (by have z := hf17.1; rw [hR.1.2.2.2.1.1] at z; omega)]; exact c35⟩)) q))⟩, ht⟩) (fun q h => absurd h List.not_mem_nil) dX8_pushTo_39
    · have c9_ := i_eq c9
      refine lv_iconst (v := (-1)) hx hb dX8_pushTo_12 (by decide) ?_
      subst hQ
      exact W.iret (v := (-1)) hx hb hr (fun t ht hW => ⟨(-1), rfl, ⟨(by omega), (fun vm hR hg way hw hb hc => by have hG := hR.2.2.2.1.1; have hW : 1 ≤ (vm 0 0).toInt := wd_pos hG.1.1 (show 1 ≤ (vm 0 0).toInt * (vm 1 0).toInt by have z1 := hc.1; have z2 := hc.2; omega); exact pu_none hG hW hb hc c2 c9)⟩, ht⟩) (fun q h => absurd h List.not_mem_nil) dX8_pushTo_13
  · have c2_ := i_eq c2
    refine lv_iconst (v := 0) hx hb dX8_pushTo_5 (by decide) ?_
    subst hQ
    exact W.iret (v := 0) hx hb hr (fun t ht hW => ⟨0, rfl, ⟨(by omega), (fun vm hR hg way hw hb hc => by have hG := hR.2.2.2.1.1; have hW : 1 ≤ (vm 0 0).toInt := wd_pos hG.1.1 (show 1 ≤ (vm 0 0).toInt * (vm 1 0).toInt by have z1 := hc.1; have z2 := hc.2; omega); exact pu_same hG hW hw hb hc c2)⟩, ht⟩) (fun q h => absurd h List.not_mem_nil) dX8_pushTo_6
