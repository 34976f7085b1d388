def rm_X8_leanAt : Room := { frames := 3, cells := 0, slots := 0, locals := 71 }
set_option maxHeartbeats 4000000 in
set_option maxRecDepth 100000 in
theorem c_X8_leanAt (l : Launch) (E : Ev) (A : Nat → Prop) (qw : Nat) (ap : Nat → Nat) (vp : Vf) (as_ : Nat → Nat) (vs : Vf) (cell : Int32) (step : Int32) (gone : Int32) (hI : PlanI vp) (hJ : StateI vs) (hcell : 0 ≤ cell.toInt ∧ cell.toInt ≤ 23) (hstep : 0 ≤ step.toInt ∧ step.toInt ≤ 2000000) : Met l yX8_leanAt wsX8_leanAt rm_X8_leanAt (RdP E A [.ref qw, .int cell, .int step, .int gone] (wpsL E qw ap vp as_ vs)) (vp_Si (fun r => True)) 0 0 (fun _ => False) := by
  refine Met.ofW (cc := cX8_leanAt) (maxL := 8) (ret := (some .int)) (by decide) rfl ?_
  intro p e s m args below meth c s₁ B hml hv
  obtain ⟨rfl, hE, hP⟩ := hv
  have hx := B.exec
  have hb := B.bytes
  have hr := B.returns
  have hts := atoms_spec (ws := wsX8_leanAt) B.pre
  have hown : s.vm.findClass RX8 = some m.cls := findClass_of_methodNamed B.named
  have hlocks := B.notSynchronized
  have hK := hE.1
  have in_X8 : ∀ w ∈ u_ws RX8 TX8 2, w ∈ wsX8_leanAt := fun w h => List.mem_cons_of_mem _ (List.mem_append_left _ (List.mem_append_left _ (List.mem_append_left _ (List.mem_append_right _ h))))
  have lk0 := hts (.fieldLink RX8 9 "TidedGround$World" "plan" "LTidedGround$Plan;") (by decide +kernel)
  have lk1 := hts (.methodLink RX8 69 Lib.Math.abs.name) (by decide +kernel)
  have lk2 := hts (.static Lib.Math.abs.name) (by decide +kernel)
  have lk3 := hts (.initialized "java/lang/Math") (by decide +kernel)
  have lk4 := hts (.code Lib.Math.abs.name Lib.Math.abs.code 1 (some .int)) (by decide +kernel)
  have lk5 := hts (.methodLink RX8 47 Lib.Math.max.name) (by decide +kernel)
  have lk6 := hts (.static Lib.Math.max.name) (by decide +kernel)
  have lk7 := hts (.code Lib.Math.max.name Lib.Math.max.code 2 (some .int)) (by decide +kernel)
  have n_m1 : ((-1) : Int32).toInt = -1 := by decide
  have n_0 : (0 : Int32).toInt = 0 := by decide
  have n_1 : (1 : Int32).toInt = 1 := by decide
  have n_5 : (5 : Int32).toInt = 5 := by decide
  have hl := lv_entry ([.ref qw, .int cell, .int step, .int gone]) (n := 8) (Nat.le_of_ble_eq_true rfl)
  rw [lg_entry_eq]
  generalize (lg_sl ([.ref qw, .int cell, .int step, .int gone]) ++ List.replicate (8 - (lg_sl ([.ref qw, .int cell, .int step, .int gone])).length) Slot.unset).toArray = ls at hl ⊢
  have hl : lv_has ls 8 [(0, .ref qw), (1, .int cell), (2, .int step), (3, .int gone)] := hl
  refine W_abs (fun Q hQ => ?_)
  obtain ⟨hg, hmc, hm0, hm1, hm2, hs0, hs1, hs2, hs3⟩ := id hI
  obtain ⟨hg1, hg2, hg3, hg4⟩ := id hg
  have hz0 := hm0.1
  have hz1 := hm1.1
  have hz2 := hm2.1
  have hc0 := hs0.1
  have hc1 := hs1.1
  have hc2 := hs2.1
  have hc3 := hs3.1
  obtain ⟨hj0, hj1, hj2⟩ := id hJ
  refine lv_aload_n hx hb dX8_leanAt_0 rfl (lv_at hl 0 rfl) ?_
  refine lv_iload_n hx hb dX8_leanAt_1 rfl (lv_at hl 1 rfl) ?_
  refine lv_iload_n hx hb dX8_leanAt_2 rfl (lv_at hl 2 rfl) ?_
  refine lv_iload_n hx hb dX8_leanAt_3 rfl (lv_at hl 3 rfl) ?_
  refine rd_V (As := [.int cell, .int step, .int gone]) (rest := []) (C := RX8) (ci := 8) ⟨hx, hb, hml, hown, hts⟩ (c_X8_heightAt l E A qw ap vp as_ vs cell step gone hI hJ (by omega) (by omega)) (cwV 3 hts gX8_leanAt_X8_heightAt rfl rfl rfl (by decide +kernel) ⟨Nat.le_of_ble_eq_true rfl, Nat.le_of_ble_eq_true rfl⟩) hE (hP.sub (ws' := wpsL E qw ap vp as_ vs) [0, 1, 2, 3, 4, 5, 6, 7, 8, 9, 10, 11, 12, 13, 14, 15, 16, 17, 18, 19, 20, 21, 22, 23, 24, 25, 26, 27, 28, 29, 30, 31, 32, 33] rfl) rfl rfl rfl rfl hl.1 rfl (Nat.le_of_ble_eq_true rfl) dX8_leanAt_4 ⟨Nat.zero_le _, Nat.zero_le _⟩ (fun r4 h4 => ?_)
  refine lv_istore (lv' := [(4, .int r4), (0, .ref qw), (1, .int cell), (2, .int step), (3, .int gone)]) hx hb dX8_leanAt_7 hl (by decide) rfl (fun ls hl => ?_)
  refine lv_iconst (v := 0) hx hb dX8_leanAt_9 (by decide) ?_
  refine lv_istore (lv' := [(5, .int 0), (4, .int r4), (0, .ref qw), (1, .int cell), (2, .int step), (3, .int gone)]) hx hb dX8_leanAt_10 hl (by decide) rfl (fun ls hl => ?_)
  refine lv_iconst (v := 1) hx hb dX8_leanAt_12 (by decide) ?_
  refine lv_istore (lv' := [(6, .int 1), (5, .int 0), (4, .int r4), (0, .ref qw), (1, .int cell), (2, .int step), (3, .int gone)]) hx hb dX8_leanAt_13 hl (by decide) rfl (fun ls hl => ?_)
  have K15 : ∀ (μ : Nat) (lean : Int32) (way : Int32) (ls : Array Slot), (5 - way.toInt).toNat < μ → (0 ≤ way.toInt ∧ way.toInt ≤ 5) → lv_has ls 8 [(0, .ref qw), (1, .int cell), (2, .int step), (3, .int gone), (4, .int r4), (5, .int lean), (6, .int way)] → W p l e (headSpec wsX8_leanAt rm_X8_leanAt).room s m ([.ref qw, .int cell, .int step, .int gone] : List Value).toArray below meth c s.heap [] 0 0 Q (F0 m 15 ls []) := by
    intro μ
    induction μ with
    | zero =>
      intro lean way ls hμ15
      exact absurd hμ15 (Nat.not_lt_zero _)
    | succ μ ih15 =>
      intro lean way ls hμ15 h15_0 hl
      refine lv_iload hx hb dX8_leanAt_15 (lv_at hl 6 rfl) ?_
      refine lv_iconst (v := 5) hx hb dX8_leanAt_17 (by decide) ?_
      refine lv_icmp_ge (tgt := 66) hx hb dX8_leanAt_18 (by decide) (fun c18 => ?_) (fun c18 => ?_)
      · have c18_ := i_le c18
        refine lv_iload hx hb dX8_leanAt_66 (lv_at hl 5 rfl) ?_
        subst hQ
        exact W.iret (v := lean) hx hb hr (fun t ht hW => ⟨lean, rfl, trivial, ht⟩) (fun q h => absurd h List.not_mem_nil) dX8_leanAt_68
      · have c18_ := i_nle c18
        refine lv_aload_n hx hb dX8_leanAt_21 rfl (lv_at hl 0 rfl) ?_
        refine va_get (D := eD E) (ci := 8) (v := .ref (ap 0)) (C := RX8) (T := TX8) (N := 2) hx hb hts in_X8 hown hK hP 0 rfl rfl 0 (by decide) lk0 (fun _ h9 => h9) rfl dX8_leanAt_22 ?_
        refine lv_iload_n hx hb dX8_leanAt_25 rfl (lv_at hl 1 rfl) ?_
        refine lv_iload hx hb dX8_leanAt_26 (lv_at hl 6 rfl) ?_
        refine rd_V (As := [.int cell, .int way]) (rest := []) (C := RX1) (ci := 1) ⟨hx, hb, hml, hown, hts⟩ (c_X1_beside l E A ap vp cell way hI (by omega)) (cwV 2 hts gX8_leanAt_X1_beside rfl rfl rfl (by decide +kernel) ⟨Nat.le_of_ble_eq_true rfl, Nat.le_of_ble_eq_true rfl⟩) hE (hP.sub (ws' := planL E ap vp) [1, 2, 3, 4, 5, 6, 7, 8, 9, 10, 11, 12, 13, 14, 15, 16, 17, 18, 19, 20, 21, 22, 23, 24, 25, 26, 27, 28, 29] rfl) rfl rfl rfl rfl hl.1 rfl (Nat.le_of_ble_eq_true rfl) dX8_leanAt_28 ⟨Nat.zero_le _, Nat.zero_le _⟩ (fun r28 h28 => ?_)
        have hf28 := h28.2
        replace h28 := h28.1
        refine lv_istore (lv' := [(7, .int r28), (0, .ref qw), (1, .int cell), (2, .int step), (3, .int gone), (4, .int r4), (5, .int lean), (6, .int way)]) hx hb dX8_leanAt_31 hl (by decide) rfl (fun ls hl => ?_)
        refine lv_iload hx hb dX8_leanAt_33 (lv_at hl 0 rfl) ?_
        refine lv_iconst (v := (-1)) hx hb dX8_leanAt_35 (by decide) ?_
        refine lv_icmp_eq (tgt := 60) hx hb dX8_leanAt_36 (by decide) (fun c36 => ?_) (fun c36 => ?_)
        · have c36_ := i_eq c36
          clear h28
          obtain ⟨x60, e60⟩ : ∃ y : Int32, y = way + 1 := ⟨_, rfl⟩
          refine lv_iinc (v := x60) (lv' := [(6, .int x60), (7, .int r28), (0, .ref qw), (1, .int cell), (2, .int step), (3, .int gone), (4, .int r4), (5, .int lean)]) hx hb dX8_leanAt_60 hl (k := 7) rfl (by rw [e60]; rfl) (by decide) rfl (fun ls hl => ?_)
          have t60 := i_add e60 (by omega)
          refine lv_goto (tgt := 15) hx hb dX8_leanAt_63 (by decide) ?_
          exact ih15 lean x60 ls (by omega) (by omega) (lv_sub hl [2, 3, 4, 5, 6, 7, 0] rfl)
        · have c36_ := i_ne c36
          replace h28 := cm_n h28 c36_
          clear c36_
          refine lv_iload hx hb dX8_leanAt_39 (lv_at hl 6 rfl) ?_
          refine lv_aload_n hx hb dX8_leanAt_41 rfl (lv_at hl 1 rfl) ?_
          refine lv_iload hx hb dX8_leanAt_42 (lv_at hl 0 rfl) ?_
          refine lv_iload_n hx hb dX8_leanAt_44 rfl (lv_at hl 3 rfl) ?_
          refine lv_iload_n hx hb dX8_leanAt_45 rfl (lv_at hl 4 rfl) ?_
          refine rd_V (As := [.int r28, .int step, .int gone]) (rest := [.int lean]) (C := RX8) (ci := 8) ⟨hx, hb, hml, hown, hts⟩ (c_X8_heightAt l E A qw ap vp as_ vs r28 step gone hI hJ (by omega) (by omega)) (cwV 3 hts gX8_leanAt_X8_heightAt rfl rfl rfl (by decide +kernel) ⟨Nat.le_of_ble_eq_true rfl, Nat.le_of_ble_eq_true rfl⟩) hE (hP.sub (ws' := wpsL E qw ap vp as_ vs) [0, 1, 2, 3, 4, 5, 6, 7, 8, 9, 10, 11, 12, 13, 14, 15, 16, 17, 18, 19, 20, 21, 22, 23, 24, 25, 26, 27, 28, 29, 30, 31, 32, 33] rfl) rfl rfl rfl rfl hl.1 rfl (Nat.le_of_ble_eq_true rfl) dX8_leanAt_46 ⟨Nat.zero_le _, Nat.zero_le _⟩ (fun r46 h46 => ?_)
          refine lv_iload hx hb dX8_leanAt_49 (lv_at hl 5 rfl) ?_
          refine lv_isub hx hb dX8_leanAt_51 ?_
          refine lv_topi (fun x51 e51 => ?_)
          refine va_mabs hx hb (hml.trans hl.1.symm) hown lk1 lk2 lk3 lk4 (Nat.le_of_ble_eq_true rfl) (Nat.le_of_ble_eq_true rfl) (Nat.zero_le _) (Nat.zero_le _) dX8_leanAt_52 ?_
          refine lv_topi (fun x52 e52 => ?_)
          refine va_mmax hx hb (hml.trans hl.1.symm) hown lk5 lk6 lk3 lk7 (Nat.le_of_ble_eq_true rfl) (Nat.le_of_ble_eq_true rfl) (Nat.zero_le _) (Nat.zero_le _) dX8_leanAt_55 ?_
          refine lv_topi (fun x55 e55 => ?_)
          have t55 := i_max e55
          refine lv_istore (lv' := [(5, .int x55), (7, .int r28), (0, .ref qw), (1, .int cell), (2, .int step), (3, .int gone), (4, .int r4), (6, .int way)]) hx hb dX8_leanAt_58 hl (by decide) rfl (fun ls hl => ?_)
          obtain ⟨x60, e60⟩ : ∃ y : Int32, y = way + 1 := ⟨_, rfl⟩
          refine lv_iinc (v := x60) (lv' := [(6, .int x60), (5, .int x55), (7, .int r28), (0, .ref qw), (1, .int cell), (2, .int step), (3, .int gone), (4, .int r4)]) hx hb dX8_leanAt_60 hl (k := 7) rfl (by rw [e60]; rfl) (by decide) rfl (fun ls hl => ?_)
          have t60 := i_add e60 (by omega)
          refine lv_goto (tgt := 15) hx hb dX8_leanAt_63 (by decide) ?_
          exact ih15 x55 x60 ls (by omega) (by omega) (lv_sub hl [3, 4, 5, 6, 7, 1, 0] rfl)
  exact K15 _ 0 1 ls (Nat.lt_succ_self _) (by omega) (lv_sub hl [3, 4, 5, 6, 2, 1, 0] rfl)
