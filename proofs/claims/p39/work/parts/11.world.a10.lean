def rm_X8_isAslant : Room := { frames := 4, cells := 0, slots := 0, locals := 94 }
set_option maxHeartbeats 4000000 in
set_option maxRecDepth 100000 in
theorem c_X8_isAslant (l : Launch) (E : Ev) (A : Nat → Prop) (qw : Nat) (ap : Nat → Nat) (vp : Vf) (as_ : Nat → Nat) (vs : Vf) (step : Int32) (hI : PlanI vp) (hJ : StateI vs) (hstep : 0 ≤ step.toInt ∧ step.toInt ≤ 2000000) : Met l yX8_isAslant wsX8_isAslant rm_X8_isAslant (RdP E A [.ref qw, .int step] (wpsL E qw ap vp as_ vs)) (vp_Si (fun r => (r.toInt = 0 ∨ r.toInt = 1))) 0 0 (fun _ => False) := by
  refine Met.ofW (cc := cX8_isAslant) (maxL := 3) (ret := (some .boolean)) (by decide) rfl ?_
  intro p e s m args below meth c s₁ B hml hv
  obtain ⟨rfl, hE, hP⟩ := hv
  have hx := B.exec
  have hb := B.bytes
  have hr := B.returns
  have hts := atoms_spec (ws := wsX8_isAslant) B.pre
  have hown : s.vm.findClass RX8 = some m.cls := findClass_of_methodNamed B.named
  have hlocks := B.notSynchronized
  have hK := hE.1
  have in_X8 : ∀ w ∈ u_ws RX8 TX8 2, w ∈ wsX8_isAslant := fun w h => List.mem_cons_of_mem _ (List.mem_append_left _ (List.mem_append_left _ (List.mem_append_left _ (List.mem_append_right _ h))))
  have in_X1 : ∀ w ∈ u_ws RX1 TX1 11, w ∈ wsX8_isAslant := fun w h => List.mem_cons_of_mem _ (List.mem_append_left _ (List.mem_append_left _ (List.mem_append_right _ h)))
  have lk0 := hts (.fieldLink RX8 9 "TidedGround$World" "plan" "LTidedGround$Plan;") (by decide +kernel)
  have lk1 := hts (.fieldLink RX8 107 "TidedGround$Plan" "cells" "I") (by decide +kernel)
  have n_0 : (0 : Int32).toInt = 0 := by decide
  have n_1 : (1 : Int32).toInt = 1 := by decide
  have n_2 : (2 : Int32).toInt = 2 := by decide
  have n_3 : (3 : Int32).toInt = 3 := by decide
  have hl := lv_entry ([.ref qw, .int step]) (n := 3) (Nat.le_of_ble_eq_true rfl)
  rw [lg_entry_eq]
  generalize (lg_sl ([.ref qw, .int step]) ++ List.replicate (3 - (lg_sl ([.ref qw, .int step])).length) Slot.unset).toArray = ls at hl ⊢
  have hl : lv_has ls 3 [(0, .ref qw), (1, .int step)] := hl
  refine W_abs (fun Q hQ => ?_)
  obtain ⟨hg, hmc, hm0, hm1, hm2, hs0, hs1, hs2, hs3⟩ := id hI
  obtain ⟨hg1, hg2, hg3, hg4⟩ := id hg
  have hz0 := hm0.1
  have hz1 := hm1.1
  have hz2 := hm2.1
  have hc0 := hs0.1
  have hc1 := hs1.1
  have hc2 := hs2.1
  have hc3 := hs3.1
  obtain ⟨hj0, hj1, hj2⟩ := id hJ
  refine lv_iconst (v := 0) hx hb dX8_isAslant_0 (by decide) ?_
  refine lv_istore_n (lv' := [(2, .int 0), (0, .ref qw), (1, .int step)]) hx hb dX8_isAslant_1 rfl hl (by decide) rfl (fun ls hl => ?_)
  have K2 : ∀ (μ : Nat) (k : Int32) (ls : Array Slot), (24 - k.toInt).toNat < μ → (0 ≤ k.toInt ∧ k.toInt ≤ 24) → lv_has ls 3 [(0, .ref qw), (1, .int step), (2, .int k)] → W p l e (headSpec wsX8_isAslant rm_X8_isAslant).room s m ([.ref qw, .int step] : List Value).toArray below meth c s.heap [] 0 0 Q (F0 m 2 ls []) := by
    intro μ
    induction μ with
    | zero =>
      intro k ls hμ2
      exact absurd hμ2 (Nat.not_lt_zero _)
    | succ μ ih2 =>
      intro k ls hμ2 h2_0 hl
      refine lv_iload_n hx hb dX8_isAslant_2 rfl (lv_at hl 2 rfl) ?_
      refine lv_aload_n hx hb dX8_isAslant_3 rfl (lv_at hl 0 rfl) ?_
      refine va_get (D := eD E) (ci := 8) (v := .ref (ap 0)) (C := RX8) (T := TX8) (N := 2) hx hb hts in_X8 hown hK hP 0 rfl rfl 0 (by decide) lk0 (fun _ h9 => h9) rfl dX8_isAslant_4 ?_
      refine va_get (D := eD E) (ci := 1) (v := .int (vp 2 0)) (C := RX1) (T := TX1) (N := 11) hx hb hts in_X1 hown hK hP 1 rfl rfl 2 (by decide) lk1 (fun _ h9 => h9) rfl dX8_isAslant_7 ?_
      refine lv_icmp_ge (tgt := 57) hx hb dX8_isAslant_10 (by decide) (fun c10 => ?_) (fun c10 => ?_)
      · have c10_ := i_le c10
        refine lv_iconst (v := 1) hx hb dX8_isAslant_57 (by decide) ?_
        subst hQ
        exact W.zret (v := 1) hx hb hr rfl (fun t ht hW => ⟨1, rfl, (by omega), ht⟩) (fun q h => absurd h List.not_mem_nil) dX8_isAslant_58
      · have c10_ := i_nle c10
        refine lv_aload_n hx hb dX8_isAslant_13 rfl (lv_at hl 0 rfl) ?_
        refine lv_iload_n hx hb dX8_isAslant_14 rfl (lv_at hl 2 rfl) ?_
        refine lv_aload_n hx hb dX8_isAslant_15 rfl (lv_at hl 0 rfl) ?_
        refine va_get (D := eD E) (ci := 8) (v := .ref (ap 0)) (C := RX8) (T := TX8) (N := 2) hx hb hts in_X8 hown hK hP 0 rfl rfl 0 (by decide) lk0 (fun _ h9 => h9) rfl dX8_isAslant_16 ?_
        refine lv_iload_n hx hb dX8_isAslant_19 rfl (lv_at hl 2 rfl) ?_
        refine lv_iconst (v := 2) hx hb dX8_isAslant_20 (by decide) ?_
        refine rd_V (As := [.int k, .int 2]) (rest := [.int k, .ref qw]) (C := RX1) (ci := 1) ⟨hx, hb, hml, hown, hts⟩ (c_X1_beside l E A ap vp k 2 hI (by omega)) (cwV 2 hts gX8_isAslant_X1_beside rfl rfl rfl (by decide +kernel) ⟨Nat.le_of_ble_eq_true rfl, Nat.le_of_ble_eq_true rfl⟩) hE (hP.sub (ws' := planL E ap vp) [1, 2, 3, 4, 5, 6, 7, 8, 9, 10, 11, 12, 13, 14, 15, 16, 17, 18, 19, 20, 21, 22, 23, 24, 25, 26, 27, 28, 29] rfl) rfl rfl rfl rfl hl.1 rfl (Nat.le_of_ble_eq_true rfl) dX8_isAslant_21 ⟨Nat.zero_le _, Nat.zero_le _⟩ (fun r21 h21 => ?_)
        have hf21 := h21.2
        replace h21 := h21.1
        refine lv_iload_n hx hb dX8_isAslant_24 rfl (lv_at hl 1 rfl) ?_
        refine rd_V (As := [.int k, .int r21, .int step]) (rest := []) (C := RX8) (ci := 8) ⟨hx, hb, hml, hown, hts⟩ (c_X8_isLike l E A qw ap vp as_ vs k r21 step hI hJ (by omega) (by omega) (by omega)) (cwV 3 hts gX8_isAslant_X8_isLike rfl rfl rfl (by decide +kernel) ⟨Nat.le_of_ble_eq_true rfl, Nat.le_of_ble_eq_true rfl⟩) hE (hP.sub (ws' := wpsL E qw ap vp as_ vs) [0, 1, 2, 3, 4, 5, 6, 7, 8, 9, 10, 11, 12, 13, 14, 15, 16, 17, 18, 19, 20, 21, 22, 23, 24, 25, 26, 27, 28, 29, 30, 31, 32, 33] rfl) rfl rfl rfl rfl hl.1 rfl (Nat.le_of_ble_eq_true rfl) dX8_isAslant_25 ⟨Nat.zero_le _, Nat.zero_le _⟩ (fun r25 h25 => ?_)
        refine lv_if_ne (tgt := 49) hx hb dX8_isAslant_28 (by decide) (fun c28 => ?_) (fun c28 => ?_)
        · have c28_ := i_ne c28
          replace h25 := b_y h25 c28_
          clear c28_
          refine lv_iconst (v := 0) hx hb dX8_isAslant_49 (by decide) ?_
          subst hQ
          exact W.zret (v := 0) hx hb hr rfl (fun t ht hW => ⟨0, rfl, (by omega), ht⟩) (fun q h => absurd h List.not_mem_nil) dX8_isAslant_50
        · have c28_ := i_eq c28
          clear h25
          refine lv_aload_n hx hb dX8_isAslant_31 rfl (lv_at hl 0 rfl) ?_
          refine lv_iload_n hx hb dX8_isAslant_32 rfl (lv_at hl 2 rfl) ?_
          refine lv_aload_n hx hb dX8_isAslant_33 rfl (lv_at hl 0 rfl) ?_
          refine va_get (D := eD E) (ci := 8) (v := .ref (ap 0)) (C := RX8) (T := TX8) (N := 2) hx hb hts in_X8 hown hK hP 0 rfl rfl 0 (by decide) lk0 (fun _ h9 => h9) rfl dX8_isAslant_34 ?_
          refine lv_iload_n hx hb dX8_isAslant_37 rfl (lv_at hl 2 rfl) ?_
          refine lv_iconst (v := 3) hx hb dX8_isAslant_38 (by decide) ?_
          refine rd_V (As := [.int k, .int 3]) (rest := [.int k, .ref qw]) (C := RX1) (ci := 1) ⟨hx, hb, hml, hown, hts⟩ (c_X1_beside l E A ap vp k 3 hI (by omega)) (cwV 2 hts gX8_isAslant_X1_beside rfl rfl rfl (by decide +kernel) ⟨Nat.le_of_ble_eq_true rfl, Nat.le_of_ble_eq_true rfl⟩) hE (hP.sub (ws' := planL E ap vp) [1, 2, 3, 4, 5, 6, 7, 8, 9, 10, 11, 12, 13, 14, 15, 16, 17, 18, 19, 20, 21, 22, 23, 24, 25, 26, 27, 28, 29] rfl) rfl rfl rfl rfl hl.1 rfl (Nat.le_of_ble_eq_true rfl) dX8_isAslant_39 ⟨Nat.zero_le _, Nat.zero_le _⟩ (fun r39 h39 => ?_)
          have hf39 := h39.2
          replace h39 := h39.1
          refine lv_iload_n hx hb dX8_isAslant_42 rfl (lv_at hl 1 rfl) ?_
          refine rd_V (As := [.int k, .int r39, .int step]) (rest := []) (C := RX8) (ci := 8) ⟨hx, hb, hml, hown, hts⟩ (c_X8_isLike l E A qw ap vp as_ vs k r39 step hI hJ (by omega) (by omega) (by omega)) (cwV 3 hts gX8_isAslant_X8_isLike rfl rfl rfl (by decide +kernel) ⟨Nat.le_of_ble_eq_true rfl, Nat.le_of_ble_eq_true rfl⟩) hE (hP.sub (ws' := wpsL E qw ap vp as_ vs) [0, 1, 2, 3, 4, 5, 6, 7, 8, 9, 10, 11, 12, 13, 14, 15, 16, 17, 18, 19, 20, 21, 22, 23, 24, 25, 26, 27, 28, 29, 30, 31, 32, 33] rfl) rfl rfl rfl rfl hl.1 rfl (Nat.le_of_ble_eq_true rfl) dX8_isAslant_43 ⟨Nat.zero_le _, Nat.zero_le _⟩ (fun r43 h43 => ?_)
          refine lv_if_eq (tgt := 51) hx hb dX8_isAslant_46 (by decide) (fun c46 => ?_) (fun c46 => ?_)
          · have c46_ := i_eq c46
            clear h43
            obtain ⟨x51, e51⟩ : ∃ y : Int32, y = k + 1 := ⟨_, rfl⟩
            refine lv_iinc (v := x51) (lv' := [(2, .int x51), (0, .ref qw), (1, .int step)]) hx hb dX8_isAslant_51 hl (k := 2) rfl (by rw [e51]; rfl) (by decide) rfl (fun ls hl => ?_)
            have t51 := i_add e51 (by omega)
            refine lv_goto (tgt := 2) hx hb dX8_isAslant_54 (by decide) ?_
            exact ih2 x51 ls (by omega) (by omega) (lv_sub hl [1, 2, 0] rfl)
          · have c46_ := i_ne c46
            replace h43 := b_y h43 c46_
            clear c46_
            refine lv_iconst (v := 0) hx hb dX8_isAslant_49 (by decide) ?_
            subst hQ
            exact W.zret (v := 0) hx hb hr rfl (fun t ht hW => ⟨0, rfl, (by omega), ht⟩) (fun q h => absurd h List.not_mem_nil) dX8_isAslant_50
  exact K2 _ 0 ls (Nat.lt_succ_self _) (by omega) (lv_sub hl [1, 2, 0] rfl)
