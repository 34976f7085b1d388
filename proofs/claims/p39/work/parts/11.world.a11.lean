def rm_X8_isTurn : Room := { frames := 3, cells := 0, slots := 0, locals := 71 }
set_option maxHeartbeats 4000000 in
set_option maxRecDepth 100000 in
theorem c_X8_isTurn (l : Launch) (E : Ev) (A : Nat → Prop) (qw : Nat) (ap : Nat → Nat) (vp : Vf) (as_ : Nat → Nat) (vs : Vf) (cell : Int32) (step : Int32) (hI : PlanI vp) (hJ : StateI vs) (hcell : 0 ≤ cell.toInt ∧ cell.toInt ≤ 23) (hstep : 1 ≤ step.toInt ∧ step.toInt ≤ 1900000) : Met l yX8_isTurn wsX8_isTurn rm_X8_isTurn (RdP E A [.ref qw, .int cell, .int step] (wpsL E qw ap vp as_ vs)) (vp_Si (fun r => (r.toInt = 0 ∨ r.toInt = 1))) 0 0 (fun _ => False) := by
  refine Met.ofW (cc := cX8_isTurn) (maxL := 6) (ret := (some .boolean)) (by decide) rfl ?_
  intro p e s m args below meth c s₁ B hml hv
  obtain ⟨rfl, hE, hP⟩ := hv
  have hx := B.exec
  have hb := B.bytes
  have hr := B.returns
  have hts := atoms_spec (ws := wsX8_isTurn) B.pre
  have hown : s.vm.findClass RX8 = some m.cls := findClass_of_methodNamed B.named
  have hlocks := B.notSynchronized
  have hK := hE.1
  have n_m1 : ((-1) : Int32).toInt = -1 := by decide
  have n_0 : (0 : Int32).toInt = 0 := by decide
  have n_1 : (1 : Int32).toInt = 1 := by decide
  have hl := lv_entry ([.ref qw, .int cell, .int step]) (n := 6) (Nat.le_of_ble_eq_true rfl)
  rw [lg_entry_eq]
  generalize (lg_sl ([.ref qw, .int cell, .int step]) ++ List.replicate (6 - (lg_sl ([.ref qw, .int cell, .int step])).length) Slot.unset).toArray = ls at hl ⊢
  have hl : lv_has ls 6 [(0, .ref qw), (1, .int cell), (2, .int step)] := hl
  refine W_abs (fun Q hQ => ?_)
  obtain ⟨hg, hmc, hm0, hm1, hm2, hs0, hs1, hs2, hs3⟩ := id hI
  obtain ⟨hg1, hg2, hg3, hg4⟩ := id hg
  have hz0 := hm0.1
  have hz1 := hm1.1
  have hz2 := hm2.1
  have hc0 := hs0.1
  have hc1 := hs1.1
  have hc2 := hs2.1
  have hc3 := hs3.1
  obtain ⟨hj0, hj1, hj2⟩ := id hJ
  refine lv_aload_n hx hb dX8_isTurn_0 rfl (lv_at hl 0 rfl) ?_
  refine lv_iload_n hx hb dX8_isTurn_1 rfl (lv_at hl 1 rfl) ?_
  refine lv_iload_n hx hb dX8_isTurn_2 rfl (lv_at hl 2 rfl) ?_
  refine lv_iconst (v := (-1)) hx hb dX8_isTurn_3 (by decide) ?_
  refine rd_V (As := [.int cell, .int step, .int (-1)]) (rest := []) (C := RX8) (ci := 8) ⟨hx, hb, hml, hown, hts⟩ (c_X8_heightAt l E A qw ap vp as_ vs cell step (-1) hI hJ (by omega) (by omega)) (cwV 3 hts gX8_isTurn_X8_heightAt rfl rfl rfl (by decide +kernel) ⟨Nat.le_of_ble_eq_true rfl, Nat.le_of_ble_eq_true rfl⟩) hE (hP.sub (ws' := wpsL E qw ap vp as_ vs) [0, 1, 2, 3, 4, 5, 6, 7, 8, 9, 10, 11, 12, 13, 14, 15, 16, 17, 18, 19, 20, 21, 22, 23, 24, 25, 26, 27, 28, 29, 30, 31, 32, 33] rfl) rfl rfl rfl rfl hl.1 rfl (Nat.le_of_ble_eq_true rfl) dX8_isTurn_4 ⟨Nat.zero_le _, Nat.zero_le _⟩ (fun r4 h4 => ?_)
  refine lv_istore_n (lv' := [(3, .int r4), (0, .ref qw), (1, .int cell), (2, .int step)]) hx hb dX8_isTurn_7 rfl hl (by decide) rfl (fun ls hl => ?_)
  refine lv_aload_n hx hb dX8_isTurn_8 rfl (lv_at hl 1 rfl) ?_
  refine lv_iload_n hx hb dX8_isTurn_9 rfl (lv_at hl 2 rfl) ?_
  refine lv_iload_n hx hb dX8_isTurn_10 rfl (lv_at hl 3 rfl) ?_
  refine lv_iconst (v := 1) hx hb dX8_isTurn_11 (by decide) ?_
  refine lv_isub hx hb dX8_isTurn_12 ?_
  refine lv_topi (fun x12 e12 => ?_)
  have t12 := i_sub e12 (by omega)
  refine lv_iconst (v := (-1)) hx hb dX8_isTurn_13 (by decide) ?_
  refine rd_V (As := [.int cell, .int x12, .int (-1)]) (rest := []) (C := RX8) (ci := 8) ⟨hx, hb, hml, hown, hts⟩ (c_X8_heightAt l E A qw ap vp as_ vs cell x12 (-1) hI hJ (by omega) (by omega)) (cwV 3 hts gX8_isTurn_X8_heightAt rfl rfl rfl (by decide +kernel) ⟨Nat.le_of_ble_eq_true rfl, Nat.le_of_ble_eq_true rfl⟩) hE (hP.sub (ws' := wpsL E qw ap vp as_ vs) [0, 1, 2, 3, 4, 5, 6, 7, 8, 9, 10, 11, 12, 13, 14, 15, 16, 17, 18, 19, 20, 21, 22, 23, 24, 25, 26, 27, 28, 29, 30, 31, 32, 33] rfl) rfl rfl rfl rfl hl.1 rfl (Nat.le_of_ble_eq_true rfl) dX8_isTurn_14 ⟨Nat.zero_le _, Nat.zero_le _⟩ (fun r14 h14 => ?_)
  refine lv_istore (lv' := [(4, .int r14), (3, .int r4), (0, .ref qw), (1, .int cell), (2, .int step)]) hx hb dX8_isTurn_17 hl (by decide) rfl (fun ls hl => ?_)
  refine lv_aload_n hx hb dX8_isTurn_19 rfl (lv_at hl 2 rfl) ?_
  refine lv_iload_n hx hb dX8_isTurn_20 rfl (lv_at hl 3 rfl) ?_
  refine lv_iload_n hx hb dX8_isTurn_21 rfl (lv_at hl 4 rfl) ?_
  refine lv_iconst (v := 1) hx hb dX8_isTurn_22 (by decide) ?_
  refine lv_iadd hx hb dX8_isTurn_23 ?_
  refine lv_topi (fun x23 e23 => ?_)
  have t23 := i_add e23 (by omega)
  refine lv_iconst (v := (-1)) hx hb dX8_isTurn_24 (by decide) ?_
  refine rd_V (As := [.int cell, .int x23, .int (-1)]) (rest := []) (C := RX8) (ci := 8) ⟨hx, hb, hml, hown, hts⟩ (c_X8_heightAt l E A qw ap vp as_ vs cell x23 (-1) hI hJ (by omega) (by omega)) (cwV 3 hts gX8_isTurn_X8_heightAt rfl rfl rfl (by decide +kernel) ⟨Nat.le_of_ble_eq_true rfl, Nat.le_of_ble_eq_true rfl⟩) hE (hP.sub (ws' := wpsL E qw ap vp as_ vs) [0, 1, 2, 3, 4, 5, 6, 7, 8, 9, 10, 11, 12, 13, 14, 15, 16, 17, 18, 19, 20, 21, 22, 23, 24, 25, 26, 27, 28, 29, 30, 31, 32, 33] rfl) rfl rfl rfl rfl hl.1 rfl (Nat.le_of_ble_eq_true rfl) dX8_isTurn_25 ⟨Nat.zero_le _, Nat.zero_le _⟩ (fun r25 h25 => ?_)
  refine lv_istore (lv' := [(5, .int r25), (4, .int r14), (3, .int r4), (0, .ref qw), (1, .int cell), (2, .int step)]) hx hb dX8_isTurn_28 hl (by decide) rfl (fun ls hl => ?_)
  refine lv_iload hx hb dX8_isTurn_30 (lv_at hl 1 rfl) ?_
  refine lv_iload_n hx hb dX8_isTurn_32 rfl (lv_at hl 2 rfl) ?_
  refine lv_icmp_ge (tgt := 42) hx hb dX8_isTurn_33 (by decide) (fun c33 => ?_) (fun c33 => ?_)
  · have c33_ := i_le c33
    refine lv_iload hx hb dX8_isTurn_42 (lv_at hl 1 rfl) ?_
    refine lv_iload_n hx hb dX8_isTurn_44 rfl (lv_at hl 2 rfl) ?_
    refine lv_icmp_le (tgt := 58) hx hb dX8_isTurn_45 (by decide) (fun c45 => ?_) (fun c45 => ?_)
    · have c45_ := i_le c45
      refine lv_iconst (v := 0) hx hb dX8_isTurn_58 (by decide) ?_
      subst hQ
      exact W.zret (v := 0) hx hb hr rfl (fun t ht hW => ⟨0, rfl, (by omega), ht⟩) (fun q h => absurd h List.not_mem_nil) dX8_isTurn_59
    · have c45_ := i_nle c45
      refine lv_iload hx hb dX8_isTurn_48 (lv_at hl 0 rfl) ?_
      refine lv_iload_n hx hb dX8_isTurn_50 rfl (lv_at hl 2 rfl) ?_
      refine lv_icmp_le (tgt := 58) hx hb dX8_isTurn_51 (by decide) (fun c51 => ?_) (fun c51 => ?_)
      · have c51_ := i_le c51
        refine lv_iconst (v := 0) hx hb dX8_isTurn_58 (by decide) ?_
        subst hQ
        exact W.zret (v := 0) hx hb hr rfl (fun t ht hW => ⟨0, rfl, (by omega), ht⟩) (fun q h => absurd h List.not_mem_nil) dX8_isTurn_59
      · have c51_ := i_nle c51
        refine lv_iconst (v := 1) hx hb dX8_isTurn_54 (by decide) ?_
        refine lv_goto (tgt := 59) hx hb dX8_isTurn_55 (by decide) ?_
        subst hQ
        exact W.zret (v := 1) hx hb hr rfl (fun t ht hW => ⟨1, rfl, (by omega), ht⟩) (fun q h => absurd h List.not_mem_nil) dX8_isTurn_59
  · have c33_ := i_nle c33
    refine lv_iload hx hb dX8_isTurn_36 (lv_at hl 0 rfl) ?_
    refine lv_iload_n hx hb dX8_isTurn_38 rfl (lv_at hl 2 rfl) ?_
    refine lv_icmp_lt (tgt := 54) hx hb dX8_isTurn_39 (by decide) (fun c39 => ?_) (fun c39 => ?_)
    · have c39_ := i_lt c39
      refine lv_iconst (v := 1) hx hb dX8_isTurn_54 (by decide) ?_
      refine lv_goto (tgt := 59) hx hb dX8_isTurn_55 (by decide) ?_
      subst hQ
      exact W.zret (v := 1) hx hb hr rfl (fun t ht hW => ⟨1, rfl, (by omega), ht⟩) (fun q h => absurd h List.not_mem_nil) dX8_isTurn_59
    · have c39_ := i_nlt c39
      refine lv_iload hx hb dX8_isTurn_42 (lv_at hl 1 rfl) ?_
      refine lv_iload_n hx hb dX8_isTurn_44 rfl (lv_at hl 2 rfl) ?_
      refine lv_icmp_le (tgt := 58) hx hb dX8_isTurn_45 (by decide) (fun c45 => ?_) (fun c45 => ?_)
      · have c45_ := i_le c45
        refine lv_iconst (v := 0) hx hb dX8_isTurn_58 (by decide) ?_
        subst hQ
        exact W.zret (v := 0) hx hb hr rfl (fun t ht hW => ⟨0, rfl, (by omega), ht⟩) (fun q h => absurd h List.not_mem_nil) dX8_isTurn_59
      · have c45_ := i_nle c45
        refine lv_iload hx hb dX8_isTurn_48 (lv_at hl 0 rfl) ?_
        refine lv_iload_n hx hb dX8_isTurn_50 rfl (lv_at hl 2 rfl) ?_
        refine lv_icmp_le (tgt := 58) hx hb dX8_isTurn_51 (by decide) (fun c51 => ?_) (fun c51 => ?_)
        · have c51_ := i_le c51
          refine lv_iconst (v := 0) hx hb dX8_isTurn_58 (by decide) ?_
          subst hQ
          exact W.zret (v := 0) hx hb hr rfl (fun t ht hW => ⟨0, rfl, (by omega), ht⟩) (fun q h => absurd h List.not_mem_nil) dX8_isTurn_59
        · have c51_ := i_nle c51
          refine lv_iconst (v := 1) hx hb dX8_isTurn_54 (by decide) ?_
          refine lv_goto (tgt := 59) hx hb dX8_isTurn_55 (by decide) ?_
          subst hQ
          exact W.zret (v := 1) hx hb hr rfl (fun t ht hW => ⟨1, rfl, (by omega), ht⟩) (fun q h => absurd h List.not_mem_nil) dX8_isTurn_59
