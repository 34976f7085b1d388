def rm_X8_isLike : Room := { frames := 3, cells := 0, slots := 0, locals := 71 }
set_option maxHeartbeats 4000000 in
set_option maxRecDepth 100000 in
theorem c_X8_isLike (l : Launch) (E : Ev) (A : Nat → Prop) (qw : Nat) (ap : Nat → Nat) (vp : Vf) (as_ : Nat → Nat) (vs : Vf) (cell : Int32) (other : Int32) (step : Int32) (hI : PlanI vp) (hJ : StateI vs) (hcell : 0 ≤ cell.toInt ∧ cell.toInt ≤ 23) (hother : other.toInt = -1 ∨ (0 ≤ other.toInt ∧ other.toInt ≤ 23)) (hstep : 0 ≤ step.toInt ∧ step.toInt ≤ 2000000) : Met l yX8_isLike wsX8_isLike rm_X8_isLike (RdP E A [.ref qw, .int cell, .int other, .int step] (wpsL E qw ap vp as_ vs)) (vp_Si (fun r => (r.toInt = 0 ∨ r.toInt = 1))) 0 0 (fun _ => False) := by
  refine Met.ofW (cc := cX8_isLike) (maxL := 4) (ret := (some .boolean)) (by decide) rfl ?_
  intro p e s m args below meth c s₁ B hml hv
  obtain ⟨rfl, hE, hP⟩ := hv
  have hx := B.exec
  have hb := B.bytes
  have hr := B.returns
  have hts := atoms_spec (ws := wsX8_isLike) B.pre
  have hown : s.vm.findClass RX8 = some m.cls := findClass_of_methodNamed B.named
  have hlocks := B.notSynchronized
  have hK := hE.1
  have n_m1 : ((-1) : Int32).toInt = -1 := by decide
  have n_0 : (0 : Int32).toInt = 0 := by decide
  have n_1 : (1 : Int32).toInt = 1 := by decide
  have hl := lv_entry ([.ref qw, .int cell, .int other, .int step]) (n := 4) (Nat.le_of_ble_eq_true rfl)
  rw [lg_entry_eq]
  generalize (lg_sl ([.ref qw, .int cell, .int other, .int step]) ++ List.replicate (4 - (lg_sl ([.ref qw, .int cell, .int other, .int step])).length) Slot.unset).toArray = ls at hl ⊢
  have hl : lv_has ls 4 [(0, .ref qw), (1, .int cell), (2, .int other), (3, .int step)] := hl
  refine W_abs (fun Q hQ => ?_)
  obtain ⟨hg, hmc, hm0, hm1, hm2, hs0, hs1, hs2, hs3⟩ := id hI
  obtain ⟨hg1, hg2, hg3, hg4⟩ := id hg
  have hz0 := hm0.1
  have hz1 := hm1.1
  have hz2 := hm2.1
  have hc0 := hs0.1
  have hc1 := hs1.1
  have hc2 := hs2.1
  have hc3 := hs3.1
  obtain ⟨hj0, hj1, hj2⟩ := id hJ
  refine lv_iload_n hx hb dX8_isLike_0 rfl (lv_at hl 2 rfl) ?_
  refine lv_iconst (v := (-1)) hx hb dX8_isLike_1 (by decide) ?_
  refine lv_icmp_eq (tgt := 26) hx hb dX8_isLike_2 (by decide) (fun c2 => ?_) (fun c2 => ?_)
  · have c2_ := i_eq c2
    refine lv_iconst (v := 0) hx hb dX8_isLike_26 (by decide) ?_
    subst hQ
    exact W.zret (v := 0) hx hb hr rfl (fun t ht hW => ⟨0, rfl, (by omega), ht⟩) (fun q h => absurd h List.not_mem_nil) dX8_isLike_27
  · have c2_ := i_ne c2
    refine lv_aload_n hx hb dX8_isLike_5 rfl (lv_at hl 0 rfl) ?_
    refine lv_iload_n hx hb dX8_isLike_6 rfl (lv_at hl 1 rfl) ?_
    refine lv_iload_n hx hb dX8_isLike_7 rfl (lv_at hl 3 rfl) ?_
    refine lv_iconst (v := (-1)) hx hb dX8_isLike_8 (by decide) ?_
    refine rd_V (As := [.int cell, .int step, .int (-1)]) (rest := []) (C := RX8) (ci := 8) ⟨hx, hb, hml, hown, hts⟩ (c_X8_heightAt l E A qw ap vp as_ vs cell step (-1) hI hJ (by omega) (by omega)) (cwV 3 hts gX8_isLike_X8_heightAt rfl rfl rfl (by decide +kernel) ⟨Nat.le_of_ble_eq_true rfl, Nat.le_of_ble_eq_true rfl⟩) hE (hP.sub (ws' := wpsL E qw ap vp as_ vs) [0, 1, 2, 3, 4, 5, 6, 7, 8, 9, 10, 11, 12, 13, 14, 15, 16, 17, 18, 19, 20, 21, 22, 23, 24, 25, 26, 27, 28, 29, 30, 31, 32, 33] rfl) rfl rfl rfl rfl hl.1 rfl (Nat.le_of_ble_eq_true rfl) dX8_isLike_9 ⟨Nat.zero_le _, Nat.zero_le _⟩ (fun r9 h9 => ?_)
    refine lv_aload_n hx hb dX8_isLike_12 rfl (lv_at hl 0 rfl) ?_
    refine lv_iload_n hx hb dX8_isLike_13 rfl (lv_at hl 2 rfl) ?_
    refine lv_iload_n hx hb dX8_isLike_14 rfl (lv_at hl 3 rfl) ?_
    refine lv_iconst (v := (-1)) hx hb dX8_isLike_15 (by decide) ?_
    refine rd_V (As := [.int other, .int step, .int (-1)]) (rest := [.int r9]) (C := RX8) (ci := 8) ⟨hx, hb, hml, hown, hts⟩ (c_X8_heightAt l E A qw ap vp as_ vs other step (-1) hI hJ (by omega) (by omega)) (cwV 3 hts gX8_isLike_X8_heightAt rfl rfl rfl (by decide +kernel) ⟨Nat.le_of_ble_eq_true rfl, Nat.le_of_ble_eq_true rfl⟩) hE (hP.sub (ws' := wpsL E qw ap vp as_ vs) [0, 1, 2, 3, 4, 5, 6, 7, 8, 9, 10, 11, 12, 13, 14, 15, 16, 17, 18, 19, 20, 21, 22, 23, 24, 25, 26, 27, 28, 29, 30, 31, 32, 33] rfl) rfl rfl rfl rfl hl.1 rfl (Nat.le_of_ble_eq_true rfl) dX8_isLike_16 ⟨Nat.zero_le _, Nat.zero_le _⟩ (fun r16 h16 => ?_)
    refine lv_icmp_ne (tgt := 26) hx hb dX8_isLike_19 (by decide) (fun c19 => ?_) (fun c19 => ?_)
    · have c19_ := i_ne c19
      refine lv_iconst (v := 0) hx hb dX8_isLike_26 (by decide) ?_
      subst hQ
      exact W.zret (v := 0) hx hb hr rfl (fun t ht hW => ⟨0, rfl, (by omega), ht⟩) (fun q h => absurd h List.not_mem_nil) dX8_isLike_27
    · have c19_ := i_eq c19
      refine lv_iconst (v := 1) hx hb dX8_isLike_22 (by decide) ?_
      refine lv_goto (tgt := 27) hx hb dX8_isLike_23 (by decide) ?_
      subst hQ
      exact W.zret (v := 1) hx hb hr rfl (fun t ht hW => ⟨1, rfl, (by omega), ht⟩) (fun q h => absurd h List.not_mem_nil) dX8_isLike_27
