def rm_X8_heightAt : Room := { frames := 2, cells := 0, slots := 0, locals := 48 }
set_option maxHeartbeats 4000000 in
set_option maxRecDepth 100000 in
theorem c_X8_heightAt (l : Launch) (E : Ev) (A : Nat → Prop) (qw : Nat) (ap : Nat → Nat) (vp : Vf) (as_ : Nat → Nat) (vs : Vf) (cell : Int32) (step : Int32) (gone : Int32) (hI : PlanI vp) (hJ : StateI vs) (hcell : 0 ≤ cell.toInt ∧ cell.toInt ≤ 23) (hstep : 0 ≤ step.toInt ∧ step.toInt ≤ 2000000) : Met l yX8_heightAt wsX8_heightAt rm_X8_heightAt (RdP E A [.ref qw, .int cell, .int step, .int gone] (wpsL E qw ap vp as_ vs)) (vp_Si (fun r => True)) 0 0 (fun _ => False) := by
  refine Met.ofW (cc := cX8_heightAt) (maxL := 4) (ret := (some .int)) (by decide) rfl ?_
  intro p e s m args below meth c s₁ B hml hv
  obtain ⟨rfl, hE, hP⟩ := hv
  have hx := B.exec
  have hb := B.bytes
  have hr := B.returns
  have hts := atoms_spec (ws := wsX8_heightAt) B.pre
  have hown : s.vm.findClass RX8 = some m.cls := findClass_of_methodNamed B.named
  have hlocks := B.notSynchronized
  have hK := hE.1
  have in_X8 : ∀ w ∈ u_ws RX8 TX8 2, w ∈ wsX8_heightAt := fun w h => List.mem_cons_of_mem _ (List.mem_append_left _ (List.mem_append_left _ (List.mem_append_left _ (List.mem_append_right _ h))))
  have in_X1 : ∀ w ∈ u_ws RX1 TX1 11, w ∈ wsX8_heightAt := fun w h => List.mem_cons_of_mem _ (List.mem_append_left _ (List.mem_append_left _ (List.mem_append_right _ h)))
  have lk0 := hts (.fieldLink RX8 9 "TidedGround$World" "plan" "LTidedGround$Plan;") (by decide +kernel)
  have lk1 := hts (.fieldLink RX8 53 "TidedGround$Plan" "base" "[I") (by decide +kernel)
  have hl := lv_entry ([.ref qw, .int cell, .int step, .int gone]) (n := 4) (Nat.le_of_ble_eq_true rfl)
  rw [lg_entry_eq]
  generalize (lg_sl ([.ref qw, .int cell, .int step, .int gone]) ++ List.replicate (4 - (lg_sl ([.ref qw, .int cell, .int step, .int gone])).length) Slot.unset).toArray = ls at hl ⊢
  have hl : lv_has ls 4 [(0, .ref qw), (1, .int cell), (2, .int step), (3, .int gone)] := hl
  refine W_abs (fun Q hQ => ?_)
  obtain ⟨hg, hmc, hm0, hm1, hm2, hs0, hs1, hs2, hs3⟩ := id hI
  obtain ⟨hg1, hg2, hg3, hg4⟩ := id hg
  have hz0 := hm0.1
  have hz1 := hm1.1
  have hz2 := hm2.1
  have hc0 := hs0.1
  have hc1 := hs1.1
  have hc2 := hs2.1
  have hc3 := hs3.1
  obtain ⟨hj0, hj1, hj2⟩ := id hJ
  refine lv_aload_n hx hb dX8_heightAt_0 rfl (lv_at hl 0 rfl) ?_
  refine va_get (D := eD E) (ci := 8) (v := .ref (ap 0)) (C := RX8) (T := TX8) (N := 2) hx hb hts in_X8 hown hK hP 0 rfl rfl 0 (by decide) lk0 (fun _ h9 => h9) rfl dX8_heightAt_1 ?_
  refine va_get (D := eD E) (ci := 1) (v := .ref (ap 3)) (C := RX1) (T := TX1) (N := 11) hx hb hts in_X1 hown hK hP 1 rfl rfl 3 (by decide) lk1 (fun _ h9 => h9) rfl dX8_heightAt_4 ?_
  refine lv_iload_n hx hb dX8_heightAt_7 rfl (lv_at hl 1 rfl) ?_
  refine va_iald hx hb hK hP 2 0 rfl rfl (n := 24) (f := (vp 3)) (i_in (by omega) (by omega)) dX8_heightAt_8 ?_
  refine lv_topi (fun x8 e8 => ?_)
  refine lv_aload_n hx hb dX8_heightAt_9 rfl (lv_at hl 0 rfl) ?_
  refine lv_iload_n hx hb dX8_heightAt_10 rfl (lv_at hl 1 rfl) ?_
  refine rd_V (As := [.int cell]) (rest := [.int x8]) (C := RX8) (ci := 8) ⟨hx, hb, hml, hown, hts⟩ (c_X8_stiffOf l E A qw ap vp as_ vs cell hI hJ (by omega)) (cwV 1 hts gX8_heightAt_X8_stiffOf rfl rfl rfl (by decide +kernel) ⟨Nat.le_of_ble_eq_true rfl, Nat.le_of_ble_eq_true rfl⟩) hE (hP.sub (ws' := wpsL E qw ap vp as_ vs) [0, 1, 2, 3, 4, 5, 6, 7, 8, 9, 10, 11, 12, 13, 14, 15, 16, 17, 18, 19, 20, 21, 22, 23, 24, 25, 26, 27, 28, 29, 30, 31, 32, 33] rfl) rfl rfl rfl rfl hl.1 rfl (Nat.le_of_ble_eq_true rfl) dX8_heightAt_11 ⟨Nat.zero_le _, Nat.zero_le _⟩ (fun r11 h11 => ?_)
  refine lv_aload_n hx hb dX8_heightAt_14 rfl (lv_at hl 0 rfl) ?_
  refine lv_iload_n hx hb dX8_heightAt_15 rfl (lv_at hl 1 rfl) ?_
  refine lv_iload_n hx hb dX8_heightAt_16 rfl (lv_at hl 2 rfl) ?_
  refine lv_iload_n hx hb dX8_heightAt_17 rfl (lv_at hl 3 rfl) ?_
  refine rd_V (As := [.int cell, .int step, .int gone]) (rest := [.int r11, .int x8]) (C := RX8) (ci := 8) ⟨hx, hb, hml, hown, hts⟩ (c_X8_pullAt l E A qw ap vp as_ vs cell step gone hI hJ (by omega) (by omega)) (cwV 3 hts gX8_heightAt_X8_pullAt rfl rfl rfl (by decide +kernel) ⟨Nat.le_of_ble_eq_true rfl, Nat.le_of_ble_eq_true rfl⟩) hE (hP.sub (ws' := wpsL E qw ap vp as_ vs) [0, 1, 2, 3, 4, 5, 6, 7, 8, 9, 10, 11, 12, 13, 14, 15, 16, 17, 18, 19, 20, 21, 22, 23, 24, 25, 26, 27, 28, 29, 30, 31, 32, 33] rfl) rfl rfl rfl rfl hl.1 rfl (Nat.le_of_ble_eq_true rfl) dX8_heightAt_18 ⟨Nat.zero_le _, Nat.zero_le _⟩ (fun r18 h18 => ?_)
  refine lv_imul hx hb dX8_heightAt_21 ?_
  refine lv_topi (fun x21 e21 => ?_)
  refine lv_iadd hx hb dX8_heightAt_22 ?_
  refine lv_topi (fun x22 e22 => ?_)
  subst hQ
  exact W.iret (v := x22) hx hb hr (fun t ht hW => ⟨x22, rfl, trivial, ht⟩) (fun q h => absurd h List.not_mem_nil) dX8_heightAt_23
