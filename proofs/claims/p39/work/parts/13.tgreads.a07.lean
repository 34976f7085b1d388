def rm_X9_height : Room := { frames := 3, cells := 0, slots := 0, locals := 71 }
set_option maxHeartbeats 4000000 in
set_option maxRecDepth 100000 in
theorem c_X9_height (l : Launch) (E : Ev) (A : Nat → Prop) (a : Nat → Nat) (v : Vf) (aq : Nat → Nat) (ap : Nat → Nat) (vp : Vf) (as_ : Nat → Nat) (vs : Vf) (x : Int32) (y : Int32) (step : Int32) (hI : PlanI vp) (hJ : StateI vs) (hT : TgI v) : Met l yX9_height wsX9_height rm_X9_height (RdP E A [.ref (a 99), .int x, .int y, .int step] (tgsL E a v aq ap vp as_ vs)) (vp_Si (fun r => True)) 0 0 (fun _ => False) := by
  refine Met.ofW (cc := cX9_height) (maxL := 5) (ret := (some .int)) (by decide) rfl ?_
  intro p e s m args below meth c s₁ B hml hv
  obtain ⟨rfl, hE, hP⟩ := hv
  have hx := B.exec
  have hb := B.bytes
  have hr := B.returns
  have hts := atoms_spec (ws := wsX9_height) B.pre
  have hown : s.vm.findClass RX9 = some m.cls := findClass_of_methodNamed B.named
  have hlocks := B.notSynchronized
  have hK := hE.1
  have in_X9 : ∀ w ∈ u_ws RX9 TX9 13, w ∈ wsX9_height := fun w h => List.mem_cons_of_mem _ (List.mem_append_left _ (List.mem_append_left _ (List.mem_append_left _ (List.mem_append_left _ (List.mem_append_right _ h)))))
  have in_X8 : ∀ w ∈ u_ws RX8 TX8 2, w ∈ wsX9_height := fun w h => List.mem_cons_of_mem _ (List.mem_append_left _ (List.mem_append_left _ (List.mem_append_left _ (List.mem_append_right _ h))))
  have lk0 := hts (.fieldLink RX9 43 "TidedGround" "world" "LTidedGround$World;") (by decide +kernel)
  have lk1 := hts (.fieldLink RX9 91 "TidedGround$World" "plan" "LTidedGround$Plan;") (by decide +kernel)
  have lk2 := hts (.constant RX9 184 999999) (by decide +kernel)
  have lk3 := hts (.constant RX9 81 (-1000000002)) (by decide +kernel)
  have lk4 := hts (.constant RX9 161 (-1000000001)) (by decide +kernel)
  have n_m1000000002 : ((-1000000002) : Int32).toInt = -1000000002 := by decide
  have n_m1000000001 : ((-1000000001) : Int32).toInt = -1000000001 := by decide
  have n_m1 : ((-1) : Int32).toInt = -1 := by decide
  have n_0 : (0 : Int32).toInt = 0 := by decide
  have n_999999 : (999999 : Int32).toInt = 999999 := by decide
  have hl := lv_entry ([.ref (a 99), .int x, .int y, .int step]) (n := 5) (Nat.le_of_ble_eq_true rfl)
  rw [lg_entry_eq]
  generalize (lg_sl ([.ref (a 99), .int x, .int y, .int step]) ++ List.replicate (5 - (lg_sl ([.ref (a 99), .int x, .int y, .int step])).length) Slot.unset).toArray = ls at hl ⊢
  have hl : lv_has ls 5 [(0, .ref (a 99)), (1, .int x), (2, .int y), (3, .int step)] := hl
  refine W_abs (fun Q hQ => ?_)
  obtain ⟨hg, hmc, hm0, hm1, hm2, hs0, hs1, hs2, hs3⟩ := id hI
  obtain ⟨hg1, hg2, hg3, hg4⟩ := id hg
  have hz0 := hm0.1
  have hz1 := hm1.1
  have hz2 := hm2.1
  have hc0 := hs0.1
  have hc1 := hs1.1
  have hc2 := hs2.1
  have hc3 := hs3.1
  obtain ⟨hj0, hj1, hj2⟩ := id hJ
  obtain ⟨hT1, hT2⟩ := id hT
  refine lv_aload_n hx hb dX9_height_0 rfl (lv_at hl 0 rfl) ?_
  refine va_get (D := eD E) (ci := 9) (v := .ref (a 5)) (C := RX9) (T := TX9) (N := 13) hx hb hts in_X9 hown hK hP 0 rfl rfl 5 (by decide) lk0 (fun _ h9 => h9) rfl dX9_height_1 ?_
  refine va_get (D := eD E) (ci := 8) (v := .ref (ap 0)) (C := RX8) (T := TX8) (N := 2) hx hb hts in_X8 hown hK hP 5 rfl rfl 0 (by decide) lk1 (fun _ h9 => h9) rfl dX9_height_4 ?_
  refine lv_iload_n hx hb dX9_height_7 rfl (lv_at hl 1 rfl) ?_
  refine lv_iload_n hx hb dX9_height_8 rfl (lv_at hl 2 rfl) ?_
  refine rd_V (As := [.int x, .int y]) (rest := []) (C := RX1) (ci := 1) ⟨hx, hb, hml, hown, hts⟩ (c_X1_cellAt l E A ap vp x y hI) (cwV 2 hts gX9_height_X1_cellAt rfl rfl rfl (by decide +kernel) ⟨Nat.le_of_ble_eq_true rfl, Nat.le_of_ble_eq_true rfl⟩) hE (hP.sub (ws' := planL E ap vp) [6, 7, 8, 9, 10, 11, 12, 13, 14, 15, 16, 17, 18, 19, 20, 21, 22, 23, 24, 25, 26, 27, 28, 29, 30, 31, 32, 33, 34] rfl) rfl rfl rfl rfl hl.1 rfl (Nat.le_of_ble_eq_true rfl) dX9_height_9 ⟨Nat.zero_le _, Nat.zero_le _⟩ (fun r9 h9 => ?_)
  have hf9 := h9.2
  replace h9 := h9.1
  refine lv_istore (lv' := [(4, .int r9), (0, .ref (a 99)), (1, .int x), (2, .int y), (3, .int step)]) hx hb dX9_height_12 hl (by decide) rfl (fun ls hl => ?_)
  refine lv_iload hx hb dX9_height_14 (lv_at hl 0 rfl) ?_
  refine lv_iconst (v := (-1)) hx hb dX9_height_16 (by decide) ?_
  refine lv_icmp_ne (tgt := 23) hx hb dX9_height_17 (by decide) (fun c17 => ?_) (fun c17 => ?_)
  · have c17_ := i_ne c17
    replace h9 := cm_n h9 c17_
    clear c17_
    have sv23_r9 : 0 ≤ r9.toInt ∧ r9.toInt ≤ 23 := by omega
    refine lv_iload_n hx hb dX9_height_23 rfl (lv_at hl 4 rfl) ?_
    refine lv_iconst (v := 0) hx hb dX9_height_24 (by decide) ?_
    refine lv_ldc hx hb hown lk2 dX9_height_25 ?_
    refine rd_S (As := [.int step, .int 0, .int 999999]) (rest := []) ⟨hx, hb, hml, hown, hts⟩ (c_X9_isOff l E A step 0 999999) (va_cwS 3 hts gX9_height_X9_isOff rfl rfl rfl (by decide +kernel) ⟨Nat.le_of_ble_eq_true rfl, Nat.le_of_ble_eq_true rfl⟩) hE (hP.sub (ws' := []) [] rfl) rfl hl.1 rfl (Nat.le_of_ble_eq_true rfl) dX9_height_27 ⟨Nat.zero_le _, Nat.zero_le _⟩ (fun r27 h27 => ?_)
    refine lv_if_eq (tgt := 36) hx hb dX9_height_30 (by decide) (fun c30 => ?_) (fun c30 => ?_)
    · have c30_ := i_eq c30
      replace h27 := or_n h27 c30_
      refine lv_aload_n hx hb dX9_height_36 rfl (lv_at hl 1 rfl) ?_
      refine va_get (D := eD E) (ci := 9) (v := .ref (a 5)) (C := RX9) (T := TX9) (N := 13) hx hb hts in_X9 hown hK hP 0 rfl rfl 5 (by decide) lk0 (fun _ h9 => h9) rfl dX9_height_37 ?_
      refine lv_iload hx hb dX9_height_40 (lv_at hl 0 rfl) ?_
      refine lv_iload_n hx hb dX9_height_42 rfl (lv_at hl 4 rfl) ?_
      refine lv_iconst (v := (-1)) hx hb dX9_height_43 (by decide) ?_
      refine rd_V (As := [.int r9, .int step, .int (-1)]) (rest := []) (C := RX8) (ci := 8) ⟨hx, hb, hml, hown, hts⟩ (c_X8_heightAt l E A (a 5) ap vp as_ vs r9 step (-1) hI hJ (by omega) (by omega)) (cwV 3 hts gX9_height_X8_heightAt rfl rfl rfl (by decide +kernel) ⟨Nat.le_of_ble_eq_true rfl, Nat.le_of_ble_eq_true rfl⟩) hE (hP.sub (ws' := wpsL E (a 5) ap vp as_ vs) [5, 6, 7, 8, 9, 10, 11, 12, 13, 14, 15, 16, 17, 18, 19, 20, 21, 22, 23, 24, 25, 26, 27, 28, 29, 30, 31, 32, 33, 34, 35, 36, 37, 38] rfl) rfl rfl rfl rfl hl.1 rfl (Nat.le_of_ble_eq_true rfl) dX9_height_44 ⟨Nat.zero_le _, Nat.zero_le _⟩ (fun r44 h44 => ?_)
      subst hQ
      exact W.iret (v := r44) hx hb hr (fun t ht hW => ⟨r44, rfl, trivial, ht⟩) (fun q h => absurd h List.not_mem_nil) dX9_height_47
    · have c30_ := i_ne c30
      replace h27 := or_y h27 c30_
      clear c30_
      refine lv_ldc hx hb hown lk3 dX9_height_33 ?_
      subst hQ
      exact W.iret (v := (-1000000002)) hx hb hr (fun t ht hW => ⟨(-1000000002), rfl, trivial, ht⟩) (fun q h => absurd h List.not_mem_nil) dX9_height_35
  · have c17_ := i_eq c17
    clear h9
    refine lv_ldc hx hb hown lk4 dX9_height_20 ?_
    subst hQ
    exact W.iret (v := (-1000000001)) hx hb hr (fun t ht hW => ⟨(-1000000001), rfl, trivial, ht⟩) (fun q h => absurd h List.not_mem_nil) dX9_height_22
