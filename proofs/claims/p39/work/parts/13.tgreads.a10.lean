def rm_X9_crack : Room := { frames := 3, cells := 0, slots := 0, locals := 70 }
set_option maxHeartbeats 4000000 in
set_option maxRecDepth 100000 in
theorem c_X9_crack (l : Launch) (E : Ev) (A : Nat → Prop) (a : Nat → Nat) (v : Vf) (aq : Nat → Nat) (ap : Nat → Nat) (vp : Vf) (as_ : Nat → Nat) (vs : Vf) (h : Int32) (step : Int32) (hI : PlanI vp) (hJ : StateI vs) (hT : TgI v) : Met l yX9_crack wsX9_crack rm_X9_crack (RdP E A [.ref (a 99), .int h, .int step] (tgsL E a v aq ap vp as_ vs)) (vp_Si (fun r => True)) 0 0 (fun _ => False) := by
  refine Met.ofW (cc := cX9_crack) (maxL := 3) (ret := (some .int)) (by decide) rfl ?_
  intro p e s m args below meth c s₁ B hml hv
  obtain ⟨rfl, hE, hP⟩ := hv
  have hx := B.exec
  have hb := B.bytes
  have hr := B.returns
  have hts := atoms_spec (ws := wsX9_crack) B.pre
  have hown : s.vm.findClass RX9 = some m.cls := findClass_of_methodNamed B.named
  have hlocks := B.notSynchronized
  have hK := hE.1
  have in_X9 : ∀ w ∈ u_ws RX9 TX9 13, w ∈ wsX9_crack := fun w h => List.mem_cons_of_mem _ (List.mem_append_left _ (List.mem_append_left _ (List.mem_append_left _ (List.mem_append_left _ (List.mem_append_left _ (List.mem_append_right _ h))))))
  have in_X8 : ∀ w ∈ u_ws RX8 TX8 2, w ∈ wsX9_crack := fun w h => List.mem_cons_of_mem _ (List.mem_append_left _ (List.mem_append_left _ (List.mem_append_left _ (List.mem_append_left _ (List.mem_append_right _ h)))))
  have in_X1 : ∀ w ∈ u_ws RX1 TX1 11, w ∈ wsX9_crack := fun w h => List.mem_cons_of_mem _ (List.mem_append_left _ (List.mem_append_left _ (List.mem_append_left _ (List.mem_append_right _ h))))
  have lk0 := hts (.fieldLink RX9 43 "TidedGround" "world" "LTidedGround$World;") (by decide +kernel)
  have lk1 := hts (.fieldLink RX9 91 "TidedGround$World" "plan" "LTidedGround$Plan;") (by decide +kernel)
  have lk2 := hts (.fieldLink RX9 129 "TidedGround$Plan" "cracks" "LTidedGround$Sites;") (by decide +kernel)
  have lk3 := hts (.constant RX9 184 999999) (by decide +kernel)
  have lk4 := hts (.constant RX9 81 (-1000000002)) (by decide +kernel)
  have lk5 := hts (.constant RX9 161 (-1000000001)) (by decide +kernel)
  have n_m1000000002 : ((-1000000002) : Int32).toInt = -1000000002 := by decide
  have n_m1000000001 : ((-1000000001) : Int32).toInt = -1000000001 := by decide
  have n_0 : (0 : Int32).toInt = 0 := by decide
  have n_1 : (1 : Int32).toInt = 1 := by decide
  have n_999999 : (999999 : Int32).toInt = 999999 := by decide
  have hl := lv_entry ([.ref (a 99), .int h, .int step]) (n := 3) (Nat.le_of_ble_eq_true rfl)
  rw [lg_entry_eq]
  generalize (lg_sl ([.ref (a 99), .int h, .int step]) ++ List.replicate (3 - (lg_sl ([.ref (a 99), .int h, .int step])).length) Slot.unset).toArray = ls at hl ⊢
  have hl : lv_has ls 3 [(0, .ref (a 99)), (1, .int h), (2, .int step)] := hl
  refine W_abs (fun Q hQ => ?_)
  obtain ⟨hg, hmc, hm0, hm1, hm2, hs0, hs1, hs2, hs3⟩ := id hI
  obtain ⟨hg1, hg2, hg3, hg4⟩ := id hg
  have hz0 := hm0.1
  have hz1 := hm1.1
  have hz2 := hm2.1
  have hc0 := hs0.1
  have hc1 := hs1.1
  have hc2 := hs2.1
  have hc3 := hs3.1
  obtain ⟨hj0, hj1, hj2⟩ := id hJ
  obtain ⟨hT1, hT2⟩ := id hT
  refine lv_aload_n hx hb dX9_crack_0 rfl (lv_at hl 0 rfl) ?_
  refine va_get (D := eD E) (ci := 9) (v := .ref (a 5)) (C := RX9) (T := TX9) (N := 13) hx hb hts in_X9 hown hK hP 0 rfl rfl 5 (by decide) lk0 (fun _ h9 => h9) rfl dX9_crack_1 ?_
  refine va_get (D := eD E) (ci := 8) (v := .ref (ap 0)) (C := RX8) (T := TX8) (N := 2) hx hb hts in_X8 hown hK hP 5 rfl rfl 0 (by decide) lk1 (fun _ h9 => h9) rfl dX9_crack_4 ?_
  refine va_get (D := eD E) (ci := 1) (v := .ref (ap 8)) (C := RX1) (T := TX1) (N := 11) hx hb hts in_X1 hown hK hP 6 rfl rfl 8 (by decide) lk2 (fun _ h9 => h9) rfl dX9_crack_7 ?_
  refine lv_iload_n hx hb dX9_crack_10 rfl (lv_at hl 1 rfl) ?_
  refine rd_V (As := [.int h]) (rest := []) (C := RX5) (ci := 5) ⟨hx, hb, hml, hown, hts⟩ (c_X5_has l E A (ap 8) (ap 71) (ap 72) (ap 73) (vp 70 0) (vp 71) (vp 72) (vp 73) h) (cwV 1 hts gX9_crack_X5_has rfl rfl rfl (by decide +kernel) ⟨Nat.le_of_ble_eq_true rfl, Nat.le_of_ble_eq_true rfl⟩) hE (hP.sub (ws' := sitesL E (ap 8) (ap 71) (ap 72) (ap 73) (vp 70 0) (vp 71) (vp 72) (vp 73)) [23, 24, 25, 26] rfl) rfl rfl rfl rfl hl.1 rfl (Nat.le_of_ble_eq_true rfl) dX9_crack_11 ⟨Nat.zero_le _, Nat.zero_le _⟩ (fun r11 h11 => ?_)
  refine lv_if_ne (tgt := 20) hx hb dX9_crack_14 (by decide) (fun c14 => ?_) (fun c14 => ?_)
  · have c14_ := i_ne c14
    replace h11 := or_y h11 c14_
    clear c14_
    have sv20_h : 0 ≤ h.toInt ∧ h.toInt ≤ 5 := by omega
    refine lv_iload_n hx hb dX9_crack_20 rfl (lv_at hl 2 rfl) ?_
    refine lv_iconst (v := 0) hx hb dX9_crack_21 (by decide) ?_
    refine lv_ldc hx hb hown lk3 dX9_crack_22 ?_
    refine rd_S (As := [.int step, .int 0, .int 999999]) (rest := []) ⟨hx, hb, hml, hown, hts⟩ (c_X9_isOff l E A step 0 999999) (va_cwS 3 hts gX9_crack_X9_isOff rfl rfl rfl (by decide +kernel) ⟨Nat.le_of_ble_eq_true rfl, Nat.le_of_ble_eq_true rfl⟩) hE (hP.sub (ws' := []) [] rfl) rfl hl.1 rfl (Nat.le_of_ble_eq_true rfl) dX9_crack_24 ⟨Nat.zero_le _, Nat.zero_le _⟩ (fun r24 h24 => ?_)
    refine lv_if_eq (tgt := 33) hx hb dX9_crack_27 (by decide) (fun c27 => ?_) (fun c27 => ?_)
    · have c27_ := i_eq c27
      replace h24 := or_n h24 c27_
      refine lv_aload_n hx hb dX9_crack_33 rfl (lv_at hl 0 rfl) ?_
      refine va_get (D := eD E) (ci := 9) (v := .ref (a 5)) (C := RX9) (T := TX9) (N := 13) hx hb hts in_X9 hown hK hP 0 rfl rfl 5 (by decide) lk0 (fun _ h9 => h9) rfl dX9_crack_34 ?_
      refine lv_iload_n hx hb dX9_crack_37 rfl (lv_at hl 1 rfl) ?_
      refine lv_iload_n hx hb dX9_crack_38 rfl (lv_at hl 2 rfl) ?_
      refine rd_V (As := [.int h, .int step]) (rest := []) (C := RX8) (ci := 8) ⟨hx, hb, hml, hown, hts⟩ (c_X8_isOpen l E A (a 5) ap vp as_ vs h step hI hJ (by omega) (by omega)) (cwV 2 hts gX9_crack_X8_isOpen rfl rfl rfl (by decide +kernel) ⟨Nat.le_of_ble_eq_true rfl, Nat.le_of_ble_eq_true rfl⟩) hE (hP.sub (ws' := wpsL E (a 5) ap vp as_ vs) [5, 6, 7, 8, 9, 10, 11, 12, 13, 14, 15, 16, 17, 18, 19, 20, 21, 22, 23, 24, 25, 26, 27, 28, 29, 30, 31, 32, 33, 34, 35, 36, 37, 38] rfl) rfl rfl rfl rfl hl.1 rfl (Nat.le_of_ble_eq_true rfl) dX9_crack_39 ⟨Nat.zero_le _, Nat.zero_le _⟩ (fun r39 h39 => ?_)
      refine lv_if_eq (tgt := 49) hx hb dX9_crack_42 (by decide) (fun c42 => ?_) (fun c42 => ?_)
      · have c42_ := i_eq c42
        clear h39
        refine lv_iconst (v := 0) hx hb dX9_crack_49 (by decide) ?_
        subst hQ
        exact W.iret (v := 0) hx hb hr (fun t ht hW => ⟨0, rfl, trivial, ht⟩) (fun q h => absurd h List.not_mem_nil) dX9_crack_50
      · have c42_ := i_ne c42
        replace h39 := b_y h39 c42_
        clear c42_
        refine lv_iconst (v := 1) hx hb dX9_crack_45 (by decide) ?_
        refine lv_goto (tgt := 50) hx hb dX9_crack_46 (by decide) ?_
        subst hQ
        exact W.iret (v := 1) hx hb hr (fun t ht hW => ⟨1, rfl, trivial, ht⟩) (fun q h => absurd h List.not_mem_nil) dX9_crack_50
    · have c27_ := i_ne c27
      replace h24 := or_y h24 c27_
      clear c27_
      refine lv_ldc hx hb hown lk4 dX9_crack_30 ?_
      subst hQ
      exact W.iret (v := (-1000000002)) hx hb hr (fun t ht hW => ⟨(-1000000002), rfl, trivial, ht⟩) (fun q h => absurd h List.not_mem_nil) dX9_crack_32
  · have c14_ := i_eq c14
    replace h11 := or_n h11 c14_
    refine lv_ldc hx hb hown lk5 dX9_crack_17 ?_
    subst hQ
    exact W.iret (v := (-1000000001)) hx hb hr (fun t ht hW => ⟨(-1000000001), rfl, trivial, ht⟩) (fun q h => absurd h List.not_mem_nil) dX9_crack_19
