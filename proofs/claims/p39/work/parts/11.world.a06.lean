def rm_X8_needOf : Room := { frames := 4, cells := 0, slots := 0, locals := 98 }
set_option maxHeartbeats 4000000 in
set_option maxRecDepth 100000 in
theorem c_X8_needOf (l : Launch) (E : Ev) (A : Nat → Prop) (qw : Nat) (ap : Nat → Nat) (vp : Vf) (as_ : Nat → Nat) (vs : Vf) (h : Int32) (hI : PlanI vp) (hJ : StateI vs) (hh : 0 ≤ h.toInt ∧ h.toInt ≤ 5) : Met l yX8_needOf wsX8_needOf rm_X8_needOf (RdP E A [.ref qw, .int h] (wpsL E qw ap vp as_ vs)) (vp_Si (fun r => True)) 0 0 (fun _ => False) := by
  refine Met.ofW (cc := cX8_needOf) (maxL := 5) (ret := (some .int)) (by decide) rfl ?_
  intro p e s m args below meth c s₁ B hml hv
  obtain ⟨rfl, hE, hP⟩ := hv
  have hx := B.exec
  have hb := B.bytes
  have hr := B.returns
  have hts := atoms_spec (ws := wsX8_needOf) B.pre
  have hown : s.vm.findClass RX8 = some m.cls := findClass_of_methodNamed B.named
  have hlocks := B.notSynchronized
  have hK := hE.1
  have in_X8 : ∀ w ∈ u_ws RX8 TX8 2, w ∈ wsX8_needOf := fun w h => List.mem_cons_of_mem _ (List.mem_append_left _ (List.mem_append_left _ (List.mem_append_left _ (List.mem_append_left _ (List.mem_append_right _ h)))))
  have in_X1 : ∀ w ∈ u_ws RX1 TX1 11, w ∈ wsX8_needOf := fun w h => List.mem_cons_of_mem _ (List.mem_append_left _ (List.mem_append_left _ (List.mem_append_left _ (List.mem_append_right _ h))))
  have in_X5 : ∀ w ∈ u_ws RX5 TX5 4, w ∈ wsX8_needOf := fun w h => List.mem_cons_of_mem _ (List.mem_append_left _ (List.mem_append_left _ (List.mem_append_right _ h)))
  have lk0 := hts (.fieldLink RX8 9 "TidedGround$World" "plan" "LTidedGround$Plan;") (by decide +kernel)
  have lk1 := hts (.fieldLink RX8 72 "TidedGround$Plan" "houses" "LTidedGround$Sites;") (by decide +kernel)
  have lk2 := hts (.fieldLink RX8 84 "TidedGround$Sites" "first" "[I") (by decide +kernel)
  have lk3 := hts (.methodLink RX8 47 Lib.Math.max.name) (by decide +kernel)
  have lk4 := hts (.static Lib.Math.max.name) (by decide +kernel)
  have lk5 := hts (.initialized "java/lang/Math") (by decide +kernel)
  have lk6 := hts (.code Lib.Math.max.name Lib.Math.max.code 2 (some .int)) (by decide +kernel)
  have lk7 := hts (.fieldLink RX8 76 "TidedGround$Sites" "cell" "[I") (by decide +kernel)
  have n_m1 : ((-1) : Int32).toInt = -1 := by decide
  have n_0 : (0 : Int32).toInt = 0 := by decide
  have n_1 : (1 : Int32).toInt = 1 := by decide
  have hl := lv_entry ([.ref qw, .int h]) (n := 5) (Nat.le_of_ble_eq_true rfl)
  rw [lg_entry_eq]
  generalize (lg_sl ([.ref qw, .int h]) ++ List.replicate (5 - (lg_sl ([.ref qw, .int h])).length) Slot.unset).toArray = ls at hl ⊢
  have hl : lv_has ls 5 [(0, .ref qw), (1, .int h)] := hl
  refine W_abs (fun Q hQ => ?_)
  obtain ⟨hg, hmc, hm0, hm1, hm2, hs0, hs1, hs2, hs3⟩ := id hI
  obtain ⟨hg1, hg2, hg3, hg4⟩ := id hg
  have hz0 := hm0.1
  have hz1 := hm1.1
  have hz2 := hm2.1
  have hc0 := hs0.1
  have hc1 := hs1.1
  have hc2 := hs2.1
  have hc3 := hs3.1
  obtain ⟨hj0, hj1, hj2⟩ := id hJ
  refine lv_aload_n hx hb dX8_needOf_0 rfl (lv_at hl 0 rfl) ?_
  refine va_get (D := eD E) (ci := 8) (v := .ref (ap 0)) (C := RX8) (T := TX8) (N := 2) hx hb hts in_X8 hown hK hP 0 rfl rfl 0 (by decide) lk0 (fun _ h9 => h9) rfl dX8_needOf_1 ?_
  refine rd_V (As := []) (rest := []) (C := RX1) (ci := 1) ⟨hx, hb, hml, hown, hts⟩ (c_X1_period l E A ap vp hI) (cwV 0 hts gX8_needOf_X1_period rfl rfl rfl (by decide +kernel) ⟨Nat.le_of_ble_eq_true rfl, Nat.le_of_ble_eq_true rfl⟩) hE (hP.sub (ws' := planL E ap vp) [1, 2, 3, 4, 5, 6, 7, 8, 9, 10, 11, 12, 13, 14, 15, 16, 17, 18, 19, 20, 21, 22, 23, 24, 25, 26, 27, 28, 29] rfl) rfl rfl rfl rfl hl.1 rfl (Nat.le_of_ble_eq_true rfl) dX8_needOf_4 ⟨Nat.zero_le _, Nat.zero_le _⟩ (fun r4 h4 => ?_)
  refine lv_istore_n (lv' := [(2, .int r4), (0, .ref qw), (1, .int h)]) hx hb dX8_needOf_7 rfl hl (by decide) rfl (fun ls hl => ?_)
  refine lv_iconst (v := 0) hx hb dX8_needOf_8 (by decide) ?_
  refine lv_istore_n (lv' := [(3, .int 0), (2, .int r4), (0, .ref qw), (1, .int h)]) hx hb dX8_needOf_9 rfl hl (by decide) rfl (fun ls hl => ?_)
  refine lv_iconst (v := 0) hx hb dX8_needOf_10 (by decide) ?_
  refine lv_istore (lv' := [(4, .int 0), (3, .int 0), (2, .int r4), (0, .ref qw), (1, .int h)]) hx hb dX8_needOf_11 hl (by decide) rfl (fun ls hl => ?_)
  have K13 : ∀ (μ : Nat) (worst : Int32) (t : Int32) (ls : Array Slot), (729 - t.toInt).toNat < μ → (0 ≤ t.toInt ∧ t.toInt ≤ 729) → lv_has ls 5 [(0, .ref qw), (1, .int h), (2, .int r4), (3, .int worst), (4, .int t)] → W p l e (headSpec wsX8_needOf rm_X8_needOf).room s m ([.ref qw, .int h] : List Value).toArray below meth c s.heap [] 0 0 Q (F0 m 13 ls []) := by
    intro μ
    induction μ with
    | zero =>
      intro worst t ls hμ13
      exact absurd hμ13 (Nat.not_lt_zero _)
    | succ μ ih13 =>
      intro worst t ls hμ13 h13_0 hl
      refine lv_iload hx hb dX8_needOf_13 (lv_at hl 4 rfl) ?_
      refine lv_iload_n hx hb dX8_needOf_15 rfl (lv_at hl 2 rfl) ?_
      refine lv_icmp_ge (tgt := 49) hx hb dX8_needOf_16 (by decide) (fun c16 => ?_) (fun c16 => ?_)
      · have c16_ := i_le c16
        refine lv_iconst (v := 0) hx hb dX8_needOf_49 (by decide) ?_
        refine lv_iload_n hx hb dX8_needOf_50 rfl (lv_at hl 3 rfl) ?_
        refine lv_aload_n hx hb dX8_needOf_51 rfl (lv_at hl 0 rfl) ?_
        refine va_get (D := eD E) (ci := 8) (v := .ref (ap 0)) (C := RX8) (T := TX8) (N := 2) hx hb hts in_X8 hown hK hP 0 rfl rfl 0 (by decide) lk0 (fun _ h9 => h9) rfl dX8_needOf_52 ?_
        refine va_get (D := eD E) (ci := 1) (v := .ref (ap 7)) (C := RX1) (T := TX1) (N := 11) hx hb hts in_X1 hown hK hP 1 rfl rfl 7 (by decide) lk1 (fun _ h9 => h9) rfl dX8_needOf_55 ?_
        refine va_get (D := eD E) (ci := 5) (v := .ref (ap 62)) (C := RX5) (T := TX5) (N := 4) hx hb hts in_X5 hown hK hP 14 rfl rfl 2 (by decide) lk2 (fun _ h9 => h9) rfl dX8_needOf_58 ?_
        refine lv_iload_n hx hb dX8_needOf_61 rfl (lv_at hl 1 rfl) ?_
        refine va_iald hx hb hK hP 16 0 rfl rfl (n := 6) (f := (vp 62)) (i_in (by omega) (by omega)) dX8_needOf_62 ?_
        refine lv_topi (fun x62 e62 => ?_)
        refine lv_isub hx hb dX8_needOf_63 ?_
        refine lv_topi (fun x63 e63 => ?_)
        refine va_mmax hx hb (hml.trans hl.1.symm) hown lk3 lk4 lk5 lk6 (Nat.le_of_ble_eq_true rfl) (Nat.le_of_ble_eq_true rfl) (Nat.zero_le _) (Nat.zero_le _) dX8_needOf_64 ?_
        refine lv_topi (fun x64 e64 => ?_)
        have t64 := i_max e64
        subst hQ
        exact W.iret (v := x64) hx hb hr (fun t ht hW => ⟨x64, rfl, trivial, ht⟩) (fun q h => absurd h List.not_mem_nil) dX8_needOf_67
      · have c16_ := i_nle c16
        refine lv_iload_n hx hb dX8_needOf_19 rfl (lv_at hl 3 rfl) ?_
        refine lv_aload_n hx hb dX8_needOf_20 rfl (lv_at hl 0 rfl) ?_
        refine lv_aload_n hx hb dX8_needOf_21 rfl (lv_at hl 0 rfl) ?_
        refine va_get (D := eD E) (ci := 8) (v := .ref (ap 0)) (C := RX8) (T := TX8) (N := 2) hx hb hts in_X8 hown hK hP 0 rfl rfl 0 (by decide) lk0 (fun _ h9 => h9) rfl dX8_needOf_22 ?_
        refine va_get (D := eD E) (ci := 1) (v := .ref (ap 7)) (C := RX1) (T := TX1) (N := 11) hx hb hts in_X1 hown hK hP 1 rfl rfl 7 (by decide) lk1 (fun _ h9 => h9) rfl dX8_needOf_25 ?_
        refine va_get (D := eD E) (ci := 5) (v := .ref (ap 61)) (C := RX5) (T := TX5) (N := 4) hx hb hts in_X5 hown hK hP 14 rfl rfl 1 (by decide) lk7 (fun _ h9 => h9) rfl dX8_needOf_28 ?_
        refine lv_iload_n hx hb dX8_needOf_31 rfl (lv_at hl 1 rfl) ?_
        refine va_iald hx hb hK hP 15 0 rfl rfl (n := 6) (f := (vp 61)) (i_in (by omega) (by omega)) dX8_needOf_32 ?_
        refine lv_topi (fun x32 e32 => ?_)
        have b32 := hs0.2 h.toNatClampNeg (i_natlt (by omega) (by decide))
        rw [← e32] at b32
        refine lv_iload hx hb dX8_needOf_33 (lv_at hl 4 rfl) ?_
        refine lv_iconst (v := (-1)) hx hb dX8_needOf_35 (by decide) ?_
        refine rd_V (As := [.int x32, .int t, .int (-1)]) (rest := [.int worst]) (C := RX8) (ci := 8) ⟨hx, hb, hml, hown, hts⟩ (c_X8_leanAt l E A qw ap vp as_ vs x32 t (-1) hI hJ (by omega) (by omega)) (cwV 3 hts gX8_needOf_X8_leanAt rfl rfl rfl (by decide +kernel) ⟨Nat.le_of_ble_eq_true rfl, Nat.le_of_ble_eq_true rfl⟩) hE (hP.sub (ws' := wpsL E qw ap vp as_ vs) [0, 1, 2, 3, 4, 5, 6, 7, 8, 9, 10, 11, 12, 13, 14, 15, 16, 17, 18, 19, 20, 21, 22, 23, 24, 25, 26, 27, 28, 29, 30, 31, 32, 33] rfl) rfl rfl rfl rfl hl.1 rfl (Nat.le_of_ble_eq_true rfl) dX8_needOf_36 ⟨Nat.zero_le _, Nat.zero_le _⟩ (fun r36 h36 => ?_)
        refine va_mmax hx hb (hml.trans hl.1.symm) hown lk3 lk4 lk5 lk6 (Nat.le_of_ble_eq_true rfl) (Nat.le_of_ble_eq_true rfl) (Nat.zero_le _) (Nat.zero_le _) dX8_needOf_39 ?_
        refine lv_topi (fun x39 e39 => ?_)
        have t39 := i_max e39
        refine lv_istore_n (lv' := [(3, .int x39), (0, .ref qw), (1, .int h), (2, .int r4), (4, .int t)]) hx hb dX8_needOf_42 rfl hl (by decide) rfl (fun ls hl => ?_)
        obtain ⟨x43, e43⟩ : ∃ y : Int32, y = t + 1 := ⟨_, rfl⟩
        refine lv_iinc (v := x43) (lv' := [(4, .int x43), (3, .int x39), (0, .ref qw), (1, .int h), (2, .int r4)]) hx hb dX8_needOf_43 hl (k := 4) rfl (by rw [e43]; rfl) (by decide) rfl (fun ls hl => ?_)
        have t43 := i_add e43 (by omega)
        refine lv_goto (tgt := 13) hx hb dX8_needOf_46 (by decide) ?_
        exact ih13 x39 x43 ls (by omega) (by omega) (lv_sub hl [2, 3, 4, 1, 0] rfl)
  exact K13 _ 0 0 ls (Nat.lt_succ_self _) (by omega) (lv_sub hl [3, 4, 2, 1, 0] rfl)
