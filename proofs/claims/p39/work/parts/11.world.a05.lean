def rm_X8_leastBroken : Room := { frames := 5, cells := 0, slots := 0, locals := 120 }
set_option maxHeartbeats 4000000 in
set_option maxRecDepth 100000 in
theorem c_X8_leastBroken (l : Launch) (E : Ev) (A : Nat → Prop) (qw : Nat) (ap : Nat → Nat) (vp : Vf) (as_ : Nat → Nat) (vs : Vf) (step : Int32) (hI : PlanI vp) (hJ : StateI vs) (hstep : 0 ≤ step.toInt ∧ step.toInt ≤ 2000000) : Met l yX8_leastBroken wsX8_leastBroken rm_X8_leastBroken (RdP E A [.ref qw, .int step] (wpsL E qw ap vp as_ vs)) (vp_Si (fun r => True)) 0 0 (fun _ => False) := by
  refine Met.ofW (cc := cX8_leastBroken) (maxL := 3) (ret := (some .int)) (by decide) rfl ?_
  intro p e s m args below meth c s₁ B hml hv
  obtain ⟨rfl, hE, hP⟩ := hv
  have hx := B.exec
  have hb := B.bytes
  have hr := B.returns
  have hts := atoms_spec (ws := wsX8_leastBroken) B.pre
  have hown : s.vm.findClass RX8 = some m.cls := findClass_of_methodNamed B.named
  have hlocks := B.notSynchronized
  have hK := hE.1
  have in_X8 : ∀ w ∈ u_ws RX8 TX8 2, w ∈ wsX8_leastBroken := fun w h => List.mem_cons_of_mem _ (List.mem_append_left _ (List.mem_append_left _ (List.mem_append_left _ (List.mem_append_left _ (List.mem_append_right _ h)))))
  have in_X1 : ∀ w ∈ u_ws RX1 TX1 11, w ∈ wsX8_leastBroken := fun w h => List.mem_cons_of_mem _ (List.mem_append_left _ (List.mem_append_left _ (List.mem_append_left _ (List.mem_append_right _ h))))
  have in_X5 : ∀ w ∈ u_ws RX5 TX5 4, w ∈ wsX8_leastBroken := fun w h => List.mem_cons_of_mem _ (List.mem_append_left _ (List.mem_append_left _ (List.mem_append_right _ h)))
  have lk0 := hts (.fieldLink RX8 9 "TidedGround$World" "plan" "LTidedGround$Plan;") (by decide +kernel)
  have lk1 := hts (.fieldLink RX8 72 "TidedGround$Plan" "houses" "LTidedGround$Sites;") (by decide +kernel)
  have lk2 := hts (.fieldLink RX8 90 "TidedGround$Sites" "count" "I") (by decide +kernel)
  have n_m1 : ((-1) : Int32).toInt = -1 := by decide
  have n_0 : (0 : Int32).toInt = 0 := by decide
  have n_1 : (1 : Int32).toInt = 1 := by decide
  have hl := lv_entry ([.ref qw, .int step]) (n := 3) (Nat.le_of_ble_eq_true rfl)
  rw [lg_entry_eq]
  generalize (lg_sl ([.ref qw, .int step]) ++ List.replicate (3 - (lg_sl ([.ref qw, .int step])).length) Slot.unset).toArray = ls at hl ⊢
  have hl : lv_has ls 3 [(0, .ref qw), (1, .int step)] := hl
  refine W_abs (fun Q hQ => ?_)
  obtain ⟨hg, hmc, hm0, hm1, hm2, hs0, hs1, hs2, hs3⟩ := id hI
  obtain ⟨hg1, hg2, hg3, hg4⟩ := id hg
  have hz0 := hm0.1
  have hz1 := hm1.1
  have hz2 := hm2.1
  have hc0 := hs0.1
  have hc1 := hs1.1
  have hc2 := hs2.1
  have hc3 := hs3.1
  obtain ⟨hj0, hj1, hj2⟩ := id hJ
  refine lv_iconst (v := 0) hx hb dX8_leastBroken_0 (by decide) ?_
  refine lv_istore_n (lv' := [(2, .int 0), (0, .ref qw), (1, .int step)]) hx hb dX8_leastBroken_1 rfl hl (by decide) rfl (fun ls hl => ?_)
  have K2 : ∀ (μ : Nat) (h : Int32) (ls : Array Slot), (6 - h.toInt).toNat < μ → (0 ≤ h.toInt ∧ h.toInt ≤ 6) → lv_has ls 3 [(0, .ref qw), (1, .int step), (2, .int h)] → W p l e (headSpec wsX8_leastBroken rm_X8_leastBroken).room s m ([.ref qw, .int step] : List Value).toArray below meth c s.heap [] 0 0 Q (F0 m 2 ls []) := by
    intro μ
    induction μ with
    | zero =>
      intro h ls hμ2
      exact absurd hμ2 (Nat.not_lt_zero _)
    | succ μ ih2 =>
      intro h ls hμ2 h2_0 hl
      refine lv_iload_n hx hb dX8_leastBroken_2 rfl (lv_at hl 2 rfl) ?_
      refine lv_aload_n hx hb dX8_leastBroken_3 rfl (lv_at hl 0 rfl) ?_
      refine va_get (D := eD E) (ci := 8) (v := .ref (ap 0)) (C := RX8) (T := TX8) (N := 2) hx hb hts in_X8 hown hK hP 0 rfl rfl 0 (by decide) lk0 (fun _ h9 => h9) rfl dX8_leastBroken_4 ?_
      refine va_get (D := eD E) (ci := 1) (v := .ref (ap 7)) (C := RX1) (T := TX1) (N := 11) hx hb hts in_X1 hown hK hP 1 rfl rfl 7 (by decide) lk1 (fun _ h9 => h9) rfl dX8_leastBroken_7 ?_
      refine va_get (D := eD E) (ci := 5) (v := .int (vp 60 0)) (C := RX5) (T := TX5) (N := 4) hx hb hts in_X5 hown hK hP 14 rfl rfl 0 (by decide) lk2 (fun _ h9 => h9) rfl dX8_leastBroken_10 ?_
      refine lv_icmp_ge (tgt := 33) hx hb dX8_leastBroken_13 (by decide) (fun c13 => ?_) (fun c13 => ?_)
      · have c13_ := i_le c13
        refine lv_iconst (v := (-1)) hx hb dX8_leastBroken_33 (by decide) ?_
        subst hQ
        exact W.iret (v := (-1)) hx hb hr (fun t ht hW => ⟨(-1), rfl, trivial, ht⟩) (fun q h => absurd h List.not_mem_nil) dX8_leastBroken_34
      · have c13_ := i_nle c13
        refine lv_aload_n hx hb dX8_leastBroken_16 rfl (lv_at hl 0 rfl) ?_
        refine lv_iload_n hx hb dX8_leastBroken_17 rfl (lv_at hl 2 rfl) ?_
        refine lv_iload_n hx hb dX8_leastBroken_18 rfl (lv_at hl 1 rfl) ?_
        refine rd_V (As := [.int h, .int step]) (rest := []) (C := RX8) (ci := 8) ⟨hx, hb, hml, hown, hts⟩ (c_X8_isBroken l E A qw ap vp as_ vs h step hI hJ (by omega) (by omega)) (cwV 2 hts gX8_leastBroken_X8_isBroken rfl rfl rfl (by decide +kernel) ⟨Nat.le_of_ble_eq_true rfl, Nat.le_of_ble_eq_true rfl⟩) hE (hP.sub (ws' := wpsL E qw ap vp as_ vs) [0, 1, 2, 3, 4, 5, 6, 7, 8, 9, 10, 11, 12, 13, 14, 15, 16, 17, 18, 19, 20, 21, 22, 23, 24, 25, 26, 27, 28, 29, 30, 31, 32, 33] rfl) rfl rfl rfl rfl hl.1 rfl (Nat.le_of_ble_eq_true rfl) dX8_leastBroken_19 ⟨Nat.zero_le _, Nat.zero_le _⟩ (fun r19 h19 => ?_)
        refine lv_if_eq (tgt := 27) hx hb dX8_leastBroken_22 (by decide) (fun c22 => ?_) (fun c22 => ?_)
        · have c22_ := i_eq c22
          clear h19
          obtain ⟨x27, e27⟩ : ∃ y : Int32, y = h + 1 := ⟨_, rfl⟩
          refine lv_iinc (v := x27) (lv' := [(2, .int x27), (0, .ref qw), (1, .int step)]) hx hb dX8_leastBroken_27 hl (k := 2) rfl (by rw [e27]; rfl) (by decide) rfl (fun ls hl => ?_)
          have t27 := i_add e27 (by omega)
          refine lv_goto (tgt := 2) hx hb dX8_leastBroken_30 (by decide) ?_
          exact ih2 x27 ls (by omega) (by omega) (lv_sub hl [1, 2, 0] rfl)
        · have c22_ := i_ne c22
          replace h19 := b_y h19 c22_
          clear c22_
          refine lv_iload_n hx hb dX8_leastBroken_25 rfl (lv_at hl 2 rfl) ?_
          subst hQ
          exact W.iret (v := h) hx hb hr (fun t ht hW => ⟨h, rfl, trivial, ht⟩) (fun q h => absurd h List.not_mem_nil) dX8_leastBroken_26
  exact K2 _ 0 ls (Nat.lt_succ_self _) (by omega) (lv_sub hl [1, 2, 0] rfl)
