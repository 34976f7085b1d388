def rm_X9_level : Room := { frames := 4, cells := 0, slots := 0, locals := 98 }
set_option maxHeartbeats 4000000 in
set_option maxRecDepth 100000 in
theorem c_X9_level (l : Launch) (E : Ev) (A : Nat → Prop) (a : Nat → Nat) (v : Vf) (aq : Nat → Nat) (ap : Nat → Nat) (vp : Vf) (as_ : Nat → Nat) (vs : Vf) (set : Int32) (e0 : Int32) (step : Int32) (hI : PlanI vp) (hJ : StateI vs) (hT : TgI v) : Met l yX9_level wsX9_level rm_X9_level (RdP E A [.ref (a 99), .int set, .int e0, .int step] (tgsL E a v aq ap vp as_ vs)) (vp_Si (fun r => True)) 0 0 (fun _ => False) := by
  refine Met.ofW (cc := cX9_level) (maxL := 6) (ret := (some .int)) (by decide) rfl ?_
  intro p e s m args below meth c s₁ B hml hv
  obtain ⟨rfl, hE, hP⟩ := hv
  have hx := B.exec
  have hb := B.bytes
  have hr := B.returns
  have hts := atoms_spec (ws := wsX9_level) B.pre
  have hown : s.vm.findClass RX9 = some m.cls := findClass_of_methodNamed B.named
  have hlocks := B.notSynchronized
  have hK := hE.1
  have in_X9 : ∀ w ∈ u_ws RX9 TX9 13, w ∈ wsX9_level := fun w h => List.mem_cons_of_mem _ (List.mem_append_left _ (List.mem_append_left _ (List.mem_append_left _ (List.mem_append_left _ (List.mem_append_right _ h)))))
  have in_X8 : ∀ w ∈ u_ws RX8 TX8 2, w ∈ wsX9_level := fun w h => List.mem_cons_of_mem _ (List.mem_append_left _ (List.mem_append_left _ (List.mem_append_left _ (List.mem_append_right _ h))))
  have in_X1 : ∀ w ∈ u_ws RX1 TX1 11, w ∈ wsX9_level := fun w h => List.mem_cons_of_mem _ (List.mem_append_left _ (List.mem_append_left _ (List.mem_append_right _ h)))
  have lk0 := hts (.constant RX9 161 (-1000000001)) (List.mem_of_getElem? (i := 4) rfl)
  have lk1 := hts (.fieldLink RX9 43 "TidedGround" "world" "LTidedGround$World;") (List.mem_of_getElem? (i := 1) rfl)
  have lk2 := hts (.fieldLink RX9 91 "TidedGround$World" "plan" "LTidedGround$Plan;") (List.mem_of_getElem? (i := 2) rfl)
  have lk3 := hts (.fieldLink RX9 97 "TidedGround$Plan" "cells" "I") (List.mem_of_getElem? (i := 3) rfl)
  have lk4 := hts (.constant RX9 81 (-1000000002)) (List.mem_of_getElem? (i := 5) rfl)
  have n_m1000000002 : ((-1000000002) : Int32).toInt = -1000000002 := by decide
  have n_m1000000001 : ((-1000000001) : Int32).toInt = -1000000001 := by decide
  have n_m1 : ((-1) : Int32).toInt = -1 := by decide
  have n_0 : (0 : Int32).toInt = 0 := by decide
  have n_1 : (1 : Int32).toInt = 1 := by decide
  have n_99 : (99 : Int32).toInt = 99 := by decide
  have hl := lv_entry ([.ref (a 99), .int set, .int e0, .int step]) (n := 6) (Nat.le_of_ble_eq_true rfl)
  rw [lg_entry_eq]
  generalize (lg_sl ([.ref (a 99), .int set, .int e0, .int step]) ++ List.replicate (6 - (lg_sl ([.ref (a 99), .int set, .int e0, .int step])).length) Slot.unset).toArray = ls at hl ⊢
  have hl : lv_has ls 6 [(0, .ref (a 99)), (1, .int set), (2, .int e0), (3, .int step)] := hl
  refine W_abs (fun Q hQ => ?_)
  obtain ⟨hg, hmc, hm0, hm1, hm2, hs0, hs1, hs2, hs3⟩ := id hI
  obtain ⟨hg1, hg2, hg3, hg4⟩ := id hg
  have hz0 := hm0.1
  have hz1 := hm1.1
  have hz2 := hm2.1
  have hc0 := hs0.1
  have hc1 := hs1.1
  have hc2 := hs2.1
  have hc3 := hs3.1
  obtain ⟨hj0, hj1, hj2⟩ := id hJ
  obtain ⟨hT1, hT2⟩ := id hT
  refine lv_iload_n hx hb dX9_level_0 rfl (lv_at hl 1 rfl) ?_
  refine lv_if_lt (tgt := 19) hx hb dX9_level_1 (by decide) (fun c1 => ?_) (fun c1 => ?_)
  · have c1_ := i_lt c1
    refine lv_ldc hx hb hown lk0 dX9_level_19 ?_
    subst hQ
    exact W.iret (v := (-1000000001)) hx hb hr (fun t ht hW => ⟨(-1000000001), rfl, trivial, ht⟩) (fun q h => absurd h List.not_mem_nil) dX9_level_21
  · have c1_ := i_nlt c1
    refine lv_iload_n hx hb dX9_level_4 rfl (lv_at hl 1 rfl) ?_
    refine lv_aload_n hx hb dX9_level_5 rfl (lv_at hl 0 rfl) ?_
    refine va_get (D := eD E) (ci := 9) (v := .ref (a 5)) (C := RX9) (T := TX9) (N := 13) hx hb hts in_X9 hown hK hP 0 rfl rfl 5 (by decide) lk1 (fun _ h9 => h9) rfl dX9_level_6 ?_
    refine va_get (D := eD E) (ci := 8) (v := .ref (ap 0)) (C := RX8) (T := TX8) (N := 2) hx hb hts in_X8 hown hK hP 5 rfl rfl 0 (by decide) lk2 (fun _ h9 => h9) rfl dX9_level_9 ?_
    refine va_get (D := eD E) (ci := 1) (v := .int (vp 2 0)) (C := RX1) (T := TX1) (N := 11) hx hb hts in_X1 hown hK hP 6 rfl rfl 2 (by decide) lk3 (fun _ h9 => h9) rfl dX9_level_12 ?_
    refine lv_ishr hx hb dX9_level_15 ?_
    refine lv_topi (fun x15 e15 => ?_)
    refine lv_if_eq (tgt := 22) hx hb dX9_level_16 (by decide) (fun c16 => ?_) (fun c16 => ?_)
    · have c16_ := i_eq c16
      refine lv_iload_n hx hb dX9_level_22 rfl (lv_at hl 1 rfl) ?_
      refine lv_if_eq (tgt := 43) hx hb dX9_level_23 (by decide) (fun c23 => ?_) (fun c23 => ?_)
      · have c23_ := i_eq c23
        refine lv_ldc hx hb hown lk4 dX9_level_43 ?_
        subst hQ
        exact W.iret (v := (-1000000002)) hx hb hr (fun t ht hW => ⟨(-1000000002), rfl, trivial, ht⟩) (fun q h => absurd h List.not_mem_nil) dX9_level_45
      · have c23_ := i_ne c23
        refine lv_iload_n hx hb dX9_level_26 rfl (lv_at hl 2 rfl) ?_
        refine lv_iconst (v := 0) hx hb dX9_level_27 (by decide) ?_
        refine lv_bipush (v := 99) hx hb dX9_level_28 (by decide) ?_
        refine rd_S (As := [.int e0, .int 0, .int 99]) (rest := []) ⟨hx, hb, hml, hown, hts⟩ (c_X9_isOff l E A e0 0 99) (va_cwS 3 hts gX9_level_X9_isOff rfl rfl rfl (by decide +kernel) ⟨Nat.le_of_ble_eq_true rfl, Nat.le_of_ble_eq_true rfl⟩) hE (hP.sub (ws' := []) [] rfl) rfl hl.1 rfl (Nat.le_of_ble_eq_true rfl) dX9_level_30 ⟨Nat.zero_le _, Nat.zero_le _⟩ (fun r30 h30 => ?_)
        refine lv_if_ne (tgt := 43) hx hb dX9_level_33 (by decide) (fun c33 => ?_) (fun c33 => ?_)
        · have c33_ := i_ne c33
          replace h30 := or_y h30 c33_
          clear c33_
          refine lv_ldc hx hb hown lk4 dX9_level_43 ?_
          subst hQ
          exact W.iret (v := (-1000000002)) hx hb hr (fun t ht hW => ⟨(-1000000002), rfl, trivial, ht⟩) (fun q h => absurd h List.not_mem_nil) dX9_level_45
        · have c33_ := i_eq c33
          replace h30 := or_n h30 c33_
          refine lv_iload_n hx hb dX9_level_36 rfl (lv_at hl 3 rfl) ?_
          refine rd_S (As := [.int step]) (rest := []) ⟨hx, hb, hml, hown, hts⟩ (c_X9_isNoStep l E A step) (va_cwS 1 hts gX9_level_X9_isNoStep rfl rfl rfl (by decide +kernel) ⟨Nat.le_of_ble_eq_true rfl, Nat.le_of_ble_eq_true rfl⟩) hE (hP.sub (ws' := []) [] rfl) rfl hl.1 rfl (Nat.le_of_ble_eq_true rfl) dX9_level_37 ⟨Nat.zero_le _, Nat.zero_le _⟩ (fun r37 h37 => ?_)
          refine lv_if_eq (tgt := 46) hx hb dX9_level_40 (by decide) (fun c40 => ?_) (fun c40 => ?_)
          · have c40_ := i_eq c40
            replace h37 := or_n h37 c40_
            have sv46_step : 0 ≤ step.toInt ∧ step.toInt ≤ 900000 := by omega
            refine lv_aload_n hx hb dX9_level_46 rfl (lv_at hl 0 rfl) ?_
            refine va_get (D := eD E) (ci := 9) (v := .ref (a 5)) (C := RX9) (T := TX9) (N := 13) hx hb hts in_X9 hown hK hP 0 rfl rfl 5 (by decide) lk1 (fun _ h9 => h9) rfl dX9_level_47 ?_
            refine va_get (D := eD E) (ci := 8) (v := .ref (ap 0)) (C := RX8) (T := TX8) (N := 2) hx hb hts in_X8 hown hK hP 5 rfl rfl 0 (by decide) lk2 (fun _ h9 => h9) rfl dX9_level_50 ?_
            refine rd_V (As := []) (rest := []) (C := RX1) (ci := 1) ⟨hx, hb, hml, hown, hts⟩ (c_X1_period l E A ap vp hI) (cwV 0 hts gX9_level_X1_period rfl rfl rfl (by decide +kernel) ⟨Nat.le_of_ble_eq_true rfl, Nat.le_of_ble_eq_true rfl⟩) hE (hP.sub (ws' := planL E ap vp) [6, 7, 8, 9, 10, 11, 12, 13, 14, 15, 16, 17, 18, 19, 20, 21, 22, 23, 24, 25, 26, 27, 28, 29, 30, 31, 32, 33, 34] rfl) rfl rfl rfl rfl hl.1 rfl (Nat.le_of_ble_eq_true rfl) dX9_level_53 ⟨Nat.zero_le _, Nat.zero_le _⟩ (fun r53 h53 => ?_)
            have hf53 := h53.2
            replace h53 := h53.1
            refine lv_istore (lv' := [(4, .int r53), (0, .ref (a 99)), (1, .int set), (2, .int e0), (3, .int step)]) hx hb dX9_level_56 hl (by decide) rfl (fun ls hl => ?_)
            refine lv_iconst (v := 0) hx hb dX9_level_58 (by decide) ?_
            refine lv_istore (lv' := [(5, .int 0), (4, .int r53), (0, .ref (a 99)), (1, .int set), (2, .int e0), (3, .int step)]) hx hb dX9_level_59 hl (by decide) rfl (fun ls hl => ?_)
            have K61 : ∀ (μ : Nat) (i : Int32) (ls : Array Slot), (729 - i.toInt).toNat < μ → (0 ≤ i.toInt ∧ i.toInt ≤ 729) → lv_has ls 6 [(0, .ref (a 99)), (1, .int set), (2, .int e0), (3, .int step), (4, .int r53), (5, .int i)] → W p l e (headSpec wsX9_level rm_X9_level).room s m ([.ref (a 99), .int set, .int e0, .int step] : List Value).toArray below meth c s.heap [] 0 0 Q (F0 m 61 ls []) := by
              intro μ
              induction μ with
              | zero =>
                intro i ls hμ61
                exact absurd hμ61 (Nat.not_lt_zero _)
              | succ μ ih61 =>
                intro i ls hμ61 h61_0 hl
                refine lv_iload hx hb dX9_level_61 (lv_at hl 5 rfl) ?_
                refine lv_iload hx hb dX9_level_63 (lv_at hl 4 rfl) ?_
                refine lv_icmp_ge (tgt := 93) hx hb dX9_level_65 (by decide) (fun c65 => ?_) (fun c65 => ?_)
                · have c65_ := i_le c65
                  refine lv_iconst (v := (-1)) hx hb dX9_level_93 (by decide) ?_
                  subst hQ
                  exact W.iret (v := (-1)) hx hb hr (fun t ht hW => ⟨(-1), rfl, trivial, ht⟩) (fun q h => absurd h List.not_mem_nil) dX9_level_94
                · have c65_ := i_nle c65
                  refine lv_aload_n hx hb dX9_level_68 rfl (lv_at hl 0 rfl) ?_
                  refine va_get (D := eD E) (ci := 9) (v := .ref (a 5)) (C := RX9) (T := TX9) (N := 13) hx hb hts in_X9 hown hK hP 0 rfl rfl 5 (by decide) lk1 (fun _ h9 => h9) rfl dX9_level_69 ?_
                  refine lv_iload_n hx hb dX9_level_72 rfl (lv_at hl 1 rfl) ?_
                  refine lv_iload_n hx hb dX9_level_73 rfl (lv_at hl 3 rfl) ?_
                  refine lv_iload hx hb dX9_level_74 (lv_at hl 5 rfl) ?_
                  refine lv_iadd hx hb dX9_level_76 ?_
                  refine lv_topi (fun x76 e76 => ?_)
                  have t76 := i_add e76 (by omega)
                  refine rd_V (As := [.int set, .int x76]) (rest := []) (C := RX8) (ci := 8) ⟨hx, hb, hml, hown, hts⟩ (c_X8_spreadOf l E A (a 5) ap vp as_ vs set x76 hI hJ (by omega)) (cwV 2 hts gX9_level_X8_spreadOf rfl rfl rfl (by decide +kernel) ⟨Nat.le_of_ble_eq_true rfl, Nat.le_of_ble_eq_true rfl⟩) hE (hP.sub (ws' := wpsL E (a 5) ap vp as_ vs) [5, 6, 7, 8, 9, 10, 11, 12, 13, 14, 15, 16, 17, 18, 19, 20, 21, 22, 23, 24, 25, 26, 27, 28, 29, 30, 31, 32, 33, 34, 35, 36, 37, 38] rfl) rfl rfl rfl rfl hl.1 rfl (Nat.le_of_ble_eq_true rfl) dX9_level_77 ⟨Nat.zero_le _, Nat.zero_le _⟩ (fun r77 h77 => ?_)
                  refine lv_iload_n hx hb dX9_level_80 rfl (lv_at hl 2 rfl) ?_
                  refine lv_icmp_gt (tgt := 87) hx hb dX9_level_81 (by decide) (fun c81 => ?_) (fun c81 => ?_)
                  · have c81_ := i_lt c81
                    obtain ⟨x87, e87⟩ : ∃ y : Int32, y = i + 1 := ⟨_, rfl⟩
                    refine lv_iinc (v := x87) (lv' := [(5, .int x87), (0, .ref (a 99)), (1, .int set), (2, .int e0), (3, .int step), (4, .int r53)]) hx hb dX9_level_87 hl (k := 5) rfl (by rw [e87]; rfl) (by decide) rfl (fun ls hl => ?_)
                    have t87 := i_add e87 (by omega)
                    refine lv_goto (tgt := 61) hx hb dX9_level_90 (by decide) ?_
                    exact ih61 x87 ls (by omega) (by omega) (lv_sub hl [1, 2, 3, 4, 5, 0] rfl)
                  · have c81_ := i_nlt c81
                    refine lv_iload hx hb dX9_level_84 (lv_at hl 5 rfl) ?_
                    subst hQ
                    exact W.iret (v := i) hx hb hr (fun t ht hW => ⟨i, rfl, trivial, ht⟩) (fun q h => absurd h List.not_mem_nil) dX9_level_86
            exact K61 _ 0 ls (Nat.lt_succ_self _) (by omega) (lv_sub hl [2, 3, 4, 5, 1, 0] rfl)
          · have c40_ := i_ne c40
            replace h37 := or_y h37 c40_
            clear c40_
            refine lv_ldc hx hb hown lk4 dX9_level_43 ?_
            subst hQ
            exact W.iret (v := (-1000000002)) hx hb hr (fun t ht hW => ⟨(-1000000002), rfl, trivial, ht⟩) (fun q h => absurd h List.not_mem_nil) dX9_level_45
    · have c16_ := i_ne c16
      refine lv_ldc hx hb hown lk0 dX9_level_19 ?_
      subst hQ
      exact W.iret (v := (-1000000001)) hx hb hr (fun t ht hW => ⟨(-1000000001), rfl, trivial, ht⟩) (fun q h => absurd h List.not_mem_nil) dX9_level_21
def rm_X9_aslant : Room := { frames := 5, cells := 0, slots := 0, locals := 116 }
set_option maxHeartbeats 4000000 in
set_option maxRecDepth 100000 in
theorem c_X9_aslant (l : Launch) (E : Ev) (A : Nat → Prop) (a : Nat → Nat) (v : Vf) (aq : Nat → Nat) (ap : Nat → Nat) (vp : Vf) (as_ : Nat → Nat) (vs : Vf) (step : Int32) (hI : PlanI vp) (hJ : StateI vs) (hT : TgI v) : Met l yX9_aslant wsX9_aslant rm_X9_aslant (RdP E A [.ref (a 99), .int step] (tgsL E a v aq ap vp as_ vs)) (vp_Si (fun r => (True) ∧ (∀ vm : Vf, RW vm vp vs → (-1 : Int32) = vm 62 0 → OutP (0 ≤ step.toInt ∧ step.toInt ≤ 900000) r (NotP ((vm 0 0).toInt ≠ 0) r (NxP (fun j => AslP vm (step + Int32.ofNat j)) (vm 22 0).toInt r))))) 0 0 (fun _ => False) := by
  refine Met.ofW (cc := cX9_aslant) (maxL := 4) (ret := (some .int)) (by decide) rfl ?_
  intro p e s m args below meth c s₁ B hml hv
  obtain ⟨rfl, hE, hP⟩ := hv
  have hx := B.exec
  have hb := B.bytes
  have hr := B.returns
  have hts := atoms_spec (ws := wsX9_aslant) B.pre
  have hown : s.vm.findClass RX9 = some m.cls := findClass_of_methodNamed B.named
  have hlocks := B.notSynchronized
  have hK := hE.1
  have in_X9 : ∀ w ∈ u_ws RX9 TX9 13, w ∈ wsX9_aslant := fun w h => List.mem_cons_of_mem _ (List.mem_append_left _ (List.mem_append_left _ (List.mem_append_left _ (List.mem_append_left _ (List.mem_append_right _ h)))))
  have in_X8 : ∀ w ∈ u_ws RX8 TX8 2, w ∈ wsX9_aslant := fun w h => List.mem_cons_of_mem _ (List.mem_append_left _ (List.mem_append_left _ (List.mem_append_left _ (List.mem_append_right _ h))))
  have in_X1 : ∀ w ∈ u_ws RX1 TX1 11, w ∈ wsX9_aslant := fun w h => List.mem_cons_of_mem _ (List.mem_append_left _ (List.mem_append_left _ (List.mem_append_right _ h)))
  have lk0 := hts (.fieldLink RX9 43 "TidedGround" "world" "LTidedGround$World;") (List.mem_of_getElem? (i := 2) rfl)
  have lk1 := hts (.fieldLink RX9 91 "TidedGround$World" "plan" "LTidedGround$Plan;") (List.mem_of_getElem? (i := 3) rfl)
  have lk2 := hts (.fieldLink RX9 97 "TidedGround$Plan" "cells" "I") (List.mem_of_getElem? (i := 4) rfl)
  have lk3 := hts (.constant RX9 236 (-1000000003)) (List.mem_of_getElem? (i := 5) rfl)
  have lk4 := hts (.constant RX9 81 (-1000000002)) (List.mem_of_getElem? (i := 1) rfl)
  have n_m1000000003 : ((-1000000003) : Int32).toInt = -1000000003 := by decide
  have n_m1000000002 : ((-1000000002) : Int32).toInt = -1000000002 := by decide
  have n_m1 : ((-1) : Int32).toInt = -1 := by decide
  have n_0 : (0 : Int32).toInt = 0 := by decide
  have n_1 : (1 : Int32).toInt = 1 := by decide
  have hl := lv_entry ([.ref (a 99), .int step]) (n := 4) (Nat.le_of_ble_eq_true rfl)
  rw [lg_entry_eq]
  generalize (lg_sl ([.ref (a 99), .int step]) ++ List.replicate (4 - (lg_sl ([.ref (a 99), .int step])).length) Slot.unset).toArray = ls at hl ⊢
  have hl : lv_has ls 4 [(0, .ref (a 99)), (1, .int step)] := hl
  refine W_abs (fun Q hQ => ?_)
  obtain ⟨hg, hmc, hm0, hm1, hm2, hs0, hs1, hs2, hs3⟩ := id hI
  obtain ⟨hg1, hg2, hg3, hg4⟩ := id hg
  have hz0 := hm0.1
  have hz1 := hm1.1
  have hz2 := hm2.1
  have hc0 := hs0.1
  have hc1 := hs1.1
  have hc2 := hs2.1
  have hc3 := hs3.1
  obtain ⟨hj0, hj1, hj2⟩ := id hJ
  obtain ⟨hT1, hT2⟩ := id hT
  refine lv_iload_n hx hb dX9_aslant_0 rfl (lv_at hl 1 rfl) ?_
  refine rd_S (As := [.int step]) (rest := []) ⟨hx, hb, hml, hown, hts⟩ (c_X9_isNoStep l E A step) (va_cwS 1 hts gX9_aslant_X9_isNoStep rfl rfl rfl (by decide +kernel) ⟨Nat.le_of_ble_eq_true rfl, Nat.le_of_ble_eq_true rfl⟩) hE (hP.sub (ws' := []) [] rfl) rfl hl.1 rfl (Nat.le_of_ble_eq_true rfl) dX9_aslant_1 ⟨Nat.zero_le _, Nat.zero_le _⟩ (fun r1 h1 => ?_)
  refine lv_if_eq (tgt := 10) hx hb dX9_aslant_4 (by decide) (fun c4 => ?_) (fun c4 => ?_)
  · have c4_ := i_eq c4
    replace h1 := or_n h1 c4_
    have sv10_step : 0 ≤ step.toInt ∧ step.toInt ≤ 900000 := by omega
    refine lv_aload_n hx hb dX9_aslant_10 rfl (lv_at hl 0 rfl) ?_
    refine va_get (D := eD E) (ci := 9) (v := .ref (a 5)) (C := RX9) (T := TX9) (N := 13) hx hb hts in_X9 hown hK hP 0 rfl rfl 5 (by decide) lk0 (fun _ h9 => h9) rfl dX9_aslant_11 ?_
    refine va_get (D := eD E) (ci := 8) (v := .ref (ap 0)) (C := RX8) (T := TX8) (N := 2) hx hb hts in_X8 hown hK hP 5 rfl rfl 0 (by decide) lk1 (fun _ h9 => h9) rfl dX9_aslant_14 ?_
    refine va_get (D := eD E) (ci := 1) (v := .int (vp 2 0)) (C := RX1) (T := TX1) (N := 11) hx hb hts in_X1 hown hK hP 6 rfl rfl 2 (by decide) lk2 (fun _ h9 => h9) rfl dX9_aslant_17 ?_
    refine lv_if_ne (tgt := 26) hx hb dX9_aslant_20 (by decide) (fun c20 => ?_) (fun c20 => ?_)
    · have c20_ := i_ne c20
      have hn26 := Int.mul_nonneg hg1.1 hg2.1
      refine lv_aload_n hx hb dX9_aslant_26 rfl (lv_at hl 0 rfl) ?_
      refine va_get (D := eD E) (ci := 9) (v := .ref (a 5)) (C := RX9) (T := TX9) (N := 13) hx hb hts in_X9 hown hK hP 0 rfl rfl 5 (by decide) lk0 (fun _ h9 => h9) rfl dX9_aslant_27 ?_
      refine va_get (D := eD E) (ci := 8) (v := .ref (ap 0)) (C := RX8) (T := TX8) (N := 2) hx hb hts in_X8 hown hK hP 5 rfl rfl 0 (by decide) lk1 (fun _ h9 => h9) rfl dX9_aslant_30 ?_
      refine va_get (D := eD E) (ci := 1) (v := .int (vp 2 0)) (C := RX1) (T := TX1) (N := 11) hx hb hts in_X1 hown hK hP 6 rfl rfl 2 (by decide) lk2 (fun _ h9 => h9) rfl dX9_aslant_33 ?_
      refine lv_iconst (v := 1) hx hb dX9_aslant_36 (by decide) ?_
      refine lv_icmp_ne (tgt := 42) hx hb dX9_aslant_37 (by decide) (fun c37 => ?_) (fun c37 => ?_)
      · have c37_ := i_ne c37
        refine lv_aload_n hx hb dX9_aslant_42 rfl (lv_at hl 0 rfl) ?_
        refine va_get (D := eD E) (ci := 9) (v := .ref (a 5)) (C := RX9) (T := TX9) (N := 13) hx hb hts in_X9 hown hK hP 0 rfl rfl 5 (by decide) lk0 (fun _ h9 => h9) rfl dX9_aslant_43 ?_
        refine va_get (D := eD E) (ci := 8) (v := .ref (ap 0)) (C := RX8) (T := TX8) (N := 2) hx hb hts in_X8 hown hK hP 5 rfl rfl 0 (by decide) lk1 (fun _ h9 => h9) rfl dX9_aslant_46 ?_
        refine rd_V (As := []) (rest := []) (C := RX1) (ci := 1) ⟨hx, hb, hml, hown, hts⟩ (c_X1_period l E A ap vp hI) (cwV 0 hts gX9_aslant_X1_period rfl rfl rfl (by decide +kernel) ⟨Nat.le_of_ble_eq_true rfl, Nat.le_of_ble_eq_true rfl⟩) hE (hP.sub (ws' := planL E ap vp) [6, 7, 8, 9, 10, 11, 12, 13, 14, 15, 16, 17, 18, 19, 20, 21, 22, 23, 24, 25, 26, 27, 28, 29, 30, 31, 32, 33, 34] rfl) rfl rfl rfl rfl hl.1 rfl (Nat.le_of_ble_eq_true rfl) dX9_aslant_49 ⟨Nat.zero_le _, Nat.zero_le _⟩ (fun r49 h49 => ?_)
        have hf49 := h49.2
        replace h49 := h49.1
        refine lv_istore_n (lv' := [(2, .int r49), (0, .ref (a 99)), (1, .int step)]) hx hb dX9_aslant_52 rfl hl (by decide) rfl (fun ls hl => ?_)
        refine lv_iconst (v := 0) hx hb dX9_aslant_53 (by decide) ?_
        refine lv_istore_n (lv' := [(3, .int 0), (2, .int r49), (0, .ref (a 99)), (1, .int step)]) hx hb dX9_aslant_54 rfl hl (by decide) rfl (fun ls hl => ?_)
        have K55 : ∀ (μ : Nat) (i : Int32) (ls : Array Slot), (729 - i.toInt).toNat < μ → (0 ≤ i.toInt ∧ i.toInt ≤ 729) → (∀ vm : Vf, RW vm vp vs → (-1 : Int32) = vm 62 0 → ∀ j : Nat, (j : Int) < i.toInt → ¬ AslP vm (step + Int32.ofNat j)) → lv_has ls 4 [(0, .ref (a 99)), (1, .int step), (2, .int r49), (3, .int i)] → W p l e (headSpec wsX9_aslant rm_X9_aslant).room s m ([.ref (a 99), .int step] : List Value).toArray below meth c s.heap [] 0 0 Q (F0 m 55 ls []) := by
          intro μ
          induction μ with
          | zero =>
            intro i ls hμ55
            exact absurd hμ55 (Nat.not_lt_zero _)
          | succ μ ih55 =>
            intro i ls hμ55 h55_0 h55_1 hl
            have hx55_0 := h55_1
            clear h55_1
            refine lv_iload_n hx hb dX9_aslant_55 rfl (lv_at hl 3 rfl) ?_
            refine lv_iload_n hx hb dX9_aslant_56 rfl (lv_at hl 2 rfl) ?_
            refine lv_icmp_ge (tgt := 81) hx hb dX9_aslant_57 (by decide) (fun c57 => ?_) (fun c57 => ?_)
            · have c57_ := i_le c57
              refine lv_iconst (v := (-1)) hx hb dX9_aslant_81 (by decide) ?_
              subst hQ
              exact W.iret (v := (-1)) hx hb hr (fun t ht hW => ⟨(-1), rfl, ⟨trivial, (fun vm hR hg => by have hW := rol_w hR (by omega); have e := per_eq hR hf49; exact Or.inr ⟨by omega, Or.inr ⟨by omega, nxs_end (T := AslP vm) (hx55_0 vm hR hg) (by rw [← e]; omega) (by omega)⟩⟩)⟩, ht⟩) (fun q h => absurd h List.not_mem_nil) dX9_aslant_82
            · have c57_ := i_nle c57
              refine lv_aload_n hx hb dX9_aslant_60 rfl (lv_at hl 0 rfl) ?_
              refine va_get (D := eD E) (ci := 9) (v := .ref (a 5)) (C := RX9) (T := TX9) (N := 13) hx hb hts in_X9 hown hK hP 0 rfl rfl 5 (by decide) lk0 (fun _ h9 => h9) rfl dX9_aslant_61 ?_
              refine lv_iload_n hx hb dX9_aslant_64 rfl (lv_at hl 1 rfl) ?_
              refine lv_iload_n hx hb dX9_aslant_65 rfl (lv_at hl 3 rfl) ?_
              refine lv_iadd hx hb dX9_aslant_66 ?_
              refine lv_topi (fun x66 e66 => ?_)
              have t66 := i_add e66 (by omega)
              refine rd_V (As := [.int x66]) (rest := []) (C := RX8) (ci := 8) ⟨hx, hb, hml, hown, hts⟩ (c_X8_isAslant l E A (a 5) ap vp as_ vs x66 hI hJ (by omega)) (cwV 1 hts gX9_aslant_X8_isAslant rfl rfl rfl (by decide +kernel) ⟨Nat.le_of_ble_eq_true rfl, Nat.le_of_ble_eq_true rfl⟩) hE (hP.sub (ws' := wpsL E (a 5) ap vp as_ vs) [5, 6, 7, 8, 9, 10, 11, 12, 13, 14, 15, 16, 17, 18, 19, 20, 21, 22, 23, 24, 25, 26, 27, 28, 29, 30, 31, 32, 33, 34, 35, 36, 37, 38] rfl) rfl rfl rfl rfl hl.1 rfl (Nat.le_of_ble_eq_true rfl) dX9_aslant_67 ⟨Nat.zero_le _, Nat.zero_le _⟩ (fun r67 h67 => ?_)
              have hf67 := h67.2
              replace h67 := h67.1
              refine lv_if_eq (tgt := 75) hx hb dX9_aslant_70 (by decide) (fun c70 => ?_) (fun c70 => ?_)
              · have c70_ := i_eq c70
                clear h67
                obtain ⟨x75, e75⟩ : ∃ y : Int32, y = i + 1 := ⟨_, rfl⟩
                refine lv_iinc (v := x75) (lv' := [(3, .int x75), (0, .ref (a 99)), (1, .int step), (2, .int r49)]) hx hb dX9_aslant_75 hl (k := 3) rfl (by rw [e75]; rfl) (by decide) rfl (fun ls hl => ?_)
                have t75 := i_add e75 (by omega)
                refine lv_goto (tgt := 55) hx hb dX9_aslant_78 (by decide) ?_
                exact ih55 x75 ls (by omega) (by omega) (fun vm hR hg => nxs_no (T := AslP vm) (hx55_0 vm hR hg) (by omega) t75 e66 (fun z => (hf67 vm hR hg).mpr z.2 (by omega))) (lv_sub hl [1, 2, 3, 0] rfl)
              · have c70_ := i_ne c70
                replace h67 := b_y h67 c70_
                clear c70_
                refine lv_iload_n hx hb dX9_aslant_73 rfl (lv_at hl 3 rfl) ?_
                subst hQ
                exact W.iret (v := i) hx hb hr (fun t ht hW => ⟨i, rfl, ⟨trivial, (fun vm hR hg => by have hW := rol_w hR (by omega); have e := per_eq hR hf49; exact Or.inr ⟨by omega, Or.inr ⟨by omega, nxs_at (T := AslP vm) (hx55_0 vm hR hg) (by omega) (by rw [← e]; omega) e66 ⟨by rw [← hR.1.1.1, ← hR.1.1.2.1]; omega, (hf67 vm hR hg).mp (by omega)⟩⟩⟩)⟩, ht⟩) (fun q h => absurd h List.not_mem_nil) dX9_aslant_74
        exact K55 _ 0 ls (Nat.lt_succ_self _) (by omega) (fun vm _ _ j hj => absurd hj (by rw [n_0]; omega)) (lv_sub hl [2, 3, 1, 0] rfl)
      · have c37_ := i_eq c37
        refine lv_iconst (v := (-1)) hx hb dX9_aslant_40 (by decide) ?_
        subst hQ
        exact W.iret (v := (-1)) hx hb hr (fun t ht hW => ⟨(-1), rfl, ⟨trivial, (fun vm hR hg => by have hW := rol_w hR (by omega); exact Or.inr ⟨by omega, Or.inr ⟨by omega, Or.inl ⟨by omega, fun i _ z => absurd z.1 (by rw [← hR.1.1.1, ← hR.1.1.2.1]; omega)⟩⟩⟩)⟩, ht⟩) (fun q h => absurd h List.not_mem_nil) dX9_aslant_41
    · have c20_ := i_eq c20
      refine lv_ldc hx hb hown lk3 dX9_aslant_23 ?_
      subst hQ
      exact W.iret (v := (-1000000003)) hx hb hr (fun t ht hW => ⟨(-1000000003), rfl, ⟨trivial, (fun vm hR hg => Or.inr ⟨by omega, Or.inl ⟨by omega, fun z => z (rol_z hR (by omega))⟩⟩)⟩, ht⟩) (fun q h => absurd h List.not_mem_nil) dX9_aslant_25
  · have c4_ := i_ne c4
    replace h1 := or_y h1 c4_
    clear c4_
    refine lv_ldc hx hb hown lk4 dX9_aslant_7 ?_
    subst hQ
    exact W.iret (v := (-1000000002)) hx hb hr (fun t ht hW => ⟨(-1000000002), rfl, ⟨trivial, (fun vm hR hg => Or.inl ⟨by omega, by omega⟩)⟩, ht⟩) (fun q h => absurd h List.not_mem_nil) dX9_aslant_9
def rm_X9_turn : Room := { frames := 4, cells := 0, slots := 0, locals := 96 }
set_option maxHeartbeats 4000000 in
set_option maxRecDepth 100000 in
theorem c_X9_turn (l : Launch) (E : Ev) (A : Nat → Prop) (a : Nat → Nat) (v : Vf) (aq : Nat → Nat) (ap : Nat → Nat) (vp : Vf) (as_ : Nat → Nat) (vs : Vf) (x : Int32) (y : Int32) (step : Int32) (hI : PlanI vp) (hJ : StateI vs) (hT : TgI v) : Met l yX9_turn wsX9_turn rm_X9_turn (RdP E A [.ref (a 99), .int x, .int y, .int step] (tgsL E a v aq ap vp as_ vs)) (vp_Si (fun r => (True) ∧ (∀ vm : Vf, RW vm vp vs → (-1 : Int32) = vm 62 0 → UnkP (inG x y (vm 0 0) (vm 1 0)) r (OutP (1 ≤ step.toInt ∧ step.toInt ≤ 900000) r (NxP (fun j => TrnP vm (mC vm x y) (step + Int32.ofNat j)) (vm 22 0).toInt r))))) 0 0 (fun _ => False) := by
  refine Met.ofW (cc := cX9_turn) (maxL := 7) (ret := (some .int)) (by decide) rfl ?_
  intro p e s m args below meth c s₁ B hml hv
  obtain ⟨rfl, hE, hP⟩ := hv
  have hx := B.exec
  have hb := B.bytes
  have hr := B.returns
  have hts := atoms_spec (ws := wsX9_turn) B.pre
  have hown : s.vm.findClass RX9 = some m.cls := findClass_of_methodNamed B.named
  have hlocks := B.notSynchronized
  have hK := hE.1
  have in_X9 : ∀ w ∈ u_ws RX9 TX9 13, w ∈ wsX9_turn := fun w h => List.mem_cons_of_mem _ (List.mem_append_left _ (List.mem_append_left _ (List.mem_append_left _ (List.mem_append_left _ (List.mem_append_right _ h)))))
  have in_X8 : ∀ w ∈ u_ws RX8 TX8 2, w ∈ wsX9_turn := fun w h => List.mem_cons_of_mem _ (List.mem_append_left _ (List.mem_append_left _ (List.mem_append_left _ (List.mem_append_right _ h))))
  have lk0 := hts (.fieldLink RX9 43 "TidedGround" "world" "LTidedGround$World;") (List.mem_of_getElem? (i := 1) rfl)
  have lk1 := hts (.fieldLink RX9 91 "TidedGround$World" "plan" "LTidedGround$Plan;") (List.mem_of_getElem? (i := 2) rfl)
  have lk2 := hts (.constant RX9 232 900000) (List.mem_of_getElem? (i := 4) rfl)
  have lk3 := hts (.constant RX9 81 (-1000000002)) (List.mem_of_getElem? (i := 5) rfl)
  have lk4 := hts (.constant RX9 161 (-1000000001)) (List.mem_of_getElem? (i := 3) rfl)
  have n_m1000000002 : ((-1000000002) : Int32).toInt = -1000000002 := by decide
  have n_m1000000001 : ((-1000000001) : Int32).toInt = -1000000001 := by decide
  have n_m1 : ((-1) : Int32).toInt = -1 := by decide
  have n_0 : (0 : Int32).toInt = 0 := by decide
  have n_1 : (1 : Int32).toInt = 1 := by decide
  have n_900000 : (900000 : Int32).toInt = 900000 := by decide
  have hl := lv_entry ([.ref (a 99), .int x, .int y, .int step]) (n := 7) (Nat.le_of_ble_eq_true rfl)
  rw [lg_entry_eq]
  generalize (lg_sl ([.ref (a 99), .int x, .int y, .int step]) ++ List.replicate (7 - (lg_sl ([.ref (a 99), .int x, .int y, .int step])).length) Slot.unset).toArray = ls at hl ⊢
  have hl : lv_has ls 7 [(0, .ref (a 99)), (1, .int x), (2, .int y), (3, .int step)] := hl
  refine W_abs (fun Q hQ => ?_)
  obtain ⟨hg, hmc, hm0, hm1, hm2, hs0, hs1, hs2, hs3⟩ := id hI
  obtain ⟨hg1, hg2, hg3, hg4⟩ := id hg
  have hz0 := hm0.1
  have hz1 := hm1.1
  have hz2 := hm2.1
  have hc0 := hs0.1
  have hc1 := hs1.1
  have hc2 := hs2.1
  have hc3 := hs3.1
  obtain ⟨hj0, hj1, hj2⟩ := id hJ
  obtain ⟨hT1, hT2⟩ := id hT
  refine lv_aload_n hx hb dX9_turn_0 rfl (lv_at hl 0 rfl) ?_
  refine va_get (D := eD E) (ci := 9) (v := .ref (a 5)) (C := RX9) (T := TX9) (N := 13) hx hb hts in_X9 hown hK hP 0 rfl rfl 5 (by decide) lk0 (fun _ h9 => h9) rfl dX9_turn_1 ?_
  refine va_get (D := eD E) (ci := 8) (v := .ref (ap 0)) (C := RX8) (T := TX8) (N := 2) hx hb hts in_X8 hown hK hP 5 rfl rfl 0 (by decide) lk1 (fun _ h9 => h9) rfl dX9_turn_4 ?_
  refine lv_iload_n hx hb dX9_turn_7 rfl (lv_at hl 1 rfl) ?_
  refine lv_iload_n hx hb dX9_turn_8 rfl (lv_at hl 2 rfl) ?_
  refine rd_V (As := [.int x, .int y]) (rest := []) (C := RX1) (ci := 1) ⟨hx, hb, hml, hown, hts⟩ (c_X1_cellAt l E A ap vp x y hI) (cwV 2 hts gX9_turn_X1_cellAt rfl rfl rfl (by decide +kernel) ⟨Nat.le_of_ble_eq_true rfl, Nat.le_of_ble_eq_true rfl⟩) hE (hP.sub (ws' := planL E ap vp) [6, 7, 8, 9, 10, 11, 12, 13, 14, 15, 16, 17, 18, 19, 20, 21, 22, 23, 24, 25, 26, 27, 28, 29, 30, 31, 32, 33, 34] rfl) rfl rfl rfl rfl hl.1 rfl (Nat.le_of_ble_eq_true rfl) dX9_turn_9 ⟨Nat.zero_le _, Nat.zero_le _⟩ (fun r9 h9 => ?_)
  have hf9 := h9.2
  replace h9 := h9.1
  have hm9 : y.toInt < 0 ∨ 0 ≤ (vp 0 0).toInt * y.toInt := (Int.lt_or_le y.toInt 0).imp id (fun q => Int.mul_nonneg (by omega) q)
  refine lv_istore (lv' := [(4, .int r9), (0, .ref (a 99)), (1, .int x), (2, .int y), (3, .int step)]) hx hb dX9_turn_12 hl (by decide) rfl (fun ls hl => ?_)
  refine lv_iload hx hb dX9_turn_14 (lv_at hl 0 rfl) ?_
  refine lv_iconst (v := (-1)) hx hb dX9_turn_16 (by decide) ?_
  refine lv_icmp_ne (tgt := 23) hx hb dX9_turn_17 (by decide) (fun c17 => ?_) (fun c17 => ?_)
  · have c17_ := i_ne c17
    replace h9 := cm_n h9 c17_
    clear c17_
    have sv23_r9 : 0 ≤ r9.toInt ∧ r9.toInt ≤ 23 := by omega
    have hcel : inG x y (vp 0 0) (vp 1 0) := (by unfold inG; omega)
    have hr9 : r9.toInt = (vp 0 0).toInt * y.toInt + x.toInt := by omega
    have hC9 : ∀ vm : Vf, RW vm vp vs → r9 = mC vm x y ∧ inG x y (vm 0 0) (vm 1 0) ∧ cW vm r9 := fun vm hR => by have hG := hR.2.2.2.1.1; have q := mC_eq hG hR.1.1.1 hR.1.1.2.1 hcel hr9; have i := hcel; rw [hR.1.1.1, hR.1.1.2.1] at i; exact ⟨q, i, by rw [q]; exact mC_cW hG i⟩
    clear hf9 hm9
    refine lv_iload_n hx hb dX9_turn_23 rfl (lv_at hl 4 rfl) ?_
    refine lv_iconst (v := 1) hx hb dX9_turn_24 (by decide) ?_
    refine lv_ldc hx hb hown lk2 dX9_turn_25 ?_
    refine rd_S (As := [.int step, .int 1, .int 900000]) (rest := []) ⟨hx, hb, hml, hown, hts⟩ (c_X9_isOff l E A step 1 900000) (va_cwS 3 hts gX9_turn_X9_isOff rfl rfl rfl (by decide +kernel) ⟨Nat.le_of_ble_eq_true rfl, Nat.le_of_ble_eq_true rfl⟩) hE (hP.sub (ws' := []) [] rfl) rfl hl.1 rfl (Nat.le_of_ble_eq_true rfl) dX9_turn_27 ⟨Nat.zero_le _, Nat.zero_le _⟩ (fun r27 h27 => ?_)
    refine lv_if_eq (tgt := 36) hx hb dX9_turn_30 (by decide) (fun c30 => ?_) (fun c30 => ?_)
    · have c30_ := i_eq c30
      replace h27 := or_n h27 c30_
      have sv36_step : 1 ≤ step.toInt ∧ step.toInt ≤ 900000 := by omega
      refine lv_aload_n hx hb dX9_turn_36 rfl (lv_at hl 1 rfl) ?_
      refine va_get (D := eD E) (ci := 9) (v := .ref (a 5)) (C := RX9) (T := TX9) (N := 13) hx hb hts in_X9 hown hK hP 0 rfl rfl 5 (by decide) lk0 (fun _ h9 => h9) rfl dX9_turn_37 ?_
      refine va_get (D := eD E) (ci := 8) (v := .ref (ap 0)) (C := RX8) (T := TX8) (N := 2) hx hb hts in_X8 hown hK hP 5 rfl rfl 0 (by decide) lk1 (fun _ h9 => h9) rfl dX9_turn_40 ?_
      refine rd_V (As := []) (rest := []) (C := RX1) (ci := 1) ⟨hx, hb, hml, hown, hts⟩ (c_X1_period l E A ap vp hI) (cwV 0 hts gX9_turn_X1_period rfl rfl rfl (by decide +kernel) ⟨Nat.le_of_ble_eq_true rfl, Nat.le_of_ble_eq_true rfl⟩) hE (hP.sub (ws' := planL E ap vp) [6, 7, 8, 9, 10, 11, 12, 13, 14, 15, 16, 17, 18, 19, 20, 21, 22, 23, 24, 25, 26, 27, 28, 29, 30, 31, 32, 33, 34] rfl) rfl rfl rfl rfl hl.1 rfl (Nat.le_of_ble_eq_true rfl) dX9_turn_43 ⟨Nat.zero_le _, Nat.zero_le _⟩ (fun r43 h43 => ?_)
      have hf43 := h43.2
      replace h43 := h43.1
      refine lv_istore (lv' := [(5, .int r43), (4, .int r9), (0, .ref (a 99)), (1, .int x), (2, .int y), (3, .int step)]) hx hb dX9_turn_46 hl (by decide) rfl (fun ls hl => ?_)
      refine lv_iconst (v := 0) hx hb dX9_turn_48 (by decide) ?_
      refine lv_istore (lv' := [(6, .int 0), (5, .int r43), (4, .int r9), (0, .ref (a 99)), (1, .int x), (2, .int y), (3, .int step)]) hx hb dX9_turn_49 hl (by decide) rfl (fun ls hl => ?_)
      have K51 : ∀ (μ : Nat) (i : Int32) (ls : Array Slot), (729 - i.toInt).toNat < μ → (0 ≤ i.toInt ∧ i.toInt ≤ 729) → (∀ vm : Vf, RW vm vp vs → (-1 : Int32) = vm 62 0 → ∀ j : Nat, (j : Int) < i.toInt → ¬ TrnP vm r9 (step + Int32.ofNat j)) → lv_has ls 7 [(0, .ref (a 99)), (1, .int x), (2, .int y), (3, .int step), (4, .int r9), (5, .int r43), (6, .int i)] → W p l e (headSpec wsX9_turn rm_X9_turn).room s m ([.ref (a 99), .int x, .int y, .int step] : List Value).toArray below meth c s.heap [] 0 0 Q (F0 m 51 ls []) := by
        intro μ
        induction μ with
        | zero =>
          intro i ls hμ51
          exact absurd hμ51 (Nat.not_lt_zero _)
        | succ μ ih51 =>
          intro i ls hμ51 h51_0 h51_1 hl
          have hx51_0 := h51_1
          clear h51_1
          refine lv_iload hx hb dX9_turn_51 (lv_at hl 6 rfl) ?_
          refine lv_iload hx hb dX9_turn_53 (lv_at hl 5 rfl) ?_
          refine lv_icmp_ge (tgt := 83) hx hb dX9_turn_55 (by decide) (fun c55 => ?_) (fun c55 => ?_)
          · have c55_ := i_le c55
            refine lv_iconst (v := (-1)) hx hb dX9_turn_83 (by decide) ?_
            subst hQ
            exact W.iret (v := (-1)) hx hb hr (fun t ht hW => ⟨(-1), rfl, ⟨trivial, (fun vm hR hg => by have hC := hC9 vm hR; have e := per_eq hR hf43; exact Or.inr ⟨hC.2.1, Or.inr ⟨by omega, by rw [← hC.1]; exact nxs_end (T := TrnP vm r9) (hx51_0 vm hR hg) (by rw [← e]; omega) (by omega)⟩⟩)⟩, ht⟩) (fun q h => absurd h List.not_mem_nil) dX9_turn_84
          · have c55_ := i_nle c55
            refine lv_aload_n hx hb dX9_turn_58 rfl (lv_at hl 0 rfl) ?_
            refine va_get (D := eD E) (ci := 9) (v := .ref (a 5)) (C := RX9) (T := TX9) (N := 13) hx hb hts in_X9 hown hK hP 0 rfl rfl 5 (by decide) lk0 (fun _ h9 => h9) rfl dX9_turn_59 ?_
            refine lv_iload hx hb dX9_turn_62 (lv_at hl 4 rfl) ?_
            refine lv_iload_n hx hb dX9_turn_64 rfl (lv_at hl 3 rfl) ?_
            refine lv_iload hx hb dX9_turn_65 (lv_at hl 6 rfl) ?_
            refine lv_iadd hx hb dX9_turn_67 ?_
            refine lv_topi (fun x67 e67 => ?_)
            have t67 := i_add e67 (by omega)
            refine rd_V (As := [.int r9, .int x67]) (rest := []) (C := RX8) (ci := 8) ⟨hx, hb, hml, hown, hts⟩ (c_X8_isTurn l E A (a 5) ap vp as_ vs r9 x67 hI hJ (by omega) (by omega)) (cwV 2 hts gX9_turn_X8_isTurn rfl rfl rfl (by decide +kernel) ⟨Nat.le_of_ble_eq_true rfl, Nat.le_of_ble_eq_true rfl⟩) hE (hP.sub (ws' := wpsL E (a 5) ap vp as_ vs) [5, 6, 7, 8, 9, 10, 11, 12, 13, 14, 15, 16, 17, 18, 19, 20, 21, 22, 23, 24, 25, 26, 27, 28, 29, 30, 31, 32, 33, 34, 35, 36, 37, 38] rfl) rfl rfl rfl rfl hl.1 rfl (Nat.le_of_ble_eq_true rfl) dX9_turn_68 ⟨Nat.zero_le _, Nat.zero_le _⟩ (fun r68 h68 => ?_)
            have hf68 := h68.2
            replace h68 := h68.1
            refine lv_if_eq (tgt := 77) hx hb dX9_turn_71 (by decide) (fun c71 => ?_) (fun c71 => ?_)
            · have c71_ := i_eq c71
              clear h68
              obtain ⟨x77, e77⟩ : ∃ y : Int32, y = i + 1 := ⟨_, rfl⟩
              refine lv_iinc (v := x77) (lv' := [(6, .int x77), (0, .ref (a 99)), (1, .int x), (2, .int y), (3, .int step), (4, .int r9), (5, .int r43)]) hx hb dX9_turn_77 hl (k := 6) rfl (by rw [e77]; rfl) (by decide) rfl (fun ls hl => ?_)
              have t77 := i_add e77 (by omega)
              refine lv_goto (tgt := 51) hx hb dX9_turn_80 (by decide) ?_
              exact ih51 x77 ls (by omega) (by omega) (fun vm hR hg => nxs_no (T := TrnP vm r9) (hx51_0 vm hR hg) (by omega) t77 e67 (fun z => (hf68 vm hR hg (hC9 vm hR).2.2).mpr z (by omega))) (lv_sub hl [1, 2, 3, 4, 5, 6, 0] rfl)
            · have c71_ := i_ne c71
              replace h68 := b_y h68 c71_
              clear c71_
              refine lv_iload hx hb dX9_turn_74 (lv_at hl 6 rfl) ?_
              subst hQ
              exact W.iret (v := i) hx hb hr (fun t ht hW => ⟨i, rfl, ⟨trivial, (fun vm hR hg => by have hC := hC9 vm hR; have e := per_eq hR hf43; exact Or.inr ⟨hC.2.1, Or.inr ⟨by omega, by rw [← hC.1]; exact nxs_at (T := TrnP vm r9) (hx51_0 vm hR hg) (by omega) (by rw [← e]; omega) e67 ((hf68 vm hR hg hC.2.2).mp (by omega))⟩⟩)⟩, ht⟩) (fun q h => absurd h List.not_mem_nil) dX9_turn_76
      exact K51 _ 0 ls (Nat.lt_succ_self _) (by omega) (fun vm _ _ j hj => absurd hj (by rw [n_0]; omega)) (lv_sub hl [3, 4, 5, 6, 2, 1, 0] rfl)
    · have c30_ := i_ne c30
      replace h27 := or_y h27 c30_
      clear c30_
      refine lv_ldc hx hb hown lk3 dX9_turn_33 ?_
      subst hQ
      exact W.iret (v := (-1000000002)) hx hb hr (fun t ht hW => ⟨(-1000000002), rfl, ⟨trivial, (fun vm hR hg => Or.inr ⟨(hC9 vm hR).2.1, Or.inl ⟨by omega, by omega⟩⟩)⟩, ht⟩) (fun q h => absurd h List.not_mem_nil) dX9_turn_35
  · have c17_ := i_eq c17
    clear h9
    refine lv_ldc hx hb hown lk4 dX9_turn_20 ?_
    subst hQ
    exact W.iret (v := (-1000000001)) hx hb hr (fun t ht hW => ⟨(-1000000001), rfl, ⟨trivial, (fun vm hR hg => Or.inl ⟨by omega, (by rw [← hR.1.1.1, ← hR.1.1.2.1]; unfold inG; omega)⟩)⟩, ht⟩) (fun q h => absurd h List.not_mem_nil) dX9_turn_22
def rm_X9_most : Room := { frames := 3, cells := 0, slots := 0, locals := 70 }
set_option maxHeartbeats 4000000 in
set_option maxRecDepth 100000 in
theorem c_X9_most (l : Launch) (E : Ev) (A : Nat → Prop) (a : Nat → Nat) (v : Vf) (aq : Nat → Nat) (ap : Nat → Nat) (vp : Vf) (as_ : Nat → Nat) (vs : Vf) (x : Int32) (y : Int32) (step : Int32) (what : Int32) (hI : PlanI vp) (hJ : StateI vs) (hT : TgI v) : Met l yX9_most wsX9_most rm_X9_most (RdP E A [.ref (a 99), .int x, .int y, .int step, .int what] (tgsL E a v aq ap vp as_ vs)) (vp_Si (fun r => (True) ∧ (∀ vm : Vf, RW vm vp vs → (-1 : Int32) = vm 62 0 → UnkP (inG x y (vm 0 0) (vm 1 0)) r (OutP ((0 ≤ step.toInt ∧ step.toInt ≤ 900000) ∧ (0 ≤ what.toInt ∧ what.toInt ≤ 1)) r (MosP vm (mC vm x y) step what r))))) 0 0 (fun _ => False) := by
  refine Met.ofW (cc := cX9_most) (maxL := 11) (ret := (some .int)) (by decide) rfl ?_
  intro p e s m args below meth c s₁ B hml hv
  obtain ⟨rfl, hE, hP⟩ := hv
  have hx := B.exec
  have hb := B.bytes
  have hr := B.returns
  have hts := atoms_spec (ws := wsX9_most) B.pre
  have hown : s.vm.findClass RX9 = some m.cls := findClass_of_methodNamed B.named
  have hlocks := B.notSynchronized
  have hK := hE.1
  have in_X9 : ∀ w ∈ u_ws RX9 TX9 13, w ∈ wsX9_most := fun w h => List.mem_cons_of_mem _ (List.mem_append_left _ (List.mem_append_left _ (List.mem_append_left _ (List.mem_append_left _ (List.mem_append_right _ h)))))
  have in_X8 : ∀ w ∈ u_ws RX8 TX8 2, w ∈ wsX9_most := fun w h => List.mem_cons_of_mem _ (List.mem_append_left _ (List.mem_append_left _ (List.mem_append_left _ (List.mem_append_right _ h))))
  have lk0 := hts (.fieldLink RX9 43 "TidedGround" "world" "LTidedGround$World;") (List.mem_of_getElem? (i := 1) rfl)
  have lk1 := hts (.fieldLink RX9 91 "TidedGround$World" "plan" "LTidedGround$Plan;") (List.mem_of_getElem? (i := 2) rfl)
  have lk2 := hts (.constant RX9 81 (-1000000002)) (List.mem_of_getElem? (i := 4) rfl)
  have lk3 := hts (.constant RX9 161 (-1000000001)) (List.mem_of_getElem? (i := 3) rfl)
  have n_m1000000002 : ((-1000000002) : Int32).toInt = -1000000002 := by decide
  have n_m1000000001 : ((-1000000001) : Int32).toInt = -1000000001 := by decide
  have n_m1 : ((-1) : Int32).toInt = -1 := by decide
  have n_0 : (0 : Int32).toInt = 0 := by decide
  have n_1 : (1 : Int32).toInt = 1 := by decide
  have hl := lv_entry ([.ref (a 99), .int x, .int y, .int step, .int what]) (n := 11) (Nat.le_of_ble_eq_true rfl)
  rw [lg_entry_eq]
  generalize (lg_sl ([.ref (a 99), .int x, .int y, .int step, .int what]) ++ List.replicate (11 - (lg_sl ([.ref (a 99), .int x, .int y, .int step, .int what])).length) Slot.unset).toArray = ls at hl ⊢
  have hl : lv_has ls 11 [(0, .ref (a 99)), (1, .int x), (2, .int y), (3, .int step), (4, .int what)] := hl
  refine W_abs (fun Q hQ => ?_)
  obtain ⟨hg, hmc, hm0, hm1, hm2, hs0, hs1, hs2, hs3⟩ := id hI
  obtain ⟨hg1, hg2, hg3, hg4⟩ := id hg
  have hz0 := hm0.1
  have hz1 := hm1.1
  have hz2 := hm2.1
  have hc0 := hs0.1
  have hc1 := hs1.1
  have hc2 := hs2.1
  have hc3 := hs3.1
  obtain ⟨hj0, hj1, hj2⟩ := id hJ
  obtain ⟨hT1, hT2⟩ := id hT
  refine lv_aload_n hx hb dX9_most_0 rfl (lv_at hl 0 rfl) ?_
  refine va_get (D := eD E) (ci := 9) (v := .ref (a 5)) (C := RX9) (T := TX9) (N := 13) hx hb hts in_X9 hown hK hP 0 rfl rfl 5 (by decide) lk0 (fun _ h9 => h9) rfl dX9_most_1 ?_
  refine va_get (D := eD E) (ci := 8) (v := .ref (ap 0)) (C := RX8) (T := TX8) (N := 2) hx hb hts in_X8 hown hK hP 5 rfl rfl 0 (by decide) lk1 (fun _ h9 => h9) rfl dX9_most_4 ?_
  refine lv_iload_n hx hb dX9_most_7 rfl (lv_at hl 1 rfl) ?_
  refine lv_iload_n hx hb dX9_most_8 rfl (lv_at hl 2 rfl) ?_
  refine rd_V (As := [.int x, .int y]) (rest := []) (C := RX1) (ci := 1) ⟨hx, hb, hml, hown, hts⟩ (c_X1_cellAt l E A ap vp x y hI) (cwV 2 hts gX9_most_X1_cellAt rfl rfl rfl (by decide +kernel) ⟨Nat.le_of_ble_eq_true rfl, Nat.le_of_ble_eq_true rfl⟩) hE (hP.sub (ws' := planL E ap vp) [6, 7, 8, 9, 10, 11, 12, 13, 14, 15, 16, 17, 18, 19, 20, 21, 22, 23, 24, 25, 26, 27, 28, 29, 30, 31, 32, 33, 34] rfl) rfl rfl rfl rfl hl.1 rfl (Nat.le_of_ble_eq_true rfl) dX9_most_9 ⟨Nat.zero_le _, Nat.zero_le _⟩ (fun r9 h9 => ?_)
  have hf9 := h9.2
  replace h9 := h9.1
  have hm9 : y.toInt < 0 ∨ 0 ≤ (vp 0 0).toInt * y.toInt := (Int.lt_or_le y.toInt 0).imp id (fun q => Int.mul_nonneg (by omega) q)
  refine lv_istore (lv' := [(5, .int r9), (0, .ref (a 99)), (1, .int x), (2, .int y), (3, .int step), (4, .int what)]) hx hb dX9_most_12 hl (by decide) rfl (fun ls hl => ?_)
  refine lv_iload hx hb dX9_most_14 (lv_at hl 0 rfl) ?_
  refine lv_iconst (v := (-1)) hx hb dX9_most_16 (by decide) ?_
  refine lv_icmp_ne (tgt := 23) hx hb dX9_most_17 (by decide) (fun c17 => ?_) (fun c17 => ?_)
  · have c17_ := i_ne c17
    replace h9 := cm_n h9 c17_
    clear c17_
    have sv23_r9 : 0 ≤ r9.toInt ∧ r9.toInt ≤ 23 := by omega
    have hcel : inG x y (vp 0 0) (vp 1 0) := (by unfold inG; omega)
    have hr9 : r9.toInt = (vp 0 0).toInt * y.toInt + x.toInt := by omega
    have hC9 : ∀ vm : Vf, RW vm vp vs → r9 = mC vm x y ∧ inG x y (vm 0 0) (vm 1 0) ∧ cW vm r9 := fun vm hR => by have hG := hR.2.2.2.1.1; have q := mC_eq hG hR.1.1.1 hR.1.1.2.1 hcel hr9; have i := hcel; rw [hR.1.1.1, hR.1.1.2.1] at i; exact ⟨q, i, by rw [q]; exact mC_cW hG i⟩
    clear hf9 hm9
    refine lv_iload_n hx hb dX9_most_23 rfl (lv_at hl 4 rfl) ?_
    refine rd_S (As := [.int step]) (rest := []) ⟨hx, hb, hml, hown, hts⟩ (c_X9_isNoStep l E A step) (va_cwS 1 hts gX9_most_X9_isNoStep rfl rfl rfl (by decide +kernel) ⟨Nat.le_of_ble_eq_true rfl, Nat.le_of_ble_eq_true rfl⟩) hE (hP.sub (ws' := []) [] rfl) rfl hl.1 rfl (Nat.le_of_ble_eq_true rfl) dX9_most_24 ⟨Nat.zero_le _, Nat.zero_le _⟩ (fun r24 h24 => ?_)
    refine lv_if_ne (tgt := 40) hx hb dX9_most_27 (by decide) (fun c27 => ?_) (fun c27 => ?_)
    · have c27_ := i_ne c27
      replace h24 := or_y h24 c27_
      clear c27_
      refine lv_ldc hx hb hown lk2 dX9_most_40 ?_
      subst hQ
      exact W.iret (v := (-1000000002)) hx hb hr (fun t ht hW => ⟨(-1000000002), rfl, ⟨trivial, (fun vm hR hg => Or.inr ⟨(hC9 vm hR).2.1, Or.inl ⟨by omega, by omega⟩⟩)⟩, ht⟩) (fun q h => absurd h List.not_mem_nil) dX9_most_42
    · have c27_ := i_eq c27
      replace h24 := or_n h24 c27_
      refine lv_iload hx hb dX9_most_30 (lv_at hl 5 rfl) ?_
      refine lv_iconst (v := 0) hx hb dX9_most_32 (by decide) ?_
      refine lv_iconst (v := 1) hx hb dX9_most_33 (by decide) ?_
      refine rd_S (As := [.int what, .int 0, .int 1]) (rest := []) ⟨hx, hb, hml, hown, hts⟩ (c_X9_isOff l E A what 0 1) (va_cwS 3 hts gX9_most_X9_isOff rfl rfl rfl (by decide +kernel) ⟨Nat.le_of_ble_eq_true rfl, Nat.le_of_ble_eq_true rfl⟩) hE (hP.sub (ws' := []) [] rfl) rfl hl.1 rfl (Nat.le_of_ble_eq_true rfl) dX9_most_34 ⟨Nat.zero_le _, Nat.zero_le _⟩ (fun r34 h34 => ?_)
      refine lv_if_eq (tgt := 43) hx hb dX9_most_37 (by decide) (fun c37 => ?_) (fun c37 => ?_)
      · have c37_ := i_eq c37
        replace h34 := or_n h34 c37_
        have sv43_step : 0 ≤ step.toInt ∧ step.toInt ≤ 900000 := by omega
        refine lv_aload_n hx hb dX9_most_43 rfl (lv_at hl 1 rfl) ?_
        refine va_get (D := eD E) (ci := 9) (v := .ref (a 5)) (C := RX9) (T := TX9) (N := 13) hx hb hts in_X9 hown hK hP 0 rfl rfl 5 (by decide) lk0 (fun _ h9 => h9) rfl dX9_most_44 ?_
        refine va_get (D := eD E) (ci := 8) (v := .ref (ap 0)) (C := RX8) (T := TX8) (N := 2) hx hb hts in_X8 hown hK hP 5 rfl rfl 0 (by decide) lk1 (fun _ h9 => h9) rfl dX9_most_47 ?_
        refine rd_V (As := []) (rest := []) (C := RX1) (ci := 1) ⟨hx, hb, hml, hown, hts⟩ (c_X1_period l E A ap vp hI) (cwV 0 hts gX9_most_X1_period rfl rfl rfl (by decide +kernel) ⟨Nat.le_of_ble_eq_true rfl, Nat.le_of_ble_eq_true rfl⟩) hE (hP.sub (ws' := planL E ap vp) [6, 7, 8, 9, 10, 11, 12, 13, 14, 15, 16, 17, 18, 19, 20, 21, 22, 23, 24, 25, 26, 27, 28, 29, 30, 31, 32, 33, 34] rfl) rfl rfl rfl rfl hl.1 rfl (Nat.le_of_ble_eq_true rfl) dX9_most_50 ⟨Nat.zero_le _, Nat.zero_le _⟩ (fun r50 h50 => ?_)
        have hf50 := h50.2
        replace h50 := h50.1
        refine lv_istore (lv' := [(6, .int r50), (5, .int r9), (0, .ref (a 99)), (1, .int x), (2, .int y), (3, .int step), (4, .int what)]) hx hb dX9_most_53 hl (by decide) rfl (fun ls hl => ?_)
        refine lv_iload_n hx hb dX9_most_55 rfl (lv_at hl 5 rfl) ?_
        refine lv_istore (lv' := [(7, .int step), (6, .int r50), (5, .int r9), (0, .ref (a 99)), (1, .int x), (2, .int y), (3, .int step), (4, .int what)]) hx hb dX9_most_56 hl (by decide) rfl (fun ls hl => ?_)
        refine lv_aload_n hx hb dX9_most_58 rfl (lv_at hl 3 rfl) ?_
        refine va_get (D := eD E) (ci := 9) (v := .ref (a 5)) (C := RX9) (T := TX9) (N := 13) hx hb hts in_X9 hown hK hP 0 rfl rfl 5 (by decide) lk0 (fun _ h9 => h9) rfl dX9_most_59 ?_
        refine lv_iload hx hb dX9_most_62 (lv_at hl 2 rfl) ?_
        refine lv_iload_n hx hb dX9_most_64 rfl (lv_at hl 6 rfl) ?_
        refine lv_iconst (v := (-1)) hx hb dX9_most_65 (by decide) ?_
        refine rd_V (As := [.int r9, .int step, .int (-1)]) (rest := []) (C := RX8) (ci := 8) ⟨hx, hb, hml, hown, hts⟩ (c_X8_pullAt l E A (a 5) ap vp as_ vs r9 step (-1) hI hJ (by omega) (by omega)) (cwV 3 hts gX9_most_X8_pullAt rfl rfl rfl (by decide +kernel) ⟨Nat.le_of_ble_eq_true rfl, Nat.le_of_ble_eq_true rfl⟩) hE (hP.sub (ws' := wpsL E (a 5) ap vp as_ vs) [5, 6, 7, 8, 9, 10, 11, 12, 13, 14, 15, 16, 17, 18, 19, 20, 21, 22, 23, 24, 25, 26, 27, 28, 29, 30, 31, 32, 33, 34, 35, 36, 37, 38] rfl) rfl rfl rfl rfl hl.1 rfl (Nat.le_of_ble_eq_true rfl) dX9_most_66 ⟨Nat.zero_le _, Nat.zero_le _⟩ (fun r66 h66 => ?_)
        have hf66 := h66.2
        replace h66 := h66.1
        refine lv_istore (lv' := [(8, .int r66), (7, .int step), (6, .int r50), (5, .int r9), (0, .ref (a 99)), (1, .int x), (2, .int y), (3, .int step), (4, .int what)]) hx hb dX9_most_69 hl (by decide) rfl (fun ls hl => ?_)
        refine lv_iconst (v := 1) hx hb dX9_most_71 (by decide) ?_
        refine lv_istore (lv' := [(9, .int 1), (8, .int r66), (7, .int step), (6, .int r50), (5, .int r9), (0, .ref (a 99)), (1, .int x), (2, .int y), (3, .int step), (4, .int what)]) hx hb dX9_most_72 hl (by decide) rfl (fun ls hl => ?_)
        have K74 : ∀ (μ : Nat) (best : Int32) (gr : Int32) (i : Int32) (ls : Array Slot), (729 - i.toInt).toNat < μ → (1 ≤ i.toInt ∧ i.toInt ≤ 729) → (∀ vm : Vf, RW vm vp vs → (-1 : Int32) = vm 62 0 → (best = mBestN vm r9 step (i.toInt - 1).toNat ∧ gr = mPull vm r9 best ∧ i.toInt ≤ (vm 22 0).toInt)) → lv_has ls 11 [(0, .ref (a 99)), (1, .int x), (2, .int y), (3, .int step), (4, .int what), (5, .int r9), (6, .int r50), (7, .int best), (8, .int gr), (9, .int i)] → W p l e (headSpec wsX9_most rm_X9_most).room s m ([.ref (a 99), .int x, .int y, .int step, .int what] : List Value).toArray below meth c s.heap [] 0 0 Q (F0 m 74 ls []) := by
          intro μ
          induction μ with
          | zero =>
            intro best gr i ls hμ74
            exact absurd hμ74 (Nat.not_lt_zero _)
          | succ μ ih74 =>
            intro best gr i ls hμ74 h74_0 h74_1 hl
            have hx74_0 := h74_1
            clear h74_1
            refine lv_iload hx hb dX9_most_74 (lv_at hl 9 rfl) ?_
            refine lv_iload hx hb dX9_most_76 (lv_at hl 6 rfl) ?_
            refine lv_icmp_ge (tgt := 120) hx hb dX9_most_78 (by decide) (fun c78 => ?_) (fun c78 => ?_)
            · have c78_ := i_le c78
              refine lv_iload hx hb dX9_most_120 (lv_at hl 4 rfl) ?_
              refine lv_if_ne (tgt := 130) hx hb dX9_most_122 (by decide) (fun c122 => ?_) (fun c122 => ?_)
              · have c122_ := i_ne c122
                have hv122 : what.toInt = 1 := by omega
                refine lv_iload hx hb dX9_most_130 (lv_at hl 8 rfl) ?_
                subst hQ
                exact W.iret (v := gr) hx hb hr (fun t ht hW => ⟨gr, rfl, ⟨trivial, (fun vm hR hg => by have hC := hC9 vm hR; have hx := hx74_0 vm hR hg; have e := per_eq hR hf50; have hi : (i.toInt - 1).toNat = ((vm 22 0).toInt - 1).toNat := (by have z := hx.2.2; rw [← e] at z ⊢; omega); have eb : best = mBest vm r9 step := (by show best = mBestN vm r9 step ((vm 22 0).toInt - 1).toNat; rw [← hi]; exact hx.1); exact Or.inr ⟨hC.2.1, Or.inr ⟨by omega, by rw [← hC.1]; first | exact Or.inl ⟨hw122, eb⟩ | exact Or.inr ⟨hv122, by rw [← eb]; exact hx.2.1⟩⟩⟩)⟩, ht⟩) (fun q h => absurd h List.not_mem_nil) dX9_most_132
              · have c122_ := i_eq c122
                have hw122 : what.toInt = 0 := by omega
                refine lv_iload hx hb dX9_most_125 (lv_at hl 7 rfl) ?_
                refine lv_goto (tgt := 132) hx hb dX9_most_127 (by decide) ?_
                subst hQ
                exact W.iret (v := best) hx hb hr (fun t ht hW => ⟨best, rfl, ⟨trivial, (fun vm hR hg => by have hC := hC9 vm hR; have hx := hx74_0 vm hR hg; have e := per_eq hR hf50; have hi : (i.toInt - 1).toNat = ((vm 22 0).toInt - 1).toNat := (by have z := hx.2.2; rw [← e] at z ⊢; omega); have eb : best = mBest vm r9 step := (by show best = mBestN vm r9 step ((vm 22 0).toInt - 1).toNat; rw [← hi]; exact hx.1); exact Or.inr ⟨hC.2.1, Or.inr ⟨by omega, by rw [← hC.1]; first | exact Or.inl ⟨hw122, eb⟩ | exact Or.inr ⟨hv122, by rw [← eb]; exact hx.2.1⟩⟩⟩)⟩, ht⟩) (fun q h => absurd h List.not_mem_nil) dX9_most_132
            · have c78_ := i_nle c78
              refine lv_aload_n hx hb dX9_most_81 rfl (lv_at hl 0 rfl) ?_
              refine va_get (D := eD E) (ci := 9) (v := .ref (a 5)) (C := RX9) (T := TX9) (N := 13) hx hb hts in_X9 hown hK hP 0 rfl rfl 5 (by decide) lk0 (fun _ h9 => h9) rfl dX9_most_82 ?_
              refine lv_iload hx hb dX9_most_85 (lv_at hl 5 rfl) ?_
              refine lv_iload_n hx hb dX9_most_87 rfl (lv_at hl 3 rfl) ?_
              refine lv_iload hx hb dX9_most_88 (lv_at hl 9 rfl) ?_
              refine lv_iadd hx hb dX9_most_90 ?_
              refine lv_topi (fun x90 e90 => ?_)
              have t90 := i_add e90 (by omega)
              refine lv_iconst (v := (-1)) hx hb dX9_most_91 (by decide) ?_
              refine rd_V (As := [.int r9, .int x90, .int (-1)]) (rest := []) (C := RX8) (ci := 8) ⟨hx, hb, hml, hown, hts⟩ (c_X8_pullAt l E A (a 5) ap vp as_ vs r9 x90 (-1) hI hJ (by omega) (by omega)) (cwV 3 hts gX9_most_X8_pullAt rfl rfl rfl (by decide +kernel) ⟨Nat.le_of_ble_eq_true rfl, Nat.le_of_ble_eq_true rfl⟩) hE (hP.sub (ws' := wpsL E (a 5) ap vp as_ vs) [5, 6, 7, 8, 9, 10, 11, 12, 13, 14, 15, 16, 17, 18, 19, 20, 21, 22, 23, 24, 25, 26, 27, 28, 29, 30, 31, 32, 33, 34, 35, 36, 37, 38] rfl) rfl rfl rfl rfl hl.1 rfl (Nat.le_of_ble_eq_true rfl) dX9_most_92 ⟨Nat.zero_le _, Nat.zero_le _⟩ (fun r92 h92 => ?_)
              have hf92 := h92.2
              replace h92 := h92.1
              refine lv_istore (lv' := [(10, .int r92), (0, .ref (a 99)), (1, .int x), (2, .int y), (3, .int step), (4, .int what), (5, .int r9), (6, .int r50), (7, .int best), (8, .int gr), (9, .int i)]) hx hb dX9_most_95 hl (by decide) rfl (fun ls hl => ?_)
              refine lv_iload hx hb dX9_most_97 (lv_at hl 0 rfl) ?_
              refine lv_iload hx hb dX9_most_99 (lv_at hl 9 rfl) ?_
              refine lv_icmp_le (tgt := 114) hx hb dX9_most_101 (by decide) (fun c101 => ?_) (fun c101 => ?_)
              · have c101_ := i_le c101
                obtain ⟨x114, e114⟩ : ∃ y : Int32, y = i + 1 := ⟨_, rfl⟩
                refine lv_iinc (v := x114) (lv' := [(9, .int x114), (10, .int r92), (0, .ref (a 99)), (1, .int x), (2, .int y), (3, .int step), (4, .int what), (5, .int r9), (6, .int r50), (7, .int best), (8, .int gr)]) hx hb dX9_most_114 hl (k := 10) rfl (by rw [e114]; rfl) (by decide) rfl (fun ls hl => ?_)
                have t114 := i_add e114 (by omega)
                refine lv_goto (tgt := 74) hx hb dX9_most_117 (by decide) ?_
                exact ih74 best gr x114 ls (by omega) (by omega) (fun vm hR hg => by have hx := hx74_0 vm hR hg; have hp := hf92 vm hR hg (hC9 vm hR).2.2; have e := per_eq hR hf50; exact ⟨best_next hx.1 (by omega) t114 e90 (by rw [← hx.2.1, ← hp, if_neg (Int32.not_lt.mpr c101)]), hx.2.1, by rw [← e]; omega⟩) (lv_sub hl [2, 3, 4, 5, 6, 7, 8, 9, 10, 0] rfl)
              · have c101_ := i_nle c101
                refine lv_iload hx hb dX9_most_104 (lv_at hl 0 rfl) ?_
                refine lv_istore (lv' := [(8, .int r92), (10, .int r92), (0, .ref (a 99)), (1, .int x), (2, .int y), (3, .int step), (4, .int what), (5, .int r9), (6, .int r50), (7, .int best), (9, .int i)]) hx hb dX9_most_106 hl (by decide) rfl (fun ls hl => ?_)
                refine lv_iload_n hx hb dX9_most_108 rfl (lv_at hl 5 rfl) ?_
                refine lv_iload hx hb dX9_most_109 (lv_at hl 10 rfl) ?_
                refine lv_iadd hx hb dX9_most_111 ?_
                refine lv_topi (fun x111 e111 => ?_)
                have t111 := i_add e111 (by omega)
                refine lv_istore (lv' := [(7, .int x111), (8, .int r92), (10, .int r92), (0, .ref (a 99)), (1, .int x), (2, .int y), (3, .int step), (4, .int what), (5, .int r9), (6, .int r50), (9, .int i)]) hx hb dX9_most_112 hl (by decide) rfl (fun ls hl => ?_)
                obtain ⟨x114, e114⟩ : ∃ y : Int32, y = i + 1 := ⟨_, rfl⟩
                refine lv_iinc (v := x114) (lv' := [(9, .int x114), (7, .int x111), (8, .int r92), (10, .int r92), (0, .ref (a 99)), (1, .int x), (2, .int y), (3, .int step), (4, .int what), (5, .int r9), (6, .int r50)]) hx hb dX9_most_114 hl (k := 10) rfl (by rw [e114]; rfl) (by decide) rfl (fun ls hl => ?_)
                have t114 := i_add e114 (by omega)
                refine lv_goto (tgt := 74) hx hb dX9_most_117 (by decide) ?_
                exact ih74 x111 r92 x114 ls (by omega) (by omega) (fun vm hR hg => by have hx := hx74_0 vm hR hg; have hp := hf92 vm hR hg (hC9 vm hR).2.2; have ex : x111 = x90 := (by rw [e111, e90]); have e := per_eq hR hf50; rw [ex]; exact ⟨best_next hx.1 (by omega) t114 e90 (by rw [← hx.2.1, ← hp, if_pos (Int32.not_le.mp c101)]), hp, by rw [← e]; omega⟩) (lv_sub hl [4, 5, 6, 7, 8, 9, 10, 1, 2, 0] rfl)
        exact K74 _ step r66 1 ls (Nat.lt_succ_self _) (by omega) (fun vm hR hg => ⟨by rw [n_1]; rfl, hf66 vm hR hg (hC9 vm hR).2.2, by rw [n_1]; exact hR.2.2.2.1.2.1.2.2.2.2.2.1⟩) (lv_sub hl [5, 6, 7, 8, 9, 4, 3, 2, 1, 0] rfl)
      · have c37_ := i_ne c37
        replace h34 := or_y h34 c37_
        clear c37_
        refine lv_ldc hx hb hown lk2 dX9_most_40 ?_
        subst hQ
        exact W.iret (v := (-1000000002)) hx hb hr (fun t ht hW => ⟨(-1000000002), rfl, ⟨trivial, (fun vm hR hg => Or.inr ⟨(hC9 vm hR).2.1, Or.inl ⟨by omega, by omega⟩⟩)⟩, ht⟩) (fun q h => absurd h List.not_mem_nil) dX9_most_42
  · have c17_ := i_eq c17
    clear h9
    refine lv_ldc hx hb hown lk3 dX9_most_20 ?_
    subst hQ
    exact W.iret (v := (-1000000001)) hx hb hr (fun t ht hW => ⟨(-1000000001), rfl, ⟨trivial, (fun vm hR hg => Or.inl ⟨by omega, (by rw [← hR.1.1.1, ← hR.1.1.2.1]; unfold inG; omega)⟩)⟩, ht⟩) (fun q h => absurd h List.not_mem_nil) dX9_most_22
def rm_X9_bell : Room := { frames := 4, cells := 0, slots := 0, locals := 98 }
set_option maxHeartbeats 4000000 in
set_option maxRecDepth 100000 in
theorem c_X9_bell (l : Launch) (E : Ev) (A : Nat → Prop) (a : Nat → Nat) (v : Vf) (aq : Nat → Nat) (ap : Nat → Nat) (vp : Vf) (as_ : Nat → Nat) (vs : Vf) (x : Int32) (y : Int32) (lim : Int32) (step : Int32) (what : Int32) (hI : PlanI vp) (hJ : StateI vs) (hT : TgI v) : Met l yX9_bell wsX9_bell rm_X9_bell (RdP E A [.ref (a 99), .int x, .int y, .int lim, .int step, .int what] (tgsL E a v aq ap vp as_ vs)) (vp_Si (fun r => (True) ∧ (∀ vm : Vf, RW vm vp vs → (-1 : Int32) = vm 62 0 → UnkP (inG x y (vm 0 0) (vm 1 0)) r (OutP ((0 ≤ lim.toInt ∧ lim.toInt ≤ 999) ∧ (0 ≤ step.toInt ∧ step.toInt ≤ 900000) ∧ (0 ≤ what.toInt ∧ what.toInt ≤ 1)) r (BelP vm (mC vm x y) lim step what r))))) 0 0 (fun _ => False) := by
  refine Met.ofW (cc := cX9_bell) (maxL := 10) (ret := (some .int)) (by decide) rfl ?_
  intro p e s m args below meth c s₁ B hml hv
  obtain ⟨rfl, hE, hP⟩ := hv
  have hx := B.exec
  have hb := B.bytes
  have hr := B.returns
  have hts := atoms_spec (ws := wsX9_bell) B.pre
  have hown : s.vm.findClass RX9 = some m.cls := findClass_of_methodNamed B.named
  have hlocks := B.notSynchronized
  have hK := hE.1
  have in_X9 : ∀ w ∈ u_ws RX9 TX9 13, w ∈ wsX9_bell := fun w h => List.mem_cons_of_mem _ (List.mem_append_left _ (List.mem_append_left _ (List.mem_append_left _ (List.mem_append_left _ (List.mem_append_right _ h)))))
  have in_X8 : ∀ w ∈ u_ws RX8 TX8 2, w ∈ wsX9_bell := fun w h => List.mem_cons_of_mem _ (List.mem_append_left _ (List.mem_append_left _ (List.mem_append_left _ (List.mem_append_right _ h))))
  have lk0 := hts (.fieldLink RX9 43 "TidedGround" "world" "LTidedGround$World;") (List.mem_of_getElem? (i := 1) rfl)
  have lk1 := hts (.fieldLink RX9 91 "TidedGround$World" "plan" "LTidedGround$Plan;") (List.mem_of_getElem? (i := 2) rfl)
  have lk2 := hts (.constant RX9 81 (-1000000002)) (List.mem_of_getElem? (i := 4) rfl)
  have lk3 := hts (.constant RX9 161 (-1000000001)) (List.mem_of_getElem? (i := 3) rfl)
  have n_m1000000002 : ((-1000000002) : Int32).toInt = -1000000002 := by decide
  have n_m1000000001 : ((-1000000001) : Int32).toInt = -1000000001 := by decide
  have n_m1 : ((-1) : Int32).toInt = -1 := by decide
  have n_0 : (0 : Int32).toInt = 0 := by decide
  have n_1 : (1 : Int32).toInt = 1 := by decide
  have n_999 : (999 : Int32).toInt = 999 := by decide
  have hl := lv_entry ([.ref (a 99), .int x, .int y, .int lim, .int step, .int what]) (n := 10) (Nat.le_of_ble_eq_true rfl)
  rw [lg_entry_eq]
  generalize (lg_sl ([.ref (a 99), .int x, .int y, .int lim, .int step, .int what]) ++ List.replicate (10 - (lg_sl ([.ref (a 99), .int x, .int y, .int lim, .int step, .int what])).length) Slot.unset).toArray = ls at hl ⊢
  have hl : lv_has ls 10 [(0, .ref (a 99)), (1, .int x), (2, .int y), (3, .int lim), (4, .int step), (5, .int what)] := hl
  refine W_abs (fun Q hQ => ?_)
  obtain ⟨hg, hmc, hm0, hm1, hm2, hs0, hs1, hs2, hs3⟩ := id hI
  obtain ⟨hg1, hg2, hg3, hg4⟩ := id hg
  have hz0 := hm0.1
  have hz1 := hm1.1
  have hz2 := hm2.1
  have hc0 := hs0.1
  have hc1 := hs1.1
  have hc2 := hs2.1
  have hc3 := hs3.1
  obtain ⟨hj0, hj1, hj2⟩ := id hJ
  obtain ⟨hT1, hT2⟩ := id hT
  refine lv_aload_n hx hb dX9_bell_0 rfl (lv_at hl 0 rfl) ?_
  refine va_get (D := eD E) (ci := 9) (v := .ref (a 5)) (C := RX9) (T := TX9) (N := 13) hx hb hts in_X9 hown hK hP 0 rfl rfl 5 (by decide) lk0 (fun _ h9 => h9) rfl dX9_bell_1 ?_
  refine va_get (D := eD E) (ci := 8) (v := .ref (ap 0)) (C := RX8) (T := TX8) (N := 2) hx hb hts in_X8 hown hK hP 5 rfl rfl 0 (by decide) lk1 (fun _ h9 => h9) rfl dX9_bell_4 ?_
  refine lv_iload_n hx hb dX9_bell_7 rfl (lv_at hl 1 rfl) ?_
  refine lv_iload_n hx hb dX9_bell_8 rfl (lv_at hl 2 rfl) ?_
  refine rd_V (As := [.int x, .int y]) (rest := []) (C := RX1) (ci := 1) ⟨hx, hb, hml, hown, hts⟩ (c_X1_cellAt l E A ap vp x y hI) (cwV 2 hts gX9_bell_X1_cellAt rfl rfl rfl (by decide +kernel) ⟨Nat.le_of_ble_eq_true rfl, Nat.le_of_ble_eq_true rfl⟩) hE (hP.sub (ws' := planL E ap vp) [6, 7, 8, 9, 10, 11, 12, 13, 14, 15, 16, 17, 18, 19, 20, 21, 22, 23, 24, 25, 26, 27, 28, 29, 30, 31, 32, 33, 34] rfl) rfl rfl rfl rfl hl.1 rfl (Nat.le_of_ble_eq_true rfl) dX9_bell_9 ⟨Nat.zero_le _, Nat.zero_le _⟩ (fun r9 h9 => ?_)
  have hf9 := h9.2
  replace h9 := h9.1
  have hm9 : y.toInt < 0 ∨ 0 ≤ (vp 0 0).toInt * y.toInt := (Int.lt_or_le y.toInt 0).imp id (fun q => Int.mul_nonneg (by omega) q)
  refine lv_istore (lv' := [(6, .int r9), (0, .ref (a 99)), (1, .int x), (2, .int y), (3, .int lim), (4, .int step), (5, .int what)]) hx hb dX9_bell_12 hl (by decide) rfl (fun ls hl => ?_)
  refine lv_iload hx hb dX9_bell_14 (lv_at hl 0 rfl) ?_
  refine lv_iconst (v := (-1)) hx hb dX9_bell_16 (by decide) ?_
  refine lv_icmp_ne (tgt := 23) hx hb dX9_bell_17 (by decide) (fun c17 => ?_) (fun c17 => ?_)
  · have c17_ := i_ne c17
    replace h9 := cm_n h9 c17_
    clear c17_
    have sv23_r9 : 0 ≤ r9.toInt ∧ r9.toInt ≤ 23 := by omega
    have hcel : inG x y (vp 0 0) (vp 1 0) := (by unfold inG; omega)
    have hr9 : r9.toInt = (vp 0 0).toInt * y.toInt + x.toInt := by omega
    have hC9 : ∀ vm : Vf, RW vm vp vs → r9 = mC vm x y ∧ inG x y (vm 0 0) (vm 1 0) ∧ cW vm r9 := fun vm hR => by have hG := hR.2.2.2.1.1; have q := mC_eq hG hR.1.1.1 hR.1.1.2.1 hcel hr9; have i := hcel; rw [hR.1.1.1, hR.1.1.2.1] at i; exact ⟨q, i, by rw [q]; exact mC_cW hG i⟩
    clear hf9 hm9
    refine lv_iload_n hx hb dX9_bell_23 rfl (lv_at hl 4 rfl) ?_
    refine lv_iconst (v := 0) hx hb dX9_bell_24 (by decide) ?_
    refine lv_sipush (v := 999) hx hb dX9_bell_25 (by decide) ?_
    refine rd_S (As := [.int lim, .int 0, .int 999]) (rest := []) ⟨hx, hb, hml, hown, hts⟩ (c_X9_isOff l E A lim 0 999) (va_cwS 3 hts gX9_bell_X9_isOff rfl rfl rfl (by decide +kernel) ⟨Nat.le_of_ble_eq_true rfl, Nat.le_of_ble_eq_true rfl⟩) hE (hP.sub (ws' := []) [] rfl) rfl hl.1 rfl (Nat.le_of_ble_eq_true rfl) dX9_bell_28 ⟨Nat.zero_le _, Nat.zero_le _⟩ (fun r28 h28 => ?_)
    refine lv_if_ne (tgt := 52) hx hb dX9_bell_31 (by decide) (fun c31 => ?_) (fun c31 => ?_)
    · have c31_ := i_ne c31
      replace h28 := or_y h28 c31_
      clear c31_
      refine lv_ldc hx hb hown lk2 dX9_bell_52 ?_
      subst hQ
      exact W.iret (v := (-1000000002)) hx hb hr (fun t ht hW => ⟨(-1000000002), rfl, ⟨trivial, (fun vm hR hg => Or.inr ⟨(hC9 vm hR).2.1, Or.inl ⟨by omega, by omega⟩⟩)⟩, ht⟩) (fun q h => absurd h List.not_mem_nil) dX9_bell_54
    · have c31_ := i_eq c31
      replace h28 := or_n h28 c31_
      refine lv_iload hx hb dX9_bell_34 (lv_at hl 5 rfl) ?_
      refine rd_S (As := [.int step]) (rest := []) ⟨hx, hb, hml, hown, hts⟩ (c_X9_isNoStep l E A step) (va_cwS 1 hts gX9_bell_X9_isNoStep rfl rfl rfl (by decide +kernel) ⟨Nat.le_of_ble_eq_true rfl, Nat.le_of_ble_eq_true rfl⟩) hE (hP.sub (ws' := []) [] rfl) rfl hl.1 rfl (Nat.le_of_ble_eq_true rfl) dX9_bell_36 ⟨Nat.zero_le _, Nat.zero_le _⟩ (fun r36 h36 => ?_)
      refine lv_if_ne (tgt := 52) hx hb dX9_bell_39 (by decide) (fun c39 => ?_) (fun c39 => ?_)
      · have c39_ := i_ne c39
        replace h36 := or_y h36 c39_
        clear c39_
        refine lv_ldc hx hb hown lk2 dX9_bell_52 ?_
        subst hQ
        exact W.iret (v := (-1000000002)) hx hb hr (fun t ht hW => ⟨(-1000000002), rfl, ⟨trivial, (fun vm hR hg => Or.inr ⟨(hC9 vm hR).2.1, Or.inl ⟨by omega, by omega⟩⟩)⟩, ht⟩) (fun q h => absurd h List.not_mem_nil) dX9_bell_54
      · have c39_ := i_eq c39
        replace h36 := or_n h36 c39_
        refine lv_iload hx hb dX9_bell_42 (lv_at hl 6 rfl) ?_
        refine lv_iconst (v := 0) hx hb dX9_bell_44 (by decide) ?_
        refine lv_iconst (v := 1) hx hb dX9_bell_45 (by decide) ?_
        refine rd_S (As := [.int what, .int 0, .int 1]) (rest := []) ⟨hx, hb, hml, hown, hts⟩ (c_X9_isOff l E A what 0 1) (va_cwS 3 hts gX9_bell_X9_isOff rfl rfl rfl (by decide +kernel) ⟨Nat.le_of_ble_eq_true rfl, Nat.le_of_ble_eq_true rfl⟩) hE (hP.sub (ws' := []) [] rfl) rfl hl.1 rfl (Nat.le_of_ble_eq_true rfl) dX9_bell_46 ⟨Nat.zero_le _, Nat.zero_le _⟩ (fun r46 h46 => ?_)
        refine lv_if_eq (tgt := 55) hx hb dX9_bell_49 (by decide) (fun c49 => ?_) (fun c49 => ?_)
        · have c49_ := i_eq c49
          replace h46 := or_n h46 c49_
          have sv55_step : 0 ≤ step.toInt ∧ step.toInt ≤ 900000 := by omega
          refine lv_aload_n hx hb dX9_bell_55 rfl (lv_at hl 1 rfl) ?_
          refine va_get (D := eD E) (ci := 9) (v := .ref (a 5)) (C := RX9) (T := TX9) (N := 13) hx hb hts in_X9 hown hK hP 0 rfl rfl 5 (by decide) lk0 (fun _ h9 => h9) rfl dX9_bell_56 ?_
          refine va_get (D := eD E) (ci := 8) (v := .ref (ap 0)) (C := RX8) (T := TX8) (N := 2) hx hb hts in_X8 hown hK hP 5 rfl rfl 0 (by decide) lk1 (fun _ h9 => h9) rfl dX9_bell_59 ?_
          refine rd_V (As := []) (rest := []) (C := RX1) (ci := 1) ⟨hx, hb, hml, hown, hts⟩ (c_X1_period l E A ap vp hI) (cwV 0 hts gX9_bell_X1_period rfl rfl rfl (by decide +kernel) ⟨Nat.le_of_ble_eq_true rfl, Nat.le_of_ble_eq_true rfl⟩) hE (hP.sub (ws' := planL E ap vp) [6, 7, 8, 9, 10, 11, 12, 13, 14, 15, 16, 17, 18, 19, 20, 21, 22, 23, 24, 25, 26, 27, 28, 29, 30, 31, 32, 33, 34] rfl) rfl rfl rfl rfl hl.1 rfl (Nat.le_of_ble_eq_true rfl) dX9_bell_62 ⟨Nat.zero_le _, Nat.zero_le _⟩ (fun r62 h62 => ?_)
          have hf62 := h62.2
          replace h62 := h62.1
          refine lv_istore (lv' := [(7, .int r62), (6, .int r9), (0, .ref (a 99)), (1, .int x), (2, .int y), (3, .int lim), (4, .int step), (5, .int what)]) hx hb dX9_bell_65 hl (by decide) rfl (fun ls hl => ?_)
          refine lv_iconst (v := 0) hx hb dX9_bell_67 (by decide) ?_
          refine lv_istore (lv' := [(8, .int 0), (7, .int r62), (6, .int r9), (0, .ref (a 99)), (1, .int x), (2, .int y), (3, .int lim), (4, .int step), (5, .int what)]) hx hb dX9_bell_68 hl (by decide) rfl (fun ls hl => ?_)
          refine lv_iconst (v := 0) hx hb dX9_bell_70 (by decide) ?_
          refine lv_istore (lv' := [(9, .int 0), (8, .int 0), (7, .int r62), (6, .int r9), (0, .ref (a 99)), (1, .int x), (2, .int y), (3, .int lim), (4, .int step), (5, .int what)]) hx hb dX9_bell_71 hl (by decide) rfl (fun ls hl => ?_)
          have K73 : ∀ (μ : Nat) (rg : Int32) (i : Int32) (ls : Array Slot), (729 - i.toInt).toNat < μ → (0 ≤ i.toInt ∧ i.toInt ≤ 729) → (∀ vm : Vf, RW vm vp vs → (-1 : Int32) = vm 62 0 → ((what.toInt = 0 → ∀ j : Nat, (j : Int) < i.toInt → ¬ lim < mLean vm r9 (step + Int32.ofNat j)) ∧ rg = mRgN vm r9 lim step i.toNatClampNeg ∧ i.toInt ≤ (vm 22 0).toInt)) → lv_has ls 10 [(0, .ref (a 99)), (1, .int x), (2, .int y), (3, .int lim), (4, .int step), (5, .int what), (6, .int r9), (7, .int r62), (8, .int rg), (9, .int i)] → W p l e (headSpec wsX9_bell rm_X9_bell).room s m ([.ref (a 99), .int x, .int y, .int lim, .int step, .int what] : List Value).toArray below meth c s.heap [] 0 0 Q (F0 m 73 ls []) := by
            intro μ
            induction μ with
            | zero =>
              intro rg i ls hμ73
              exact absurd hμ73 (Nat.not_lt_zero _)
            | succ μ ih73 =>
              intro rg i ls hμ73 h73_0 h73_1 hl
              have hx73_0 := h73_1
              clear h73_1
              refine lv_iload hx hb dX9_bell_73 (lv_at hl 9 rfl) ?_
              refine lv_iload hx hb dX9_bell_75 (lv_at hl 7 rfl) ?_
              refine lv_icmp_ge (tgt := 116) hx hb dX9_bell_77 (by decide) (fun c77 => ?_) (fun c77 => ?_)
              · have c77_ := i_le c77
                refine lv_iload hx hb dX9_bell_116 (lv_at hl 5 rfl) ?_
                refine lv_if_ne (tgt := 125) hx hb dX9_bell_118 (by decide) (fun c118 => ?_) (fun c118 => ?_)
                · have c118_ := i_ne c118
                  have hv118 : what.toInt = 1 := by omega
                  refine lv_iload hx hb dX9_bell_125 (lv_at hl 8 rfl) ?_
                  subst hQ
                  exact W.iret (v := rg) hx hb hr (fun t ht hW => ⟨rg, rfl, ⟨trivial, (fun vm hR hg => by have hC := hC9 vm hR; have hx := hx73_0 vm hR hg; have e := per_eq hR hf62; exact Or.inr ⟨hC.2.1, Or.inr ⟨by omega, by rw [← hC.1]; have ei : i = vm 22 0 := i_eqr (by have z := hx.2.2; rw [← e] at z ⊢; omega); first | exact Or.inr ⟨hv118, by rw [← ei]; exact hx.2.1⟩ | exact Or.inl ⟨hw118, nxs_end (T := (fun q => lim < mLean vm r9 q)) (hx.1 hw118) (by rw [← ei]; omega) (by omega)⟩⟩⟩)⟩, ht⟩) (fun q h => absurd h List.not_mem_nil) dX9_bell_127
                · have c118_ := i_eq c118
                  have hw118 : what.toInt = 0 := by omega
                  refine lv_iconst (v := (-1)) hx hb dX9_bell_121 (by decide) ?_
                  refine lv_goto (tgt := 127) hx hb dX9_bell_122 (by decide) ?_
                  subst hQ
                  exact W.iret (v := (-1)) hx hb hr (fun t ht hW => ⟨(-1), rfl, ⟨trivial, (fun vm hR hg => by have hC := hC9 vm hR; have hx := hx73_0 vm hR hg; have e := per_eq hR hf62; exact Or.inr ⟨hC.2.1, Or.inr ⟨by omega, by rw [← hC.1]; have ei : i = vm 22 0 := i_eqr (by have z := hx.2.2; rw [← e] at z ⊢; omega); first | exact Or.inr ⟨hv118, by rw [← ei]; exact hx.2.1⟩ | exact Or.inl ⟨hw118, nxs_end (T := (fun q => lim < mLean vm r9 q)) (hx.1 hw118) (by rw [← ei]; omega) (by omega)⟩⟩⟩)⟩, ht⟩) (fun q h => absurd h List.not_mem_nil) dX9_bell_127
              · have c77_ := i_nle c77
                refine lv_aload_n hx hb dX9_bell_80 rfl (lv_at hl 0 rfl) ?_
                refine va_get (D := eD E) (ci := 9) (v := .ref (a 5)) (C := RX9) (T := TX9) (N := 13) hx hb hts in_X9 hown hK hP 0 rfl rfl 5 (by decide) lk0 (fun _ h9 => h9) rfl dX9_bell_81 ?_
                refine lv_iload hx hb dX9_bell_84 (lv_at hl 6 rfl) ?_
                refine lv_iload hx hb dX9_bell_86 (lv_at hl 4 rfl) ?_
                refine lv_iload hx hb dX9_bell_88 (lv_at hl 9 rfl) ?_
                refine lv_iadd hx hb dX9_bell_90 ?_
                refine lv_topi (fun x90 e90 => ?_)
                have t90 := i_add e90 (by omega)
                refine lv_iconst (v := (-1)) hx hb dX9_bell_91 (by decide) ?_
                refine rd_V (As := [.int r9, .int x90, .int (-1)]) (rest := []) (C := RX8) (ci := 8) ⟨hx, hb, hml, hown, hts⟩ (c_X8_leanAt l E A (a 5) ap vp as_ vs r9 x90 (-1) hI hJ (by omega) (by omega)) (cwV 3 hts gX9_bell_X8_leanAt rfl rfl rfl (by decide +kernel) ⟨Nat.le_of_ble_eq_true rfl, Nat.le_of_ble_eq_true rfl⟩) hE (hP.sub (ws' := wpsL E (a 5) ap vp as_ vs) [5, 6, 7, 8, 9, 10, 11, 12, 13, 14, 15, 16, 17, 18, 19, 20, 21, 22, 23, 24, 25, 26, 27, 28, 29, 30, 31, 32, 33, 34, 35, 36, 37, 38] rfl) rfl rfl rfl rfl hl.1 rfl (Nat.le_of_ble_eq_true rfl) dX9_bell_92 ⟨Nat.zero_le _, Nat.zero_le _⟩ (fun r92 h92 => ?_)
                have hf92 := h92.2
                replace h92 := h92.1
                refine lv_iload_n hx hb dX9_bell_95 rfl (lv_at hl 3 rfl) ?_
                refine lv_icmp_le (tgt := 110) hx hb dX9_bell_96 (by decide) (fun c96 => ?_) (fun c96 => ?_)
                · have c96_ := i_le c96
                  obtain ⟨x110, e110⟩ : ∃ y : Int32, y = i + 1 := ⟨_, rfl⟩
                  refine lv_iinc (v := x110) (lv' := [(9, .int x110), (0, .ref (a 99)), (1, .int x), (2, .int y), (3, .int lim), (4, .int step), (5, .int what), (6, .int r9), (7, .int r62), (8, .int rg)]) hx hb dX9_bell_110 hl (k := 9) rfl (by rw [e110]; rfl) (by decide) rfl (fun ls hl => ?_)
                  have t110 := i_add e110 (by omega)
                  refine lv_goto (tgt := 73) hx hb dX9_bell_113 (by decide) ?_
                  exact ih73 rg x110 ls (by omega) (by omega) (fun vm hR hg => by have hx := hx73_0 vm hR hg; have hp := hf92 vm hR hg (hC9 vm hR).2.2; have e := per_eq hR hf62; exact ⟨fun hw => nxs_no (T := (fun q => lim < mLean vm r9 q)) (hx.1 hw) (by omega) t110 e90 (by show ¬ lim < mLean vm r9 x90; rw [← hp]; exact Int32.not_lt.mpr c96), rg_next hx.2.1 (by omega) t110 e90 (by rw [← hp, if_neg (Int32.not_lt.mpr c96)]), by rw [← e]; omega⟩) (lv_sub hl [1, 2, 3, 4, 5, 6, 7, 8, 9, 0] rfl)
                · have c96_ := i_nle c96
                  refine lv_iload hx hb dX9_bell_99 (lv_at hl 5 rfl) ?_
                  refine lv_if_ne (tgt := 107) hx hb dX9_bell_101 (by decide) (fun c101 => ?_) (fun c101 => ?_)
                  · have c101_ := i_ne c101
                    obtain ⟨x107, e107⟩ : ∃ y : Int32, y = rg + 1 := ⟨_, rfl⟩
                    refine lv_iinc (v := x107) (lv' := [(8, .int x107), (0, .ref (a 99)), (1, .int x), (2, .int y), (3, .int lim), (4, .int step), (5, .int what), (6, .int r9), (7, .int r62), (9, .int i)]) hx hb dX9_bell_107 hl (k := 8) rfl (by rw [e107]; rfl) (by decide) rfl (fun ls hl => ?_)
                    obtain ⟨x110, e110⟩ : ∃ y : Int32, y = i + 1 := ⟨_, rfl⟩
                    refine lv_iinc (v := x110) (lv' := [(9, .int x110), (8, .int x107), (0, .ref (a 99)), (1, .int x), (2, .int y), (3, .int lim), (4, .int step), (5, .int what), (6, .int r9), (7, .int r62)]) hx hb dX9_bell_110 hl (k := 9) rfl (by rw [e110]; rfl) (by decide) rfl (fun ls hl => ?_)
                    have t110 := i_add e110 (by omega)
                    refine lv_goto (tgt := 73) hx hb dX9_bell_113 (by decide) ?_
                    exact ih73 x107 x110 ls (by omega) (by omega) (fun vm hR hg => by have hx := hx73_0 vm hR hg; have hp := hf92 vm hR hg (hC9 vm hR).2.2; have e := per_eq hR hf62; exact ⟨fun hw => absurd hw (by omega), rg_next hx.2.1 (by omega) t110 e90 (by rw [← hp, if_pos (Int32.not_le.mp c96)]; exact e107), by rw [← e]; omega⟩) (lv_sub hl [2, 3, 4, 5, 6, 7, 8, 9, 1, 0] rfl)
                  · have c101_ := i_eq c101
                    refine lv_iload hx hb dX9_bell_104 (lv_at hl 9 rfl) ?_
                    subst hQ
                    exact W.iret (v := i) hx hb hr (fun t ht hW => ⟨i, rfl, ⟨trivial, (fun vm hR hg => by have hC := hC9 vm hR; have hx := hx73_0 vm hR hg; have e := per_eq hR hf62; exact Or.inr ⟨hC.2.1, Or.inr ⟨by omega, by rw [← hC.1]; exact Or.inl ⟨by omega, nxs_at (T := (fun q => lim < mLean vm r9 q)) (hx.1 (by omega)) (by omega) (by rw [← e]; omega) e90 (by show lim < mLean vm r9 x90; rw [← hf92 vm hR hg hC.2.2]; exact Int32.not_le.mp c96)⟩⟩⟩)⟩, ht⟩) (fun q h => absurd h List.not_mem_nil) dX9_bell_106
          exact K73 _ 0 0 ls (Nat.lt_succ_self _) (by omega) (fun vm hR hg => ⟨fun _ j hj => absurd hj (by rw [n_0]; omega), rfl, by rw [n_0]; have z := hR.2.2.2.1.2.1.2.2.2.2.2.1; omega⟩) (lv_sub hl [4, 5, 6, 7, 8, 9, 3, 2, 1, 0] rfl)
        · have c49_ := i_ne c49
          replace h46 := or_y h46 c49_
          clear c49_
          refine lv_ldc hx hb hown lk2 dX9_bell_52 ?_
          subst hQ
          exact W.iret (v := (-1000000002)) hx hb hr (fun t ht hW => ⟨(-1000000002), rfl, ⟨trivial, (fun vm hR hg => Or.inr ⟨(hC9 vm hR).2.1, Or.inl ⟨by omega, by omega⟩⟩)⟩, ht⟩) (fun q h => absurd h List.not_mem_nil) dX9_bell_54
  · have c17_ := i_eq c17
    clear h9
    refine lv_ldc hx hb hown lk3 dX9_bell_20 ?_
    subst hQ
    exact W.iret (v := (-1000000001)) hx hb hr (fun t ht hW => ⟨(-1000000001), rfl, ⟨trivial, (fun vm hR hg => Or.inl ⟨by omega, (by rw [← hR.1.1.1, ← hR.1.1.2.1]; unfold inG; omega)⟩)⟩, ht⟩) (fun q h => absurd h List.not_mem_nil) dX9_bell_22
def rm_X9_breaks : Room := { frames := 6, cells := 0, slots := 0, locals := 142 }
set_option maxHeartbeats 4000000 in
set_option maxRecDepth 100000 in
theorem c_X9_breaks (l : Launch) (E : Ev) (A : Nat → Prop) (a : Nat → Nat) (v : Vf) (aq : Nat → Nat) (ap : Nat → Nat) (vp : Vf) (as_ : Nat → Nat) (vs : Vf) (step : Int32) (what : Int32) (hI : PlanI vp) (hJ : StateI vs) (hT : TgI v) : Met l yX9_breaks wsX9_breaks rm_X9_breaks (RdP E A [.ref (a 99), .int step, .int what] (tgsL E a v aq ap vp as_ vs)) (vp_Si (fun r => (True) ∧ (∀ vm : Vf, RW vm vp vs → (-1 : Int32) = vm 62 0 → OutP ((0 ≤ step.toInt ∧ step.toInt ≤ 900000) ∧ (0 ≤ what.toInt ∧ what.toInt ≤ 1)) r (BrkR vm step what r)))) 0 0 (fun _ => False) := by
  refine Met.ofW (cc := cX9_breaks) (maxL := 6) (ret := (some .int)) (by decide) rfl ?_
  intro p e s m args below meth c s₁ B hml hv
  obtain ⟨rfl, hE, hP⟩ := hv
  have hx := B.exec
  have hb := B.bytes
  have hr := B.returns
  have hts := atoms_spec (ws := wsX9_breaks) B.pre
  have hown : s.vm.findClass RX9 = some m.cls := findClass_of_methodNamed B.named
  have hlocks := B.notSynchronized
  have hK := hE.1
  have in_X9 : ∀ w ∈ u_ws RX9 TX9 13, w ∈ wsX9_breaks := fun w h => List.mem_cons_of_mem _ (List.mem_append_left _ (List.mem_append_left _ (List.mem_append_left _ (List.mem_append_left _ (List.mem_append_left _ (List.mem_append_right _ h))))))
  have in_X8 : ∀ w ∈ u_ws RX8 TX8 2, w ∈ wsX9_breaks := fun w h => List.mem_cons_of_mem _ (List.mem_append_left _ (List.mem_append_left _ (List.mem_append_left _ (List.mem_append_left _ (List.mem_append_right _ h)))))
  have lk0 := hts (.constant RX9 81 (-1000000002)) (List.mem_of_getElem? (i := 1) rfl)
  have lk1 := hts (.fieldLink RX9 43 "TidedGround" "world" "LTidedGround$World;") (List.mem_of_getElem? (i := 2) rfl)
  have lk2 := hts (.fieldLink RX9 91 "TidedGround$World" "plan" "LTidedGround$Plan;") (List.mem_of_getElem? (i := 3) rfl)
  have n_m1000000002 : ((-1000000002) : Int32).toInt = -1000000002 := by decide
  have n_m1 : ((-1) : Int32).toInt = -1 := by decide
  have n_0 : (0 : Int32).toInt = 0 := by decide
  have n_1 : (1 : Int32).toInt = 1 := by decide
  have hl := lv_entry ([.ref (a 99), .int step, .int what]) (n := 6) (Nat.le_of_ble_eq_true rfl)
  rw [lg_entry_eq]
  generalize (lg_sl ([.ref (a 99), .int step, .int what]) ++ List.replicate (6 - (lg_sl ([.ref (a 99), .int step, .int what])).length) Slot.unset).toArray = ls at hl ⊢
  have hl : lv_has ls 6 [(0, .ref (a 99)), (1, .int step), (2, .int what)] := hl
  refine W_abs (fun Q hQ => ?_)
  obtain ⟨hg, hmc, hm0, hm1, hm2, hs0, hs1, hs2, hs3⟩ := id hI
  obtain ⟨hg1, hg2, hg3, hg4⟩ := id hg
  have hz0 := hm0.1
  have hz1 := hm1.1
  have hz2 := hm2.1
  have hc0 := hs0.1
  have hc1 := hs1.1
  have hc2 := hs2.1
  have hc3 := hs3.1
  obtain ⟨hj0, hj1, hj2⟩ := id hJ
  obtain ⟨hT1, hT2⟩ := id hT
  refine lv_iload_n hx hb dX9_breaks_0 rfl (lv_at hl 1 rfl) ?_
  refine rd_S (As := [.int step]) (rest := []) ⟨hx, hb, hml, hown, hts⟩ (c_X9_isNoStep l E A step) (va_cwS 1 hts gX9_breaks_X9_isNoStep rfl rfl rfl (by decide +kernel) ⟨Nat.le_of_ble_eq_true rfl, Nat.le_of_ble_eq_true rfl⟩) hE (hP.sub (ws' := []) [] rfl) rfl hl.1 rfl (Nat.le_of_ble_eq_true rfl) dX9_breaks_1 ⟨Nat.zero_le _, Nat.zero_le _⟩ (fun r1 h1 => ?_)
  refine lv_if_ne (tgt := 16) hx hb dX9_breaks_4 (by decide) (fun c4 => ?_) (fun c4 => ?_)
  · have c4_ := i_ne c4
    replace h1 := or_y h1 c4_
    clear c4_
    refine lv_ldc hx hb hown lk0 dX9_breaks_16 ?_
    subst hQ
    exact W.iret (v := (-1000000002)) hx hb hr (fun t ht hW => ⟨(-1000000002), rfl, ⟨trivial, (fun vm hR hg => Or.inl ⟨by omega, by omega⟩)⟩, ht⟩) (fun q h => absurd h List.not_mem_nil) dX9_breaks_18
  · have c4_ := i_eq c4
    replace h1 := or_n h1 c4_
    refine lv_iload_n hx hb dX9_breaks_7 rfl (lv_at hl 2 rfl) ?_
    refine lv_iconst (v := 0) hx hb dX9_breaks_8 (by decide) ?_
    refine lv_iconst (v := 1) hx hb dX9_breaks_9 (by decide) ?_
    refine rd_S (As := [.int what, .int 0, .int 1]) (rest := []) ⟨hx, hb, hml, hown, hts⟩ (c_X9_isOff l E A what 0 1) (va_cwS 3 hts gX9_breaks_X9_isOff rfl rfl rfl (by decide +kernel) ⟨Nat.le_of_ble_eq_true rfl, Nat.le_of_ble_eq_true rfl⟩) hE (hP.sub (ws' := []) [] rfl) rfl hl.1 rfl (Nat.le_of_ble_eq_true rfl) dX9_breaks_10 ⟨Nat.zero_le _, Nat.zero_le _⟩ (fun r10 h10 => ?_)
    refine lv_if_eq (tgt := 19) hx hb dX9_breaks_13 (by decide) (fun c13 => ?_) (fun c13 => ?_)
    · have c13_ := i_eq c13
      replace h10 := or_n h10 c13_
      have sv19_step : 0 ≤ step.toInt ∧ step.toInt ≤ 900000 := by omega
      refine lv_aload_n hx hb dX9_breaks_19 rfl (lv_at hl 0 rfl) ?_
      refine va_get (D := eD E) (ci := 9) (v := .ref (a 5)) (C := RX9) (T := TX9) (N := 13) hx hb hts in_X9 hown hK hP 0 rfl rfl 5 (by decide) lk1 (fun _ h9 => h9) rfl dX9_breaks_20 ?_
      refine va_get (D := eD E) (ci := 8) (v := .ref (ap 0)) (C := RX8) (T := TX8) (N := 2) hx hb hts in_X8 hown hK hP 5 rfl rfl 0 (by decide) lk2 (fun _ h9 => h9) rfl dX9_breaks_23 ?_
      refine rd_V (As := []) (rest := []) (C := RX1) (ci := 1) ⟨hx, hb, hml, hown, hts⟩ (c_X1_period l E A ap vp hI) (cwV 0 hts gX9_breaks_X1_period rfl rfl rfl (by decide +kernel) ⟨Nat.le_of_ble_eq_true rfl, Nat.le_of_ble_eq_true rfl⟩) hE (hP.sub (ws' := planL E ap vp) [6, 7, 8, 9, 10, 11, 12, 13, 14, 15, 16, 17, 18, 19, 20, 21, 22, 23, 24, 25, 26, 27, 28, 29, 30, 31, 32, 33, 34] rfl) rfl rfl rfl rfl hl.1 rfl (Nat.le_of_ble_eq_true rfl) dX9_breaks_26 ⟨Nat.zero_le _, Nat.zero_le _⟩ (fun r26 h26 => ?_)
      have hf26 := h26.2
      replace h26 := h26.1
      refine lv_istore_n (lv' := [(3, .int r26), (0, .ref (a 99)), (1, .int step), (2, .int what)]) hx hb dX9_breaks_29 rfl hl (by decide) rfl (fun ls hl => ?_)
      refine lv_iconst (v := 0) hx hb dX9_breaks_30 (by decide) ?_
      refine lv_istore (lv' := [(4, .int 0), (3, .int r26), (0, .ref (a 99)), (1, .int step), (2, .int what)]) hx hb dX9_breaks_31 hl (by decide) rfl (fun ls hl => ?_)
      have K33 : ∀ (μ : Nat) (i : Int32) (ls : Array Slot), (729 - i.toInt).toNat < μ → (0 ≤ i.toInt ∧ i.toInt ≤ 729) → (∀ vm : Vf, RW vm vp vs → (-1 : Int32) = vm 62 0 → NoB vm step i.toInt) → lv_has ls 6 [(0, .ref (a 99)), (1, .int step), (2, .int what), (3, .int r26), (4, .int i)] → W p l e (headSpec wsX9_breaks rm_X9_breaks).room s m ([.ref (a 99), .int step, .int what] : List Value).toArray below meth c s.heap [] 0 0 Q (F0 m 33 ls []) := by
        intro μ
        induction μ with
        | zero =>
          intro i ls hμ33
          exact absurd hμ33 (Nat.not_lt_zero _)
        | succ μ ih33 =>
          intro i ls hμ33 h33_0 h33_1 hl
          have hx33_0 := h33_1
          clear h33_1
          refine lv_iload hx hb dX9_breaks_33 (lv_at hl 4 rfl) ?_
          refine lv_iload_n hx hb dX9_breaks_35 rfl (lv_at hl 3 rfl) ?_
          refine lv_icmp_ge (tgt := 78) hx hb dX9_breaks_36 (by decide) (fun c36 => ?_) (fun c36 => ?_)
          · have c36_ := i_le c36
            refine lv_iconst (v := (-1)) hx hb dX9_breaks_78 (by decide) ?_
            subst hQ
            exact W.iret (v := (-1)) hx hb hr (fun t ht hW => ⟨(-1), rfl, ⟨trivial, (fun vm hR hg => by have e := per_eq hR hf26; exact Or.inr ⟨by omega, Or.inl ⟨by omega, fun j hj => hx33_0 vm hR hg j (by rw [← e] at hj; omega)⟩⟩)⟩, ht⟩) (fun q h => absurd h List.not_mem_nil) dX9_breaks_79
          · have c36_ := i_nle c36
            refine lv_aload_n hx hb dX9_breaks_39 rfl (lv_at hl 0 rfl) ?_
            refine va_get (D := eD E) (ci := 9) (v := .ref (a 5)) (C := RX9) (T := TX9) (N := 13) hx hb hts in_X9 hown hK hP 0 rfl rfl 5 (by decide) lk1 (fun _ h9 => h9) rfl dX9_breaks_40 ?_
            refine lv_iload_n hx hb dX9_breaks_43 rfl (lv_at hl 1 rfl) ?_
            refine lv_iload hx hb dX9_breaks_44 (lv_at hl 4 rfl) ?_
            refine lv_iadd hx hb dX9_breaks_46 ?_
            refine lv_topi (fun x46 e46 => ?_)
            have t46 := i_add e46 (by omega)
            refine rd_V (As := [.int x46]) (rest := []) (C := RX8) (ci := 8) ⟨hx, hb, hml, hown, hts⟩ (c_X8_leastBroken l E A (a 5) ap vp as_ vs x46 hI hJ (by omega)) (cwV 1 hts gX9_breaks_X8_leastBroken rfl rfl rfl (by decide +kernel) ⟨Nat.le_of_ble_eq_true rfl, Nat.le_of_ble_eq_true rfl⟩) hE (hP.sub (ws' := wpsL E (a 5) ap vp as_ vs) [5, 6, 7, 8, 9, 10, 11, 12, 13, 14, 15, 16, 17, 18, 19, 20, 21, 22, 23, 24, 25, 26, 27, 28, 29, 30, 31, 32, 33, 34, 35, 36, 37, 38] rfl) rfl rfl rfl rfl hl.1 rfl (Nat.le_of_ble_eq_true rfl) dX9_breaks_47 ⟨Nat.zero_le _, Nat.zero_le _⟩ (fun r47 h47 => ?_)
            have hf47 := h47.2
            replace h47 := h47.1
            refine lv_istore (lv' := [(5, .int r47), (0, .ref (a 99)), (1, .int step), (2, .int what), (3, .int r26), (4, .int i)]) hx hb dX9_breaks_50 hl (by decide) rfl (fun ls hl => ?_)
            refine lv_iload hx hb dX9_breaks_52 (lv_at hl 0 rfl) ?_
            refine lv_iconst (v := (-1)) hx hb dX9_breaks_54 (by decide) ?_
            refine lv_icmp_eq (tgt := 72) hx hb dX9_breaks_55 (by decide) (fun c55 => ?_) (fun c55 => ?_)
            · have c55_ := i_eq c55
              obtain ⟨x72, e72⟩ : ∃ y : Int32, y = i + 1 := ⟨_, rfl⟩
              refine lv_iinc (v := x72) (lv' := [(4, .int x72), (5, .int r47), (0, .ref (a 99)), (1, .int step), (2, .int what), (3, .int r26)]) hx hb dX9_breaks_72 hl (k := 5) rfl (by rw [e72]; rfl) (by decide) rfl (fun ls hl => ?_)
              have t72 := i_add e72 (by omega)
              refine lv_goto (tgt := 33) hx hb dX9_breaks_75 (by decide) ?_
              exact ih33 x72 ls (by omega) (by omega) (fun vm hR hg => nob_next (hx33_0 vm hR hg) (by omega) t72 e46 ((hf47 vm hR hg).elim (fun z => z.2) (fun z => absurd z.1.1 (by omega)))) (lv_sub hl [2, 3, 4, 5, 0] rfl)
            · have c55_ := i_ne c55
              refine lv_iload_n hx hb dX9_breaks_58 rfl (lv_at hl 3 rfl) ?_
              refine lv_if_ne (tgt := 69) hx hb dX9_breaks_59 (by decide) (fun c59 => ?_) (fun c59 => ?_)
              · have c59_ := i_ne c59
                have hv59 : ¬ what.toInt = 0 := by omega
                refine lv_iload hx hb dX9_breaks_69 (lv_at hl 0 rfl) ?_
                subst hQ
                exact W.iret (v := r47) hx hb hr (fun t ht hW => ⟨r47, rfl, ⟨trivial, (fun vm hR hg => by have e := per_eq hR hf26; have q := (hf47 vm hR hg).resolve_left (fun z => c55 (i_eqr (by have z1 := z.1; omega))); exact Or.inr ⟨by omega, brk_at (hx33_0 vm hR hg) q.2.1 ⟨by omega, by rw [← e]; omega⟩ q.1 e46 q.2.2 (by first | rw [if_pos hw59, e65, e46] | rw [if_neg hv59])⟩)⟩, ht⟩) (fun q h => absurd h List.not_mem_nil) dX9_breaks_71
              · have c59_ := i_eq c59
                have hw59 : what.toInt = 0 := by omega
                refine lv_iload_n hx hb dX9_breaks_62 rfl (lv_at hl 2 rfl) ?_
                refine lv_iload hx hb dX9_breaks_63 (lv_at hl 5 rfl) ?_
                refine lv_iadd hx hb dX9_breaks_65 ?_
                refine lv_topi (fun x65 e65 => ?_)
                have t65 := i_add e65 (by omega)
                refine lv_goto (tgt := 71) hx hb dX9_breaks_66 (by decide) ?_
                subst hQ
                exact W.iret (v := x65) hx hb hr (fun t ht hW => ⟨x65, rfl, ⟨trivial, (fun vm hR hg => by have e := per_eq hR hf26; have q := (hf47 vm hR hg).resolve_left (fun z => c55 (i_eqr (by have z1 := z.1; omega))); exact Or.inr ⟨by omega, brk_at (hx33_0 vm hR hg) q.2.1 ⟨by omega, by rw [← e]; omega⟩ q.1 e46 q.2.2 (by first | rw [if_pos hw59, e65, e46] | rw [if_neg hv59])⟩)⟩, ht⟩) (fun q h => absurd h List.not_mem_nil) dX9_breaks_71
      exact K33 _ 0 ls (Nat.lt_succ_self _) (by omega) (fun vm _ _ j hj => absurd hj (by rw [n_0]; omega)) (lv_sub hl [2, 3, 4, 1, 0] rfl)
    · have c13_ := i_ne c13
      replace h10 := or_y h10 c13_
      clear c13_
      refine lv_ldc hx hb hown lk0 dX9_breaks_16 ?_
      subst hQ
      exact W.iret (v := (-1000000002)) hx hb hr (fun t ht hW => ⟨(-1000000002), rfl, ⟨trivial, (fun vm hR hg => Or.inl ⟨by omega, by omega⟩)⟩, ht⟩) (fun q h => absurd h List.not_mem_nil) dX9_breaks_18
def rm_X9_props : Room := { frames := 5, cells := 0, slots := 0, locals := 122 }
set_option maxHeartbeats 4000000 in
set_option maxRecDepth 100000 in
theorem c_X9_props (l : Launch) (E : Ev) (A : Nat → Prop) (a : Nat → Nat) (v : Vf) (aq : Nat → Nat) (ap : Nat → Nat) (vp : Vf) (as_ : Nat → Nat) (vs : Vf) (size : Int32) (hI : PlanI vp) (hJ : StateI vs) (hT : TgI v) : Met l yX9_props wsX9_props rm_X9_props (RdP E A [.ref (a 99), .int size] (tgsL E a v aq ap vp as_ vs)) (vp_Si (fun r => (True) ∧ (∀ vm : Vf, RW vm vp vs → (-1 : Int32) = vm 62 0 → OutP (1 ≤ size.toInt ∧ size.toInt ≤ 20) r (r = mPrN vm size (vm 9 0).toNatClampNeg)))) 0 0 (fun _ => False) := by
  refine Met.ofW (cc := cX9_props) (maxL := 4) (ret := (some .int)) (by decide) rfl ?_
  intro p e s m args below meth c s₁ B hml hv
  obtain ⟨rfl, hE, hP⟩ := hv
  have hx := B.exec
  have hb := B.bytes
  have hr := B.returns
  have hts := atoms_spec (ws := wsX9_props) B.pre
  have hown : s.vm.findClass RX9 = some m.cls := findClass_of_methodNamed B.named
  have hlocks := B.notSynchronized
  have hK := hE.1
  have in_X9 : ∀ w ∈ u_ws RX9 TX9 13, w ∈ wsX9_props := fun w h => List.mem_cons_of_mem _ (List.mem_append_left _ (List.mem_append_left _ (List.mem_append_left _ (List.mem_append_left _ (List.mem_append_left _ (List.mem_append_right _ h))))))
  have in_X8 : ∀ w ∈ u_ws RX8 TX8 2, w ∈ wsX9_props := fun w h => List.mem_cons_of_mem _ (List.mem_append_left _ (List.mem_append_left _ (List.mem_append_left _ (List.mem_append_left _ (List.mem_append_right _ h)))))
  have in_X1 : ∀ w ∈ u_ws RX1 TX1 11, w ∈ wsX9_props := fun w h => List.mem_cons_of_mem _ (List.mem_append_left _ (List.mem_append_left _ (List.mem_append_left _ (List.mem_append_right _ h))))
  have in_X5 : ∀ w ∈ u_ws RX5 TX5 4, w ∈ wsX9_props := fun w h => List.mem_cons_of_mem _ (List.mem_append_left _ (List.mem_append_left _ (List.mem_append_right _ h)))
  have lk0 := hts (.fieldLink RX9 43 "TidedGround" "world" "LTidedGround$World;") (List.mem_of_getElem? (i := 2) rfl)
  have lk1 := hts (.fieldLink RX9 91 "TidedGround$World" "plan" "LTidedGround$Plan;") (List.mem_of_getElem? (i := 3) rfl)
  have lk2 := hts (.fieldLink RX9 122 "TidedGround$Plan" "houses" "LTidedGround$Sites;") (List.mem_of_getElem? (i := 4) rfl)
  have lk3 := hts (.fieldLink RX9 126 "TidedGround$Sites" "count" "I") (List.mem_of_getElem? (i := 5) rfl)
  have lk4 := hts (.constant RX9 81 (-1000000002)) (List.mem_of_getElem? (i := 1) rfl)
  have n_m1000000002 : ((-1000000002) : Int32).toInt = -1000000002 := by decide
  have n_0 : (0 : Int32).toInt = 0 := by decide
  have n_1 : (1 : Int32).toInt = 1 := by decide
  have n_20 : (20 : Int32).toInt = 20 := by decide
  have hl := lv_entry ([.ref (a 99), .int size]) (n := 4) (Nat.le_of_ble_eq_true rfl)
  rw [lg_entry_eq]
  generalize (lg_sl ([.ref (a 99), .int size]) ++ List.replicate (4 - (lg_sl ([.ref (a 99), .int size])).length) Slot.unset).toArray = ls at hl ⊢
  have hl : lv_has ls 4 [(0, .ref (a 99)), (1, .int size)] := hl
  refine W_abs (fun Q hQ => ?_)
  obtain ⟨hg, hmc, hm0, hm1, hm2, hs0, hs1, hs2, hs3⟩ := id hI
  obtain ⟨hg1, hg2, hg3, hg4⟩ := id hg
  have hz0 := hm0.1
  have hz1 := hm1.1
  have hz2 := hm2.1
  have hc0 := hs0.1
  have hc1 := hs1.1
  have hc2 := hs2.1
  have hc3 := hs3.1
  obtain ⟨hj0, hj1, hj2⟩ := id hJ
  obtain ⟨hT1, hT2⟩ := id hT
  refine lv_iload_n hx hb dX9_props_0 rfl (lv_at hl 1 rfl) ?_
  refine lv_iconst (v := 1) hx hb dX9_props_1 (by decide) ?_
  refine lv_bipush (v := 20) hx hb dX9_props_2 (by decide) ?_
  refine rd_S (As := [.int size, .int 1, .int 20]) (rest := []) ⟨hx, hb, hml, hown, hts⟩ (c_X9_isOff l E A size 1 20) (va_cwS 3 hts gX9_props_X9_isOff rfl rfl rfl (by decide +kernel) ⟨Nat.le_of_ble_eq_true rfl, Nat.le_of_ble_eq_true rfl⟩) hE (hP.sub (ws' := []) [] rfl) rfl hl.1 rfl (Nat.le_of_ble_eq_true rfl) dX9_props_4 ⟨Nat.zero_le _, Nat.zero_le _⟩ (fun r4 h4 => ?_)
  refine lv_if_eq (tgt := 13) hx hb dX9_props_7 (by decide) (fun c7 => ?_) (fun c7 => ?_)
  · have c7_ := i_eq c7
    replace h4 := or_n h4 c7_
    refine lv_iconst (v := 0) hx hb dX9_props_13 (by decide) ?_
    refine lv_istore_n (lv' := [(2, .int 0), (0, .ref (a 99)), (1, .int size)]) hx hb dX9_props_14 rfl hl (by decide) rfl (fun ls hl => ?_)
    refine lv_iconst (v := 0) hx hb dX9_props_15 (by decide) ?_
    refine lv_istore_n (lv' := [(3, .int 0), (2, .int 0), (0, .ref (a 99)), (1, .int size)]) hx hb dX9_props_16 rfl hl (by decide) rfl (fun ls hl => ?_)
    have K17 : ∀ (μ : Nat) (sum : Int32) (h : Int32) (ls : Array Slot), (6 - h.toInt).toNat < μ → (0 ≤ h.toInt ∧ h.toInt ≤ 6) → (∀ vm : Vf, RW vm vp vs → (-1 : Int32) = vm 62 0 → sum = mPrN vm size h.toNatClampNeg) → (h.toInt ≤ (vp 60 0).toInt) → lv_has ls 4 [(0, .ref (a 99)), (1, .int size), (2, .int sum), (3, .int h)] → W p l e (headSpec wsX9_props rm_X9_props).room s m ([.ref (a 99), .int size] : List Value).toArray below meth c s.heap [] 0 0 Q (F0 m 17 ls []) := by
      intro μ
      induction μ with
      | zero =>
        intro sum h ls hμ17
        exact absurd hμ17 (Nat.not_lt_zero _)
      | succ μ ih17 =>
        intro sum h ls hμ17 h17_0 h17_1 h17_2 hl
        have hx17_0 := h17_1
        clear h17_1
        have hx17_1 := h17_2
        clear h17_2
        refine lv_iload_n hx hb dX9_props_17 rfl (lv_at hl 3 rfl) ?_
        refine lv_aload_n hx hb dX9_props_18 rfl (lv_at hl 0 rfl) ?_
        refine va_get (D := eD E) (ci := 9) (v := .ref (a 5)) (C := RX9) (T := TX9) (N := 13) hx hb hts in_X9 hown hK hP 0 rfl rfl 5 (by decide) lk0 (fun _ h9 => h9) rfl dX9_props_19 ?_
        refine va_get (D := eD E) (ci := 8) (v := .ref (ap 0)) (C := RX8) (T := TX8) (N := 2) hx hb hts in_X8 hown hK hP 5 rfl rfl 0 (by decide) lk1 (fun _ h9 => h9) rfl dX9_props_22 ?_
        refine va_get (D := eD E) (ci := 1) (v := .ref (ap 7)) (C := RX1) (T := TX1) (N := 11) hx hb hts in_X1 hown hK hP 6 rfl rfl 7 (by decide) lk2 (fun _ h9 => h9) rfl dX9_props_25 ?_
        refine va_get (D := eD E) (ci := 5) (v := .int (vp 60 0)) (C := RX5) (T := TX5) (N := 4) hx hb hts in_X5 hown hK hP 19 rfl rfl 0 (by decide) lk3 (fun _ h9 => h9) rfl dX9_props_28 ?_
        refine lv_icmp_ge (tgt := 57) hx hb dX9_props_31 (by decide) (fun c31 => ?_) (fun c31 => ?_)
        · have c31_ := i_le c31
          refine lv_iload_n hx hb dX9_props_57 rfl (lv_at hl 2 rfl) ?_
          subst hQ
          exact W.iret (v := sum) hx hb hr (fun t ht hW => ⟨sum, rfl, ⟨trivial, (fun vm hR hg => Or.inr ⟨by omega, by rw [← show h = vm 9 0 from i_eqr (by rw [← hR.1.2.2.1.1]; omega)]; exact hx17_0 vm hR hg⟩)⟩, ht⟩) (fun q h => absurd h List.not_mem_nil) dX9_props_58
        · have c31_ := i_nle c31
          refine lv_iload_n hx hb dX9_props_34 rfl (lv_at hl 2 rfl) ?_
          refine lv_aload_n hx hb dX9_props_35 rfl (lv_at hl 0 rfl) ?_
          refine va_get (D := eD E) (ci := 9) (v := .ref (a 5)) (C := RX9) (T := TX9) (N := 13) hx hb hts in_X9 hown hK hP 0 rfl rfl 5 (by decide) lk0 (fun _ h9 => h9) rfl dX9_props_36 ?_
          refine lv_iload_n hx hb dX9_props_39 rfl (lv_at hl 3 rfl) ?_
          refine rd_V (As := [.int h]) (rest := [.int sum]) (C := RX8) (ci := 8) ⟨hx, hb, hml, hown, hts⟩ (c_X8_needOf l E A (a 5) ap vp as_ vs h hI hJ (by omega)) (cwV 1 hts gX9_props_X8_needOf rfl rfl rfl (by decide +kernel) ⟨Nat.le_of_ble_eq_true rfl, Nat.le_of_ble_eq_true rfl⟩) hE (hP.sub (ws' := wpsL E (a 5) ap vp as_ vs) [5, 6, 7, 8, 9, 10, 11, 12, 13, 14, 15, 16, 17, 18, 19, 20, 21, 22, 23, 24, 25, 26, 27, 28, 29, 30, 31, 32, 33, 34, 35, 36, 37, 38] rfl) rfl rfl rfl rfl hl.1 rfl (Nat.le_of_ble_eq_true rfl) dX9_props_40 ⟨Nat.zero_le _, Nat.zero_le _⟩ (fun r40 h40 => ?_)
          have hf40 := h40.2
          replace h40 := h40.1
          refine lv_iload_n hx hb dX9_props_43 rfl (lv_at hl 1 rfl) ?_
          refine lv_iadd hx hb dX9_props_44 ?_
          refine lv_topi (fun x44 e44 => ?_)
          refine lv_iconst (v := 1) hx hb dX9_props_45 (by decide) ?_
          refine lv_isub hx hb dX9_props_46 ?_
          refine lv_topi (fun x46 e46 => ?_)
          refine lv_iload_n hx hb dX9_props_47 rfl (lv_at hl 1 rfl) ?_
          refine lv_idiv hx hb dX9_props_48 (i_ne0 (by omega)) ?_
          refine lv_topi (fun x48 e48 => ?_)
          refine lv_iadd hx hb dX9_props_49 ?_
          refine lv_topi (fun x49 e49 => ?_)
          refine lv_istore_n (lv' := [(2, .int x49), (0, .ref (a 99)), (1, .int size), (3, .int h)]) hx hb dX9_props_50 rfl hl (by decide) rfl (fun ls hl => ?_)
          obtain ⟨x51, e51⟩ : ∃ y : Int32, y = h + 1 := ⟨_, rfl⟩
          refine lv_iinc (v := x51) (lv' := [(3, .int x51), (2, .int x49), (0, .ref (a 99)), (1, .int size)]) hx hb dX9_props_51 hl (k := 3) rfl (by rw [e51]; rfl) (by decide) rfl (fun ls hl => ?_)
          have t51 := i_add e51 (by omega)
          refine lv_goto (tgt := 17) hx hb dX9_props_54 (by decide) ?_
          exact ih17 x49 x51 ls (by omega) (by omega) (fun vm hR hg => pr_next (hx17_0 vm hR hg) (by omega) t51 (by rw [e49, e48, e46, e44, hf40 vm hR hg (by rw [← hR.1.2.2.1.1]; omega)])) (by omega) (lv_sub hl [2, 3, 1, 0] rfl)
    exact K17 _ 0 0 ls (Nat.lt_succ_self _) (by omega) (fun _ _ _ => rfl) (by rw [n_0]; omega) (lv_sub hl [2, 3, 1, 0] rfl)
  · have c7_ := i_ne c7
    replace h4 := or_y h4 c7_
    clear c7_
    refine lv_ldc hx hb hown lk4 dX9_props_10 ?_
    subst hQ
    exact W.iret (v := (-1000000002)) hx hb hr (fun t ht hW => ⟨(-1000000002), rfl, ⟨trivial, (fun vm hR hg => Or.inl ⟨by omega, by omega⟩)⟩, ht⟩) (fun q h => absurd h List.not_mem_nil) dX9_props_12
def rm_X9_soonest : Room := { frames := 6, cells := 0, slots := 0, locals := 147 }
set_option maxHeartbeats 4000000 in
set_option maxRecDepth 100000 in
theorem c_X9_soonest (l : Launch) (E : Ev) (A : Nat → Prop) (a : Nat → Nat) (v : Vf) (aq : Nat → Nat) (ap : Nat → Nat) (vp : Vf) (as_ : Nat → Nat) (vs : Vf) (x : Int32) (y : Int32) (step : Int32) (hI : PlanI vp) (hJ : StateI vs) (hT : TgI v) : Met l yX9_soonest wsX9_soonest rm_X9_soonest (RdP E A [.ref (a 99), .int x, .int y, .int step] (tgsL E a v aq ap vp as_ vs)) (vp_Si (fun r => (True) ∧ (∀ vm : Vf, RW vm vp vs → (-1 : Int32) = vm 62 0 → UnkP (0 ≤ (mOP vm x).toInt ∧ 0 ≤ (mOP vm y).toInt) r (OutP (0 ≤ step.toInt ∧ step.toInt ≤ 900000) r (SoP vm (mOP vm x) (mOP vm y) step r))))) 0 0 (fun _ => False) := by
  refine Met.ofW (cc := cX9_soonest) (maxL := 6) (ret := (some .int)) (by decide) rfl ?_
  intro p e s m args below meth c s₁ B hml hv
  obtain ⟨rfl, hE, hP⟩ := hv
  have hx := B.exec
  have hb := B.bytes
  have hr := B.returns
  have hts := atoms_spec (ws := wsX9_soonest) B.pre
  have hown : s.vm.findClass RX9 = some m.cls := findClass_of_methodNamed B.named
  have hlocks := B.notSynchronized
  have hK := hE.1
  have in_X9 : ∀ w ∈ u_ws RX9 TX9 13, w ∈ wsX9_soonest := fun w h => List.mem_cons_of_mem _ (List.mem_append_left _ (List.mem_append_left _ (List.mem_append_left _ (List.mem_append_left _ (List.mem_append_left _ (List.mem_append_left _ (List.mem_append_right _ h)))))))
  have in_X8 : ∀ w ∈ u_ws RX8 TX8 2, w ∈ wsX9_soonest := fun w h => List.mem_cons_of_mem _ (List.mem_append_left _ (List.mem_append_left _ (List.mem_append_left _ (List.mem_append_left _ (List.mem_append_left _ (List.mem_append_right _ h))))))
  have lk0 := hts (.fieldLink RX9 43 "TidedGround" "world" "LTidedGround$World;") (List.mem_of_getElem? (i := 1) rfl)
  have lk1 := hts (.fieldLink RX9 91 "TidedGround$World" "plan" "LTidedGround$Plan;") (List.mem_of_getElem? (i := 2) rfl)
  have lk2 := hts (.constant RX9 161 (-1000000001)) (List.mem_of_getElem? (i := 3) rfl)
  have lk3 := hts (.fieldLink RX9 56 "TidedGround" "routes" "LTidedGround$Routes;") (List.mem_of_getElem? (i := 5) rfl)
  have lk4 := hts (.constant RX9 81 (-1000000002)) (List.mem_of_getElem? (i := 4) rfl)
  have n_m1000000002 : ((-1000000002) : Int32).toInt = -1000000002 := by decide
  have n_m1000000001 : ((-1000000001) : Int32).toInt = -1000000001 := by decide
  have n_m1 : ((-1) : Int32).toInt = -1 := by decide
  have n_0 : (0 : Int32).toInt = 0 := by decide
  have hl := lv_entry ([.ref (a 99), .int x, .int y, .int step]) (n := 6) (Nat.le_of_ble_eq_true rfl)
  rw [lg_entry_eq]
  generalize (lg_sl ([.ref (a 99), .int x, .int y, .int step]) ++ List.replicate (6 - (lg_sl ([.ref (a 99), .int x, .int y, .int step])).length) Slot.unset).toArray = ls at hl ⊢
  have hl : lv_has ls 6 [(0, .ref (a 99)), (1, .int x), (2, .int y), (3, .int step)] := hl
  refine W_abs (fun Q hQ => ?_)
  obtain ⟨hg, hmc, hm0, hm1, hm2, hs0, hs1, hs2, hs3⟩ := id hI
  obtain ⟨hg1, hg2, hg3, hg4⟩ := id hg
  have hz0 := hm0.1
  have hz1 := hm1.1
  have hz2 := hm2.1
  have hc0 := hs0.1
  have hc1 := hs1.1
  have hc2 := hs2.1
  have hc3 := hs3.1
  obtain ⟨hj0, hj1, hj2⟩ := id hJ
  obtain ⟨hT1, hT2⟩ := id hT
  refine lv_aload_n hx hb dX9_soonest_0 rfl (lv_at hl 0 rfl) ?_
  refine va_get (D := eD E) (ci := 9) (v := .ref (a 5)) (C := RX9) (T := TX9) (N := 13) hx hb hts in_X9 hown hK hP 0 rfl rfl 5 (by decide) lk0 (fun _ h9 => h9) rfl dX9_soonest_1 ?_
  refine va_get (D := eD E) (ci := 8) (v := .ref (ap 0)) (C := RX8) (T := TX8) (N := 2) hx hb hts in_X8 hown hK hP 5 rfl rfl 0 (by decide) lk1 (fun _ h9 => h9) rfl dX9_soonest_4 ?_
  refine lv_iload_n hx hb dX9_soonest_7 rfl (lv_at hl 1 rfl) ?_
  refine rd_V (As := [.int x]) (rest := []) (C := RX1) (ci := 1) ⟨hx, hb, hml, hown, hts⟩ (c_X1_cellOfPair l E A ap vp x hI) (cwV 1 hts gX9_soonest_X1_cellOfPair rfl rfl rfl (by decide +kernel) ⟨Nat.le_of_ble_eq_true rfl, Nat.le_of_ble_eq_true rfl⟩) hE (hP.sub (ws' := planL E ap vp) [6, 7, 8, 9, 10, 11, 12, 13, 14, 15, 16, 17, 18, 19, 20, 21, 22, 23, 24, 25, 26, 27, 28, 29, 30, 31, 32, 33, 34] rfl) rfl rfl rfl rfl hl.1 rfl (Nat.le_of_ble_eq_true rfl) dX9_soonest_8 ⟨Nat.zero_le _, Nat.zero_le _⟩ (fun r8 h8 => ?_)
  have hf8 := h8.2
  replace h8 := h8.1
  refine lv_istore (lv' := [(4, .int r8), (0, .ref (a 99)), (1, .int x), (2, .int y), (3, .int step)]) hx hb dX9_soonest_11 hl (by decide) rfl (fun ls hl => ?_)
  refine lv_aload_n hx hb dX9_soonest_13 rfl (lv_at hl 1 rfl) ?_
  refine va_get (D := eD E) (ci := 9) (v := .ref (a 5)) (C := RX9) (T := TX9) (N := 13) hx hb hts in_X9 hown hK hP 0 rfl rfl 5 (by decide) lk0 (fun _ h9 => h9) rfl dX9_soonest_14 ?_
  refine va_get (D := eD E) (ci := 8) (v := .ref (ap 0)) (C := RX8) (T := TX8) (N := 2) hx hb hts in_X8 hown hK hP 5 rfl rfl 0 (by decide) lk1 (fun _ h9 => h9) rfl dX9_soonest_17 ?_
  refine lv_iload_n hx hb dX9_soonest_20 rfl (lv_at hl 3 rfl) ?_
  refine rd_V (As := [.int y]) (rest := []) (C := RX1) (ci := 1) ⟨hx, hb, hml, hown, hts⟩ (c_X1_cellOfPair l E A ap vp y hI) (cwV 1 hts gX9_soonest_X1_cellOfPair rfl rfl rfl (by decide +kernel) ⟨Nat.le_of_ble_eq_true rfl, Nat.le_of_ble_eq_true rfl⟩) hE (hP.sub (ws' := planL E ap vp) [6, 7, 8, 9, 10, 11, 12, 13, 14, 15, 16, 17, 18, 19, 20, 21, 22, 23, 24, 25, 26, 27, 28, 29, 30, 31, 32, 33, 34] rfl) rfl rfl rfl rfl hl.1 rfl (Nat.le_of_ble_eq_true rfl) dX9_soonest_21 ⟨Nat.zero_le _, Nat.zero_le _⟩ (fun r21 h21 => ?_)
  have hf21 := h21.2
  replace h21 := h21.1
  refine lv_istore (lv' := [(5, .int r21), (4, .int r8), (0, .ref (a 99)), (1, .int x), (2, .int y), (3, .int step)]) hx hb dX9_soonest_24 hl (by decide) rfl (fun ls hl => ?_)
  refine lv_iload hx hb dX9_soonest_26 (lv_at hl 1 rfl) ?_
  refine lv_iconst (v := (-1)) hx hb dX9_soonest_28 (by decide) ?_
  refine lv_icmp_eq (tgt := 38) hx hb dX9_soonest_29 (by decide) (fun c29 => ?_) (fun c29 => ?_)
  · have c29_ := i_eq c29
    clear h8
    refine lv_ldc hx hb hown lk2 dX9_soonest_38 ?_
    subst hQ
    exact W.iret (v := (-1000000001)) hx hb hr (fun t ht hW => ⟨(-1000000001), rfl, ⟨trivial, (fun vm hR hg => by have q1 := hf8 vm hR.1.1.1 hR.1.1.2.1 hR.2.2.2.1.1; have q2 := hf21 vm hR.1.1.1 hR.1.1.2.1 hR.2.2.2.1.1; exact Or.inl ⟨by omega, by rw [← q1, ← q2]; omega⟩)⟩, ht⟩) (fun q h => absurd h List.not_mem_nil) dX9_soonest_40
  · have c29_ := i_ne c29
    replace h8 := cm_n h8 c29_
    clear c29_
    refine lv_iload hx hb dX9_soonest_32 (lv_at hl 0 rfl) ?_
    refine lv_iconst (v := (-1)) hx hb dX9_soonest_34 (by decide) ?_
    refine lv_icmp_ne (tgt := 41) hx hb dX9_soonest_35 (by decide) (fun c35 => ?_) (fun c35 => ?_)
    · have c35_ := i_ne c35
      replace h21 := cm_n h21 c35_
      clear c35_
      refine lv_iload_n hx hb dX9_soonest_41 rfl (lv_at hl 5 rfl) ?_
      refine rd_S (As := [.int step]) (rest := []) ⟨hx, hb, hml, hown, hts⟩ (c_X9_isNoStep l E A step) (va_cwS 1 hts gX9_soonest_X9_isNoStep rfl rfl rfl (by decide +kernel) ⟨Nat.le_of_ble_eq_true rfl, Nat.le_of_ble_eq_true rfl⟩) hE (hP.sub (ws' := []) [] rfl) rfl hl.1 rfl (Nat.le_of_ble_eq_true rfl) dX9_soonest_42 ⟨Nat.zero_le _, Nat.zero_le _⟩ (fun r42 h42 => ?_)
      refine lv_if_eq (tgt := 51) hx hb dX9_soonest_45 (by decide) (fun c45 => ?_) (fun c45 => ?_)
      · have c45_ := i_eq c45
        replace h42 := or_n h42 c45_
        refine lv_aload_n hx hb dX9_soonest_51 rfl (lv_at hl 2 rfl) ?_
        refine va_get (D := eD E) (ci := 9) (v := .ref (a 8)) (C := RX9) (T := TX9) (N := 13) hx hb hts in_X9 hown hK hP 0 rfl rfl 8 (by decide) lk3 (fun _ h9 => h9) rfl dX9_soonest_52 ?_
        refine lv_iload hx hb dX9_soonest_55 (lv_at hl 1 rfl) ?_
        refine lv_iload hx hb dX9_soonest_57 (lv_at hl 0 rfl) ?_
        refine lv_iload_n hx hb dX9_soonest_59 rfl (lv_at hl 5 rfl) ?_
        refine rd_V (As := [.int r8, .int r21, .int step]) (rest := []) (C := RX3) (ci := 3) ⟨hx, hb, hml, hown, hts⟩ (c_X3_fewestSteps l E A a v ap vp as_ vs r8 r21 step hI hJ (by omega)) (cwV 3 hts gX9_soonest_X3_fewestSteps rfl rfl rfl (by decide +kernel) ⟨Nat.le_of_ble_eq_true rfl, Nat.le_of_ble_eq_true rfl⟩) hE (hP.sub (ws' := rpL E a v ap vp as_ vs) [2, 3, 5, 6, 7, 8, 9, 10, 11, 12, 13, 14, 15, 16, 17, 18, 19, 20, 21, 22, 23, 24, 25, 26, 27, 28, 29, 30, 31, 32, 33, 34, 35, 36, 37, 38] rfl) rfl rfl rfl rfl hl.1 rfl (Nat.le_of_ble_eq_true rfl) dX9_soonest_60 ⟨Nat.zero_le _, Nat.zero_le _⟩ (fun r60 h60 => ?_)
        have hf60 := h60.2
        replace h60 := h60.1
        subst hQ
        exact W.iret (v := r60) hx hb hr (fun t ht hW => ⟨r60, rfl, ⟨trivial, (fun vm hR hg => by have q1 := hf8 vm hR.1.1.1 hR.1.1.2.1 hR.2.2.2.1.1; have q2 := hf21 vm hR.1.1.1 hR.1.1.2.1 hR.2.2.2.1.1; exact Or.inr ⟨by rw [← q1, ← q2]; omega, Or.inr ⟨by omega, by rw [← q1, ← q2]; exact hf60 vm hR hg⟩⟩)⟩, ht⟩) (fun q h => absurd h List.not_mem_nil) dX9_soonest_63
      · have c45_ := i_ne c45
        replace h42 := or_y h42 c45_
        clear c45_
        refine lv_ldc hx hb hown lk4 dX9_soonest_48 ?_
        subst hQ
        exact W.iret (v := (-1000000002)) hx hb hr (fun t ht hW => ⟨(-1000000002), rfl, ⟨trivial, (fun vm hR hg => by have q1 := hf8 vm hR.1.1.1 hR.1.1.2.1 hR.2.2.2.1.1; have q2 := hf21 vm hR.1.1.1 hR.1.1.2.1 hR.2.2.2.1.1; exact Or.inr ⟨by rw [← q1, ← q2]; omega, Or.inl ⟨by omega, by omega⟩⟩)⟩, ht⟩) (fun q h => absurd h List.not_mem_nil) dX9_soonest_50
    · have c35_ := i_eq c35
      clear h21
      refine lv_ldc hx hb hown lk2 dX9_soonest_38 ?_
      subst hQ
      exact W.iret (v := (-1000000001)) hx hb hr (fun t ht hW => ⟨(-1000000001), rfl, ⟨trivial, (fun vm hR hg => by have q1 := hf8 vm hR.1.1.1 hR.1.1.2.1 hR.2.2.2.1.1; have q2 := hf21 vm hR.1.1.1 hR.1.1.2.1 hR.2.2.2.1.1; exact Or.inl ⟨by omega, by rw [← q1, ← q2]; omega⟩)⟩, ht⟩) (fun q h => absurd h List.not_mem_nil) dX9_soonest_40
def rm_X9_whose : Room := { frames := 4, cells := 0, slots := 0, locals := 95 }
set_option maxHeartbeats 4000000 in
set_option maxRecDepth 100000 in
theorem c_X9_whose (l : Launch) (E : Ev) (A : Nat → Prop) (a : Nat → Nat) (v : Vf) (aq : Nat → Nat) (ap : Nat → Nat) (vp : Vf) (as_ : Nat → Nat) (vs : Vf) (h : Int32) (step : Int32) (hI : PlanI vp) (hJ : StateI vs) (hT : TgI v) : Met l yX9_whose wsX9_whose rm_X9_whose (RdP E A [.ref (a 99), .int h, .int step] (tgsL E a v aq ap vp as_ vs)) (vp_Si (fun r => (True) ∧ (∀ vm : Vf, RW vm vp vs → (-1 : Int32) = vm 62 0 → UnkP (0 ≤ h.toInt ∧ h.toInt < (vm 19 0).toInt) r (OutP (0 ≤ step.toInt ∧ step.toInt ≤ 900000) r (r = mWh vm h step))))) 0 0 (fun _ => False) := by
  refine Met.ofW (cc := cX9_whose) (maxL := 3) (ret := (some .int)) (by decide) rfl ?_
  intro p e s m args below meth c s₁ B hml hv
  obtain ⟨rfl, hE, hP⟩ := hv
  have hx := B.exec
  have hb := B.bytes
  have hr := B.returns
  have hts := atoms_spec (ws := wsX9_whose) B.pre
  have hown : s.vm.findClass RX9 = some m.cls := findClass_of_methodNamed B.named
  have hlocks := B.notSynchronized
  have hK := hE.1
  have in_X9 : ∀ w ∈ u_ws RX9 TX9 13, w ∈ wsX9_whose := fun w h => List.mem_cons_of_mem _ (List.mem_append_left _ (List.mem_append_left _ (List.mem_append_left _ (List.mem_append_left _ (List.mem_append_left _ (List.mem_append_right _ h))))))
  have in_X8 : ∀ w ∈ u_ws RX8 TX8 2, w ∈ wsX9_whose := fun w h => List.mem_cons_of_mem _ (List.mem_append_left _ (List.mem_append_left _ (List.mem_append_left _ (List.mem_append_left _ (List.mem_append_right _ h)))))
  have in_X1 : ∀ w ∈ u_ws RX1 TX1 11, w ∈ wsX9_whose := fun w h => List.mem_cons_of_mem _ (List.mem_append_left _ (List.mem_append_left _ (List.mem_append_left _ (List.mem_append_right _ h))))
  have lk0 := hts (.fieldLink RX9 43 "TidedGround" "world" "LTidedGround$World;") (List.mem_of_getElem? (i := 1) rfl)
  have lk1 := hts (.fieldLink RX9 91 "TidedGround$World" "plan" "LTidedGround$Plan;") (List.mem_of_getElem? (i := 2) rfl)
  have lk2 := hts (.fieldLink RX9 134 "TidedGround$Plan" "deeds" "LTidedGround$Sites;") (List.mem_of_getElem? (i := 3) rfl)
  have lk3 := hts (.constant RX9 81 (-1000000002)) (List.mem_of_getElem? (i := 5) rfl)
  have lk4 := hts (.constant RX9 161 (-1000000001)) (List.mem_of_getElem? (i := 4) rfl)
  have n_m1000000002 : ((-1000000002) : Int32).toInt = -1000000002 := by decide
  have n_m1000000001 : ((-1000000001) : Int32).toInt = -1000000001 := by decide
  have n_0 : (0 : Int32).toInt = 0 := by decide
  have hl := lv_entry ([.ref (a 99), .int h, .int step]) (n := 3) (Nat.le_of_ble_eq_true rfl)
  rw [lg_entry_eq]
  generalize (lg_sl ([.ref (a 99), .int h, .int step]) ++ List.replicate (3 - (lg_sl ([.ref (a 99), .int h, .int step])).length) Slot.unset).toArray = ls at hl ⊢
  have hl : lv_has ls 3 [(0, .ref (a 99)), (1, .int h), (2, .int step)] := hl
  refine W_abs (fun Q hQ => ?_)
  obtain ⟨hg, hmc, hm0, hm1, hm2, hs0, hs1, hs2, hs3⟩ := id hI
  obtain ⟨hg1, hg2, hg3, hg4⟩ := id hg
  have hz0 := hm0.1
  have hz1 := hm1.1
  have hz2 := hm2.1
  have hc0 := hs0.1
  have hc1 := hs1.1
  have hc2 := hs2.1
  have hc3 := hs3.1
  obtain ⟨hj0, hj1, hj2⟩ := id hJ
  obtain ⟨hT1, hT2⟩ := id hT
  refine lv_aload_n hx hb dX9_whose_0 rfl (lv_at hl 0 rfl) ?_
  refine va_get (D := eD E) (ci := 9) (v := .ref (a 5)) (C := RX9) (T := TX9) (N := 13) hx hb hts in_X9 hown hK hP 0 rfl rfl 5 (by decide) lk0 (fun _ h9 => h9) rfl dX9_whose_1 ?_
  refine va_get (D := eD E) (ci := 8) (v := .ref (ap 0)) (C := RX8) (T := TX8) (N := 2) hx hb hts in_X8 hown hK hP 5 rfl rfl 0 (by decide) lk1 (fun _ h9 => h9) rfl dX9_whose_4 ?_
  refine va_get (D := eD E) (ci := 1) (v := .ref (ap 10)) (C := RX1) (T := TX1) (N := 11) hx hb hts in_X1 hown hK hP 6 rfl rfl 10 (by decide) lk2 (fun _ h9 => h9) rfl dX9_whose_7 ?_
  refine lv_iload_n hx hb dX9_whose_10 rfl (lv_at hl 1 rfl) ?_
  refine rd_V (As := [.int h]) (rest := []) (C := RX5) (ci := 5) ⟨hx, hb, hml, hown, hts⟩ (c_X5_has l E A (ap 10) (ap 91) (ap 92) (ap 93) (vp 90 0) (vp 91) (vp 92) (vp 93) h) (cwV 1 hts gX9_whose_X5_has rfl rfl rfl (by decide +kernel) ⟨Nat.le_of_ble_eq_true rfl, Nat.le_of_ble_eq_true rfl⟩) hE (hP.sub (ws' := sitesL E (ap 10) (ap 91) (ap 92) (ap 93) (vp 90 0) (vp 91) (vp 92) (vp 93)) [31, 32, 33, 34] rfl) rfl rfl rfl rfl hl.1 rfl (Nat.le_of_ble_eq_true rfl) dX9_whose_11 ⟨Nat.zero_le _, Nat.zero_le _⟩ (fun r11 h11 => ?_)
  refine lv_if_ne (tgt := 20) hx hb dX9_whose_14 (by decide) (fun c14 => ?_) (fun c14 => ?_)
  · have c14_ := i_ne c14
    replace h11 := or_y h11 c14_
    clear c14_
    have sv20_h : 0 ≤ h.toInt ∧ h.toInt ≤ 5 := by omega
    refine lv_iload_n hx hb dX9_whose_20 rfl (lv_at hl 2 rfl) ?_
    refine rd_S (As := [.int step]) (rest := []) ⟨hx, hb, hml, hown, hts⟩ (c_X9_isNoStep l E A step) (va_cwS 1 hts gX9_whose_X9_isNoStep rfl rfl rfl (by decide +kernel) ⟨Nat.le_of_ble_eq_true rfl, Nat.le_of_ble_eq_true rfl⟩) hE (hP.sub (ws' := []) [] rfl) rfl hl.1 rfl (Nat.le_of_ble_eq_true rfl) dX9_whose_21 ⟨Nat.zero_le _, Nat.zero_le _⟩ (fun r21 h21 => ?_)
    refine lv_if_eq (tgt := 30) hx hb dX9_whose_24 (by decide) (fun c24 => ?_) (fun c24 => ?_)
    · have c24_ := i_eq c24
      replace h21 := or_n h21 c24_
      refine lv_aload_n hx hb dX9_whose_30 rfl (lv_at hl 0 rfl) ?_
      refine va_get (D := eD E) (ci := 9) (v := .ref (a 5)) (C := RX9) (T := TX9) (N := 13) hx hb hts in_X9 hown hK hP 0 rfl rfl 5 (by decide) lk0 (fun _ h9 => h9) rfl dX9_whose_31 ?_
      refine lv_iload_n hx hb dX9_whose_34 rfl (lv_at hl 1 rfl) ?_
      refine lv_iload_n hx hb dX9_whose_35 rfl (lv_at hl 2 rfl) ?_
      refine rd_V (As := [.int h, .int step]) (rest := []) (C := RX8) (ci := 8) ⟨hx, hb, hml, hown, hts⟩ (c_X8_cellsWithin l E A (a 5) ap vp as_ vs h step hI hJ (by omega) (by omega)) (cwV 2 hts gX9_whose_X8_cellsWithin rfl rfl rfl (by decide +kernel) ⟨Nat.le_of_ble_eq_true rfl, Nat.le_of_ble_eq_true rfl⟩) hE (hP.sub (ws' := wpsL E (a 5) ap vp as_ vs) [5, 6, 7, 8, 9, 10, 11, 12, 13, 14, 15, 16, 17, 18, 19, 20, 21, 22, 23, 24, 25, 26, 27, 28, 29, 30, 31, 32, 33, 34, 35, 36, 37, 38] rfl) rfl rfl rfl rfl hl.1 rfl (Nat.le_of_ble_eq_true rfl) dX9_whose_36 ⟨Nat.zero_le _, Nat.zero_le _⟩ (fun r36 h36 => ?_)
      have hf36 := h36.2
      replace h36 := h36.1
      subst hQ
      exact W.iret (v := r36) hx hb hr (fun t ht hW => ⟨r36, rfl, ⟨trivial, (fun vm hR hg => by have hmi : (vp 90 0).toInt = (vm 19 0).toInt := (by rw [hR.1.2.2.2.2.2.1]); exact Or.inr ⟨by omega, Or.inr ⟨by omega, hf36 vm hR hg (by omega)⟩⟩)⟩, ht⟩) (fun q h => absurd h List.not_mem_nil) dX9_whose_39
    · have c24_ := i_ne c24
      replace h21 := or_y h21 c24_
      clear c24_
      refine lv_ldc hx hb hown lk3 dX9_whose_27 ?_
      subst hQ
      exact W.iret (v := (-1000000002)) hx hb hr (fun t ht hW => ⟨(-1000000002), rfl, ⟨trivial, (fun vm hR hg => by have hmi : (vp 90 0).toInt = (vm 19 0).toInt := (by rw [hR.1.2.2.2.2.2.1]); exact Or.inr ⟨by omega, Or.inl ⟨by omega, by omega⟩⟩)⟩, ht⟩) (fun q h => absurd h List.not_mem_nil) dX9_whose_29
  · have c14_ := i_eq c14
    replace h11 := or_n h11 c14_
    refine lv_ldc hx hb hown lk4 dX9_whose_17 ?_
    subst hQ
    exact W.iret (v := (-1000000001)) hx hb hr (fun t ht hW => ⟨(-1000000001), rfl, ⟨trivial, (fun vm hR hg => by have hmi : (vp 90 0).toInt = (vm 19 0).toInt := (by rw [hR.1.2.2.2.2.2.1]); exact Or.inl ⟨by omega, by omega⟩)⟩, ht⟩) (fun q h => absurd h List.not_mem_nil) dX9_whose_19
def rm_X9_stays : Room := { frames := 4, cells := 0, slots := 0, locals := 95 }
set_option maxHeartbeats 4000000 in
set_option maxRecDepth 100000 in
theorem c_X9_stays (l : Launch) (E : Ev) (A : Nat → Prop) (a : Nat → Nat) (v : Vf) (aq : Nat → Nat) (ap : Nat → Nat) (vp : Vf) (as_ : Nat → Nat) (vs : Vf) (h : Int32) (hI : PlanI vp) (hJ : StateI vs) (hT : TgI v) : Met l yX9_stays wsX9_stays rm_X9_stays (RdP E A [.ref (a 99), .int h] (tgsL E a v aq ap vp as_ vs)) (vp_Si (fun r => (True) ∧ (∀ vm : Vf, RW vm vp vs → (-1 : Int32) = vm 62 0 → UnkP (0 ≤ h.toInt ∧ h.toInt < (vm 19 0).toInt) r (r = mSt vm h)))) 0 0 (fun _ => False) := by
  refine Met.ofW (cc := cX9_stays) (maxL := 5) (ret := (some .int)) (by decide) rfl ?_
  intro p e s m args below meth c s₁ B hml hv
  obtain ⟨rfl, hE, hP⟩ := hv
  have hx := B.exec
  have hb := B.bytes
  have hr := B.returns
  have hts := atoms_spec (ws := wsX9_stays) B.pre
  have hown : s.vm.findClass RX9 = some m.cls := findClass_of_methodNamed B.named
  have hlocks := B.notSynchronized
  have hK := hE.1
  have in_X9 : ∀ w ∈ u_ws RX9 TX9 13, w ∈ wsX9_stays := fun w h => List.mem_cons_of_mem _ (List.mem_append_left _ (List.mem_append_left _ (List.mem_append_left _ (List.mem_append_left _ (List.mem_append_left _ (List.mem_append_right _ h))))))
  have in_X8 : ∀ w ∈ u_ws RX8 TX8 2, w ∈ wsX9_stays := fun w h => List.mem_cons_of_mem _ (List.mem_append_left _ (List.mem_append_left _ (List.mem_append_left _ (List.mem_append_left _ (List.mem_append_right _ h)))))
  have in_X1 : ∀ w ∈ u_ws RX1 TX1 11, w ∈ wsX9_stays := fun w h => List.mem_cons_of_mem _ (List.mem_append_left _ (List.mem_append_left _ (List.mem_append_left _ (List.mem_append_right _ h))))
  have lk0 := hts (.fieldLink RX9 43 "TidedGround" "world" "LTidedGround$World;") (List.mem_of_getElem? (i := 1) rfl)
  have lk1 := hts (.fieldLink RX9 91 "TidedGround$World" "plan" "LTidedGround$Plan;") (List.mem_of_getElem? (i := 2) rfl)
  have lk2 := hts (.fieldLink RX9 134 "TidedGround$Plan" "deeds" "LTidedGround$Sites;") (List.mem_of_getElem? (i := 3) rfl)
  have lk3 := hts (.constant RX9 161 (-1000000001)) (List.mem_of_getElem? (i := 4) rfl)
  have n_m1000000001 : ((-1000000001) : Int32).toInt = -1000000001 := by decide
  have n_0 : (0 : Int32).toInt = 0 := by decide
  have n_1 : (1 : Int32).toInt = 1 := by decide
  have hl := lv_entry ([.ref (a 99), .int h]) (n := 5) (Nat.le_of_ble_eq_true rfl)
  rw [lg_entry_eq]
  generalize (lg_sl ([.ref (a 99), .int h]) ++ List.replicate (5 - (lg_sl ([.ref (a 99), .int h])).length) Slot.unset).toArray = ls at hl ⊢
  have hl : lv_has ls 5 [(0, .ref (a 99)), (1, .int h)] := hl
  refine W_abs (fun Q hQ => ?_)
  obtain ⟨hg, hmc, hm0, hm1, hm2, hs0, hs1, hs2, hs3⟩ := id hI
  obtain ⟨hg1, hg2, hg3, hg4⟩ := id hg
  have hz0 := hm0.1
  have hz1 := hm1.1
  have hz2 := hm2.1
  have hc0 := hs0.1
  have hc1 := hs1.1
  have hc2 := hs2.1
  have hc3 := hs3.1
  obtain ⟨hj0, hj1, hj2⟩ := id hJ
  obtain ⟨hT1, hT2⟩ := id hT
  refine lv_aload_n hx hb dX9_stays_0 rfl (lv_at hl 0 rfl) ?_
  refine va_get (D := eD E) (ci := 9) (v := .ref (a 5)) (C := RX9) (T := TX9) (N := 13) hx hb hts in_X9 hown hK hP 0 rfl rfl 5 (by decide) lk0 (fun _ h9 => h9) rfl dX9_stays_1 ?_
  refine va_get (D := eD E) (ci := 8) (v := .ref (ap 0)) (C := RX8) (T := TX8) (N := 2) hx hb hts in_X8 hown hK hP 5 rfl rfl 0 (by decide) lk1 (fun _ h9 => h9) rfl dX9_stays_4 ?_
  refine va_get (D := eD E) (ci := 1) (v := .ref (ap 10)) (C := RX1) (T := TX1) (N := 11) hx hb hts in_X1 hown hK hP 6 rfl rfl 10 (by decide) lk2 (fun _ h9 => h9) rfl dX9_stays_7 ?_
  refine lv_iload_n hx hb dX9_stays_10 rfl (lv_at hl 1 rfl) ?_
  refine rd_V (As := [.int h]) (rest := []) (C := RX5) (ci := 5) ⟨hx, hb, hml, hown, hts⟩ (c_X5_has l E A (ap 10) (ap 91) (ap 92) (ap 93) (vp 90 0) (vp 91) (vp 92) (vp 93) h) (cwV 1 hts gX9_stays_X5_has rfl rfl rfl (by decide +kernel) ⟨Nat.le_of_ble_eq_true rfl, Nat.le_of_ble_eq_true rfl⟩) hE (hP.sub (ws' := sitesL E (ap 10) (ap 91) (ap 92) (ap 93) (vp 90 0) (vp 91) (vp 92) (vp 93)) [31, 32, 33, 34] rfl) rfl rfl rfl rfl hl.1 rfl (Nat.le_of_ble_eq_true rfl) dX9_stays_11 ⟨Nat.zero_le _, Nat.zero_le _⟩ (fun r11 h11 => ?_)
  refine lv_if_ne (tgt := 20) hx hb dX9_stays_14 (by decide) (fun c14 => ?_) (fun c14 => ?_)
  · have c14_ := i_ne c14
    replace h11 := or_y h11 c14_
    clear c14_
    have sv20_h : 0 ≤ h.toInt ∧ h.toInt ≤ 5 := by omega
    refine lv_aload_n hx hb dX9_stays_20 rfl (lv_at hl 0 rfl) ?_
    refine va_get (D := eD E) (ci := 9) (v := .ref (a 5)) (C := RX9) (T := TX9) (N := 13) hx hb hts in_X9 hown hK hP 0 rfl rfl 5 (by decide) lk0 (fun _ h9 => h9) rfl dX9_stays_21 ?_
    refine va_get (D := eD E) (ci := 8) (v := .ref (ap 0)) (C := RX8) (T := TX8) (N := 2) hx hb hts in_X8 hown hK hP 5 rfl rfl 0 (by decide) lk1 (fun _ h9 => h9) rfl dX9_stays_24 ?_
    refine rd_V (As := []) (rest := []) (C := RX1) (ci := 1) ⟨hx, hb, hml, hown, hts⟩ (c_X1_period l E A ap vp hI) (cwV 0 hts gX9_stays_X1_period rfl rfl rfl (by decide +kernel) ⟨Nat.le_of_ble_eq_true rfl, Nat.le_of_ble_eq_true rfl⟩) hE (hP.sub (ws' := planL E ap vp) [6, 7, 8, 9, 10, 11, 12, 13, 14, 15, 16, 17, 18, 19, 20, 21, 22, 23, 24, 25, 26, 27, 28, 29, 30, 31, 32, 33, 34] rfl) rfl rfl rfl rfl hl.1 rfl (Nat.le_of_ble_eq_true rfl) dX9_stays_27 ⟨Nat.zero_le _, Nat.zero_le _⟩ (fun r27 h27 => ?_)
    have hf27 := h27.2
    replace h27 := h27.1
    refine lv_istore_n (lv' := [(2, .int r27), (0, .ref (a 99)), (1, .int h)]) hx hb dX9_stays_30 rfl hl (by decide) rfl (fun ls hl => ?_)
    refine lv_aload_n hx hb dX9_stays_31 rfl (lv_at hl 1 rfl) ?_
    refine va_get (D := eD E) (ci := 9) (v := .ref (a 5)) (C := RX9) (T := TX9) (N := 13) hx hb hts in_X9 hown hK hP 0 rfl rfl 5 (by decide) lk0 (fun _ h9 => h9) rfl dX9_stays_32 ?_
    refine lv_iload_n hx hb dX9_stays_35 rfl (lv_at hl 2 rfl) ?_
    refine lv_iconst (v := 0) hx hb dX9_stays_36 (by decide) ?_
    refine rd_V (As := [.int h, .int 0]) (rest := []) (C := RX8) (ci := 8) ⟨hx, hb, hml, hown, hts⟩ (c_X8_cellsWithin l E A (a 5) ap vp as_ vs h 0 hI hJ (by omega) (by omega)) (cwV 2 hts gX9_stays_X8_cellsWithin rfl rfl rfl (by decide +kernel) ⟨Nat.le_of_ble_eq_true rfl, Nat.le_of_ble_eq_true rfl⟩) hE (hP.sub (ws' := wpsL E (a 5) ap vp as_ vs) [5, 6, 7, 8, 9, 10, 11, 12, 13, 14, 15, 16, 17, 18, 19, 20, 21, 22, 23, 24, 25, 26, 27, 28, 29, 30, 31, 32, 33, 34, 35, 36, 37, 38] rfl) rfl rfl rfl rfl hl.1 rfl (Nat.le_of_ble_eq_true rfl) dX9_stays_37 ⟨Nat.zero_le _, Nat.zero_le _⟩ (fun r37 h37 => ?_)
    have hf37 := h37.2
    replace h37 := h37.1
    refine lv_istore_n (lv' := [(3, .int r37), (2, .int r27), (0, .ref (a 99)), (1, .int h)]) hx hb dX9_stays_40 rfl hl (by decide) rfl (fun ls hl => ?_)
    refine lv_iconst (v := 1) hx hb dX9_stays_41 (by decide) ?_
    refine lv_istore (lv' := [(4, .int 1), (3, .int r37), (2, .int r27), (0, .ref (a 99)), (1, .int h)]) hx hb dX9_stays_42 hl (by decide) rfl (fun ls hl => ?_)
    have K44 : ∀ (μ : Nat) (set : Int32) (t : Int32) (ls : Array Slot), (729 - t.toInt).toNat < μ → (1 ≤ t.toInt ∧ t.toInt ≤ 729) → (∀ vm : Vf, RW vm vp vs → (-1 : Int32) = vm 62 0 → h.toInt < (vm 19 0).toInt → (set = mStN vm h t.toNatClampNeg ∧ t.toInt ≤ (vm 22 0).toInt)) → lv_has ls 5 [(0, .ref (a 99)), (1, .int h), (2, .int r27), (3, .int set), (4, .int t)] → W p l e (headSpec wsX9_stays rm_X9_stays).room s m ([.ref (a 99), .int h] : List Value).toArray below meth c s.heap [] 0 0 Q (F0 m 44 ls []) := by
      intro μ
      induction μ with
      | zero =>
        intro set t ls hμ44
        exact absurd hμ44 (Nat.not_lt_zero _)
      | succ μ ih44 =>
        intro set t ls hμ44 h44_0 h44_1 hl
        have hx44_0 := h44_1
        clear h44_1
        refine lv_iload hx hb dX9_stays_44 (lv_at hl 4 rfl) ?_
        refine lv_iload_n hx hb dX9_stays_46 rfl (lv_at hl 2 rfl) ?_
        refine lv_icmp_ge (tgt := 69) hx hb dX9_stays_47 (by decide) (fun c47 => ?_) (fun c47 => ?_)
        · have c47_ := i_le c47
          refine lv_iload_n hx hb dX9_stays_69 rfl (lv_at hl 3 rfl) ?_
          subst hQ
          exact W.iret (v := set) hx hb hr (fun t ht hW => ⟨set, rfl, ⟨trivial, (fun vm hR hg => by have hmi : (vp 90 0).toInt = (vm 19 0).toInt := (by rw [hR.1.2.2.2.2.2.1]); have hx := hx44_0 vm hR hg (by omega); have e := per_eq hR hf27; exact Or.inr ⟨by omega, by show set = mStN vm h (vm 22 0).toNatClampNeg; exact hx.1.trans (congrArg (mStN vm h) (congrArg Int32.toNatClampNeg (i_eqr (by have z := hx.2; rw [← e] at z ⊢; omega))))⟩)⟩, ht⟩) (fun q h => absurd h List.not_mem_nil) dX9_stays_70
        · have c47_ := i_nle c47
          refine lv_iload_n hx hb dX9_stays_50 rfl (lv_at hl 3 rfl) ?_
          refine lv_aload_n hx hb dX9_stays_51 rfl (lv_at hl 0 rfl) ?_
          refine va_get (D := eD E) (ci := 9) (v := .ref (a 5)) (C := RX9) (T := TX9) (N := 13) hx hb hts in_X9 hown hK hP 0 rfl rfl 5 (by decide) lk0 (fun _ h9 => h9) rfl dX9_stays_52 ?_
          refine lv_iload_n hx hb dX9_stays_55 rfl (lv_at hl 1 rfl) ?_
          refine lv_iload hx hb dX9_stays_56 (lv_at hl 4 rfl) ?_
          refine rd_V (As := [.int h, .int t]) (rest := [.int set]) (C := RX8) (ci := 8) ⟨hx, hb, hml, hown, hts⟩ (c_X8_cellsWithin l E A (a 5) ap vp as_ vs h t hI hJ (by omega) (by omega)) (cwV 2 hts gX9_stays_X8_cellsWithin rfl rfl rfl (by decide +kernel) ⟨Nat.le_of_ble_eq_true rfl, Nat.le_of_ble_eq_true rfl⟩) hE (hP.sub (ws' := wpsL E (a 5) ap vp as_ vs) [5, 6, 7, 8, 9, 10, 11, 12, 13, 14, 15, 16, 17, 18, 19, 20, 21, 22, 23, 24, 25, 26, 27, 28, 29, 30, 31, 32, 33, 34, 35, 36, 37, 38] rfl) rfl rfl rfl rfl hl.1 rfl (Nat.le_of_ble_eq_true rfl) dX9_stays_58 ⟨Nat.zero_le _, Nat.zero_le _⟩ (fun r58 h58 => ?_)
          have hf58 := h58.2
          replace h58 := h58.1
          refine lv_iand hx hb dX9_stays_61 ?_
          refine lv_topi (fun x61 e61 => ?_)
          refine lv_istore_n (lv' := [(3, .int x61), (0, .ref (a 99)), (1, .int h), (2, .int r27), (4, .int t)]) hx hb dX9_stays_62 rfl hl (by decide) rfl (fun ls hl => ?_)
          obtain ⟨x63, e63⟩ : ∃ y : Int32, y = t + 1 := ⟨_, rfl⟩
          refine lv_iinc (v := x63) (lv' := [(4, .int x63), (3, .int x61), (0, .ref (a 99)), (1, .int h), (2, .int r27)]) hx hb dX9_stays_63 hl (k := 4) rfl (by rw [e63]; rfl) (by decide) rfl (fun ls hl => ?_)
          have t63 := i_add e63 (by omega)
          refine lv_goto (tgt := 44) hx hb dX9_stays_66 (by decide) ?_
          exact ih44 x61 x63 ls (by omega) (by omega) (fun vm hR hg hd => ⟨st_next (hx44_0 vm hR hg hd).1 (by omega) t63 (by rw [e61, hf58 vm hR hg hd]), by rw [← per_eq hR hf27]; omega⟩) (lv_sub hl [2, 3, 4, 1, 0] rfl)
    exact K44 _ r37 1 ls (Nat.lt_succ_self _) (by omega) (fun vm hR hg hd => ⟨(hf37 vm hR hg hd).trans (st_1 hR.2.2.2.1.1).symm, by rw [n_1]; exact hR.2.2.2.1.2.1.2.2.2.2.2.1⟩) (lv_sub hl [3, 4, 2, 1, 0] rfl)
  · have c14_ := i_eq c14
    replace h11 := or_n h11 c14_
    refine lv_ldc hx hb hown lk3 dX9_stays_17 ?_
    subst hQ
    exact W.iret (v := (-1000000001)) hx hb hr (fun t ht hW => ⟨(-1000000001), rfl, ⟨trivial, (fun vm hR hg => by have hmi : (vp 90 0).toInt = (vm 19 0).toInt := (by rw [hR.1.2.2.2.2.2.1]); exact Or.inl ⟨by omega, by omega⟩)⟩, ht⟩) (fun q h => absurd h List.not_mem_nil) dX9_stays_19
def rm_X9_odds : Room := { frames := 4, cells := 0, slots := 0, locals := 98 }
set_option maxHeartbeats 4000000 in
set_option maxRecDepth 100000 in
theorem c_X9_odds (l : Launch) (E : Ev) (A : Nat → Prop) (a : Nat → Nat) (v : Vf) (aq : Nat → Nat) (ap : Nat → Nat) (vp : Vf) (as_ : Nat → Nat) (vs : Vf) (k : Int32) (q : Int32) (x : Int32) (y : Int32) (lim : Int32) (step : Int32) (hI : PlanI vp) (hJ : StateI vs) (hT : TgI v) : Met l yX9_odds wsX9_odds rm_X9_odds (RdP E A [.ref (a 99), .int k, .int q, .int x, .int y, .int lim, .int step] (tgsL E a v aq ap vp as_ vs)) (vp_Si (fun r => (True) ∧ (∀ vm : Vf, RW vm vp vs → (-1 : Int32) = vm 62 0 → UnkP ((0 ≤ k.toInt ∧ k.toInt < (vm 4 0).toInt) ∧ inG x y (vm 0 0) (vm 1 0)) r (OutP ((0 ≤ q.toInt ∧ q.toInt ≤ 100) ∧ (0 ≤ lim.toInt ∧ lim.toInt ≤ 999) ∧ (0 ≤ step.toInt ∧ step.toInt ≤ 900000)) r (r = mOdd vm k q (mC vm x y) lim step))))) 0 0 (fun _ => False) := by
  refine Met.ofW (cc := cX9_odds) (maxL := 10) (ret := (some .int)) (by decide) rfl ?_
  intro p e s m args below meth c s₁ B hml hv
  obtain ⟨rfl, hE, hP⟩ := hv
  have hx := B.exec
  have hb := B.bytes
  have hr := B.returns
  have hts := atoms_spec (ws := wsX9_odds) B.pre
  have hown : s.vm.findClass RX9 = some m.cls := findClass_of_methodNamed B.named
  have hlocks := B.notSynchronized
  have hK := hE.1
  have in_X9 : ∀ w ∈ u_ws RX9 TX9 13, w ∈ wsX9_odds := fun w h => List.mem_cons_of_mem _ (List.mem_append_left _ (List.mem_append_left _ (List.mem_append_left _ (List.mem_append_left _ (List.mem_append_right _ h)))))
  have in_X8 : ∀ w ∈ u_ws RX8 TX8 2, w ∈ wsX9_odds := fun w h => List.mem_cons_of_mem _ (List.mem_append_left _ (List.mem_append_left _ (List.mem_append_left _ (List.mem_append_right _ h))))
  have lk0 := hts (.fieldLink RX9 43 "TidedGround" "world" "LTidedGround$World;") (List.mem_of_getElem? (i := 1) rfl)
  have lk1 := hts (.fieldLink RX9 91 "TidedGround$World" "plan" "LTidedGround$Plan;") (List.mem_of_getElem? (i := 2) rfl)
  have lk2 := hts (.constant RX9 161 (-1000000001)) (List.mem_of_getElem? (i := 3) rfl)
  have lk3 := hts (.constant RX9 81 (-1000000002)) (List.mem_of_getElem? (i := 4) rfl)
  have lk4 := hts (.constant RX9 320 10000000) (List.mem_of_getElem? (i := 5) rfl)
  have lk5 := hts (.constant RX9 321 1000000000) (List.mem_of_getElem? (i := 6) rfl)
  have n_m1000000002 : ((-1000000002) : Int32).toInt = -1000000002 := by decide
  have n_m1000000001 : ((-1000000001) : Int32).toInt = -1000000001 := by decide
  have n_m1 : ((-1) : Int32).toInt = -1 := by decide
  have n_0 : (0 : Int32).toInt = 0 := by decide
  have n_100 : (100 : Int32).toInt = 100 := by decide
  have n_999 : (999 : Int32).toInt = 999 := by decide
  have n_10000000 : (10000000 : Int32).toInt = 10000000 := by decide
  have n_1000000000 : (1000000000 : Int32).toInt = 1000000000 := by decide
  have hl := lv_entry ([.ref (a 99), .int k, .int q, .int x, .int y, .int lim, .int step]) (n := 10) (Nat.le_of_ble_eq_true rfl)
  rw [lg_entry_eq]
  generalize (lg_sl ([.ref (a 99), .int k, .int q, .int x, .int y, .int lim, .int step]) ++ List.replicate (10 - (lg_sl ([.ref (a 99), .int k, .int q, .int x, .int y, .int lim, .int step])).length) Slot.unset).toArray = ls at hl ⊢
  have hl : lv_has ls 10 [(0, .ref (a 99)), (1, .int k), (2, .int q), (3, .int x), (4, .int y), (5, .int lim), (6, .int step)] := hl
  refine W_abs (fun Q hQ => ?_)
  obtain ⟨hg, hmc, hm0, hm1, hm2, hs0, hs1, hs2, hs3⟩ := id hI
  obtain ⟨hg1, hg2, hg3, hg4⟩ := id hg
  have hz0 := hm0.1
  have hz1 := hm1.1
  have hz2 := hm2.1
  have hc0 := hs0.1
  have hc1 := hs1.1
  have hc2 := hs2.1
  have hc3 := hs3.1
  obtain ⟨hj0, hj1, hj2⟩ := id hJ
  obtain ⟨hT1, hT2⟩ := id hT
  refine lv_aload_n hx hb dX9_odds_0 rfl (lv_at hl 0 rfl) ?_
  refine va_get (D := eD E) (ci := 9) (v := .ref (a 5)) (C := RX9) (T := TX9) (N := 13) hx hb hts in_X9 hown hK hP 0 rfl rfl 5 (by decide) lk0 (fun _ h9 => h9) rfl dX9_odds_1 ?_
  refine va_get (D := eD E) (ci := 8) (v := .ref (ap 0)) (C := RX8) (T := TX8) (N := 2) hx hb hts in_X8 hown hK hP 5 rfl rfl 0 (by decide) lk1 (fun _ h9 => h9) rfl dX9_odds_4 ?_
  refine lv_iload_n hx hb dX9_odds_7 rfl (lv_at hl 3 rfl) ?_
  refine lv_iload hx hb dX9_odds_8 (lv_at hl 4 rfl) ?_
  refine rd_V (As := [.int x, .int y]) (rest := []) (C := RX1) (ci := 1) ⟨hx, hb, hml, hown, hts⟩ (c_X1_cellAt l E A ap vp x y hI) (cwV 2 hts gX9_odds_X1_cellAt rfl rfl rfl (by decide +kernel) ⟨Nat.le_of_ble_eq_true rfl, Nat.le_of_ble_eq_true rfl⟩) hE (hP.sub (ws' := planL E ap vp) [6, 7, 8, 9, 10, 11, 12, 13, 14, 15, 16, 17, 18, 19, 20, 21, 22, 23, 24, 25, 26, 27, 28, 29, 30, 31, 32, 33, 34] rfl) rfl rfl rfl rfl hl.1 rfl (Nat.le_of_ble_eq_true rfl) dX9_odds_10 ⟨Nat.zero_le _, Nat.zero_le _⟩ (fun r10 h10 => ?_)
  have hf10 := h10.2
  replace h10 := h10.1
  have hm9 : y.toInt < 0 ∨ 0 ≤ (vp 0 0).toInt * y.toInt := (Int.lt_or_le y.toInt 0).imp id (fun q => Int.mul_nonneg (by omega) q)
  refine lv_istore (lv' := [(7, .int r10), (0, .ref (a 99)), (1, .int k), (2, .int q), (3, .int x), (4, .int y), (5, .int lim), (6, .int step)]) hx hb dX9_odds_13 hl (by decide) rfl (fun ls hl => ?_)
  refine lv_aload_n hx hb dX9_odds_15 rfl (lv_at hl 1 rfl) ?_
  refine lv_iload_n hx hb dX9_odds_16 rfl (lv_at hl 2 rfl) ?_
  refine rd_V (As := [.int k]) (rest := []) (C := RX9) (ci := 9) ⟨hx, hb, hml, hown, hts⟩ (c_X9_isNoMoon l E A a v aq ap vp as_ vs k hI hJ hT) (cwV 1 hts gX9_odds_X9_isNoMoon rfl rfl rfl (by decide +kernel) ⟨Nat.le_of_ble_eq_true rfl, Nat.le_of_ble_eq_true rfl⟩) hE (hP.sub (ws' := tgsL E a v aq ap vp as_ vs) [0, 1, 2, 3, 4, 5, 6, 7, 8, 9, 10, 11, 12, 13, 14, 15, 16, 17, 18, 19, 20, 21, 22, 23, 24, 25, 26, 27, 28, 29, 30, 31, 32, 33, 34, 35, 36, 37, 38] rfl) rfl rfl rfl rfl hl.1 rfl (Nat.le_of_ble_eq_true rfl) dX9_odds_17 ⟨Nat.zero_le _, Nat.zero_le _⟩ (fun r17 h17 => ?_)
  refine lv_if_ne (tgt := 29) hx hb dX9_odds_20 (by decide) (fun c20 => ?_) (fun c20 => ?_)
  · have c20_ := i_ne c20
    replace h17 := or_y h17 c20_
    clear c20_
    refine lv_ldc hx hb hown lk2 dX9_odds_29 ?_
    subst hQ
    exact W.iret (v := (-1000000001)) hx hb hr (fun t ht hW => ⟨(-1000000001), rfl, ⟨trivial, (fun vm hR hg => by have hmi : (vp 5 0).toInt = (vm 4 0).toInt := (by rw [hR.1.2.1.1]); exact Or.inl ⟨by omega, (by rw [← hR.1.1.1, ← hR.1.1.2.1]; unfold inG; omega)⟩)⟩, ht⟩) (fun q h => absurd h List.not_mem_nil) dX9_odds_31
  · have c20_ := i_eq c20
    replace h17 := or_n h17 c20_
    refine lv_iload hx hb dX9_odds_23 (lv_at hl 0 rfl) ?_
    refine lv_iconst (v := (-1)) hx hb dX9_odds_25 (by decide) ?_
    refine lv_icmp_ne (tgt := 32) hx hb dX9_odds_26 (by decide) (fun c26 => ?_) (fun c26 => ?_)
    · have c26_ := i_ne c26
      replace h10 := cm_n h10 c26_
      clear c26_
      have sv32_r10 : 0 ≤ r10.toInt ∧ r10.toInt ≤ 23 := by omega
      have hcel : inG x y (vp 0 0) (vp 1 0) := (by unfold inG; omega)
      have hr9 : r10.toInt = (vp 0 0).toInt * y.toInt + x.toInt := by omega
      have hC9 : ∀ vm : Vf, RW vm vp vs → r10 = mC vm x y ∧ inG x y (vm 0 0) (vm 1 0) ∧ cW vm r10 := fun vm hR => by have hG := hR.2.2.2.1.1; have q := mC_eq hG hR.1.1.1 hR.1.1.2.1 hcel hr9; have i := hcel; rw [hR.1.1.1, hR.1.1.2.1] at i; exact ⟨q, i, by rw [q]; exact mC_cW hG i⟩
      clear hf10 hm9
      refine lv_iload_n hx hb dX9_odds_32 rfl (lv_at hl 3 rfl) ?_
      refine lv_iconst (v := 0) hx hb dX9_odds_33 (by decide) ?_
      refine lv_bipush (v := 100) hx hb dX9_odds_34 (by decide) ?_
      refine rd_S (As := [.int q, .int 0, .int 100]) (rest := []) ⟨hx, hb, hml, hown, hts⟩ (c_X9_isOff l E A q 0 100) (va_cwS 3 hts gX9_odds_X9_isOff rfl rfl rfl (by decide +kernel) ⟨Nat.le_of_ble_eq_true rfl, Nat.le_of_ble_eq_true rfl⟩) hE (hP.sub (ws' := []) [] rfl) rfl hl.1 rfl (Nat.le_of_ble_eq_true rfl) dX9_odds_36 ⟨Nat.zero_le _, Nat.zero_le _⟩ (fun r36 h36 => ?_)
      refine lv_if_ne (tgt := 62) hx hb dX9_odds_39 (by decide) (fun c39 => ?_) (fun c39 => ?_)
      · have c39_ := i_ne c39
        replace h36 := or_y h36 c39_
        clear c39_
        refine lv_ldc hx hb hown lk3 dX9_odds_62 ?_
        subst hQ
        exact W.iret (v := (-1000000002)) hx hb hr (fun t ht hW => ⟨(-1000000002), rfl, ⟨trivial, (fun vm hR hg => by have hmi : (vp 5 0).toInt = (vm 4 0).toInt := (by rw [hR.1.2.1.1]); have hC := hC9 vm hR; exact Or.inr ⟨⟨by omega, hC.2.1⟩, Or.inl ⟨by omega, by omega⟩⟩)⟩, ht⟩) (fun q h => absurd h List.not_mem_nil) dX9_odds_64
      · have c39_ := i_eq c39
        replace h36 := or_n h36 c39_
        refine lv_iload hx hb dX9_odds_42 (lv_at hl 6 rfl) ?_
        refine lv_iconst (v := 0) hx hb dX9_odds_44 (by decide) ?_
        refine lv_sipush (v := 999) hx hb dX9_odds_45 (by decide) ?_
        refine rd_S (As := [.int lim, .int 0, .int 999]) (rest := []) ⟨hx, hb, hml, hown, hts⟩ (c_X9_isOff l E A lim 0 999) (va_cwS 3 hts gX9_odds_X9_isOff rfl rfl rfl (by decide +kernel) ⟨Nat.le_of_ble_eq_true rfl, Nat.le_of_ble_eq_true rfl⟩) hE (hP.sub (ws' := []) [] rfl) rfl hl.1 rfl (Nat.le_of_ble_eq_true rfl) dX9_odds_48 ⟨Nat.zero_le _, Nat.zero_le _⟩ (fun r48 h48 => ?_)
        refine lv_if_ne (tgt := 62) hx hb dX9_odds_51 (by decide) (fun c51 => ?_) (fun c51 => ?_)
        · have c51_ := i_ne c51
          replace h48 := or_y h48 c51_
          clear c51_
          refine lv_ldc hx hb hown lk3 dX9_odds_62 ?_
          subst hQ
          exact W.iret (v := (-1000000002)) hx hb hr (fun t ht hW => ⟨(-1000000002), rfl, ⟨trivial, (fun vm hR hg => by have hmi : (vp 5 0).toInt = (vm 4 0).toInt := (by rw [hR.1.2.1.1]); have hC := hC9 vm hR; exact Or.inr ⟨⟨by omega, hC.2.1⟩, Or.inl ⟨by omega, by omega⟩⟩)⟩, ht⟩) (fun q h => absurd h List.not_mem_nil) dX9_odds_64
        · have c51_ := i_eq c51
          replace h48 := or_n h48 c51_
          refine lv_iload hx hb dX9_odds_54 (lv_at hl 7 rfl) ?_
          refine rd_S (As := [.int step]) (rest := []) ⟨hx, hb, hml, hown, hts⟩ (c_X9_isNoStep l E A step) (va_cwS 1 hts gX9_odds_X9_isNoStep rfl rfl rfl (by decide +kernel) ⟨Nat.le_of_ble_eq_true rfl, Nat.le_of_ble_eq_true rfl⟩) hE (hP.sub (ws' := []) [] rfl) rfl hl.1 rfl (Nat.le_of_ble_eq_true rfl) dX9_odds_56 ⟨Nat.zero_le _, Nat.zero_le _⟩ (fun r56 h56 => ?_)
          refine lv_if_eq (tgt := 65) hx hb dX9_odds_59 (by decide) (fun c59 => ?_) (fun c59 => ?_)
          · have c59_ := i_eq c59
            replace h56 := or_n h56 c59_
            refine lv_ldcw hx hb hown lk4 dX9_odds_65 ?_
            refine lv_iload_n hx hb dX9_odds_68 rfl (lv_at hl 3 rfl) ?_
            refine lv_imul hx hb dX9_odds_69 ?_
            refine lv_topi (fun x69 e69 => ?_)
            refine lv_istore (lv' := [(8, .int x69), (7, .int r10), (0, .ref (a 99)), (1, .int k), (2, .int q), (3, .int x), (4, .int y), (5, .int lim), (6, .int step)]) hx hb dX9_odds_70 hl (by decide) rfl (fun ls hl => ?_)
            refine lv_iconst (v := 0) hx hb dX9_odds_72 (by decide) ?_
            refine lv_istore (lv' := [(9, .int 0), (8, .int x69), (7, .int r10), (0, .ref (a 99)), (1, .int k), (2, .int q), (3, .int x), (4, .int y), (5, .int lim), (6, .int step)]) hx hb dX9_odds_73 hl (by decide) rfl (fun ls hl => ?_)
            refine lv_aload_n hx hb dX9_odds_75 rfl (lv_at hl 3 rfl) ?_
            refine va_get (D := eD E) (ci := 9) (v := .ref (a 5)) (C := RX9) (T := TX9) (N := 13) hx hb hts in_X9 hown hK hP 0 rfl rfl 5 (by decide) lk0 (fun _ h9 => h9) rfl dX9_odds_76 ?_
            refine lv_iload hx hb dX9_odds_79 (lv_at hl 2 rfl) ?_
            refine lv_iload hx hb dX9_odds_81 (lv_at hl 9 rfl) ?_
            refine lv_iconst (v := (-1)) hx hb dX9_odds_83 (by decide) ?_
            refine rd_V (As := [.int r10, .int step, .int (-1)]) (rest := []) (C := RX8) (ci := 8) ⟨hx, hb, hml, hown, hts⟩ (c_X8_leanAt l E A (a 5) ap vp as_ vs r10 step (-1) hI hJ (by omega) (by omega)) (cwV 3 hts gX9_odds_X8_leanAt rfl rfl rfl (by decide +kernel) ⟨Nat.le_of_ble_eq_true rfl, Nat.le_of_ble_eq_true rfl⟩) hE (hP.sub (ws' := wpsL E (a 5) ap vp as_ vs) [5, 6, 7, 8, 9, 10, 11, 12, 13, 14, 15, 16, 17, 18, 19, 20, 21, 22, 23, 24, 25, 26, 27, 28, 29, 30, 31, 32, 33, 34, 35, 36, 37, 38] rfl) rfl rfl rfl rfl hl.1 rfl (Nat.le_of_ble_eq_true rfl) dX9_odds_84 ⟨Nat.zero_le _, Nat.zero_le _⟩ (fun r84 h84 => ?_)
            have hf84 := h84.2
            replace h84 := h84.1
            refine lv_iload hx hb dX9_odds_87 (lv_at hl 8 rfl) ?_
            refine lv_icmp_le (tgt := 99) hx hb dX9_odds_89 (by decide) (fun c89 => ?_) (fun c89 => ?_)
            · have c89_ := i_le c89
              have hp89 := c89
              refine lv_aload_n hx hb dX9_odds_99 rfl (lv_at hl 3 rfl) ?_
              refine va_get (D := eD E) (ci := 9) (v := .ref (a 5)) (C := RX9) (T := TX9) (N := 13) hx hb hts in_X9 hown hK hP 0 rfl rfl 5 (by decide) lk0 (fun _ h9 => h9) rfl dX9_odds_100 ?_
              refine lv_iload hx hb dX9_odds_103 (lv_at hl 2 rfl) ?_
              refine lv_iload hx hb dX9_odds_105 (lv_at hl 9 rfl) ?_
              refine lv_iload_n hx hb dX9_odds_107 rfl (lv_at hl 4 rfl) ?_
              refine rd_V (As := [.int r10, .int step, .int k]) (rest := []) (C := RX8) (ci := 8) ⟨hx, hb, hml, hown, hts⟩ (c_X8_leanAt l E A (a 5) ap vp as_ vs r10 step k hI hJ (by omega) (by omega)) (cwV 3 hts gX9_odds_X8_leanAt rfl rfl rfl (by decide +kernel) ⟨Nat.le_of_ble_eq_true rfl, Nat.le_of_ble_eq_true rfl⟩) hE (hP.sub (ws' := wpsL E (a 5) ap vp as_ vs) [5, 6, 7, 8, 9, 10, 11, 12, 13, 14, 15, 16, 17, 18, 19, 20, 21, 22, 23, 24, 25, 26, 27, 28, 29, 30, 31, 32, 33, 34, 35, 36, 37, 38] rfl) rfl rfl rfl rfl hl.1 rfl (Nat.le_of_ble_eq_true rfl) dX9_odds_108 ⟨Nat.zero_le _, Nat.zero_le _⟩ (fun r108 h108 => ?_)
              have hf108 := h108.2
              replace h108 := h108.1
              refine lv_iload hx hb dX9_odds_111 (lv_at hl 8 rfl) ?_
              refine lv_icmp_le (tgt := 127) hx hb dX9_odds_113 (by decide) (fun c113 => ?_) (fun c113 => ?_)
              · have c113_ := i_le c113
                have hp113 := c113
                refine lv_iload hx hb dX9_odds_127 (lv_at hl 0 rfl) ?_
                subst hQ
                exact W.iret (v := 0) hx hb hr (fun t ht hW => ⟨0, rfl, ⟨trivial, (fun vm hR hg => by have hmi : (vp 5 0).toInt = (vm 4 0).toInt := (by rw [hR.1.2.1.1]); have hC := hC9 vm hR; have l1 := hf84 vm hR hg hC.2.2; have l2 := hf108 (up2 vm 62 0 k) (rw_away hR) rfl (cw_away hC.2.2); exact Or.inr ⟨⟨by omega, hC.2.1⟩, Or.inr ⟨by omega, by unfold mOdd; rw [← hC.1, ← l1, ← l2]; first | exact odd_cls (Or.inl ⟨hp89, rfl⟩) (Or.inl ⟨hp113, rfl⟩) | exact odd_cls (Or.inl ⟨hp89, rfl⟩) (Or.inr ⟨hn113, by rw [e124, e123, e69]⟩) | exact odd_cls (s := x96) (Or.inr ⟨hn89, by rw [e96, e69]⟩) (Or.inl ⟨hp113, rfl⟩) | exact odd_cls (s := x96) (Or.inr ⟨hn89, by rw [e96, e69]⟩) (Or.inr ⟨hn113, by rw [e124, e123, e69]⟩)⟩⟩)⟩, ht⟩) (fun q h => absurd h List.not_mem_nil) dX9_odds_129
              · have c113_ := i_nle c113
                have hn113 := c113
                refine lv_iload hx hb dX9_odds_116 (lv_at hl 0 rfl) ?_
                refine lv_ldcw hx hb hown lk5 dX9_odds_118 ?_
                refine lv_iload hx hb dX9_odds_121 (lv_at hl 1 rfl) ?_
                refine lv_isub hx hb dX9_odds_123 ?_
                refine lv_topi (fun x123 e123 => ?_)
                refine lv_iadd hx hb dX9_odds_124 ?_
                refine lv_topi (fun x124 e124 => ?_)
                refine lv_istore (lv' := [(9, .int x124), (8, .int x69), (7, .int r10), (0, .ref (a 99)), (1, .int k), (2, .int q), (3, .int x), (4, .int y), (5, .int lim), (6, .int step)]) hx hb dX9_odds_125 hl (by decide) rfl (fun ls hl => ?_)
                refine lv_iload hx hb dX9_odds_127 (lv_at hl 0 rfl) ?_
                subst hQ
                exact W.iret (v := x124) hx hb hr (fun t ht hW => ⟨x124, rfl, ⟨trivial, (fun vm hR hg => by have hmi : (vp 5 0).toInt = (vm 4 0).toInt := (by rw [hR.1.2.1.1]); have hC := hC9 vm hR; have l1 := hf84 vm hR hg hC.2.2; have l2 := hf108 (up2 vm 62 0 k) (rw_away hR) rfl (cw_away hC.2.2); exact Or.inr ⟨⟨by omega, hC.2.1⟩, Or.inr ⟨by omega, by unfold mOdd; rw [← hC.1, ← l1, ← l2]; first | exact odd_cls (Or.inl ⟨hp89, rfl⟩) (Or.inl ⟨hp113, rfl⟩) | exact odd_cls (Or.inl ⟨hp89, rfl⟩) (Or.inr ⟨hn113, by rw [e124, e123, e69]⟩) | exact odd_cls (s := x96) (Or.inr ⟨hn89, by rw [e96, e69]⟩) (Or.inl ⟨hp113, rfl⟩) | exact odd_cls (s := x96) (Or.inr ⟨hn89, by rw [e96, e69]⟩) (Or.inr ⟨hn113, by rw [e124, e123, e69]⟩)⟩⟩)⟩, ht⟩) (fun q h => absurd h List.not_mem_nil) dX9_odds_129
            · have c89_ := i_nle c89
              have hn89 := c89
              refine lv_iload hx hb dX9_odds_92 (lv_at hl 0 rfl) ?_
              refine lv_iload hx hb dX9_odds_94 (lv_at hl 1 rfl) ?_
              refine lv_iadd hx hb dX9_odds_96 ?_
              refine lv_topi (fun x96 e96 => ?_)
              refine lv_istore (lv' := [(9, .int x96), (8, .int x69), (7, .int r10), (0, .ref (a 99)), (1, .int k), (2, .int q), (3, .int x), (4, .int y), (5, .int lim), (6, .int step)]) hx hb dX9_odds_97 hl (by decide) rfl (fun ls hl => ?_)
              refine lv_aload_n hx hb dX9_odds_99 rfl (lv_at hl 3 rfl) ?_
              refine va_get (D := eD E) (ci := 9) (v := .ref (a 5)) (C := RX9) (T := TX9) (N := 13) hx hb hts in_X9 hown hK hP 0 rfl rfl 5 (by decide) lk0 (fun _ h9 => h9) rfl dX9_odds_100 ?_
              refine lv_iload hx hb dX9_odds_103 (lv_at hl 2 rfl) ?_
              refine lv_iload hx hb dX9_odds_105 (lv_at hl 9 rfl) ?_
              refine lv_iload_n hx hb dX9_odds_107 rfl (lv_at hl 4 rfl) ?_
              refine rd_V (As := [.int r10, .int step, .int k]) (rest := []) (C := RX8) (ci := 8) ⟨hx, hb, hml, hown, hts⟩ (c_X8_leanAt l E A (a 5) ap vp as_ vs r10 step k hI hJ (by omega) (by omega)) (cwV 3 hts gX9_odds_X8_leanAt rfl rfl rfl (by decide +kernel) ⟨Nat.le_of_ble_eq_true rfl, Nat.le_of_ble_eq_true rfl⟩) hE (hP.sub (ws' := wpsL E (a 5) ap vp as_ vs) [5, 6, 7, 8, 9, 10, 11, 12, 13, 14, 15, 16, 17, 18, 19, 20, 21, 22, 23, 24, 25, 26, 27, 28, 29, 30, 31, 32, 33, 34, 35, 36, 37, 38] rfl) rfl rfl rfl rfl hl.1 rfl (Nat.le_of_ble_eq_true rfl) dX9_odds_108 ⟨Nat.zero_le _, Nat.zero_le _⟩ (fun r108 h108 => ?_)
              have hf108 := h108.2
              replace h108 := h108.1
              refine lv_iload hx hb dX9_odds_111 (lv_at hl 8 rfl) ?_
              refine lv_icmp_le (tgt := 127) hx hb dX9_odds_113 (by decide) (fun c113 => ?_) (fun c113 => ?_)
              · have c113_ := i_le c113
                have hp113 := c113
                refine lv_iload hx hb dX9_odds_127 (lv_at hl 0 rfl) ?_
                subst hQ
                exact W.iret (v := x96) hx hb hr (fun t ht hW => ⟨x96, rfl, ⟨trivial, (fun vm hR hg => by have hmi : (vp 5 0).toInt = (vm 4 0).toInt := (by rw [hR.1.2.1.1]); have hC := hC9 vm hR; have l1 := hf84 vm hR hg hC.2.2; have l2 := hf108 (up2 vm 62 0 k) (rw_away hR) rfl (cw_away hC.2.2); exact Or.inr ⟨⟨by omega, hC.2.1⟩, Or.inr ⟨by omega, by unfold mOdd; rw [← hC.1, ← l1, ← l2]; first | exact odd_cls (Or.inl ⟨hp89, rfl⟩) (Or.inl ⟨hp113, rfl⟩) | exact odd_cls (Or.inl ⟨hp89, rfl⟩) (Or.inr ⟨hn113, by rw [e124, e123, e69]⟩) | exact odd_cls (s := x96) (Or.inr ⟨hn89, by rw [e96, e69]⟩) (Or.inl ⟨hp113, rfl⟩) | exact odd_cls (s := x96) (Or.inr ⟨hn89, by rw [e96, e69]⟩) (Or.inr ⟨hn113, by rw [e124, e123, e69]⟩)⟩⟩)⟩, ht⟩) (fun q h => absurd h List.not_mem_nil) dX9_odds_129
              · have c113_ := i_nle c113
                have hn113 := c113
                refine lv_iload hx hb dX9_odds_116 (lv_at hl 0 rfl) ?_
                refine lv_ldcw hx hb hown lk5 dX9_odds_118 ?_
                refine lv_iload hx hb dX9_odds_121 (lv_at hl 1 rfl) ?_
                refine lv_isub hx hb dX9_odds_123 ?_
                refine lv_topi (fun x123 e123 => ?_)
                refine lv_iadd hx hb dX9_odds_124 ?_
                refine lv_topi (fun x124 e124 => ?_)
                refine lv_istore (lv' := [(9, .int x124), (8, .int x69), (7, .int r10), (0, .ref (a 99)), (1, .int k), (2, .int q), (3, .int x), (4, .int y), (5, .int lim), (6, .int step)]) hx hb dX9_odds_125 hl (by decide) rfl (fun ls hl => ?_)
                refine lv_iload hx hb dX9_odds_127 (lv_at hl 0 rfl) ?_
                subst hQ
                exact W.iret (v := x124) hx hb hr (fun t ht hW => ⟨x124, rfl, ⟨trivial, (fun vm hR hg => by have hmi : (vp 5 0).toInt = (vm 4 0).toInt := (by rw [hR.1.2.1.1]); have hC := hC9 vm hR; have l1 := hf84 vm hR hg hC.2.2; have l2 := hf108 (up2 vm 62 0 k) (rw_away hR) rfl (cw_away hC.2.2); exact Or.inr ⟨⟨by omega, hC.2.1⟩, Or.inr ⟨by omega, by unfold mOdd; rw [← hC.1, ← l1, ← l2]; first | exact odd_cls (Or.inl ⟨hp89, rfl⟩) (Or.inl ⟨hp113, rfl⟩) | exact odd_cls (Or.inl ⟨hp89, rfl⟩) (Or.inr ⟨hn113, by rw [e124, e123, e69]⟩) | exact odd_cls (s := x96) (Or.inr ⟨hn89, by rw [e96, e69]⟩) (Or.inl ⟨hp113, rfl⟩) | exact odd_cls (s := x96) (Or.inr ⟨hn89, by rw [e96, e69]⟩) (Or.inr ⟨hn113, by rw [e124, e123, e69]⟩)⟩⟩)⟩, ht⟩) (fun q h => absurd h List.not_mem_nil) dX9_odds_129
          · have c59_ := i_ne c59
            replace h56 := or_y h56 c59_
            clear c59_
            refine lv_ldc hx hb hown lk3 dX9_odds_62 ?_
            subst hQ
            exact W.iret (v := (-1000000002)) hx hb hr (fun t ht hW => ⟨(-1000000002), rfl, ⟨trivial, (fun vm hR hg => by have hmi : (vp 5 0).toInt = (vm 4 0).toInt := (by rw [hR.1.2.1.1]); have hC := hC9 vm hR; exact Or.inr ⟨⟨by omega, hC.2.1⟩, Or.inl ⟨by omega, by omega⟩⟩)⟩, ht⟩) (fun q h => absurd h List.not_mem_nil) dX9_odds_64
    · have c26_ := i_eq c26
      clear h10
      refine lv_ldc hx hb hown lk2 dX9_odds_29 ?_
      subst hQ
      exact W.iret (v := (-1000000001)) hx hb hr (fun t ht hW => ⟨(-1000000001), rfl, ⟨trivial, (fun vm hR hg => by have hmi : (vp 5 0).toInt = (vm 4 0).toInt := (by rw [hR.1.2.1.1]); exact Or.inl ⟨by omega, (by rw [← hR.1.1.1, ← hR.1.1.2.1]; unfold inG; omega)⟩)⟩, ht⟩) (fun q h => absurd h List.not_mem_nil) dX9_odds_31
def rm_X9_judge : Room := { frames := 4, cells := 0, slots := 0, locals := 96 }
set_option maxHeartbeats 4000000 in
set_option maxRecDepth 100000 in
theorem c_X9_judge (l : Launch) (E : Ev) (A : Nat → Prop) (a : Nat → Nat) (v : Vf) (aq : Nat → Nat) (ap : Nat → Nat) (vp : Vf) (as_ : Nat → Nat) (vs : Vf) (what : Int32) (hI : PlanI vp) (hJ : StateI vs) (hT : TgI v) : Met l yX9_judge wsX9_judge rm_X9_judge (RdP E A [.ref (a 99), .int what] (tgsL E a v aq ap vp as_ vs)) (vp_Si (fun r => (True) ∧ (∀ vm : Vf, RW vm vp vs → (-1 : Int32) = vm 62 0 → BkR v vm → OutP (0 ≤ what.toInt ∧ what.toInt ≤ 1) r (NotP ((vm 0 0).toInt ≠ 0) r (JdR vm what r))))) 0 0 (fun _ => False) := by
  refine Met.ofW (cc := cX9_judge) (maxL := 7) (ret := (some .int)) (by decide) rfl ?_
  intro p e s m args below meth c s₁ B hml hv
  obtain ⟨rfl, hE, hP⟩ := hv
  have hx := B.exec
  have hb := B.bytes
  have hr := B.returns
  have hts := atoms_spec (ws := wsX9_judge) B.pre
  have hown : s.vm.findClass RX9 = some m.cls := findClass_of_methodNamed B.named
  have hlocks := B.notSynchronized
  have hK := hE.1
  have in_X9 : ∀ w ∈ u_ws RX9 TX9 13, w ∈ wsX9_judge := fun w h => List.mem_cons_of_mem _ (List.mem_append_left _ (List.mem_append_left _ (List.mem_append_left _ (List.mem_append_left _ (List.mem_append_left _ (List.mem_append_right _ h))))))
  have in_X8 : ∀ w ∈ u_ws RX8 TX8 2, w ∈ wsX9_judge := fun w h => List.mem_cons_of_mem _ (List.mem_append_left _ (List.mem_append_left _ (List.mem_append_left _ (List.mem_append_left _ (List.mem_append_right _ h)))))
  have in_X1 : ∀ w ∈ u_ws RX1 TX1 11, w ∈ wsX9_judge := fun w h => List.mem_cons_of_mem _ (List.mem_append_left _ (List.mem_append_left _ (List.mem_append_left _ (List.mem_append_right _ h))))
  have in_X6 : ∀ w ∈ u_ws RX6 TX6 9, w ∈ wsX9_judge := fun w h => List.mem_cons_of_mem _ (List.mem_append_left _ (List.mem_append_left _ (List.mem_append_right _ h)))
  have lk0 := hts (.fieldLink RX9 43 "TidedGround" "world" "LTidedGround$World;") (List.mem_of_getElem? (i := 2) rfl)
  have lk1 := hts (.fieldLink RX9 91 "TidedGround$World" "plan" "LTidedGround$Plan;") (List.mem_of_getElem? (i := 3) rfl)
  have lk2 := hts (.fieldLink RX9 97 "TidedGround$Plan" "cells" "I") (List.mem_of_getElem? (i := 4) rfl)
  have lk3 := hts (.fieldLink RX9 34 "TidedGround" "now" "LTidedGround$State;") (List.mem_of_getElem? (i := 6) rfl)
  have lk4 := hts (.fieldLink RX9 144 "TidedGround$State" "cart" "I") (List.mem_of_getElem? (i := 7) rfl)
  have lk5 := hts (.fieldLink RX9 106 "TidedGround" "bookCount" "I") (List.mem_of_getElem? (i := 8) rfl)
  have lk6 := hts (.fieldLink RX9 74 "TidedGround" "book" "[I") (List.mem_of_getElem? (i := 9) rfl)
  have lk7 := hts (.fieldLink RX9 137 "TidedGround$State" "step" "I") (List.mem_of_getElem? (i := 10) rfl)
  have lk8 := hts (.constant RX9 236 (-1000000003)) (List.mem_of_getElem? (i := 5) rfl)
  have lk9 := hts (.constant RX9 81 (-1000000002)) (List.mem_of_getElem? (i := 1) rfl)
  have n_m1000000003 : ((-1000000003) : Int32).toInt = -1000000003 := by decide
  have n_m1000000002 : ((-1000000002) : Int32).toInt = -1000000002 := by decide
  have n_m1 : ((-1) : Int32).toInt = -1 := by decide
  have n_0 : (0 : Int32).toInt = 0 := by decide
  have n_1 : (1 : Int32).toInt = 1 := by decide
  have hl := lv_entry ([.ref (a 99), .int what]) (n := 7) (Nat.le_of_ble_eq_true rfl)
  rw [lg_entry_eq]
  generalize (lg_sl ([.ref (a 99), .int what]) ++ List.replicate (7 - (lg_sl ([.ref (a 99), .int what])).length) Slot.unset).toArray = ls at hl ⊢
  have hl : lv_has ls 7 [(0, .ref (a 99)), (1, .int what)] := hl
  refine W_abs (fun Q hQ => ?_)
  obtain ⟨hg, hmc, hm0, hm1, hm2, hs0, hs1, hs2, hs3⟩ := id hI
  obtain ⟨hg1, hg2, hg3, hg4⟩ := id hg
  have hz0 := hm0.1
  have hz1 := hm1.1
  have hz2 := hm2.1
  have hc0 := hs0.1
  have hc1 := hs1.1
  have hc2 := hs2.1
  have hc3 := hs3.1
  obtain ⟨hj0, hj1, hj2⟩ := id hJ
  obtain ⟨hT1, hT2⟩ := id hT
  refine lv_iload_n hx hb dX9_judge_0 rfl (lv_at hl 1 rfl) ?_
  refine lv_iconst (v := 0) hx hb dX9_judge_1 (by decide) ?_
  refine lv_iconst (v := 1) hx hb dX9_judge_2 (by decide) ?_
  refine rd_S (As := [.int what, .int 0, .int 1]) (rest := []) ⟨hx, hb, hml, hown, hts⟩ (c_X9_isOff l E A what 0 1) (va_cwS 3 hts gX9_judge_X9_isOff rfl rfl rfl (by decide +kernel) ⟨Nat.le_of_ble_eq_true rfl, Nat.le_of_ble_eq_true rfl⟩) hE (hP.sub (ws' := []) [] rfl) rfl hl.1 rfl (Nat.le_of_ble_eq_true rfl) dX9_judge_3 ⟨Nat.zero_le _, Nat.zero_le _⟩ (fun r3 h3 => ?_)
  refine lv_if_eq (tgt := 12) hx hb dX9_judge_6 (by decide) (fun c6 => ?_) (fun c6 => ?_)
  · have c6_ := i_eq c6
    replace h3 := or_n h3 c6_
    refine lv_aload_n hx hb dX9_judge_12 rfl (lv_at hl 0 rfl) ?_
    refine va_get (D := eD E) (ci := 9) (v := .ref (a 5)) (C := RX9) (T := TX9) (N := 13) hx hb hts in_X9 hown hK hP 0 rfl rfl 5 (by decide) lk0 (fun _ h9 => h9) rfl dX9_judge_13 ?_
    refine va_get (D := eD E) (ci := 8) (v := .ref (ap 0)) (C := RX8) (T := TX8) (N := 2) hx hb hts in_X8 hown hK hP 5 rfl rfl 0 (by decide) lk1 (fun _ h9 => h9) rfl dX9_judge_16 ?_
    refine va_get (D := eD E) (ci := 1) (v := .int (vp 2 0)) (C := RX1) (T := TX1) (N := 11) hx hb hts in_X1 hown hK hP 6 rfl rfl 2 (by decide) lk2 (fun _ h9 => h9) rfl dX9_judge_19 ?_
    refine lv_if_ne (tgt := 28) hx hb dX9_judge_22 (by decide) (fun c22 => ?_) (fun c22 => ?_)
    · have c22_ := i_ne c22
      have hn28 := Int.mul_nonneg hg1.1 hg2.1
      refine lv_aload_n hx hb dX9_judge_28 rfl (lv_at hl 0 rfl) ?_
      refine va_get (D := eD E) (ci := 9) (v := .ref (as_ 0)) (C := RX9) (T := TX9) (N := 13) hx hb hts in_X9 hown hK hP 0 rfl rfl 6 (by decide) lk3 (fun _ h9 => h9) rfl dX9_judge_29 ?_
      refine va_get (D := eD E) (ci := 6) (v := .int (vs 4 0)) (C := RX6) (T := TX6) (N := 9) hx hb hts in_X6 hown hK hP 35 rfl rfl 4 (by decide) lk4 (fun _ h9 => h9) rfl dX9_judge_32 ?_
      refine lv_istore_n (lv' := [(2, .int (vs 4 0)), (0, .ref (a 99)), (1, .int what)]) hx hb dX9_judge_35 rfl hl (by decide) rfl (fun ls hl => ?_)
      refine lv_iconst (v := 0) hx hb dX9_judge_36 (by decide) ?_
      refine lv_istore_n (lv' := [(3, .int 0), (2, .int (vs 4 0)), (0, .ref (a 99)), (1, .int what)]) hx hb dX9_judge_37 rfl hl (by decide) rfl (fun ls hl => ?_)
      refine lv_iconst (v := 0) hx hb dX9_judge_38 (by decide) ?_
      refine lv_istore (lv' := [(4, .int 0), (3, .int 0), (2, .int (vs 4 0)), (0, .ref (a 99)), (1, .int what)]) hx hb dX9_judge_39 hl (by decide) rfl (fun ls hl => ?_)
      have K41 : ∀ (μ : Nat) (k : Int32) (ps : Int32) (i : Int32) (ls : Array Slot), (30 - i.toInt).toNat < μ → (0 ≤ k.toInt ∧ k.toInt ≤ 23) → (0 ≤ i.toInt ∧ i.toInt ≤ 30) → (∀ vm : Vf, RW vm vp vs → (-1 : Int32) = vm 62 0 → BkR v vm → ((k = jdC vm i.toNatClampNeg ∧ ps = jdP vm i.toNatClampNeg ∧ JdO vm i.toInt) ∧ cW vm k)) → (i.toInt ≤ (v 12 0).toInt) → lv_has ls 7 [(0, .ref (a 99)), (1, .int what), (2, .int k), (3, .int ps), (4, .int i)] → W p l e (headSpec wsX9_judge rm_X9_judge).room s m ([.ref (a 99), .int what] : List Value).toArray below meth c s.heap [] 0 0 Q (F0 m 41 ls []) := by
        intro μ
        induction μ with
        | zero =>
          intro k ps i ls hμ41
          exact absurd hμ41 (Nat.not_lt_zero _)
        | succ μ ih41 =>
          intro k ps i ls hμ41 h41_0 h41_1 h41_2 h41_3 hl
          have hx41_0 := h41_2
          clear h41_2
          have hx41_1 := h41_3
          clear h41_3
          refine lv_iload hx hb dX9_judge_41 (lv_at hl 4 rfl) ?_
          refine lv_aload_n hx hb dX9_judge_43 rfl (lv_at hl 0 rfl) ?_
          refine va_get (D := eD E) (ci := 9) (v := .int (v 12 0)) (C := RX9) (T := TX9) (N := 13) hx hb hts in_X9 hown hK hP 0 rfl rfl 12 (by decide) lk5 (fun _ h9 => h9) rfl dX9_judge_44 ?_
          refine lv_icmp_ge (tgt := 125) hx hb dX9_judge_47 (by decide) (fun c47 => ?_) (fun c47 => ?_)
          · have c47_ := i_le c47
            refine lv_iload_n hx hb dX9_judge_125 rfl (lv_at hl 1 rfl) ?_
            refine lv_if_ne (tgt := 133) hx hb dX9_judge_126 (by decide) (fun c126 => ?_) (fun c126 => ?_)
            · have c126_ := i_ne c126
              have hv126 : what.toInt = 1 := by omega
              refine lv_iload_n hx hb dX9_judge_133 rfl (lv_at hl 3 rfl) ?_
              subst hQ
              exact W.iret (v := ps) hx hb hr (fun t ht hW => ⟨ps, rfl, ⟨trivial, (fun vm hR hg hk => by have hW := rol_w hR (by omega); have hx := hx41_0 vm hR hg hk; have hb1 := hk.1; exact Or.inr ⟨by omega, Or.inr ⟨by omega, jd_end hx.1.2.2 hx.1.2.1 (i_eqr (by rw [← hb1]; omega)) (by first | exact Or.inr ⟨hv126, rfl⟩ | exact Or.inl ⟨hw126, n_m1⟩)⟩⟩)⟩, ht⟩) (fun q h => absurd h List.not_mem_nil) dX9_judge_134
            · have c126_ := i_eq c126
              have hw126 : what.toInt = 0 := by omega
              refine lv_iconst (v := (-1)) hx hb dX9_judge_129 (by decide) ?_
              refine lv_goto (tgt := 134) hx hb dX9_judge_130 (by decide) ?_
              subst hQ
              exact W.iret (v := (-1)) hx hb hr (fun t ht hW => ⟨(-1), rfl, ⟨trivial, (fun vm hR hg hk => by have hW := rol_w hR (by omega); have hx := hx41_0 vm hR hg hk; have hb1 := hk.1; exact Or.inr ⟨by omega, Or.inr ⟨by omega, jd_end hx.1.2.2 hx.1.2.1 (i_eqr (by rw [← hb1]; omega)) (by first | exact Or.inr ⟨hv126, rfl⟩ | exact Or.inl ⟨hw126, n_m1⟩)⟩⟩)⟩, ht⟩) (fun q h => absurd h List.not_mem_nil) dX9_judge_134
          · have c47_ := i_nle c47
            refine lv_aload_n hx hb dX9_judge_50 rfl (lv_at hl 0 rfl) ?_
            refine va_get (D := eD E) (ci := 9) (v := .ref (a 5)) (C := RX9) (T := TX9) (N := 13) hx hb hts in_X9 hown hK hP 0 rfl rfl 5 (by decide) lk0 (fun _ h9 => h9) rfl dX9_judge_51 ?_
            refine va_get (D := eD E) (ci := 8) (v := .ref (ap 0)) (C := RX8) (T := TX8) (N := 2) hx hb hts in_X8 hown hK hP 5 rfl rfl 0 (by decide) lk1 (fun _ h9 => h9) rfl dX9_judge_54 ?_
            refine lv_iload_n hx hb dX9_judge_57 rfl (lv_at hl 2 rfl) ?_
            refine lv_aload_n hx hb dX9_judge_58 rfl (lv_at hl 0 rfl) ?_
            refine va_get (D := eD E) (ci := 9) (v := .ref (a 11)) (C := RX9) (T := TX9) (N := 13) hx hb hts in_X9 hown hK hP 0 rfl rfl 11 (by decide) lk6 (fun _ h9 => h9) rfl dX9_judge_59 ?_
            refine lv_iload hx hb dX9_judge_62 (lv_at hl 4 rfl) ?_
            refine va_iald hx hb hK hP 1 0 rfl rfl (n := 30) (f := (v 11)) (i_in (by omega) (by omega)) dX9_judge_64 ?_
            refine lv_topi (fun x64 e64 => ?_)
            refine rd_V (As := [.int k, .int x64]) (rest := []) (C := RX1) (ci := 1) ⟨hx, hb, hml, hown, hts⟩ (c_X1_beside l E A ap vp k x64 hI (by omega)) (cwV 2 hts gX9_judge_X1_beside rfl rfl rfl (by decide +kernel) ⟨Nat.le_of_ble_eq_true rfl, Nat.le_of_ble_eq_true rfl⟩) hE (hP.sub (ws' := planL E ap vp) [6, 7, 8, 9, 10, 11, 12, 13, 14, 15, 16, 17, 18, 19, 20, 21, 22, 23, 24, 25, 26, 27, 28, 29, 30, 31, 32, 33, 34] rfl) rfl rfl rfl rfl hl.1 rfl (Nat.le_of_ble_eq_true rfl) dX9_judge_65 ⟨Nat.zero_le _, Nat.zero_le _⟩ (fun r65 h65 => ?_)
            have hf65 := h65.2
            replace h65 := h65.1
            refine lv_istore (lv' := [(5, .int r65), (0, .ref (a 99)), (1, .int what), (2, .int k), (3, .int ps), (4, .int i)]) hx hb dX9_judge_68 hl (by decide) rfl (fun ls hl => ?_)
            refine lv_aload_n hx hb dX9_judge_70 rfl (lv_at hl 1 rfl) ?_
            refine va_get (D := eD E) (ci := 9) (v := .ref (a 5)) (C := RX9) (T := TX9) (N := 13) hx hb hts in_X9 hown hK hP 0 rfl rfl 5 (by decide) lk0 (fun _ h9 => h9) rfl dX9_judge_71 ?_
            refine lv_iload_n hx hb dX9_judge_74 rfl (lv_at hl 3 rfl) ?_
            refine lv_iload hx hb dX9_judge_75 (lv_at hl 0 rfl) ?_
            refine lv_aload_n hx hb dX9_judge_77 rfl (lv_at hl 1 rfl) ?_
            refine va_get (D := eD E) (ci := 9) (v := .ref (as_ 0)) (C := RX9) (T := TX9) (N := 13) hx hb hts in_X9 hown hK hP 0 rfl rfl 6 (by decide) lk3 (fun _ h9 => h9) rfl dX9_judge_78 ?_
            refine va_get (D := eD E) (ci := 6) (v := .int (vs 0 0)) (C := RX6) (T := TX6) (N := 9) hx hb hts in_X6 hown hK hP 35 rfl rfl 0 (by decide) lk7 (fun _ h9 => h9) rfl dX9_judge_81 ?_
            refine lv_iconst (v := 1) hx hb dX9_judge_84 (by decide) ?_
            refine lv_iadd hx hb dX9_judge_85 ?_
            refine lv_topi (fun x85 e85 => ?_)
            have t85 := i_add e85 (by omega)
            refine lv_iload hx hb dX9_judge_86 (lv_at hl 5 rfl) ?_
            refine lv_iadd hx hb dX9_judge_88 ?_
            refine lv_topi (fun x88 e88 => ?_)
            have t88 := i_add e88 (by omega)
            refine rd_V (As := [.int k, .int r65, .int x88]) (rest := []) (C := RX8) (ci := 8) ⟨hx, hb, hml, hown, hts⟩ (c_X8_pushTo l E A (a 5) ap vp as_ vs k r65 x88 hI hJ (by omega) (by omega) (by omega)) (cwV 3 hts gX9_judge_X8_pushTo rfl rfl rfl (by decide +kernel) ⟨Nat.le_of_ble_eq_true rfl, Nat.le_of_ble_eq_true rfl⟩) hE (hP.sub (ws' := wpsL E (a 5) ap vp as_ vs) [5, 6, 7, 8, 9, 10, 11, 12, 13, 14, 15, 16, 17, 18, 19, 20, 21, 22, 23, 24, 25, 26, 27, 28, 29, 30, 31, 32, 33, 34, 35, 36, 37, 38] rfl) rfl rfl rfl rfl hl.1 rfl (Nat.le_of_ble_eq_true rfl) dX9_judge_89 ⟨Nat.zero_le _, Nat.zero_le _⟩ (fun r89 h89 => ?_)
            have hf89 := h89.2
            replace h89 := h89.1
            refine lv_istore (lv' := [(6, .int r89), (5, .int r65), (0, .ref (a 99)), (1, .int what), (2, .int k), (3, .int ps), (4, .int i)]) hx hb dX9_judge_92 hl (by decide) rfl (fun ls hl => ?_)
            refine lv_iload hx hb dX9_judge_94 (lv_at hl 0 rfl) ?_
            refine lv_iconst (v := (-1)) hx hb dX9_judge_96 (by decide) ?_
            refine lv_icmp_ne (tgt := 111) hx hb dX9_judge_97 (by decide) (fun c97 => ?_) (fun c97 => ?_)
            · have c97_ := i_ne c97
              replace h89 := cm_n h89 c97_
              clear c97_
              refine lv_iload_n hx hb dX9_judge_111 rfl (lv_at hl 5 rfl) ?_
              refine lv_iload hx hb dX9_judge_112 (lv_at hl 0 rfl) ?_
              refine lv_iadd hx hb dX9_judge_114 ?_
              refine lv_topi (fun x114 e114 => ?_)
              refine lv_istore_n (lv' := [(3, .int x114), (6, .int r89), (5, .int r65), (0, .ref (a 99)), (1, .int what), (2, .int k), (4, .int i)]) hx hb dX9_judge_115 rfl hl (by decide) rfl (fun ls hl => ?_)
              refine lv_iload hx hb dX9_judge_116 (lv_at hl 2 rfl) ?_
              refine lv_istore_n (lv' := [(2, .int r65), (3, .int x114), (6, .int r89), (5, .int r65), (0, .ref (a 99)), (1, .int what), (4, .int i)]) hx hb dX9_judge_118 rfl hl (by decide) rfl (fun ls hl => ?_)
              obtain ⟨x119, e119⟩ : ∃ y : Int32, y = i + 1 := ⟨_, rfl⟩
              refine lv_iinc (v := x119) (lv' := [(4, .int x119), (2, .int r65), (3, .int x114), (6, .int r89), (5, .int r65), (0, .ref (a 99)), (1, .int what)]) hx hb dX9_judge_119 hl (k := 6) rfl (by rw [e119]; rfl) (by decide) rfl (fun ls hl => ?_)
              have t119 := i_add e119 (by omega)
              refine lv_goto (tgt := 41) hx hb dX9_judge_122 (by decide) ?_
              exact ih41 r65 x114 x119 ls (by omega) (by omega) (by omega) (fun vm hR hg hk => by have hnb := i_nat (x := i) (by omega); have hb1 := hk.1; have hbk := hk.2 i.toNatClampNeg (by rw [← hb1]; omega); have hwx : 0 ≤ x64.toInt ∧ x64.toInt ≤ 4 := (by rw [e64, hbk.1]; exact hbk.2); have hG := hR.2.2.2.1.1; have hW := rol_w hR (by omega); have hx := hx41_0 vm hR hg hk; have hb := hf65.2 vm hR.1.1.1 hR.1.1.2.1 hG (by rw [hR.1.1.1]; exact hW) hwx; have hp := hf89 vm hR hg x64 hwx hb hx.2; have ew : x64 = vm 76 i.toNatClampNeg := e64.trans hbk.1; have et : x88 = vm 23 0 + i + 1 := (by have e0 : vs 0 0 = vm 23 0 := hR.2.1.1; rw [← e0]; exact add_sw (by rw [e88, e85])); have q := jd_cls hx.1.1 hx.1.2.1 hx.1.2.2 (by omega) t119 ew et hp (by omega) e114; exact ⟨q.1, by have z := q.2; rw [hb] at z ⊢; exact bes_cW hG z⟩) (by omega) (lv_sub hl [5, 6, 1, 2, 0] rfl)
            · have c97_ := i_eq c97
              clear h89
              refine lv_iload_n hx hb dX9_judge_100 rfl (lv_at hl 3 rfl) ?_
              refine lv_if_ne (tgt := 109) hx hb dX9_judge_101 (by decide) (fun c101 => ?_) (fun c101 => ?_)
              · have c101_ := i_ne c101
                have hv101 : what.toInt = 1 := by omega
                refine lv_iload_n hx hb dX9_judge_109 rfl (lv_at hl 5 rfl) ?_
                subst hQ
                exact W.iret (v := ps) hx hb hr (fun t ht hW => ⟨ps, rfl, ⟨trivial, (fun vm hR hg hk => by have hnb := i_nat (x := i) (by omega); have hb1 := hk.1; have hbk := hk.2 i.toNatClampNeg (by rw [← hb1]; omega); have hwx : 0 ≤ x64.toInt ∧ x64.toInt ≤ 4 := (by rw [e64, hbk.1]; exact hbk.2); have hG := hR.2.2.2.1.1; have hW := rol_w hR (by omega); have hx := hx41_0 vm hR hg hk; have hb := hf65.2 vm hR.1.1.1 hR.1.1.2.1 hG (by rw [hR.1.1.1]; exact hW) hwx; have hp := hf89 vm hR hg x64 hwx hb hx.2; have ew : x64 = vm 76 i.toNatClampNeg := e64.trans hbk.1; have et : x88 = vm 23 0 + i + 1 := (by have e0 : vs 0 0 = vm 23 0 := hR.2.1.1; rw [← e0]; exact add_sw (by rw [e88, e85])); have q := jd_clz hx.1.1 (by omega) ew et hp (by omega); exact Or.inr ⟨by omega, Or.inr ⟨by omega, jd_at hx.1.2.2 hx.1.2.1 (by omega) (by rw [← hb1]; omega) q (by first | exact Or.inl ⟨hw101, rfl⟩ | exact Or.inr ⟨hv101, rfl⟩)⟩⟩)⟩, ht⟩) (fun q h => absurd h List.not_mem_nil) dX9_judge_110
              · have c101_ := i_eq c101
                have hw101 : what.toInt = 0 := by omega
                refine lv_iload hx hb dX9_judge_104 (lv_at hl 6 rfl) ?_
                refine lv_goto (tgt := 110) hx hb dX9_judge_106 (by decide) ?_
                subst hQ
                exact W.iret (v := i) hx hb hr (fun t ht hW => ⟨i, rfl, ⟨trivial, (fun vm hR hg hk => by have hnb := i_nat (x := i) (by omega); have hb1 := hk.1; have hbk := hk.2 i.toNatClampNeg (by rw [← hb1]; omega); have hwx : 0 ≤ x64.toInt ∧ x64.toInt ≤ 4 := (by rw [e64, hbk.1]; exact hbk.2); have hG := hR.2.2.2.1.1; have hW := rol_w hR (by omega); have hx := hx41_0 vm hR hg hk; have hb := hf65.2 vm hR.1.1.1 hR.1.1.2.1 hG (by rw [hR.1.1.1]; exact hW) hwx; have hp := hf89 vm hR hg x64 hwx hb hx.2; have ew : x64 = vm 76 i.toNatClampNeg := e64.trans hbk.1; have et : x88 = vm 23 0 + i + 1 := (by have e0 : vs 0 0 = vm 23 0 := hR.2.1.1; rw [← e0]; exact add_sw (by rw [e88, e85])); have q := jd_clz hx.1.1 (by omega) ew et hp (by omega); exact Or.inr ⟨by omega, Or.inr ⟨by omega, jd_at hx.1.2.2 hx.1.2.1 (by omega) (by rw [← hb1]; omega) q (by first | exact Or.inl ⟨hw101, rfl⟩ | exact Or.inr ⟨hv101, rfl⟩)⟩⟩)⟩, ht⟩) (fun q h => absurd h List.not_mem_nil) dX9_judge_110
      exact K41 _ (vs 4 0) 0 0 ls (Nat.lt_succ_self _) (by omega) (by omega) (fun vm hR hg hk => ⟨⟨hR.2.1.2.2.2.2.1, rfl, fun j hj => absurd hj (by rw [n_0]; omega)⟩, rol_c hR (rol_w hR (by omega))⟩) (by rw [n_0]; omega) (lv_sub hl [3, 4, 2, 1, 0] rfl)
    · have c22_ := i_eq c22
      refine lv_ldc hx hb hown lk8 dX9_judge_25 ?_
      subst hQ
      exact W.iret (v := (-1000000003)) hx hb hr (fun t ht hW => ⟨(-1000000003), rfl, ⟨trivial, (fun vm hR hg hk => Or.inr ⟨by omega, Or.inl ⟨by omega, fun z => z (rol_z hR (by omega))⟩⟩)⟩, ht⟩) (fun q h => absurd h List.not_mem_nil) dX9_judge_27
  · have c6_ := i_ne c6
    replace h3 := or_y h3 c6_
    clear c6_
    refine lv_ldc hx hb hown lk9 dX9_judge_9 ?_
    subst hQ
    exact W.iret (v := (-1000000002)) hx hb hr (fun t ht hW => ⟨(-1000000002), rfl, ⟨trivial, (fun vm hR hg hk => Or.inl ⟨by omega, by omega⟩)⟩, ht⟩) (fun q h => absurd h List.not_mem_nil) dX9_judge_11
