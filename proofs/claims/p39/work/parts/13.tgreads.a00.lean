def rm_X3_reachedNext : Room := { frames := 4, cells := 0, slots := 0, locals := 96 }
set_option maxHeartbeats 4000000 in
set_option maxRecDepth 100000 in
theorem c_X3_reachedNext (l : Launch) (E : Ev) (A : Nat → Prop) (a : Nat → Nat) (v : Vf) (ap : Nat → Nat) (vp : Vf) (as_ : Nat → Nat) (vs : Vf) (set : Int32) (step : Int32) (hI : PlanI vp) (hJ : StateI vs) (hstep : 0 ≤ step.toInt ∧ step.toInt ≤ 2000000) : Met l yX3_reachedNext wsX3_reachedNext rm_X3_reachedNext (RdP E A [.ref (a 8), .int set, .int step] (rpL E a v ap vp as_ vs)) (vp_Si (fun r => True)) 0 0 (fun _ => False) := by
  refine Met.ofW (cc := cX3_reachedNext) (maxL := 7) (ret := (some .int)) (by decide) rfl ?_
  intro p e s m args below meth c s₁ B hml hv
  obtain ⟨rfl, hE, hP⟩ := hv
  have hx := B.exec
  have hb := B.bytes
  have hr := B.returns
  have hts := atoms_spec (ws := wsX3_reachedNext) B.pre
  have hown : s.vm.findClass RX3 = some m.cls := findClass_of_methodNamed B.named
  have hlocks := B.notSynchronized
  have hK := hE.1
  have in_X3 : ∀ w ∈ u_ws RX3 TX3 4, w ∈ wsX3_reachedNext := fun w h => List.mem_cons_of_mem _ (List.mem_append_left _ (List.mem_append_left _ (List.mem_append_left _ (List.mem_append_left _ (List.mem_append_left _ (List.mem_append_right _ h))))))
  have in_X8 : ∀ w ∈ u_ws RX8 TX8 2, w ∈ wsX3_reachedNext := fun w h => List.mem_cons_of_mem _ (List.mem_append_left _ (List.mem_append_left _ (List.mem_append_left _ (List.mem_append_left _ (List.mem_append_right _ h)))))
  have in_X1 : ∀ w ∈ u_ws RX1 TX1 11, w ∈ wsX3_reachedNext := fun w h => List.mem_cons_of_mem _ (List.mem_append_left _ (List.mem_append_left _ (List.mem_append_left _ (List.mem_append_right _ h))))
  have lk0 := hts (.fieldLink RX3 21 "TidedGround$Routes" "world" "LTidedGround$World;") (by decide +kernel)
  have lk1 := hts (.fieldLink RX3 29 "TidedGround$World" "plan" "LTidedGround$Plan;") (by decide +kernel)
  have lk2 := hts (.fieldLink RX3 35 "TidedGround$Plan" "cells" "I") (by decide +kernel)
  have n_m1 : ((-1) : Int32).toInt = -1 := by decide
  have n_0 : (0 : Int32).toInt = 0 := by decide
  have n_1 : (1 : Int32).toInt = 1 := by decide
  have n_5 : (5 : Int32).toInt = 5 := by decide
  have hl := lv_entry ([.ref (a 8), .int set, .int step]) (n := 7) (Nat.le_of_ble_eq_true rfl)
  rw [lg_entry_eq]
  generalize (lg_sl ([.ref (a 8), .int set, .int step]) ++ List.replicate (7 - (lg_sl ([.ref (a 8), .int set, .int step])).length) Slot.unset).toArray = ls at hl ⊢
  have hl : lv_has ls 7 [(0, .ref (a 8)), (1, .int set), (2, .int step)] := hl
  refine W_abs (fun Q hQ => ?_)
  obtain ⟨hg, hmc, hm0, hm1, hm2, hs0, hs1, hs2, hs3⟩ := id hI
  obtain ⟨hg1, hg2, hg3, hg4⟩ := id hg
  have hz0 := hm0.1
  have hz1 := hm1.1
  have hz2 := hm2.1
  have hc0 := hs0.1
  have hc1 := hs1.1
  have hc2 := hs2.1
  have hc3 := hs3.1
  obtain ⟨hj0, hj1, hj2⟩ := id hJ
  refine lv_iload_n hx hb dX3_reachedNext_0 rfl (lv_at hl 1 rfl) ?_
  refine lv_istore_n (lv' := [(3, .int set), (0, .ref (a 8)), (1, .int set), (2, .int step)]) hx hb dX3_reachedNext_1 rfl hl (by decide) rfl (fun ls hl => ?_)
  refine lv_iconst (v := 0) hx hb dX3_reachedNext_2 (by decide) ?_
  refine lv_istore (lv' := [(4, .int 0), (3, .int set), (0, .ref (a 8)), (1, .int set), (2, .int step)]) hx hb dX3_reachedNext_3 hl (by decide) rfl (fun ls hl => ?_)
  have K5 : ∀ (μ : Nat) (nx : Int32) (k : Int32) (ls : Array Slot), (24 - k.toInt).toNat < μ → (0 ≤ k.toInt ∧ k.toInt ≤ 24) → lv_has ls 7 [(0, .ref (a 8)), (1, .int set), (2, .int step), (3, .int nx), (4, .int k)] → W p l e (headSpec wsX3_reachedNext rm_X3_reachedNext).room s m ([.ref (a 8), .int set, .int step] : List Value).toArray below meth c s.heap [] 0 0 Q (F0 m 5 ls []) := by
    intro μ
    induction μ with
    | zero =>
      intro nx k ls hμ5
      exact absurd hμ5 (Nat.not_lt_zero _)
    | succ μ ih5 =>
      intro nx k ls hμ5 h5_0 hl
      refine lv_iload hx hb dX3_reachedNext_5 (lv_at hl 4 rfl) ?_
      refine lv_aload_n hx hb dX3_reachedNext_7 rfl (lv_at hl 0 rfl) ?_
      refine va_get (D := eD E) (ci := 3) (v := .ref (a 5)) (C := RX3) (T := TX3) (N := 4) hx hb hts in_X3 hown hK hP 0 rfl rfl 0 (by decide) lk0 (fun _ h9 => h9) rfl dX3_reachedNext_8 ?_
      refine va_get (D := eD E) (ci := 8) (v := .ref (ap 0)) (C := RX8) (T := TX8) (N := 2) hx hb hts in_X8 hown hK hP 2 rfl rfl 0 (by decide) lk1 (fun _ h9 => h9) rfl dX3_reachedNext_11 ?_
      refine va_get (D := eD E) (ci := 1) (v := .int (vp 2 0)) (C := RX1) (T := TX1) (N := 11) hx hb hts in_X1 hown hK hP 3 rfl rfl 2 (by decide) lk2 (fun _ h9 => h9) rfl dX3_reachedNext_14 ?_
      refine lv_icmp_ge (tgt := 89) hx hb dX3_reachedNext_17 (by decide) (fun c17 => ?_) (fun c17 => ?_)
      · have c17_ := i_le c17
        refine lv_iload_n hx hb dX3_reachedNext_89 rfl (lv_at hl 3 rfl) ?_
        subst hQ
        exact W.iret (v := nx) hx hb hr (fun t ht hW => ⟨nx, rfl, trivial, ht⟩) (fun q h => absurd h List.not_mem_nil) dX3_reachedNext_90
      · have c17_ := i_nle c17
        refine lv_iconst (v := 1) hx hb dX3_reachedNext_20 (by decide) ?_
        refine lv_istore (lv' := [(5, .int 1), (0, .ref (a 8)), (1, .int set), (2, .int step), (3, .int nx), (4, .int k)]) hx hb dX3_reachedNext_21 hl (by decide) rfl (fun ls hl => ?_)
        have K23 : ∀ (μ : Nat) (ny : Int32) (way : Int32) (ls : Array Slot), (5 - way.toInt).toNat < μ → (0 ≤ way.toInt ∧ way.toInt ≤ 5) → lv_has ls 7 [(0, .ref (a 8)), (1, .int set), (2, .int step), (3, .int ny), (4, .int k), (5, .int way)] → W p l e (headSpec wsX3_reachedNext rm_X3_reachedNext).room s m ([.ref (a 8), .int set, .int step] : List Value).toArray below meth c s.heap [] 0 0 Q (F0 m 23 ls []) := by
          intro μ
          induction μ with
          | zero =>
            intro ny way ls hμ23
            exact absurd hμ23 (Nat.not_lt_zero _)
          | succ μ ih23 =>
            intro ny way ls hμ23 h23_0 hl
            refine lv_iload hx hb dX3_reachedNext_23 (lv_at hl 5 rfl) ?_
            refine lv_iconst (v := 5) hx hb dX3_reachedNext_25 (by decide) ?_
            refine lv_icmp_ge (tgt := 83) hx hb dX3_reachedNext_26 (by decide) (fun c26 => ?_) (fun c26 => ?_)
            · have c26_ := i_le c26
              obtain ⟨x83, e83⟩ : ∃ y : Int32, y = k + 1 := ⟨_, rfl⟩
              refine lv_iinc (v := x83) (lv' := [(4, .int x83), (0, .ref (a 8)), (1, .int set), (2, .int step), (3, .int ny), (5, .int way)]) hx hb dX3_reachedNext_83 hl (k := 4) rfl (by rw [e83]; rfl) (by decide) rfl (fun ls hl => ?_)
              have t83 := i_add e83 (by omega)
              refine lv_goto (tgt := 5) hx hb dX3_reachedNext_86 (by decide) ?_
              exact ih5 ny x83 ls (by omega) (by omega) (lv_sub hl [1, 2, 3, 4, 0] rfl)
            · have c26_ := i_nle c26
              refine lv_iload_n hx hb dX3_reachedNext_29 rfl (lv_at hl 1 rfl) ?_
              refine lv_iload hx hb dX3_reachedNext_30 (lv_at hl 4 rfl) ?_
              refine lv_ishr hx hb dX3_reachedNext_32 ?_
              refine lv_topi (fun x32 e32 => ?_)
              refine lv_iconst (v := 1) hx hb dX3_reachedNext_33 (by decide) ?_
              refine lv_iand hx hb dX3_reachedNext_34 ?_
              refine lv_topi (fun x34 e34 => ?_)
              refine lv_if_eq (tgt := 83) hx hb dX3_reachedNext_35 (by decide) (fun c35 => ?_) (fun c35 => ?_)
              · have c35_ := i_eq c35
                obtain ⟨x83, e83⟩ : ∃ y : Int32, y = k + 1 := ⟨_, rfl⟩
                refine lv_iinc (v := x83) (lv' := [(4, .int x83), (0, .ref (a 8)), (1, .int set), (2, .int step), (3, .int ny), (5, .int way)]) hx hb dX3_reachedNext_83 hl (k := 4) rfl (by rw [e83]; rfl) (by decide) rfl (fun ls hl => ?_)
                have t83 := i_add e83 (by omega)
                refine lv_goto (tgt := 5) hx hb dX3_reachedNext_86 (by decide) ?_
                exact ih5 ny x83 ls (by omega) (by omega) (lv_sub hl [1, 2, 3, 4, 0] rfl)
              · have c35_ := i_ne c35
                refine lv_aload_n hx hb dX3_reachedNext_38 rfl (lv_at hl 0 rfl) ?_
                refine va_get (D := eD E) (ci := 3) (v := .ref (a 5)) (C := RX3) (T := TX3) (N := 4) hx hb hts in_X3 hown hK hP 0 rfl rfl 0 (by decide) lk0 (fun _ h9 => h9) rfl dX3_reachedNext_39 ?_
                refine va_get (D := eD E) (ci := 8) (v := .ref (ap 0)) (C := RX8) (T := TX8) (N := 2) hx hb hts in_X8 hown hK hP 2 rfl rfl 0 (by decide) lk1 (fun _ h9 => h9) rfl dX3_reachedNext_42 ?_
                refine lv_iload hx hb dX3_reachedNext_45 (lv_at hl 4 rfl) ?_
                refine lv_iload hx hb dX3_reachedNext_47 (lv_at hl 5 rfl) ?_
                refine rd_V (As := [.int k, .int way]) (rest := []) (C := RX1) (ci := 1) ⟨hx, hb, hml, hown, hts⟩ (c_X1_beside l E A ap vp k way hI (by omega)) (cwV 2 hts gX3_reachedNext_X1_beside rfl rfl rfl (by decide +kernel) ⟨Nat.le_of_ble_eq_true rfl, Nat.le_of_ble_eq_true rfl⟩) hE (hP.sub (ws' := planL E ap vp) [3, 4, 5, 6, 7, 8, 9, 10, 11, 12, 13, 14, 15, 16, 17, 18, 19, 20, 21, 22, 23, 24, 25, 26, 27, 28, 29, 30, 31] rfl) rfl rfl rfl rfl hl.1 rfl (Nat.le_of_ble_eq_true rfl) dX3_reachedNext_49 ⟨Nat.zero_le _, Nat.zero_le _⟩ (fun r49 h49 => ?_)
                have hf49 := h49.2
                replace h49 := h49.1
                refine lv_istore (lv' := [(6, .int r49), (0, .ref (a 8)), (1, .int set), (2, .int step), (3, .int ny), (4, .int k), (5, .int way)]) hx hb dX3_reachedNext_52 hl (by decide) rfl (fun ls hl => ?_)
                refine lv_aload_n hx hb dX3_reachedNext_54 rfl (lv_at hl 1 rfl) ?_
                refine va_get (D := eD E) (ci := 3) (v := .ref (a 5)) (C := RX3) (T := TX3) (N := 4) hx hb hts in_X3 hown hK hP 0 rfl rfl 0 (by decide) lk0 (fun _ h9 => h9) rfl dX3_reachedNext_55 ?_
                refine lv_iload hx hb dX3_reachedNext_58 (lv_at hl 5 rfl) ?_
                refine lv_iload hx hb dX3_reachedNext_60 (lv_at hl 0 rfl) ?_
                refine lv_iload_n hx hb dX3_reachedNext_62 rfl (lv_at hl 3 rfl) ?_
                refine rd_V (As := [.int k, .int r49, .int step]) (rest := []) (C := RX8) (ci := 8) ⟨hx, hb, hml, hown, hts⟩ (c_X8_pushTo l E A (a 5) ap vp as_ vs k r49 step hI hJ (by omega) (by omega) (by omega)) (cwV 3 hts gX3_reachedNext_X8_pushTo rfl rfl rfl (by decide +kernel) ⟨Nat.le_of_ble_eq_true rfl, Nat.le_of_ble_eq_true rfl⟩) hE (hP.sub (ws' := wpsL E (a 5) ap vp as_ vs) [2, 3, 4, 5, 6, 7, 8, 9, 10, 11, 12, 13, 14, 15, 16, 17, 18, 19, 20, 21, 22, 23, 24, 25, 26, 27, 28, 29, 30, 31, 32, 33, 34, 35] rfl) rfl rfl rfl rfl hl.1 rfl (Nat.le_of_ble_eq_true rfl) dX3_reachedNext_63 ⟨Nat.zero_le _, Nat.zero_le _⟩ (fun r63 h63 => ?_)
                refine lv_iconst (v := (-1)) hx hb dX3_reachedNext_66 (by decide) ?_
                refine lv_icmp_eq (tgt := 77) hx hb dX3_reachedNext_67 (by decide) (fun c67 => ?_) (fun c67 => ?_)
                · have c67_ := i_eq c67
                  clear h63
                  obtain ⟨x77, e77⟩ : ∃ y : Int32, y = way + 1 := ⟨_, rfl⟩
                  refine lv_iinc (v := x77) (lv' := [(5, .int x77), (6, .int r49), (0, .ref (a 8)), (1, .int set), (2, .int step), (3, .int ny), (4, .int k)]) hx hb dX3_reachedNext_77 hl (k := 6) rfl (by rw [e77]; rfl) (by decide) rfl (fun ls hl => ?_)
                  have t77 := i_add e77 (by omega)
                  refine lv_goto (tgt := 23) hx hb dX3_reachedNext_80 (by decide) ?_
                  exact ih23 ny x77 ls (by omega) (by omega) (lv_sub hl [2, 3, 4, 5, 6, 0] rfl)
                · have c67_ := i_ne c67
                  replace h63 := cm_n h63 c67_
                  clear c67_
                  refine lv_iload_n hx hb dX3_reachedNext_70 rfl (lv_at hl 4 rfl) ?_
                  refine lv_iconst (v := 1) hx hb dX3_reachedNext_71 (by decide) ?_
                  refine lv_iload hx hb dX3_reachedNext_72 (lv_at hl 0 rfl) ?_
                  refine lv_ishl hx hb dX3_reachedNext_74 ?_
                  refine lv_topi (fun x74 e74 => ?_)
                  refine lv_ior hx hb dX3_reachedNext_75 ?_
                  refine lv_topi (fun x75 e75 => ?_)
                  refine lv_istore_n (lv' := [(3, .int x75), (6, .int r49), (0, .ref (a 8)), (1, .int set), (2, .int step), (4, .int k), (5, .int way)]) hx hb dX3_reachedNext_76 rfl hl (by decide) rfl (fun ls hl => ?_)
                  obtain ⟨x77, e77⟩ : ∃ y : Int32, y = way + 1 := ⟨_, rfl⟩
                  refine lv_iinc (v := x77) (lv' := [(5, .int x77), (3, .int x75), (6, .int r49), (0, .ref (a 8)), (1, .int set), (2, .int step), (4, .int k)]) hx hb dX3_reachedNext_77 hl (k := 6) rfl (by rw [e77]; rfl) (by decide) rfl (fun ls hl => ?_)
                  have t77 := i_add e77 (by omega)
                  refine lv_goto (tgt := 23) hx hb dX3_reachedNext_80 (by decide) ?_
                  exact ih23 x75 x77 ls (by omega) (by omega) (lv_sub hl [3, 4, 5, 1, 6, 0] rfl)
        exact K23 _ nx 1 ls (Nat.lt_succ_self _) (by omega) (lv_sub hl [1, 2, 3, 4, 5, 0] rfl)
  exact K5 _ set 0 ls (Nat.lt_succ_self _) (by omega) (lv_sub hl [2, 3, 4, 1, 0] rfl)
