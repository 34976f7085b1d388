def rm_X8_cellsWithin : Room := { frames := 3, cells := 0, slots := 0, locals := 71 }
set_option maxHeartbeats 4000000 in
set_option maxRecDepth 100000 in
theorem c_X8_cellsWithin (l : Launch) (E : Ev) (A : Nat → Prop) (qw : Nat) (ap : Nat → Nat) (vp : Vf) (as_ : Nat → Nat) (vs : Vf) (h : Int32) (step : Int32) (hI : PlanI vp) (hJ : StateI vs) (hh : 0 ≤ h.toInt ∧ h.toInt ≤ 5) (hstep : 0 ≤ step.toInt ∧ step.toInt ≤ 2000000) : Met l yX8_cellsWithin wsX8_cellsWithin rm_X8_cellsWithin (RdP E A [.ref qw, .int h, .int step] (wpsL E qw ap vp as_ vs)) (vp_Si (fun r => True)) 0 0 (fun _ => False) := by
  refine Met.ofW (cc := cX8_cellsWithin) (maxL := 5) (ret := (some .int)) (by decide) rfl ?_
  intro p e s m args below meth c s₁ B hml hv
  obtain ⟨rfl, hE, hP⟩ := hv
  have hx := B.exec
  have hb := B.bytes
  have hr := B.returns
  have hts := atoms_spec (ws := wsX8_cellsWithin) B.pre
  have hown : s.vm.findClass RX8 = some m.cls := findClass_of_methodNamed B.named
  have hlocks := B.notSynchronized
  have hK := hE.1
  have in_X8 : ∀ w ∈ u_ws RX8 TX8 2, w ∈ wsX8_cellsWithin := fun w h => List.mem_cons_of_mem _ (List.mem_append_left _ (List.mem_append_left _ (List.mem_append_left _ (List.mem_append_left _ (List.mem_append_right _ h)))))
  have in_X1 : ∀ w ∈ u_ws RX1 TX1 11, w ∈ wsX8_cellsWithin := fun w h => List.mem_cons_of_mem _ (List.mem_append_left _ (List.mem_append_left _ (List.mem_append_left _ (List.mem_append_right _ h))))
  have in_X5 : ∀ w ∈ u_ws RX5 TX5 4, w ∈ wsX8_cellsWithin := fun w h => List.mem_cons_of_mem _ (List.mem_append_left _ (List.mem_append_left _ (List.mem_append_right _ h)))
  have lk0 := hts (.fieldLink RX8 9 "TidedGround$World" "plan" "LTidedGround$Plan;") (by decide +kernel)
  have lk1 := hts (.fieldLink RX8 107 "TidedGround$Plan" "cells" "I") (by decide +kernel)
  have lk2 := hts (.fieldLink RX8 117 "TidedGround$Plan" "deeds" "LTidedGround$Sites;") (by decide +kernel)
  have lk3 := hts (.fieldLink RX8 84 "TidedGround$Sites" "first" "[I") (by decide +kernel)
  have lk4 := hts (.fieldLink RX8 104 "TidedGround$Sites" "second" "[I") (by decide +kernel)
  have lk5 := hts (.static yX9_isOff) (by decide +kernel)
  have lk6 := hts (.initialized RX9) (by decide +kernel)
  have n_m1 : ((-1) : Int32).toInt = -1 := by decide
  have n_0 : (0 : Int32).toInt = 0 := by decide
  have n_1 : (1 : Int32).toInt = 1 := by decide
  have hl := lv_entry ([.ref qw, .int h, .int step]) (n := 5) (Nat.le_of_ble_eq_true rfl)
  rw [lg_entry_eq]
  generalize (lg_sl ([.ref qw, .int h, .int step]) ++ List.replicate (5 - (lg_sl ([.ref qw, .int h, .int step])).length) Slot.unset).toArray = ls at hl ⊢
  have hl : lv_has ls 5 [(0, .ref qw), (1, .int h), (2, .int step)] := hl
  refine W_abs (fun Q hQ => ?_)
  obtain ⟨hg, hmc, hm0, hm1, hm2, hs0, hs1, hs2, hs3⟩ := id hI
  obtain ⟨hg1, hg2, hg3, hg4⟩ := id hg
  have hz0 := hm0.1
  have hz1 := hm1.1
  have hz2 := hm2.1
  have hc0 := hs0.1
  have hc1 := hs1.1
  have hc2 := hs2.1
  have hc3 := hs3.1
  obtain ⟨hj0, hj1, hj2⟩ := id hJ
  refine lv_iconst (v := 0) hx hb dX8_cellsWithin_0 (by decide) ?_
  refine lv_istore_n (lv' := [(3, .int 0), (0, .ref qw), (1, .int h), (2, .int step)]) hx hb dX8_cellsWithin_1 rfl hl (by decide) rfl (fun ls hl => ?_)
  refine lv_iconst (v := 0) hx hb dX8_cellsWithin_2 (by decide) ?_
  refine lv_istore (lv' := [(4, .int 0), (3, .int 0), (0, .ref qw), (1, .int h), (2, .int step)]) hx hb dX8_cellsWithin_3 hl (by decide) rfl (fun ls hl => ?_)
  have K5 : ∀ (μ : Nat) (set : Int32) (k : Int32) (ls : Array Slot), (24 - k.toInt).toNat < μ → (0 ≤ k.toInt ∧ k.toInt ≤ 24) → lv_has ls 5 [(0, .ref qw), (1, .int h), (2, .int step), (3, .int set), (4, .int k)] → W p l e (headSpec wsX8_cellsWithin rm_X8_cellsWithin).room s m ([.ref qw, .int h, .int step] : List Value).toArray below meth c s.heap [] 0 0 Q (F0 m 5 ls []) := by
    intro μ
    induction μ with
    | zero =>
      intro set k ls hμ5
      exact absurd hμ5 (Nat.not_lt_zero _)
    | succ μ ih5 =>
      intro set k ls hμ5 h5_0 hl
      refine lv_iload hx hb dX8_cellsWithin_5 (lv_at hl 4 rfl) ?_
      refine lv_aload_n hx hb dX8_cellsWithin_7 rfl (lv_at hl 0 rfl) ?_
      refine va_get (D := eD E) (ci := 8) (v := .ref (ap 0)) (C := RX8) (T := TX8) (N := 2) hx hb hts in_X8 hown hK hP 0 rfl rfl 0 (by decide) lk0 (fun _ h9 => h9) rfl dX8_cellsWithin_8 ?_
      refine va_get (D := eD E) (ci := 1) (v := .int (vp 2 0)) (C := RX1) (T := TX1) (N := 11) hx hb hts in_X1 hown hK hP 1 rfl rfl 2 (by decide) lk1 (fun _ h9 => h9) rfl dX8_cellsWithin_11 ?_
      refine lv_icmp_ge (tgt := 68) hx hb dX8_cellsWithin_14 (by decide) (fun c14 => ?_) (fun c14 => ?_)
      · have c14_ := i_le c14
        refine lv_iload_n hx hb dX8_cellsWithin_68 rfl (lv_at hl 3 rfl) ?_
        subst hQ
        exact W.iret (v := set) hx hb hr (fun t ht hW => ⟨set, rfl, trivial, ht⟩) (fun q h => absurd h List.not_mem_nil) dX8_cellsWithin_69
      · have c14_ := i_nle c14
        refine lv_aload_n hx hb dX8_cellsWithin_17 rfl (lv_at hl 0 rfl) ?_
        refine lv_iload hx hb dX8_cellsWithin_18 (lv_at hl 4 rfl) ?_
        refine lv_iload_n hx hb dX8_cellsWithin_20 rfl (lv_at hl 2 rfl) ?_
        refine lv_iconst (v := (-1)) hx hb dX8_cellsWithin_21 (by decide) ?_
        refine rd_V (As := [.int k, .int step, .int (-1)]) (rest := []) (C := RX8) (ci := 8) ⟨hx, hb, hml, hown, hts⟩ (c_X8_heightAt l E A qw ap vp as_ vs k step (-1) hI hJ (by omega) (by omega)) (cwV 3 hts gX8_cellsWithin_X8_heightAt rfl rfl rfl (by decide +kernel) ⟨Nat.le_of_ble_eq_true rfl, Nat.le_of_ble_eq_true rfl⟩) hE (hP.sub (ws' := wpsL E qw ap vp as_ vs) [0, 1, 2, 3, 4, 5, 6, 7, 8, 9, 10, 11, 12, 13, 14, 15, 16, 17, 18, 19, 20, 21, 22, 23, 24, 25, 26, 27, 28, 29, 30, 31, 32, 33] rfl) rfl rfl rfl rfl hl.1 rfl (Nat.le_of_ble_eq_true rfl) dX8_cellsWithin_22 ⟨Nat.zero_le _, Nat.zero_le _⟩ (fun r22 h22 => ?_)
        refine lv_aload_n hx hb dX8_cellsWithin_25 rfl (lv_at hl 0 rfl) ?_
        refine va_get (D := eD E) (ci := 8) (v := .ref (ap 0)) (C := RX8) (T := TX8) (N := 2) hx hb hts in_X8 hown hK hP 0 rfl rfl 0 (by decide) lk0 (fun _ h9 => h9) rfl dX8_cellsWithin_26 ?_
        refine va_get (D := eD E) (ci := 1) (v := .ref (ap 10)) (C := RX1) (T := TX1) (N := 11) hx hb hts in_X1 hown hK hP 1 rfl rfl 10 (by decide) lk2 (fun _ h9 => h9) rfl dX8_cellsWithin_29 ?_
        refine va_get (D := eD E) (ci := 5) (v := .ref (ap 92)) (C := RX5) (T := TX5) (N := 4) hx hb hts in_X5 hown hK hP 26 rfl rfl 2 (by decide) lk3 (fun _ h9 => h9) rfl dX8_cellsWithin_32 ?_
        refine lv_iload_n hx hb dX8_cellsWithin_35 rfl (lv_at hl 1 rfl) ?_
        refine va_iald hx hb hK hP 28 0 rfl rfl (n := 6) (f := (vp 92)) (i_in (by omega) (by omega)) dX8_cellsWithin_36 ?_
        refine lv_topi (fun x36 e36 => ?_)
        refine lv_aload_n hx hb dX8_cellsWithin_37 rfl (lv_at hl 0 rfl) ?_
        refine va_get (D := eD E) (ci := 8) (v := .ref (ap 0)) (C := RX8) (T := TX8) (N := 2) hx hb hts in_X8 hown hK hP 0 rfl rfl 0 (by decide) lk0 (fun _ h9 => h9) rfl dX8_cellsWithin_38 ?_
        refine va_get (D := eD E) (ci := 1) (v := .ref (ap 10)) (C := RX1) (T := TX1) (N := 11) hx hb hts in_X1 hown hK hP 1 rfl rfl 10 (by decide) lk2 (fun _ h9 => h9) rfl dX8_cellsWithin_41 ?_
        refine va_get (D := eD E) (ci := 5) (v := .ref (ap 93)) (C := RX5) (T := TX5) (N := 4) hx hb hts in_X5 hown hK hP 26 rfl rfl 3 (by decide) lk4 (fun _ h9 => h9) rfl dX8_cellsWithin_44 ?_
        refine lv_iload_n hx hb dX8_cellsWithin_47 rfl (lv_at hl 1 rfl) ?_
        refine va_iald hx hb hK hP 29 0 rfl rfl (n := 6) (f := (vp 93)) (i_in (by omega) (by omega)) dX8_cellsWithin_48 ?_
        refine lv_topi (fun x48 e48 => ?_)
        refine rd_SN (As := [.int r22, .int x36, .int x48]) (rest := []) ⟨hx, hb, hml, hown, hts⟩ (c_X9_isOff l E A r22 x36 x48) ⟨va_cnB 3 hts gX8_cellsWithin_X9_isOff_n120 rfl rfl rfl (hE.2.2.2.2.2.2.2 _ (List.mem_of_getElem? (i := 7) rfl)) lk6 (by decide +kernel) ⟨Nat.le_of_ble_eq_true rfl, Nat.le_of_ble_eq_true rfl⟩, lk5, trivial⟩ hE (hP.sub (ws' := []) [] rfl) rfl hl.1 rfl (Nat.le_of_ble_eq_true rfl) dX8_cellsWithin_49 ⟨Nat.zero_le _, Nat.zero_le _⟩ (fun r49 h49 => ?_)
        refine lv_if_ne (tgt := 62) hx hb dX8_cellsWithin_52 (by decide) (fun c52 => ?_) (fun c52 => ?_)
        · have c52_ := i_ne c52
          replace h49 := or_y h49 c52_
          clear c52_
          obtain ⟨x62, e62⟩ : ∃ y : Int32, y = k + 1 := ⟨_, rfl⟩
          refine lv_iinc (v := x62) (lv' := [(4, .int x62), (0, .ref qw), (1, .int h), (2, .int step), (3, .int set)]) hx hb dX8_cellsWithin_62 hl (k := 4) rfl (by rw [e62]; rfl) (by decide) rfl (fun ls hl => ?_)
          have t62 := i_add e62 (by omega)
          refine lv_goto (tgt := 5) hx hb dX8_cellsWithin_65 (by decide) ?_
          exact ih5 set x62 ls (by omega) (by omega) (lv_sub hl [1, 2, 3, 4, 0] rfl)
        · have c52_ := i_eq c52
          replace h49 := or_n h49 c52_
          refine lv_iload_n hx hb dX8_cellsWithin_55 rfl (lv_at hl 3 rfl) ?_
          refine lv_iconst (v := 1) hx hb dX8_cellsWithin_56 (by decide) ?_
          refine lv_iload hx hb dX8_cellsWithin_57 (lv_at hl 4 rfl) ?_
          refine lv_ishl hx hb dX8_cellsWithin_59 ?_
          refine lv_topi (fun x59 e59 => ?_)
          refine lv_ior hx hb dX8_cellsWithin_60 ?_
          refine lv_topi (fun x60 e60 => ?_)
          refine lv_istore_n (lv' := [(3, .int x60), (0, .ref qw), (1, .int h), (2, .int step), (4, .int k)]) hx hb dX8_cellsWithin_61 rfl hl (by decide) rfl (fun ls hl => ?_)
          obtain ⟨x62, e62⟩ : ∃ y : Int32, y = k + 1 := ⟨_, rfl⟩
          refine lv_iinc (v := x62) (lv' := [(4, .int x62), (3, .int x60), (0, .ref qw), (1, .int h), (2, .int step)]) hx hb dX8_cellsWithin_62 hl (k := 4) rfl (by rw [e62]; rfl) (by decide) rfl (fun ls hl => ?_)
          have t62 := i_add e62 (by omega)
          refine lv_goto (tgt := 5) hx hb dX8_cellsWithin_65 (by decide) ?_
          exact ih5 x60 x62 ls (by omega) (by omega) (lv_sub hl [2, 3, 4, 1, 0] rfl)
  exact K5 _ 0 0 ls (Nat.lt_succ_self _) (by omega) (lv_sub hl [2, 3, 4, 1, 0] rfl)
