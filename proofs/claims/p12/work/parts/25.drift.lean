def rm_X8_takeStep : Room := { frames := 1, cells := 0, slots := 0, locals := 21 }
set_option maxHeartbeats 4000000 in
set_option maxRecDepth 100000 in
theorem c_X8_takeStep (l : Launch) (E : Ev) (sz : Nat) (qw : Nat) (ap : Nat → Nat) (vp : Vf) (as_ : Nat → Nat) (vs : Vf) (there : Int32) (push : Int32) (hJ : StateI vs) (hthere : 0 ≤ there.toInt ∧ there.toInt ≤ 23) (hst : (vs 0 0).toInt ≤ 900099) : Met l yX8_takeStep wsX8_takeStep rm_X8_takeStep (MtP E sz [.ref qw, .int there, .int push] (wpsL E qw ap vp as_ vs)) (va_Qv (fun (u : Vf) => ((StateI u ∧ (u 0 0).toInt = (vs 0 0).toInt + 1) ∧ fr [0, 4, 5] vs u) ∧ (u 4 0 = there ∧ u 0 0 = vs 0 0 + 1 ∧ u 5 0 = mHeld (vs 5 0 + push))) (MtB E (va_A (wpsL E qw ap vp as_ vs) sz) (fun u => wpsL E qw ap vp as_ u)) (va_A (wpsL E qw ap vp as_ vs) sz)) 0 0 (va_A (wpsL E qw ap vp as_ vs) sz) := by
  refine Met.ofW (cc := cX8_takeStep) (maxL := 3) (ret := none) (by decide) rfl ?_
  intro p e s m args below meth c s₁ B hml hv
  obtain ⟨rfl, hsz, hE, hP, hD0⟩ := hv
  subst hsz
  have hD := hD0.self (sz := s.heap.size)
  generalize hAe : va_A (wpsL E qw ap vp as_ vs) s.heap.size = A at hD hE ⊢
  have hA : ∀ q : Nat, s.heap.size ≤ q → A q := fun q h => by rw [← hAe]; exact Or.inr h
  have hS : va_S A s.heap s.heap [] := va_S.rf
  have hx := B.exec
  have hb := B.bytes
  have hr := B.returns
  have hts := atoms_spec (ws := wsX8_takeStep) B.pre
  have hown : s.vm.findClass RX8 = some m.cls := findClass_of_methodNamed B.named
  have hlocks := B.notSynchronized
  have hK := hE.1
  have in_X8 : ∀ w ∈ u_ws RX8 TX8 2, w ∈ wsX8_takeStep := fun w h => List.mem_cons_of_mem _ (List.mem_append_left _ (List.mem_append_right _ h))
  have in_X6 : ∀ w ∈ u_ws RX6 TX6 9, w ∈ wsX8_takeStep := fun w h => List.mem_cons_of_mem _ (List.mem_append_right _ h)
  have lk0 := hts (.fieldLink RX8 15 "TidedGround$World" "now" "LTidedGround$State;") (List.mem_of_getElem? (i := 1) rfl)
  have lk1 := hts (.fieldLink RX8 135 "TidedGround$State" "cart" "I") (List.mem_of_getElem? (i := 2) rfl)
  have lk2 := hts (.fieldLink RX8 138 "TidedGround$State" "step" "I") (List.mem_of_getElem? (i := 3) rfl)
  have lk3 := hts (.constant RX8 141 999999999) (List.mem_of_getElem? (i := 4) rfl)
  have lk4 := hts (.fieldLink RX8 142 "TidedGround$State" "pushed" "I") (List.mem_of_getElem? (i := 5) rfl)
  have lk5 := hts (.methodLink RX8 110 Lib.Math.min.name) (List.mem_of_getElem? (i := 6) rfl)
  have lk6 := hts (.static Lib.Math.min.name) (List.mem_of_getElem? (i := 7) rfl)
  have lk7 := hts (.initialized "java/lang/Math") (List.mem_of_getElem? (i := 8) rfl)
  have lk8 := hts (.code Lib.Math.min.name Lib.Math.min.code 2 (some .int)) (List.mem_of_getElem? (i := 9) rfl)
  have n_1 : (1 : Int32).toInt = 1 := by decide
  have n_999999999 : (999999999 : Int32).toInt = 999999999 := by decide
  have hl := lv_entry ([.ref qw, .int there, .int push]) (n := 3) (Nat.le_of_ble_eq_true rfl)
  rw [lg_entry_eq]
  generalize (lg_sl ([.ref qw, .int there, .int push]) ++ List.replicate (3 - (lg_sl ([.ref qw, .int there, .int push])).length) Slot.unset).toArray = ls at hl ⊢
  have hl : lv_has ls 3 [(0, .ref qw), (1, .int there), (2, .int push)] := hl
  refine W_abs (fun Q hQ => ?_)
  obtain ⟨hj0, hj1, hj2⟩ := id hJ
  have hFz : fr [0, 4, 5] vs vs := fr.rf
  refine lv_aload_n hx hb dX8_takeStep_0 rfl (lv_at hl 0 rfl) ?_
  refine va_get (D := eD E) (ci := 8) (v := .ref (as_ 0)) (C := RX8) (T := TX8) (N := 2) hx hb hts in_X8 hown hK hP 0 rfl rfl 1 (by decide) lk0 (fun _ h9 => h9) rfl dX8_takeStep_1 ?_
  refine lv_iload_n hx hb dX8_takeStep_4 rfl (lv_at hl 1 rfl) ?_
  refine va_put (D := eD E) (ci := 6) (v := .int there) (ty := .int) (C := RX6) (T := TX6) (N := 9) hx hb hts in_X6 tyX6 tyX6_ok nmX6 hown hK hP hD hS 30 rfl rfl 4 (by decide) lk1 (fun _ h9 => h9) rfl (by decide +kernel) rfl rfl (Nat.le_of_ble_eq_true rfl) dX8_takeStep_5 (fun H locs hP hD hS => ?_)
  replace hP : va_P (eD E) vwCl (wpsL E qw ap vp as_ (up2 vs 4 0 there)) H := hP
  replace hD : va_D A (wpsL E qw ap vp as_ (up2 vs 4 0 there)) := hD
  generalize hv5 : up2 vs 4 0 there = vs_5 at hP hD
  have hFz : fr [0, 4, 5] vs vs_5 := by first | exact hFz | (rw [← hv5]; exact hFz.up (by decide))
  have hs5 : vs_5 0 0 = vs 0 0 := by rw [← hv5]; rfl
  refine lv_aload_n hx hb dX8_takeStep_8 rfl (lv_at hl 0 rfl) ?_
  refine va_get (D := eD E) (ci := 8) (v := .ref (as_ 0)) (C := RX8) (T := TX8) (N := 2) hx hb hts in_X8 hown hK hP 0 rfl rfl 1 (by decide) lk0 (fun _ h9 => h9) rfl dX8_takeStep_9 ?_
  refine lv_dup hx hb dX8_takeStep_12 rfl ?_
  refine va_get (D := eD E) (ci := 6) (v := .int (vs_5 0 0)) (C := RX6) (T := TX6) (N := 9) hx hb hts in_X6 hown hK hP 30 rfl rfl 0 (by decide) lk2 (fun _ h9 => h9) rfl dX8_takeStep_13 ?_
  refine lv_iconst (v := 1) hx hb dX8_takeStep_16 (by decide) ?_
  refine lv_iadd hx hb dX8_takeStep_17 ?_
  refine lv_topi (fun x17 e17 => ?_)
  have t17 := i_add e17 (by rw [hs5]; omega)
  rw [hs5] at t17
  refine va_put (D := eD E) (ci := 6) (v := .int x17) (ty := .int) (C := RX6) (T := TX6) (N := 9) hx hb hts in_X6 tyX6 tyX6_ok nmX6 hown hK hP hD hS 30 rfl rfl 0 (by decide) lk2 (fun _ h9 => h9) rfl (by decide +kernel) rfl rfl (Nat.le_of_ble_eq_true rfl) dX8_takeStep_18 (fun H locs hP hD hS => ?_)
  replace hP : va_P (eD E) vwCl (wpsL E qw ap vp as_ (up2 vs_5 0 0 x17)) H := hP
  replace hD : va_D A (wpsL E qw ap vp as_ (up2 vs_5 0 0 x17)) := hD
  generalize hv18 : up2 vs_5 0 0 x17 = vs_18 at hP hD
  have hFz : fr [0, 4, 5] vs vs_18 := by first | exact hFz | (rw [← hv18]; exact hFz.up (by decide))
  refine lv_aload_n hx hb dX8_takeStep_21 rfl (lv_at hl 0 rfl) ?_
  refine va_get (D := eD E) (ci := 8) (v := .ref (as_ 0)) (C := RX8) (T := TX8) (N := 2) hx hb hts in_X8 hown hK hP 0 rfl rfl 1 (by decide) lk0 (fun _ h9 => h9) rfl dX8_takeStep_22 ?_
  refine lv_ldc hx hb hown lk3 dX8_takeStep_25 ?_
  refine lv_aload_n hx hb dX8_takeStep_27 rfl (lv_at hl 0 rfl) ?_
  refine va_get (D := eD E) (ci := 8) (v := .ref (as_ 0)) (C := RX8) (T := TX8) (N := 2) hx hb hts in_X8 hown hK hP 0 rfl rfl 1 (by decide) lk0 (fun _ h9 => h9) rfl dX8_takeStep_28 ?_
  refine va_get (D := eD E) (ci := 6) (v := .int (vs_18 5 0)) (C := RX6) (T := TX6) (N := 9) hx hb hts in_X6 hown hK hP 30 rfl rfl 5 (by decide) lk4 (fun _ h9 => h9) rfl dX8_takeStep_31 ?_
  refine lv_iload_n hx hb dX8_takeStep_34 rfl (lv_at hl 2 rfl) ?_
  refine lv_iadd hx hb dX8_takeStep_35 ?_
  refine lv_topi (fun x35 e35 => ?_)
  refine va_mmin hx hb (hml.trans hl.1.symm) hown lk5 lk6 lk7 lk8 (Nat.le_of_ble_eq_true rfl) (Nat.le_of_ble_eq_true rfl) (Nat.zero_le _) (Nat.zero_le _) dX8_takeStep_36 ?_
  refine lv_topi (fun x36 e36 => ?_)
  have t36 := i_min e36
  refine va_put (D := eD E) (ci := 6) (v := .int x36) (ty := .int) (C := RX6) (T := TX6) (N := 9) hx hb hts in_X6 tyX6 tyX6_ok nmX6 hown hK hP hD hS 30 rfl rfl 5 (by decide) lk4 (fun _ h9 => h9) rfl (by decide +kernel) rfl rfl (Nat.le_of_ble_eq_true rfl) dX8_takeStep_39 (fun H locs hP hD hS => ?_)
  replace hP : va_P (eD E) vwCl (wpsL E qw ap vp as_ (up2 vs_18 5 0 x36)) H := hP
  replace hD : va_D A (wpsL E qw ap vp as_ (up2 vs_18 5 0 x36)) := hD
  generalize hv39 : up2 vs_18 5 0 x36 = vs_39 at hP hD
  have hFz : fr [0, 4, 5] vs vs_39 := by first | exact hFz | (rw [← hv39]; exact hFz.up (by decide))
  subst hQ
  exact W.vret hx hb hr (fun t ht hW => ⟨⟨(vs_39), rfl, (show ((StateI vs_39 ∧ (vs_39 0 0).toInt = (vs 0 0).toInt + 1) ∧ fr [0, 4, 5] vs vs_39) ∧ (vs_39 4 0 = there ∧ vs_39 0 0 = vs 0 0 + 1 ∧ vs_39 5 0 = mHeld (vs 5 0 + push)) from ⟨⟨⟨by rw [← hv39, ← hv18, ← hv5]; exact st_step hJ hthere (by omega), by rw [← hv39, ← hv18]; exact t17.trans (by rw [n_1])⟩, hFz⟩, ⟨by rw [← hv39, ← hv18, ← hv5]; rfl, by rw [← hv39, ← hv18]; show x17 = _; rw [e17, hs5], by rw [← hv39]; show x36 = _; rw [e36, held_min, e35, ← hv18, ← hv5]; rfl⟩⟩), by rw [ht]; exact hP, hD⟩, hS.F ht⟩) hS.2.2 dX8_takeStep_42
def rm_X8_draw : Room := { frames := 1, cells := 0, slots := 0, locals := 21 }
set_option maxHeartbeats 4000000 in
set_option maxRecDepth 100000 in
theorem c_X8_draw (l : Launch) (E : Ev) (sz : Nat) (qw : Nat) (ap : Nat → Nat) (vp : Vf) (as_ : Nat → Nat) (vs : Vf) (n : Int32) : Met l yX8_draw wsX8_draw rm_X8_draw (MtP E sz [.ref qw, .int n] (wpsL E qw ap vp as_ vs)) (va_Qi (fun (r : Int32) (u : Vf) => (((0 ≤ r.toInt ∧ (r.toInt = 0 ∨ r.toInt < n.toInt)) ∧ ∃ z : Int32, u = up2 vs 7 0 z) ∧ fr [7] vs u) ∧ (u 7 0 = nxt (vs 7 0) ∧ (1 ≤ n.toInt → r = dval (nxt (vs 7 0)) n))) (MtB E (va_A (wpsL E qw ap vp as_ vs) sz) (fun u => wpsL E qw ap vp as_ u)) (va_A (wpsL E qw ap vp as_ vs) sz)) 0 0 (va_A (wpsL E qw ap vp as_ vs) sz) := by
  refine Met.ofW (cc := cX8_draw) (maxL := 2) (ret := (some .int)) (by decide) rfl ?_
  intro p e s m args below meth c s₁ B hml hv
  obtain ⟨rfl, hsz, hE, hP, hD0⟩ := hv
  subst hsz
  have hD := hD0.self (sz := s.heap.size)
  generalize hAe : va_A (wpsL E qw ap vp as_ vs) s.heap.size = A at hD hE ⊢
  have hA : ∀ q : Nat, s.heap.size ≤ q → A q := fun q h => by rw [← hAe]; exact Or.inr h
  have hS : va_S A s.heap s.heap [] := va_S.rf
  have hx := B.exec
  have hb := B.bytes
  have hr := B.returns
  have hts := atoms_spec (ws := wsX8_draw) B.pre
  have hown : s.vm.findClass RX8 = some m.cls := findClass_of_methodNamed B.named
  have hlocks := B.notSynchronized
  have hK := hE.1
  have in_X8 : ∀ w ∈ u_ws RX8 TX8 2, w ∈ wsX8_draw := fun w h => List.mem_cons_of_mem _ (List.mem_append_left _ (List.mem_append_right _ h))
  have in_X6 : ∀ w ∈ u_ws RX6 TX6 9, w ∈ wsX8_draw := fun w h => List.mem_cons_of_mem _ (List.mem_append_right _ h)
  have lk0 := hts (.fieldLink RX8 15 "TidedGround$World" "now" "LTidedGround$State;") (List.mem_of_getElem? (i := 1) rfl)
  have lk1 := hts (.fieldLink RX8 155 "TidedGround$State" "seed" "I") (List.mem_of_getElem? (i := 2) rfl)
  have lk2 := hts (.constant RX8 158 1103515245) (List.mem_of_getElem? (i := 3) rfl)
  have lk3 := hts (.constant RX8 159 2147483647) (List.mem_of_getElem? (i := 4) rfl)
  have lk4 := hts (.constant RX8 160 65536) (List.mem_of_getElem? (i := 5) rfl)
  have lk5 := hts (.static yX9_leftOver) (List.mem_of_getElem? (i := 6) rfl)
  have lk6 := hts (.initialized RX9) (List.mem_of_getElem? (i := 7) rfl)
  have n_12345 : (12345 : Int32).toInt = 12345 := by decide
  have n_65536 : (65536 : Int32).toInt = 65536 := by decide
  have n_1103515245 : (1103515245 : Int32).toInt = 1103515245 := by decide
  have n_2147483647 : (2147483647 : Int32).toInt = 2147483647 := by decide
  have hl := lv_entry ([.ref qw, .int n]) (n := 2) (Nat.le_of_ble_eq_true rfl)
  rw [lg_entry_eq]
  generalize (lg_sl ([.ref qw, .int n]) ++ List.replicate (2 - (lg_sl ([.ref qw, .int n])).length) Slot.unset).toArray = ls at hl ⊢
  have hl : lv_has ls 2 [(0, .ref qw), (1, .int n)] := hl
  refine W_abs (fun Q hQ => ?_)
  have hFz : fr [7] vs vs := fr.rf
  refine lv_aload_n hx hb dX8_draw_0 rfl (lv_at hl 0 rfl) ?_
  refine va_get (D := eD E) (ci := 8) (v := .ref (as_ 0)) (C := RX8) (T := TX8) (N := 2) hx hb hts in_X8 hown hK hP 0 rfl rfl 1 (by decide) lk0 (fun _ h9 => h9) rfl dX8_draw_1 ?_
  refine lv_aload_n hx hb dX8_draw_4 rfl (lv_at hl 0 rfl) ?_
  refine va_get (D := eD E) (ci := 8) (v := .ref (as_ 0)) (C := RX8) (T := TX8) (N := 2) hx hb hts in_X8 hown hK hP 0 rfl rfl 1 (by decide) lk0 (fun _ h9 => h9) rfl dX8_draw_5 ?_
  refine va_get (D := eD E) (ci := 6) (v := .int (vs 7 0)) (C := RX6) (T := TX6) (N := 9) hx hb hts in_X6 hown hK hP 30 rfl rfl 7 (by decide) lk1 (fun _ h9 => h9) rfl dX8_draw_8 ?_
  refine lv_ldc hx hb hown lk2 dX8_draw_11 ?_
  refine lv_imul hx hb dX8_draw_13 ?_
  refine lv_topi (fun x13 e13 => ?_)
  refine lv_sipush (v := 12345) hx hb dX8_draw_14 (by decide) ?_
  refine lv_iadd hx hb dX8_draw_17 ?_
  refine lv_topi (fun x17 e17 => ?_)
  refine lv_ldc hx hb hown lk3 dX8_draw_18 ?_
  refine lv_iand hx hb dX8_draw_20 ?_
  refine lv_topi (fun x20 e20 => ?_)
  refine va_put (D := eD E) (ci := 6) (v := .int x20) (ty := .int) (C := RX6) (T := TX6) (N := 9) hx hb hts in_X6 tyX6 tyX6_ok nmX6 hown hK hP hD hS 30 rfl rfl 7 (by decide) lk1 (fun _ h9 => h9) rfl (by decide +kernel) rfl rfl (Nat.le_of_ble_eq_true rfl) dX8_draw_21 (fun H locs hP hD hS => ?_)
  replace hP : va_P (eD E) vwCl (wpsL E qw ap vp as_ (up2 vs 7 0 x20)) H := hP
  replace hD : va_D A (wpsL E qw ap vp as_ (up2 vs 7 0 x20)) := hD
  generalize hv21 : up2 vs 7 0 x20 = vs_21 at hP hD
  have hFz : fr [7] vs vs_21 := by first | exact hFz | (rw [← hv21]; exact hFz.up (by decide))
  have hs21 : vs_21 7 0 = x20 := by rw [← hv21]; rfl
  have hp20 : 0 ≤ x20.toInt := by rw [e20]; exact and7 _
  refine lv_aload_n hx hb dX8_draw_24 rfl (lv_at hl 0 rfl) ?_
  refine va_get (D := eD E) (ci := 8) (v := .ref (as_ 0)) (C := RX8) (T := TX8) (N := 2) hx hb hts in_X8 hown hK hP 0 rfl rfl 1 (by decide) lk0 (fun _ h9 => h9) rfl dX8_draw_25 ?_
  refine va_get (D := eD E) (ci := 6) (v := .int (vs_21 7 0)) (C := RX6) (T := TX6) (N := 9) hx hb hts in_X6 hown hK hP 30 rfl rfl 7 (by decide) lk1 (fun _ h9 => h9) rfl dX8_draw_28 ?_
  refine lv_ldc hx hb hown lk4 dX8_draw_31 ?_
  refine lv_idiv hx hb dX8_draw_33 (by decide) ?_
  refine lv_topi (fun x33 e33 => ?_)
  have t33 := i_div e33 (by rw [hs21]; exact hp20) (by decide)
  have rg33 := i_rng x33
  refine lv_iload_n hx hb dX8_draw_34 rfl (lv_at hl 1 rfl) ?_
  refine rd_SN (As := [.int x33, .int n]) (rest := []) ⟨hx, hb, hml, hown, hts⟩ (c_X9_leftOver l E A x33 n (by omega)) ⟨va_cnB 2 hts gX8_draw_X9_leftOver_n161 rfl rfl rfl (hE.2.2.2.2.2.2.2 _ (List.mem_of_getElem? (i := 8) rfl)) lk6 (by decide +kernel) ⟨Nat.le_of_ble_eq_true rfl, Nat.le_of_ble_eq_true rfl⟩, lk5, trivial⟩ (hE.kept hS.2.1) (hP.sub (ws' := []) [] rfl) rfl hl.1 rfl (Nat.le_of_ble_eq_true rfl) dX8_draw_35 ⟨Nat.zero_le _, Nat.zero_le _⟩ (fun r35 h35 => ?_)
  have hf35 := h35.2
  replace h35 := h35.1
  subst hQ
  exact W.iret (v := r35) hx hb hr (fun t ht hW => ⟨⟨r35, (vs_21), rfl, (show (((0 ≤ r35.toInt ∧ (r35.toInt = 0 ∨ r35.toInt < n.toInt)) ∧ ∃ z : Int32, vs_21 = up2 vs 7 0 z) ∧ fr [7] vs vs_21) ∧ (vs_21 7 0 = nxt (vs 7 0) ∧ (1 ≤ n.toInt → r35 = dval (nxt (vs 7 0)) n)) from ⟨⟨⟨by omega, x20, hv21.symm⟩, hFz⟩, ⟨by rw [hs21, e20, e17, e13]; rfl, fun q => by rw [show nxt (vs 7 0) = x20 from (by rw [e20, e17, e13]; rfl)]; exact dv_eq hp20 q (by rw [e33, hs21]) (hf35 q)⟩⟩), by rw [ht]; exact hP, hD⟩, hS.F ht⟩) hS.2.2 dX8_draw_38
def rm_X8_stepByDraws : Room := { frames := 4, cells := 0, slots := 0, locals := 96 }
set_option maxHeartbeats 4000000 in
set_option maxRecDepth 100000 in
theorem c_X8_stepByDraws (l : Launch) (E : Ev) (sz : Nat) (qw : Nat) (ap : Nat → Nat) (vp : Vf) (as_ : Nat → Nat) (vs : Vf) (hI : PlanI vp) (hJ : StateI vs) (hce : 1 ≤ (vp 2 0).toInt) (hst : (vs 0 0).toInt ≤ 900000) : Met l yX8_stepByDraws wsX8_stepByDraws rm_X8_stepByDraws (MtP E sz [.ref qw] (wpsL E qw ap vp as_ vs)) (va_Qv (fun (u : Vf) => ((StateI u ∧ (u 0 0).toInt = (vs 0 0).toInt + 1) ∧ fr [0, 2, 4, 5, 7] vs u) ∧ (∀ vm : Vf, RW vm vp vs → (-1 : Int32) = vm 62 0 → (vm 23 0).toInt ≤ 899999 → RW (drf vm) vp u)) (MtB E (va_A (wpsL E qw ap vp as_ vs) sz) (fun u => wpsL E qw ap vp as_ u)) (va_A (wpsL E qw ap vp as_ vs) sz)) 0 0 (va_A (wpsL E qw ap vp as_ vs) sz) := by
  refine Met.ofW (cc := cX8_stepByDraws) (maxL := 4) (ret := none) (by decide) rfl ?_
  intro p e s m args below meth c s₁ B hml hv
  obtain ⟨rfl, hsz, hE, hP, hD0⟩ := hv
  subst hsz
  have hD := hD0.self (sz := s.heap.size)
  generalize hAe : va_A (wpsL E qw ap vp as_ vs) s.heap.size = A at hD hE ⊢
  have hA : ∀ q : Nat, s.heap.size ≤ q → A q := fun q h => by rw [← hAe]; exact Or.inr h
  have hS : va_S A s.heap s.heap [] := va_S.rf
  have hx := B.exec
  have hb := B.bytes
  have hr := B.returns
  have hts := atoms_spec (ws := wsX8_stepByDraws) B.pre
  have hown : s.vm.findClass RX8 = some m.cls := findClass_of_methodNamed B.named
  have hlocks := B.notSynchronized
  have hK := hE.1
  have in_X8 : ∀ w ∈ u_ws RX8 TX8 2, w ∈ wsX8_stepByDraws := fun w h => List.mem_cons_of_mem _ (List.mem_append_left _ (List.mem_append_left _ (List.mem_append_left _ (List.mem_append_left _ (List.mem_append_right _ h)))))
  have in_X6 : ∀ w ∈ u_ws RX6 TX6 9, w ∈ wsX8_stepByDraws := fun w h => List.mem_cons_of_mem _ (List.mem_append_left _ (List.mem_append_left _ (List.mem_append_left _ (List.mem_append_right _ h))))
  have in_X1 : ∀ w ∈ u_ws RX1 TX1 11, w ∈ wsX8_stepByDraws := fun w h => List.mem_cons_of_mem _ (List.mem_append_left _ (List.mem_append_left _ (List.mem_append_right _ h)))
  have lk0 := hts (.fieldLink RX8 9 "TidedGround$World" "plan" "LTidedGround$Plan;") (List.mem_of_getElem? (i := 1) rfl)
  have lk1 := hts (.fieldLink RX8 15 "TidedGround$World" "now" "LTidedGround$State;") (List.mem_of_getElem? (i := 2) rfl)
  have lk2 := hts (.fieldLink RX8 135 "TidedGround$State" "cart" "I") (List.mem_of_getElem? (i := 3) rfl)
  have lk3 := hts (.fieldLink RX8 138 "TidedGround$State" "step" "I") (List.mem_of_getElem? (i := 4) rfl)
  have lk4 := hts (.fieldLink RX8 107 "TidedGround$Plan" "cells" "I") (List.mem_of_getElem? (i := 5) rfl)
  have lk5 := hts (.fieldLink RX8 44 "TidedGround$State" "loads" "[I") (List.mem_of_getElem? (i := 6) rfl)
  have lk6 := hts (.methodLink RX8 110 Lib.Math.min.name) (List.mem_of_getElem? (i := 7) rfl)
  have lk7 := hts (.static Lib.Math.min.name) (List.mem_of_getElem? (i := 8) rfl)
  have lk8 := hts (.initialized "java/lang/Math") (List.mem_of_getElem? (i := 9) rfl)
  have lk9 := hts (.code Lib.Math.min.name Lib.Math.min.code 2 (some .int)) (List.mem_of_getElem? (i := 10) rfl)
  have n_m1 : ((-1) : Int32).toInt = -1 := by decide
  have n_0 : (0 : Int32).toInt = 0 := by decide
  have n_1 : (1 : Int32).toInt = 1 := by decide
  have n_5 : (5 : Int32).toInt = 5 := by decide
  have n_12 : (12 : Int32).toInt = 12 := by decide
  have n_30 : (30 : Int32).toInt = 30 := by decide
  have n_90 : (90 : Int32).toInt = 90 := by decide
  have hl := lv_entry ([.ref qw]) (n := 4) (Nat.le_of_ble_eq_true rfl)
  rw [lg_entry_eq]
  generalize (lg_sl ([.ref qw]) ++ List.replicate (4 - (lg_sl ([.ref qw])).length) Slot.unset).toArray = ls at hl ⊢
  have hl : lv_has ls 4 [(0, .ref qw)] := hl
  refine W_abs (fun Q hQ => ?_)
  obtain ⟨hg, hmc, hm0, hm1, hm2, hs0, hs1, hs2, hs3⟩ := id hI
  obtain ⟨hg1, hg2, hg3, hg4⟩ := id hg
  have hz0 := hm0.1
  have hz1 := hm1.1
  have hz2 := hm2.1
  have hc0 := hs0.1
  have hc1 := hs1.1
  have hc2 := hs2.1
  have hc3 := hs3.1
  obtain ⟨hj0, hj1, hj2⟩ := id hJ
  have hFz : fr [0, 2, 4, 5, 7] vs vs := fr.rf
  refine lv_aload_n hx hb dX8_stepByDraws_0 rfl (lv_at hl 0 rfl) ?_
  refine va_get (D := eD E) (ci := 8) (v := .ref (ap 0)) (C := RX8) (T := TX8) (N := 2) hx hb hts in_X8 hown hK hP 0 rfl rfl 0 (by decide) lk0 (fun _ h9 => h9) rfl dX8_stepByDraws_1 ?_
  refine lv_aload_n hx hb dX8_stepByDraws_4 rfl (lv_at hl 0 rfl) ?_
  refine va_get (D := eD E) (ci := 8) (v := .ref (as_ 0)) (C := RX8) (T := TX8) (N := 2) hx hb hts in_X8 hown hK hP 0 rfl rfl 1 (by decide) lk1 (fun _ h9 => h9) rfl dX8_stepByDraws_5 ?_
  refine va_get (D := eD E) (ci := 6) (v := .int (vs 4 0)) (C := RX6) (T := TX6) (N := 9) hx hb hts in_X6 hown hK hP 30 rfl rfl 4 (by decide) lk2 (fun _ h9 => h9) rfl dX8_stepByDraws_8 ?_
  refine lv_aload_n hx hb dX8_stepByDraws_11 rfl (lv_at hl 0 rfl) ?_
  refine lv_iconst (v := 5) hx hb dX8_stepByDraws_12 (by decide) ?_
  refine mt_Vi (w1 := fun (u : Vf) => wpsL E qw ap vp as_ u) (wf := fun (u : Vf) => wpsL E qw ap vp as_ u) (wr := []) (As := [.int 5]) (rest := [.int (vs 4 0), .ref (ap 0)]) (C := RX8) (ci := 8) ⟨hx, hb, hml, hown, hts⟩ (c_X8_draw l E s.heap.size qw ap vp as_ vs 5) (cwV 1 hts gX8_stepByDraws_X8_draw rfl rfl rfl (by decide +kernel) ⟨Nat.le_of_ble_eq_true rfl, Nat.le_of_ble_eq_true rfl⟩) hE hS hA hP hD [0, 1, 2, 3, 4, 5, 6, 7, 8, 9, 10, 11, 12, 13, 14, 15, 16, 17, 18, 19, 20, 21, 22, 23, 24, 25, 26, 27, 28, 29, 30, 31, 32, 33] [] rfl rfl (by decide) (by decide) (by decide) [0, 1, 2, 3, 4, 5, 6, 7, 8, 9, 10, 11, 12, 13, 14, 15, 16, 17, 18, 19, 20, 21, 22, 23, 24, 25, 26, 27, 28, 29, 30, 31, 32, 33] (by decide) (fun u => rfl) rfl rfl rfl rfl hl.1 rfl (Nat.le_of_ble_eq_true rfl) dX8_stepByDraws_13 ⟨Nat.zero_le _, Nat.zero_le _⟩ (fun r13 u13 H locs h13 hP hD hS => ?_)
  generalize u13 = o13_vs at hP hD h13
  try dsimp only at h13
  have hf13 := h13.2
  replace h13 := h13.1
  have hFn13 := h13.2
  replace h13 := h13.1
  replace hP : va_P (eD E) vwCl (wpsL E qw ap vp as_ o13_vs) H := hP
  replace hD : va_D A (wpsL E qw ap vp as_ o13_vs) := hD
  have hFz : fr [0, 2, 4, 5, 7] vs o13_vs := by first | exact hFz | exact hFz.tr hFn13 (by decide) | (rw [← hv13]; repeat' (first | exact hFz | refine fr.up ?_ (by decide) | refine fr.up3 ?_ (by decide)))
  obtain ⟨z13, hz13⟩ := h13.2
  have hsd13 : (o13_vs 0 0).toInt = (vs 0 0).toInt := by rw [hz13]; rfl
  have hJ : StateI o13_vs := by rw [hz13]; exact hJ
  obtain ⟨hj0, hj1, hj2⟩ := id hJ
  have hzz13 : z13 = nxt (vs 7 0) := by have q := hf13.1; rw [hz13] at q; exact q
  have hR13 : ∀ vm : Vf, RW vm vp vs → RW (dr1 vm) vp o13_vs := fun vm hR => hR.draw hz13 hzz13
  have hwr13 : 0 ≤ r13.toInt ∧ r13.toInt ≤ 4 := by omega
  have hc13 : o13_vs 4 0 = vs 4 0 := by rw [hz13]; rfl
  have sv16_o13_vs00 : 0 ≤ (o13_vs 0 0).toInt ∧ (o13_vs 0 0).toInt ≤ 900000 := by omega
  refine rd_V (As := [.int (vs 4 0), .int r13]) (rest := []) (C := RX1) (ci := 1) ⟨hx, hb, hml, hown, hts⟩ (c_X1_beside l E A ap vp (vs 4 0) r13 hI (by omega)) (cwV 2 hts gX8_stepByDraws_X1_beside rfl rfl rfl (by decide +kernel) ⟨Nat.le_of_ble_eq_true rfl, Nat.le_of_ble_eq_true rfl⟩) (hE.kept hS.2.1) (hP.sub (ws' := planL E ap vp) [1, 2, 3, 4, 5, 6, 7, 8, 9, 10, 11, 12, 13, 14, 15, 16, 17, 18, 19, 20, 21, 22, 23, 24, 25, 26, 27, 28, 29] rfl) rfl rfl rfl rfl hl.1 rfl (Nat.le_of_ble_eq_true rfl) dX8_stepByDraws_16 ⟨Nat.zero_le _, Nat.zero_le _⟩ (fun r16 h16 => ?_)
  have hf16 := h16.2
  replace h16 := h16.1
  refine lv_istore_n (lv' := [(1, .int r16), (0, .ref qw)]) hx hb dX8_stepByDraws_19 rfl hl (by decide) rfl (fun ls hl => ?_)
  refine lv_aload_n hx hb dX8_stepByDraws_20 rfl (lv_at hl 1 rfl) ?_
  refine lv_aload_n hx hb dX8_stepByDraws_21 rfl (lv_at hl 1 rfl) ?_
  refine va_get (D := eD E) (ci := 8) (v := .ref (as_ 0)) (C := RX8) (T := TX8) (N := 2) hx hb hts in_X8 hown hK hP 0 rfl rfl 1 (by decide) lk1 (fun _ h9 => h9) rfl dX8_stepByDraws_22 ?_
  refine va_get (D := eD E) (ci := 6) (v := .int (o13_vs 4 0)) (C := RX6) (T := TX6) (N := 9) hx hb hts in_X6 hown hK hP 30 rfl rfl 4 (by decide) lk2 (fun _ h9 => h9) rfl dX8_stepByDraws_25 ?_
  refine lv_iload_n hx hb dX8_stepByDraws_28 rfl (lv_at hl 0 rfl) ?_
  refine lv_aload_n hx hb dX8_stepByDraws_29 rfl (lv_at hl 1 rfl) ?_
  refine va_get (D := eD E) (ci := 8) (v := .ref (as_ 0)) (C := RX8) (T := TX8) (N := 2) hx hb hts in_X8 hown hK hP 0 rfl rfl 1 (by decide) lk1 (fun _ h9 => h9) rfl dX8_stepByDraws_30 ?_
  refine va_get (D := eD E) (ci := 6) (v := .int (o13_vs 0 0)) (C := RX6) (T := TX6) (N := 9) hx hb hts in_X6 hown hK hP 30 rfl rfl 0 (by decide) lk3 (fun _ h9 => h9) rfl dX8_stepByDraws_33 ?_
  refine lv_iconst (v := 1) hx hb dX8_stepByDraws_36 (by decide) ?_
  refine lv_iadd hx hb dX8_stepByDraws_37 ?_
  refine lv_topi (fun x37 e37 => ?_)
  have t37 := i_add e37 (by omega)
  refine rd_V (As := [.int (o13_vs 4 0), .int r16, .int x37]) (rest := []) (C := RX8) (ci := 8) ⟨hx, hb, hml, hown, hts⟩ (c_X8_pushTo l E A qw ap vp as_ o13_vs (o13_vs 4 0) r16 x37 hI hJ (by omega) (by omega) (by omega)) (cwV 3 hts gX8_stepByDraws_X8_pushTo rfl rfl rfl (by decide +kernel) ⟨Nat.le_of_ble_eq_true rfl, Nat.le_of_ble_eq_true rfl⟩) (hE.kept hS.2.1) (hP.sub (ws' := wpsL E qw ap vp as_ o13_vs) [0, 1, 2, 3, 4, 5, 6, 7, 8, 9, 10, 11, 12, 13, 14, 15, 16, 17, 18, 19, 20, 21, 22, 23, 24, 25, 26, 27, 28, 29, 30, 31, 32, 33] rfl) rfl rfl rfl rfl hl.1 rfl (Nat.le_of_ble_eq_true rfl) dX8_stepByDraws_38 ⟨Nat.zero_le _, Nat.zero_le _⟩ (fun r38 h38 => ?_)
  have hf38 := h38.2
  replace h38 := h38.1
  have hq38 : ∀ vm : Vf, RW vm vp vs → (-1 : Int32) = vm 62 0 → DrO (dr1 vm) (o13_vs 4 0) r16 r38 := fun vm hR hg => dr_cls (hR13 vm hR) hg (by omega) (by have e7 : vs 7 0 = vm 30 0 := hR.2.1.2.2.2.2.2.2.2; rw [hf13.2 (by decide), e7]; rfl) hwr13 (by rw [hc13]; exact hf16.2) hf38 e37
  refine lv_istore_n (lv' := [(2, .int r38), (1, .int r16), (0, .ref qw)]) hx hb dX8_stepByDraws_41 rfl hl (by decide) rfl (fun ls hl => ?_)
  refine lv_iload_n hx hb dX8_stepByDraws_42 rfl (lv_at hl 0 rfl) ?_
  refine lv_iconst (v := (-1)) hx hb dX8_stepByDraws_43 (by decide) ?_
  refine lv_icmp_ne (tgt := 62) hx hb dX8_stepByDraws_44 (by decide) (fun c44 => ?_) (fun c44 => ?_)
  · have c44_ := i_ne c44
    replace h38 := cm_n h38 c44_
    clear c44_
    refine lv_aload_n hx hb dX8_stepByDraws_62 rfl (lv_at hl 2 rfl) ?_
    refine lv_iload_n hx hb dX8_stepByDraws_63 rfl (lv_at hl 1 rfl) ?_
    refine lv_iload_n hx hb dX8_stepByDraws_64 rfl (lv_at hl 0 rfl) ?_
    refine mt_Vv (w1 := fun (u : Vf) => wpsL E qw ap vp as_ u) (wf := fun (u : Vf) => wpsL E qw ap vp as_ u) (wr := []) (As := [.int r16, .int r38]) (rest := []) (C := RX8) (ci := 8) ⟨hx, hb, hml, hown, hts⟩ (c_X8_takeStep l E H.size qw ap vp as_ o13_vs r16 r38 hJ (by omega) (by omega)) (cwV 2 hts gX8_stepByDraws_X8_takeStep rfl rfl rfl (by decide +kernel) ⟨Nat.le_of_ble_eq_true rfl, Nat.le_of_ble_eq_true rfl⟩) hE hS hA hP hD [0, 1, 2, 3, 4, 5, 6, 7, 8, 9, 10, 11, 12, 13, 14, 15, 16, 17, 18, 19, 20, 21, 22, 23, 24, 25, 26, 27, 28, 29, 30, 31, 32, 33] [] rfl rfl (by decide) (by decide) (by decide) [0, 1, 2, 3, 4, 5, 6, 7, 8, 9, 10, 11, 12, 13, 14, 15, 16, 17, 18, 19, 20, 21, 22, 23, 24, 25, 26, 27, 28, 29, 30, 31, 32, 33] (by decide) (fun u => rfl) rfl rfl rfl rfl hl.1 rfl (Nat.le_of_ble_eq_true rfl) dX8_stepByDraws_65 ⟨Nat.zero_le _, Nat.zero_le _⟩ (fun u65 H locs h65 hP hD hS => ?_)
    generalize u65 = o65_vs at hP hD h65
    try dsimp only at h65
    have hf65 := h65.2
    replace h65 := h65.1
    have hFn65 := h65.2
    replace h65 := h65.1
    replace hP : va_P (eD E) vwCl (wpsL E qw ap vp as_ o65_vs) H := hP
    replace hD : va_D A (wpsL E qw ap vp as_ o65_vs) := hD
    have hFz : fr [0, 2, 4, 5, 7] vs o65_vs := by first | exact hFz | exact hFz.tr hFn65 (by decide) | (rw [← hv65]; repeat' (first | exact hFz | refine fr.up ?_ (by decide) | refine fr.up3 ?_ (by decide)))
    have hJ := h65.1
    obtain ⟨hj0, hj1, hj2⟩ := id hJ
    have hRt : ∀ vm : Vf, RW vm vp vs → (-1 : Int32) = vm 62 0 → (vm 23 0).toInt ≤ 899999 → RW (rlV (dr1 vm) (drT (dr1 vm))) vp o65_vs := fun vm hR hg hs => dr_go (hR13 vm hR) (hq38 vm hR hg) hs (by omega) hFn65 hf65
    refine lv_aload_n hx hb dX8_stepByDraws_68 rfl (lv_at hl 2 rfl) ?_
    refine lv_bipush (v := 12) hx hb dX8_stepByDraws_69 (by decide) ?_
    refine mt_Vi (w1 := fun (u : Vf) => wpsL E qw ap vp as_ u) (wf := fun (u : Vf) => wpsL E qw ap vp as_ u) (wr := []) (As := [.int 12]) (rest := []) (C := RX8) (ci := 8) ⟨hx, hb, hml, hown, hts⟩ (c_X8_draw l E H.size qw ap vp as_ o65_vs 12) (cwV 1 hts gX8_stepByDraws_X8_draw rfl rfl rfl (by decide +kernel) ⟨Nat.le_of_ble_eq_true rfl, Nat.le_of_ble_eq_true rfl⟩) hE hS hA hP hD [0, 1, 2, 3, 4, 5, 6, 7, 8, 9, 10, 11, 12, 13, 14, 15, 16, 17, 18, 19, 20, 21, 22, 23, 24, 25, 26, 27, 28, 29, 30, 31, 32, 33] [] rfl rfl (by decide) (by decide) (by decide) [0, 1, 2, 3, 4, 5, 6, 7, 8, 9, 10, 11, 12, 13, 14, 15, 16, 17, 18, 19, 20, 21, 22, 23, 24, 25, 26, 27, 28, 29, 30, 31, 32, 33] (by decide) (fun u => rfl) rfl rfl rfl rfl hl.1 rfl (Nat.le_of_ble_eq_true rfl) dX8_stepByDraws_71 ⟨Nat.zero_le _, Nat.zero_le _⟩ (fun r71 u71 H locs h71 hP hD hS => ?_)
    generalize u71 = o71_vs at hP hD h71
    try dsimp only at h71
    have hf71 := h71.2
    replace h71 := h71.1
    have hFn71 := h71.2
    replace h71 := h71.1
    replace hP : va_P (eD E) vwCl (wpsL E qw ap vp as_ o71_vs) H := hP
    replace hD : va_D A (wpsL E qw ap vp as_ o71_vs) := hD
    have hFz : fr [0, 2, 4, 5, 7] vs o71_vs := by first | exact hFz | exact hFz.tr hFn71 (by decide) | (rw [← hv71]; repeat' (first | exact hFz | refine fr.up ?_ (by decide) | refine fr.up3 ?_ (by decide)))
    obtain ⟨z71, hz71⟩ := h71.2
    have hsd71 : (o71_vs 0 0).toInt = (o65_vs 0 0).toInt := by rw [hz71]; rfl
    have hJ : StateI o71_vs := by rw [hz71]; exact hJ
    obtain ⟨hj0, hj1, hj2⟩ := id hJ
    have hzz71 : z71 = nxt (o65_vs 7 0) := by have q := hf71.1; rw [hz71] at q; exact q
    have hR71 : ∀ vm : Vf, RW vm vp vs → (-1 : Int32) = vm 62 0 → (vm 23 0).toInt ≤ 899999 → RW (drS vm) vp o71_vs := fun vm hR hg hs => (hRt vm hR hg hs).draw hz71 hzz71
    have hr71 : r71 = dval (o71_vs 7 0) 12 := by rw [hf71.1]; exact hf71.2 (by decide)
    refine lv_if_ne (tgt := 119) hx hb dX8_stepByDraws_74 (by decide) (fun c74 => ?_) (fun c74 => ?_)
    · have c74_ := i_ne c74
      subst hQ
      exact W.vret hx hb hr (fun t ht hW => ⟨⟨(o71_vs), rfl, (show ((StateI o71_vs ∧ (o71_vs 0 0).toInt = (vs 0 0).toInt + 1) ∧ fr [0, 2, 4, 5, 7] vs o71_vs) ∧ (∀ vm : Vf, RW vm vp vs → (-1 : Int32) = vm 62 0 → (vm 23 0).toInt ≤ 899999 → RW (drf vm) vp o71_vs) from ⟨⟨⟨hJ, by omega⟩, hFz⟩, (fun vm hR hg hs => dr_no (hR71 vm hR hg hs) (by rw [← hr71]; exact c74))⟩), by rw [ht]; exact hP, hD⟩, hS.F ht⟩) hS.2.2 dX8_stepByDraws_119
    · have c74_ := i_eq c74
      refine lv_aload_n hx hb dX8_stepByDraws_77 rfl (lv_at hl 2 rfl) ?_
      refine lv_aload_n hx hb dX8_stepByDraws_78 rfl (lv_at hl 2 rfl) ?_
      refine va_get (D := eD E) (ci := 8) (v := .ref (ap 0)) (C := RX8) (T := TX8) (N := 2) hx hb hts in_X8 hown hK hP 0 rfl rfl 0 (by decide) lk0 (fun _ h9 => h9) rfl dX8_stepByDraws_79 ?_
      refine va_get (D := eD E) (ci := 1) (v := .int (vp 2 0)) (C := RX1) (T := TX1) (N := 11) hx hb hts in_X1 hown hK hP 1 rfl rfl 2 (by decide) lk4 (fun _ h9 => h9) rfl dX8_stepByDraws_82 ?_
      refine mt_Vi (w1 := fun (u : Vf) => wpsL E qw ap vp as_ u) (wf := fun (u : Vf) => wpsL E qw ap vp as_ u) (wr := []) (As := [.int (vp 2 0)]) (rest := []) (C := RX8) (ci := 8) ⟨hx, hb, hml, hown, hts⟩ (c_X8_draw l E H.size qw ap vp as_ o71_vs (vp 2 0)) (cwV 1 hts gX8_stepByDraws_X8_draw rfl rfl rfl (by decide +kernel) ⟨Nat.le_of_ble_eq_true rfl, Nat.le_of_ble_eq_true rfl⟩) hE hS hA hP hD [0, 1, 2, 3, 4, 5, 6, 7, 8, 9, 10, 11, 12, 13, 14, 15, 16, 17, 18, 19, 20, 21, 22, 23, 24, 25, 26, 27, 28, 29, 30, 31, 32, 33] [] rfl rfl (by decide) (by decide) (by decide) [0, 1, 2, 3, 4, 5, 6, 7, 8, 9, 10, 11, 12, 13, 14, 15, 16, 17, 18, 19, 20, 21, 22, 23, 24, 25, 26, 27, 28, 29, 30, 31, 32, 33] (by decide) (fun u => rfl) rfl rfl rfl rfl hl.1 rfl (Nat.le_of_ble_eq_true rfl) dX8_stepByDraws_85 ⟨Nat.zero_le _, Nat.zero_le _⟩ (fun r85 u85 H locs h85 hP hD hS => ?_)
      generalize u85 = o85_vs at hP hD h85
      try dsimp only at h85
      have hf85 := h85.2
      replace h85 := h85.1
      have hFn85 := h85.2
      replace h85 := h85.1
      replace hP : va_P (eD E) vwCl (wpsL E qw ap vp as_ o85_vs) H := hP
      replace hD : va_D A (wpsL E qw ap vp as_ o85_vs) := hD
      have hFz : fr [0, 2, 4, 5, 7] vs o85_vs := by first | exact hFz | exact hFz.tr hFn85 (by decide) | (rw [← hv85]; repeat' (first | exact hFz | refine fr.up ?_ (by decide) | refine fr.up3 ?_ (by decide)))
      obtain ⟨z85, hz85⟩ := h85.2
      have hsd85 : (o85_vs 0 0).toInt = (o71_vs 0 0).toInt := by rw [hz85]; rfl
      have hJ : StateI o85_vs := by rw [hz85]; exact hJ
      obtain ⟨hj0, hj1, hj2⟩ := id hJ
      have hzz85 : z85 = nxt (o71_vs 7 0) := by have q := hf85.1; rw [hz85] at q; exact q
      have hR85 : ∀ vm : Vf, RW vm vp vs → (-1 : Int32) = vm 62 0 → (vm 23 0).toInt ≤ 899999 → RW (dr1 (drS vm)) vp o85_vs := fun vm hR hg hs => (hR71 vm hR hg hs).draw hz85 hzz85
      refine lv_istore_n (lv' := [(3, .int r85), (2, .int r38), (1, .int r16), (0, .ref qw)]) hx hb dX8_stepByDraws_88 rfl hl (by decide) rfl (fun ls hl => ?_)
      refine lv_aload_n hx hb dX8_stepByDraws_89 rfl (lv_at hl 3 rfl) ?_
      refine va_get (D := eD E) (ci := 8) (v := .ref (as_ 0)) (C := RX8) (T := TX8) (N := 2) hx hb hts in_X8 hown hK hP 0 rfl rfl 1 (by decide) lk1 (fun _ h9 => h9) rfl dX8_stepByDraws_90 ?_
      refine va_get (D := eD E) (ci := 6) (v := .ref (as_ 2)) (C := RX6) (T := TX6) (N := 9) hx hb hts in_X6 hown hK hP 30 rfl rfl 2 (by decide) lk5 (fun _ h9 => h9) rfl dX8_stepByDraws_93 ?_
      refine lv_iload_n hx hb dX8_stepByDraws_96 rfl (lv_at hl 0 rfl) ?_
      refine lv_bipush (v := 90) hx hb dX8_stepByDraws_97 (by decide) ?_
      refine lv_aload_n hx hb dX8_stepByDraws_99 rfl (lv_at hl 3 rfl) ?_
      refine va_get (D := eD E) (ci := 8) (v := .ref (as_ 0)) (C := RX8) (T := TX8) (N := 2) hx hb hts in_X8 hown hK hP 0 rfl rfl 1 (by decide) lk1 (fun _ h9 => h9) rfl dX8_stepByDraws_100 ?_
      refine va_get (D := eD E) (ci := 6) (v := .ref (as_ 2)) (C := RX6) (T := TX6) (N := 9) hx hb hts in_X6 hown hK hP 30 rfl rfl 2 (by decide) lk5 (fun _ h9 => h9) rfl dX8_stepByDraws_103 ?_
      refine lv_iload_n hx hb dX8_stepByDraws_106 rfl (lv_at hl 0 rfl) ?_
      refine va_iald hx hb hK hP 32 0 rfl rfl (n := 24) (f := (o85_vs 2)) (i_in (by omega) (by omega)) dX8_stepByDraws_107 ?_
      refine lv_topi (fun x107 e107 => ?_)
      refine lv_aload_n hx hb dX8_stepByDraws_108 rfl (lv_at hl 3 rfl) ?_
      refine lv_bipush (v := 30) hx hb dX8_stepByDraws_109 (by decide) ?_
      refine mt_Vi (w1 := fun (u : Vf) => wpsL E qw ap vp as_ u) (wf := fun (u : Vf) => wpsL E qw ap vp as_ u) (wr := []) (As := [.int 30]) (rest := [.int x107, .int 90, .int r85, .ref (as_ 2)]) (C := RX8) (ci := 8) ⟨hx, hb, hml, hown, hts⟩ (c_X8_draw l E H.size qw ap vp as_ o85_vs 30) (cwV 1 hts gX8_stepByDraws_X8_draw rfl rfl rfl (by decide +kernel) ⟨Nat.le_of_ble_eq_true rfl, Nat.le_of_ble_eq_true rfl⟩) hE hS hA hP hD [0, 1, 2, 3, 4, 5, 6, 7, 8, 9, 10, 11, 12, 13, 14, 15, 16, 17, 18, 19, 20, 21, 22, 23, 24, 25, 26, 27, 28, 29, 30, 31, 32, 33] [] rfl rfl (by decide) (by decide) (by decide) [0, 1, 2, 3, 4, 5, 6, 7, 8, 9, 10, 11, 12, 13, 14, 15, 16, 17, 18, 19, 20, 21, 22, 23, 24, 25, 26, 27, 28, 29, 30, 31, 32, 33] (by decide) (fun u => rfl) rfl rfl rfl rfl hl.1 rfl (Nat.le_of_ble_eq_true rfl) dX8_stepByDraws_111 ⟨Nat.zero_le _, Nat.zero_le _⟩ (fun r111 u111 H locs h111 hP hD hS => ?_)
      generalize u111 = o111_vs at hP hD h111
      try dsimp only at h111
      have hf111 := h111.2
      replace h111 := h111.1
      have hFn111 := h111.2
      replace h111 := h111.1
      replace hP : va_P (eD E) vwCl (wpsL E qw ap vp as_ o111_vs) H := hP
      replace hD : va_D A (wpsL E qw ap vp as_ o111_vs) := hD
      have hFz : fr [0, 2, 4, 5, 7] vs o111_vs := by first | exact hFz | exact hFz.tr hFn111 (by decide) | (rw [← hv111]; repeat' (first | exact hFz | refine fr.up ?_ (by decide) | refine fr.up3 ?_ (by decide)))
      obtain ⟨z111, hz111⟩ := h111.2
      have hsd111 : (o111_vs 0 0).toInt = (o85_vs 0 0).toInt := by rw [hz111]; rfl
      have hJ : StateI o111_vs := by rw [hz111]; exact hJ
      obtain ⟨hj0, hj1, hj2⟩ := id hJ
      have hzz111 : z111 = nxt (o85_vs 7 0) := by have q := hf111.1; rw [hz111] at q; exact q
      have hR111 : ∀ vm : Vf, RW vm vp vs → (-1 : Int32) = vm 62 0 → (vm 23 0).toInt ≤ 899999 → RW (dr1 (dr1 (drS vm))) vp o111_vs := fun vm hR hg hs => (hR85 vm hR hg hs).draw hz111 hzz111
      refine lv_iadd hx hb dX8_stepByDraws_114 ?_
      refine lv_topi (fun x114 e114 => ?_)
      refine va_mmin hx hb (hml.trans hl.1.symm) hown lk6 lk7 lk8 lk9 (Nat.le_of_ble_eq_true rfl) (Nat.le_of_ble_eq_true rfl) (Nat.zero_le _) (Nat.zero_le _) dX8_stepByDraws_115 ?_
      refine lv_topi (fun x115 e115 => ?_)
      have t115 := i_min e115
      refine va_iast hx hb hK hP hD hS 32 0 rfl rfl (n := 24) (f := (o111_vs 2)) (i_in (by omega) (by omega)) dX8_stepByDraws_118 (fun H locs hP hD hS => ?_)
      replace hP : va_P (eD E) vwCl (wpsL E qw ap vp as_ (up2 o111_vs 2 r85.toNatClampNeg x115)) H := hP
      replace hD : va_D A (wpsL E qw ap vp as_ (up2 o111_vs 2 r85.toNatClampNeg x115)) := hD
      generalize hv118 : up2 o111_vs 2 r85.toNatClampNeg x115 = vs_118 at hP hD
      have hFz : fr [0, 2, 4, 5, 7] vs vs_118 := by first | exact hFz | (rw [← hv118]; exact hFz.up (by decide))
      subst hQ
      exact W.vret hx hb hr (fun t ht hW => ⟨⟨(vs_118), rfl, (show ((StateI vs_118 ∧ (vs_118 0 0).toInt = (vs 0 0).toInt + 1) ∧ fr [0, 2, 4, 5, 7] vs vs_118) ∧ (∀ vm : Vf, RW vm vp vs → (-1 : Int32) = vm 62 0 → (vm 23 0).toInt ≤ 899999 → RW (drf vm) vp vs_118) from ⟨⟨⟨by rw [← hv118]; exact hJ, by rw [← hv118]; exact (show (o111_vs 0 0).toInt = (vs 0 0).toInt + 1 by omega)⟩, hFz⟩, (fun vm hR hg hs => dr_yes (hR71 vm hR hg hs) (by rw [← hr71]; exact c74) (hR85 vm hR hg hs) (hR111 vm hR hg hs) (hf85.2 hce) hg3 (by omega) (by rw [e115, lod_min, e114, e107, hf111.2 (by decide)]) hv118)⟩), by rw [ht]; exact hP, hD⟩, hS.F ht⟩) hS.2.2 dX8_stepByDraws_119
  · have c44_ := i_eq c44
    clear h38
    refine lv_aload_n hx hb dX8_stepByDraws_47 rfl (lv_at hl 2 rfl) ?_
    refine lv_aload_n hx hb dX8_stepByDraws_48 rfl (lv_at hl 2 rfl) ?_
    refine va_get (D := eD E) (ci := 8) (v := .ref (as_ 0)) (C := RX8) (T := TX8) (N := 2) hx hb hts in_X8 hown hK hP 0 rfl rfl 1 (by decide) lk1 (fun _ h9 => h9) rfl dX8_stepByDraws_49 ?_
    refine va_get (D := eD E) (ci := 6) (v := .int (o13_vs 4 0)) (C := RX6) (T := TX6) (N := 9) hx hb hts in_X6 hown hK hP 30 rfl rfl 4 (by decide) lk2 (fun _ h9 => h9) rfl dX8_stepByDraws_52 ?_
    refine lv_iconst (v := 0) hx hb dX8_stepByDraws_55 (by decide) ?_
    refine mt_Vv (w1 := fun (u : Vf) => wpsL E qw ap vp as_ u) (wf := fun (u : Vf) => wpsL E qw ap vp as_ u) (wr := []) (As := [.int (o13_vs 4 0), .int 0]) (rest := []) (C := RX8) (ci := 8) ⟨hx, hb, hml, hown, hts⟩ (c_X8_takeStep l E H.size qw ap vp as_ o13_vs (o13_vs 4 0) 0 hJ (by omega) (by omega)) (cwV 2 hts gX8_stepByDraws_X8_takeStep rfl rfl rfl (by decide +kernel) ⟨Nat.le_of_ble_eq_true rfl, Nat.le_of_ble_eq_true rfl⟩) hE hS hA hP hD [0, 1, 2, 3, 4, 5, 6, 7, 8, 9, 10, 11, 12, 13, 14, 15, 16, 17, 18, 19, 20, 21, 22, 23, 24, 25, 26, 27, 28, 29, 30, 31, 32, 33] [] rfl rfl (by decide) (by decide) (by decide) [0, 1, 2, 3, 4, 5, 6, 7, 8, 9, 10, 11, 12, 13, 14, 15, 16, 17, 18, 19, 20, 21, 22, 23, 24, 25, 26, 27, 28, 29, 30, 31, 32, 33] (by decide) (fun u => rfl) rfl rfl rfl rfl hl.1 rfl (Nat.le_of_ble_eq_true rfl) dX8_stepByDraws_56 ⟨Nat.zero_le _, Nat.zero_le _⟩ (fun u56 H locs h56 hP hD hS => ?_)
    generalize u56 = o56_vs at hP hD h56
    try dsimp only at h56
    have hf56 := h56.2
    replace h56 := h56.1
    have hFn56 := h56.2
    replace h56 := h56.1
    replace hP : va_P (eD E) vwCl (wpsL E qw ap vp as_ o56_vs) H := hP
    replace hD : va_D A (wpsL E qw ap vp as_ o56_vs) := hD
    have hFz : fr [0, 2, 4, 5, 7] vs o56_vs := by first | exact hFz | exact hFz.tr hFn56 (by decide) | (rw [← hv56]; repeat' (first | exact hFz | refine fr.up ?_ (by decide) | refine fr.up3 ?_ (by decide)))
    have hJ := h56.1
    obtain ⟨hj0, hj1, hj2⟩ := id hJ
    have hRt : ∀ vm : Vf, RW vm vp vs → (-1 : Int32) = vm 62 0 → (vm 23 0).toInt ≤ 899999 → RW (rlV (dr1 vm) (drT (dr1 vm))) vp o56_vs := fun vm hR hg hs => dr_stay (hR13 vm hR) (hq38 vm hR hg) hs (by omega) hFn56 hf56
    refine lv_goto (tgt := 68) hx hb dX8_stepByDraws_59 (by decide) ?_
    refine lv_aload_n hx hb dX8_stepByDraws_68 rfl (lv_at hl 2 rfl) ?_
    refine lv_bipush (v := 12) hx hb dX8_stepByDraws_69 (by decide) ?_
    refine mt_Vi (w1 := fun (u : Vf) => wpsL E qw ap vp as_ u) (wf := fun (u : Vf) => wpsL E qw ap vp as_ u) (wr := []) (As := [.int 12]) (rest := []) (C := RX8) (ci := 8) ⟨hx, hb, hml, hown, hts⟩ (c_X8_draw l E H.size qw ap vp as_ o56_vs 12) (cwV 1 hts gX8_stepByDraws_X8_draw rfl rfl rfl (by decide +kernel) ⟨Nat.le_of_ble_eq_true rfl, Nat.le_of_ble_eq_true rfl⟩) hE hS hA hP hD [0, 1, 2, 3, 4, 5, 6, 7, 8, 9, 10, 11, 12, 13, 14, 15, 16, 17, 18, 19, 20, 21, 22, 23, 24, 25, 26, 27, 28, 29, 30, 31, 32, 33] [] rfl rfl (by decide) (by decide) (by decide) [0, 1, 2, 3, 4, 5, 6, 7, 8, 9, 10, 11, 12, 13, 14, 15, 16, 17, 18, 19, 20, 21, 22, 23, 24, 25, 26, 27, 28, 29, 30, 31, 32, 33] (by decide) (fun u => rfl) rfl rfl rfl rfl hl.1 rfl (Nat.le_of_ble_eq_true rfl) dX8_stepByDraws_71 ⟨Nat.zero_le _, Nat.zero_le _⟩ (fun r71 u71 H locs h71 hP hD hS => ?_)
    generalize u71 = o71_vs at hP hD h71
    try dsimp only at h71
    have hf71 := h71.2
    replace h71 := h71.1
    have hFn71 := h71.2
    replace h71 := h71.1
    replace hP : va_P (eD E) vwCl (wpsL E qw ap vp as_ o71_vs) H := hP
    replace hD : va_D A (wpsL E qw ap vp as_ o71_vs) := hD
    have hFz : fr [0, 2, 4, 5, 7] vs o71_vs := by first | exact hFz | exact hFz.tr hFn71 (by decide) | (rw [← hv71]; repeat' (first | exact hFz | refine fr.up ?_ (by decide) | refine fr.up3 ?_ (by decide)))
    obtain ⟨z71, hz71⟩ := h71.2
    have hsd71 : (o71_vs 0 0).toInt = (o56_vs 0 0).toInt := by rw [hz71]; rfl
    have hJ : StateI o71_vs := by rw [hz71]; exact hJ
    obtain ⟨hj0, hj1, hj2⟩ := id hJ
    have hzz71 : z71 = nxt (o56_vs 7 0) := by have q := hf71.1; rw [hz71] at q; exact q
    have hR71 : ∀ vm : Vf, RW vm vp vs → (-1 : Int32) = vm 62 0 → (vm 23 0).toInt ≤ 899999 → RW (drS vm) vp o71_vs := fun vm hR hg hs => (hRt vm hR hg hs).draw hz71 hzz71
    have hr71 : r71 = dval (o71_vs 7 0) 12 := by rw [hf71.1]; exact hf71.2 (by decide)
    refine lv_if_ne (tgt := 119) hx hb dX8_stepByDraws_74 (by decide) (fun c74 => ?_) (fun c74 => ?_)
    · have c74_ := i_ne c74
      subst hQ
      exact W.vret hx hb hr (fun t ht hW => ⟨⟨(o71_vs), rfl, (show ((StateI o71_vs ∧ (o71_vs 0 0).toInt = (vs 0 0).toInt + 1) ∧ fr [0, 2, 4, 5, 7] vs o71_vs) ∧ (∀ vm : Vf, RW vm vp vs → (-1 : Int32) = vm 62 0 → (vm 23 0).toInt ≤ 899999 → RW (drf vm) vp o71_vs) from ⟨⟨⟨hJ, by omega⟩, hFz⟩, (fun vm hR hg hs => dr_no (hR71 vm hR hg hs) (by rw [← hr71]; exact c74))⟩), by rw [ht]; exact hP, hD⟩, hS.F ht⟩) hS.2.2 dX8_stepByDraws_119
    · have c74_ := i_eq c74
      refine lv_aload_n hx hb dX8_stepByDraws_77 rfl (lv_at hl 2 rfl) ?_
      refine lv_aload_n hx hb dX8_stepByDraws_78 rfl (lv_at hl 2 rfl) ?_
      refine va_get (D := eD E) (ci := 8) (v := .ref (ap 0)) (C := RX8) (T := TX8) (N := 2) hx hb hts in_X8 hown hK hP 0 rfl rfl 0 (by decide) lk0 (fun _ h9 => h9) rfl dX8_stepByDraws_79 ?_
      refine va_get (D := eD E) (ci := 1) (v := .int (vp 2 0)) (C := RX1) (T := TX1) (N := 11) hx hb hts in_X1 hown hK hP 1 rfl rfl 2 (by decide) lk4 (fun _ h9 => h9) rfl dX8_stepByDraws_82 ?_
      refine mt_Vi (w1 := fun (u : Vf) => wpsL E qw ap vp as_ u) (wf := fun (u : Vf) => wpsL E qw ap vp as_ u) (wr := []) (As := [.int (vp 2 0)]) (rest := []) (C := RX8) (ci := 8) ⟨hx, hb, hml, hown, hts⟩ (c_X8_draw l E H.size qw ap vp as_ o71_vs (vp 2 0)) (cwV 1 hts gX8_stepByDraws_X8_draw rfl rfl rfl (by decide +kernel) ⟨Nat.le_of_ble_eq_true rfl, Nat.le_of_ble_eq_true rfl⟩) hE hS hA hP hD [0, 1, 2, 3, 4, 5, 6, 7, 8, 9, 10, 11, 12, 13, 14, 15, 16, 17, 18, 19, 20, 21, 22, 23, 24, 25, 26, 27, 28, 29, 30, 31, 32, 33] [] rfl rfl (by decide) (by decide) (by decide) [0, 1, 2, 3, 4, 5, 6, 7, 8, 9, 10, 11, 12, 13, 14, 15, 16, 17, 18, 19, 20, 21, 22, 23, 24, 25, 26, 27, 28, 29, 30, 31, 32, 33] (by decide) (fun u => rfl) rfl rfl rfl rfl hl.1 rfl (Nat.le_of_ble_eq_true rfl) dX8_stepByDraws_85 ⟨Nat.zero_le _, Nat.zero_le _⟩ (fun r85 u85 H locs h85 hP hD hS => ?_)
      generalize u85 = o85_vs at hP hD h85
      try dsimp only at h85
      have hf85 := h85.2
      replace h85 := h85.1
      have hFn85 := h85.2
      replace h85 := h85.1
      replace hP : va_P (eD E) vwCl (wpsL E qw ap vp as_ o85_vs) H := hP
      replace hD : va_D A (wpsL E qw ap vp as_ o85_vs) := hD
      have hFz : fr [0, 2, 4, 5, 7] vs o85_vs := by first | exact hFz | exact hFz.tr hFn85 (by decide) | (rw [← hv85]; repeat' (first | exact hFz | refine fr.up ?_ (by decide) | refine fr.up3 ?_ (by decide)))
      obtain ⟨z85, hz85⟩ := h85.2
      have hsd85 : (o85_vs 0 0).toInt = (o71_vs 0 0).toInt := by rw [hz85]; rfl
      have hJ : StateI o85_vs := by rw [hz85]; exact hJ
      obtain ⟨hj0, hj1, hj2⟩ := id hJ
      have hzz85 : z85 = nxt (o71_vs 7 0) := by have q := hf85.1; rw [hz85] at q; exact q
      have hR85 : ∀ vm : Vf, RW vm vp vs → (-1 : Int32) = vm 62 0 → (vm 23 0).toInt ≤ 899999 → RW (dr1 (drS vm)) vp o85_vs := fun vm hR hg hs => (hR71 vm hR hg hs).draw hz85 hzz85
      refine lv_istore_n (lv' := [(3, .int r85), (2, .int r38), (1, .int r16), (0, .ref qw)]) hx hb dX8_stepByDraws_88 rfl hl (by decide) rfl (fun ls hl => ?_)
      refine lv_aload_n hx hb dX8_stepByDraws_89 rfl (lv_at hl 3 rfl) ?_
      refine va_get (D := eD E) (ci := 8) (v := .ref (as_ 0)) (C := RX8) (T := TX8) (N := 2) hx hb hts in_X8 hown hK hP 0 rfl rfl 1 (by decide) lk1 (fun _ h9 => h9) rfl dX8_stepByDraws_90 ?_
      refine va_get (D := eD E) (ci := 6) (v := .ref (as_ 2)) (C := RX6) (T := TX6) (N := 9) hx hb hts in_X6 hown hK hP 30 rfl rfl 2 (by decide) lk5 (fun _ h9 => h9) rfl dX8_stepByDraws_93 ?_
      refine lv_iload_n hx hb dX8_stepByDraws_96 rfl (lv_at hl 0 rfl) ?_
      refine lv_bipush (v := 90) hx hb dX8_stepByDraws_97 (by decide) ?_
      refine lv_aload_n hx hb dX8_stepByDraws_99 rfl (lv_at hl 3 rfl) ?_
      refine va_get (D := eD E) (ci := 8) (v := .ref (as_ 0)) (C := RX8) (T := TX8) (N := 2) hx hb hts in_X8 hown hK hP 0 rfl rfl 1 (by decide) lk1 (fun _ h9 => h9) rfl dX8_stepByDraws_100 ?_
      refine va_get (D := eD E) (ci := 6) (v := .ref (as_ 2)) (C := RX6) (T := TX6) (N := 9) hx hb hts in_X6 hown hK hP 30 rfl rfl 2 (by decide) lk5 (fun _ h9 => h9) rfl dX8_stepByDraws_103 ?_
      refine lv_iload_n hx hb dX8_stepByDraws_106 rfl (lv_at hl 0 rfl) ?_
      refine va_iald hx hb hK hP 32 0 rfl rfl (n := 24) (f := (o85_vs 2)) (i_in (by omega) (by omega)) dX8_stepByDraws_107 ?_
      refine lv_topi (fun x107 e107 => ?_)
      refine lv_aload_n hx hb dX8_stepByDraws_108 rfl (lv_at hl 3 rfl) ?_
      refine lv_bipush (v := 30) hx hb dX8_stepByDraws_109 (by decide) ?_
      refine mt_Vi (w1 := fun (u : Vf) => wpsL E qw ap vp as_ u) (wf := fun (u : Vf) => wpsL E qw ap vp as_ u) (wr := []) (As := [.int 30]) (rest := [.int x107, .int 90, .int r85, .ref (as_ 2)]) (C := RX8) (ci := 8) ⟨hx, hb, hml, hown, hts⟩ (c_X8_draw l E H.size qw ap vp as_ o85_vs 30) (cwV 1 hts gX8_stepByDraws_X8_draw rfl rfl rfl (by decide +kernel) ⟨Nat.le_of_ble_eq_true rfl, Nat.le_of_ble_eq_true rfl⟩) hE hS hA hP hD [0, 1, 2, 3, 4, 5, 6, 7, 8, 9, 10, 11, 12, 13, 14, 15, 16, 17, 18, 19, 20, 21, 22, 23, 24, 25, 26, 27, 28, 29, 30, 31, 32, 33] [] rfl rfl (by decide) (by decide) (by decide) [0, 1, 2, 3, 4, 5, 6, 7, 8, 9, 10, 11, 12, 13, 14, 15, 16, 17, 18, 19, 20, 21, 22, 23, 24, 25, 26, 27, 28, 29, 30, 31, 32, 33] (by decide) (fun u => rfl) rfl rfl rfl rfl hl.1 rfl (Nat.le_of_ble_eq_true rfl) dX8_stepByDraws_111 ⟨Nat.zero_le _, Nat.zero_le _⟩ (fun r111 u111 H locs h111 hP hD hS => ?_)
      generalize u111 = o111_vs at hP hD h111
      try dsimp only at h111
      have hf111 := h111.2
      replace h111 := h111.1
      have hFn111 := h111.2
      replace h111 := h111.1
      replace hP : va_P (eD E) vwCl (wpsL E qw ap vp as_ o111_vs) H := hP
      replace hD : va_D A (wpsL E qw ap vp as_ o111_vs) := hD
      have hFz : fr [0, 2, 4, 5, 7] vs o111_vs := by first | exact hFz | exact hFz.tr hFn111 (by decide) | (rw [← hv111]; repeat' (first | exact hFz | refine fr.up ?_ (by decide) | refine fr.up3 ?_ (by decide)))
      obtain ⟨z111, hz111⟩ := h111.2
      have hsd111 : (o111_vs 0 0).toInt = (o85_vs 0 0).toInt := by rw [hz111]; rfl
      have hJ : StateI o111_vs := by rw [hz111]; exact hJ
      obtain ⟨hj0, hj1, hj2⟩ := id hJ
      have hzz111 : z111 = nxt (o85_vs 7 0) := by have q := hf111.1; rw [hz111] at q; exact q
      have hR111 : ∀ vm : Vf, RW vm vp vs → (-1 : Int32) = vm 62 0 → (vm 23 0).toInt ≤ 899999 → RW (dr1 (dr1 (drS vm))) vp o111_vs := fun vm hR hg hs => (hR85 vm hR hg hs).draw hz111 hzz111
      refine lv_iadd hx hb dX8_stepByDraws_114 ?_
      refine lv_topi (fun x114 e114 => ?_)
      refine va_mmin hx hb (hml.trans hl.1.symm) hown lk6 lk7 lk8 lk9 (Nat.le_of_ble_eq_true rfl) (Nat.le_of_ble_eq_true rfl) (Nat.zero_le _) (Nat.zero_le _) dX8_stepByDraws_115 ?_
      refine lv_topi (fun x115 e115 => ?_)
      have t115 := i_min e115
      refine va_iast hx hb hK hP hD hS 32 0 rfl rfl (n := 24) (f := (o111_vs 2)) (i_in (by omega) (by omega)) dX8_stepByDraws_118 (fun H locs hP hD hS => ?_)
      replace hP : va_P (eD E) vwCl (wpsL E qw ap vp as_ (up2 o111_vs 2 r85.toNatClampNeg x115)) H := hP
      replace hD : va_D A (wpsL E qw ap vp as_ (up2 o111_vs 2 r85.toNatClampNeg x115)) := hD
      generalize hv118 : up2 o111_vs 2 r85.toNatClampNeg x115 = vs_118 at hP hD
      have hFz : fr [0, 2, 4, 5, 7] vs vs_118 := by first | exact hFz | (rw [← hv118]; exact hFz.up (by decide))
      subst hQ
      exact W.vret hx hb hr (fun t ht hW => ⟨⟨(vs_118), rfl, (show ((StateI vs_118 ∧ (vs_118 0 0).toInt = (vs 0 0).toInt + 1) ∧ fr [0, 2, 4, 5, 7] vs vs_118) ∧ (∀ vm : Vf, RW vm vp vs → (-1 : Int32) = vm 62 0 → (vm 23 0).toInt ≤ 899999 → RW (drf vm) vp vs_118) from ⟨⟨⟨by rw [← hv118]; exact hJ, by rw [← hv118]; exact (show (o111_vs 0 0).toInt = (vs 0 0).toInt + 1 by omega)⟩, hFz⟩, (fun vm hR hg hs => dr_yes (hR71 vm hR hg hs) (by rw [← hr71]; exact c74) (hR85 vm hR hg hs) (hR111 vm hR hg hs) (hf85.2 hce) hg3 (by omega) (by rw [e115, lod_min, e114, e107, hf111.2 (by decide)]) hv118)⟩), by rw [ht]; exact hP, hD⟩, hS.F ht⟩) hS.2.2 dX8_stepByDraws_119
