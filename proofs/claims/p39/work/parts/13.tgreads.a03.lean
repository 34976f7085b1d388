def rm_X9_isNoMoon : Room := { frames := 1, cells := 0, slots := 0, locals := 22 }
set_option maxHeartbeats 4000000 in
set_option maxRecDepth 100000 in
theorem c_X9_isNoMoon (l : Launch) (E : Ev) (A : Nat → Prop) (a : Nat → Nat) (v : Vf) (aq : Nat → Nat) (ap : Nat → Nat) (vp : Vf) (as_ : Nat → Nat) (vs : Vf) (i : Int32) (hI : PlanI vp) (hJ : StateI vs) (hT : TgI v) : Met l yX9_isNoMoon wsX9_isNoMoon rm_X9_isNoMoon (RdP E A [.ref (a 99), .int i] (tgsL E a v aq ap vp as_ vs)) (vp_Si (fun r => (r.toInt = 1 ∧ (i.toInt < 0 ∨ (vp 5 0).toInt ≤ i.toInt)) ∨ (r.toInt = 0 ∧ 0 ≤ i.toInt ∧ i.toInt < (vp 5 0).toInt))) 0 0 (fun _ => False) := by
  refine Met.ofW (cc := cX9_isNoMoon) (maxL := 2) (ret := (some .boolean)) (by decide) rfl ?_
  intro p e s m args below meth c s₁ B hml hv
  obtain ⟨rfl, hE, hP⟩ := hv
  have hx := B.exec
  have hb := B.bytes
  have hr := B.returns
  have hts := atoms_spec (ws := wsX9_isNoMoon) B.pre
  have hown : s.vm.findClass RX9 = some m.cls := findClass_of_methodNamed B.named
  have hlocks := B.notSynchronized
  have hK := hE.1
  have in_X9 : ∀ w ∈ u_ws RX9 TX9 13, w ∈ wsX9_isNoMoon := fun w h => List.mem_cons_of_mem _ (List.mem_append_left _ (List.mem_append_left _ (List.mem_append_right _ h)))
  have in_X8 : ∀ w ∈ u_ws RX8 TX8 2, w ∈ wsX9_isNoMoon := fun w h => List.mem_cons_of_mem _ (List.mem_append_left _ (List.mem_append_right _ h))
  have in_X1 : ∀ w ∈ u_ws RX1 TX1 11, w ∈ wsX9_isNoMoon := fun w h => List.mem_cons_of_mem _ (List.mem_append_right _ h)
  have lk0 := hts (.fieldLink RX9 43 "TidedGround" "world" "LTidedGround$World;") (by decide +kernel)
  have lk1 := hts (.fieldLink RX9 91 "TidedGround$World" "plan" "LTidedGround$Plan;") (by decide +kernel)
  have lk2 := hts (.fieldLink RX9 119 "TidedGround$Plan" "moonCount" "I") (by decide +kernel)
  have n_0 : (0 : Int32).toInt = 0 := by decide
  have n_1 : (1 : Int32).toInt = 1 := by decide
  have hl := lv_entry ([.ref (a 99), .int i]) (n := 2) (Nat.le_of_ble_eq_true rfl)
  rw [lg_entry_eq]
  generalize (lg_sl ([.ref (a 99), .int i]) ++ List.replicate (2 - (lg_sl ([.ref (a 99), .int i])).length) Slot.unset).toArray = ls at hl ⊢
  have hl : lv_has ls 2 [(0, .ref (a 99)), (1, .int i)] := hl
  refine W_abs (fun Q hQ => ?_)
  obtain ⟨hg, hmc, hm0, hm1, hm2, hs0, hs1, hs2, hs3⟩ := id hI
  obtain ⟨hg1, hg2, hg3, hg4⟩ := id hg
  have hz0 := hm0.1
  have hz1 := hm1.1
  have hz2 := hm2.1
  have hc0 := hs0.1
  have hc1 := hs1.1
  have hc2 := hs2.1
  have hc3 := hs3.1
  obtain ⟨hj0, hj1, hj2⟩ := id hJ
  obtain ⟨hT1, hT2⟩ := id hT
  refine lv_iload_n hx hb dX9_isNoMoon_0 rfl (lv_at hl 1 rfl) ?_
  refine lv_iconst (v := 0) hx hb dX9_isNoMoon_1 (by decide) ?_
  refine lv_aload_n hx hb dX9_isNoMoon_2 rfl (lv_at hl 0 rfl) ?_
  refine va_get (D := eD E) (ci := 9) (v := .ref (a 5)) (C := RX9) (T := TX9) (N := 13) hx hb hts in_X9 hown hK hP 0 rfl rfl 5 (by decide) lk0 (fun _ h9 => h9) rfl dX9_isNoMoon_3 ?_
  refine va_get (D := eD E) (ci := 8) (v := .ref (ap 0)) (C := RX8) (T := TX8) (N := 2) hx hb hts in_X8 hown hK hP 5 rfl rfl 0 (by decide) lk1 (fun _ h9 => h9) rfl dX9_isNoMoon_6 ?_
  refine va_get (D := eD E) (ci := 1) (v := .int (vp 5 0)) (C := RX1) (T := TX1) (N := 11) hx hb hts in_X1 hown hK hP 6 rfl rfl 5 (by decide) lk2 (fun _ h9 => h9) rfl dX9_isNoMoon_9 ?_
  refine lv_iconst (v := 1) hx hb dX9_isNoMoon_12 (by decide) ?_
  refine lv_isub hx hb dX9_isNoMoon_13 ?_
  refine lv_topi (fun x13 e13 => ?_)
  have t13 := i_sub e13 (by omega)
  refine rd_S (As := [.int i, .int 0, .int x13]) (rest := []) ⟨hx, hb, hml, hown, hts⟩ (c_X9_isOff l E A i 0 x13) (va_cwS 3 hts gX9_isNoMoon_X9_isOff rfl rfl rfl (by decide +kernel) ⟨Nat.le_of_ble_eq_true rfl, Nat.le_of_ble_eq_true rfl⟩) hE (hP.sub (ws' := []) [] rfl) rfl hl.1 rfl (Nat.le_of_ble_eq_true rfl) dX9_isNoMoon_14 ⟨Nat.zero_le _, Nat.zero_le _⟩ (fun r14 h14 => ?_)
  subst hQ
  exact W.zret (v := r14) hx hb hr (nar_b (by omega)) (fun t ht hW => ⟨r14, rfl, (by omega), ht⟩) (fun q h => absurd h List.not_mem_nil) dX9_isNoMoon_17
