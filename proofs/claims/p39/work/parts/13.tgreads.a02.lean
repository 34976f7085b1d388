def rm_X3_wayTaken : Room := { frames := 2, cells := 0, slots := 0, locals := 45 }
set_option maxHeartbeats 4000000 in
set_option maxRecDepth 100000 in
theorem c_X3_wayTaken (l : Launch) (E : Ev) (A : Nat → Prop) (a : Nat → Nat) (v : Vf) (ap : Nat → Nat) (vp : Vf) (as_ : Nat → Nat) (vs : Vf) (x0 : Int32) (y0 : Int32) (n : Int32) (i : Int32) (hI : PlanI vp) (hJ : StateI vs) (hx0 : 0 ≤ x0.toInt ∧ x0.toInt ≤ 23) (hn : 1 ≤ n.toInt ∧ n.toInt ≤ 40) : Met l yX3_wayTaken wsX3_wayTaken rm_X3_wayTaken (RdP E A [.ref (a 8), .int x0, .int y0, .int n, .int i] (rpL E a v ap vp as_ vs)) (vp_Si (fun r => True)) 0 0 (fun _ => False) := by
  refine Met.ofW (cc := cX3_wayTaken) (maxL := 8) (ret := (some .int)) (by decide) rfl ?_
  intro p e s m args below meth c s₁ B hml hv
  obtain ⟨rfl, hE, hP⟩ := hv
  have hx := B.exec
  have hb := B.bytes
  have hr := B.returns
  have hts := atoms_spec (ws := wsX3_wayTaken) B.pre
  have hown : s.vm.findClass RX3 = some m.cls := findClass_of_methodNamed B.named
  have hlocks := B.notSynchronized
  have hK := hE.1
  have in_X3 : ∀ w ∈ u_ws RX3 TX3 4, w ∈ wsX3_wayTaken := fun w h => List.mem_cons_of_mem _ (List.mem_append_left _ (List.mem_append_left _ (List.mem_append_right _ h)))
  have in_X8 : ∀ w ∈ u_ws RX8 TX8 2, w ∈ wsX3_wayTaken := fun w h => List.mem_cons_of_mem _ (List.mem_append_left _ (List.mem_append_right _ h))
  have lk0 := hts (.fieldLink RX3 18 "TidedGround$Routes" "choice" "[I") (by decide +kernel)
  have lk1 := hts (.fieldLink RX3 21 "TidedGround$Routes" "world" "LTidedGround$World;") (by decide +kernel)
  have lk2 := hts (.fieldLink RX3 29 "TidedGround$World" "plan" "LTidedGround$Plan;") (by decide +kernel)
  have n_m1 : ((-1) : Int32).toInt = -1 := by decide
  have n_0 : (0 : Int32).toInt = 0 := by decide
  have n_1 : (1 : Int32).toInt = 1 := by decide
  have n_24 : (24 : Int32).toInt = 24 := by decide
  have hl := lv_entry ([.ref (a 8), .int x0, .int y0, .int n, .int i]) (n := 8) (Nat.le_of_ble_eq_true rfl)
  rw [lg_entry_eq]
  generalize (lg_sl ([.ref (a 8), .int x0, .int y0, .int n, .int i]) ++ List.replicate (8 - (lg_sl ([.ref (a 8), .int x0, .int y0, .int n, .int i])).length) Slot.unset).toArray = ls at hl ⊢
  have hl : lv_has ls 8 [(0, .ref (a 8)), (1, .int x0), (2, .int y0), (3, .int n), (4, .int i)] := hl
  refine W_abs (fun Q hQ => ?_)
  obtain ⟨hg, hmc, hm0, hm1, hm2, hs0, hs1, hs2, hs3⟩ := id hI
  obtain ⟨hg1, hg2, hg3, hg4⟩ := id hg
  have hz0 := hm0.1
  have hz1 := hm1.1
  have hz2 := hm2.1
  have hc0 := hs0.1
  have hc1 := hs1.1
  have hc2 := hs2.1
  have hc3 := hs3.1
  obtain ⟨hj0, hj1, hj2⟩ := id hJ
  refine lv_iload_n hx hb dX3_wayTaken_0 rfl (lv_at hl 1 rfl) ?_
  refine lv_istore (lv' := [(5, .int x0), (0, .ref (a 8)), (1, .int x0), (2, .int y0), (3, .int n), (4, .int i)]) hx hb dX3_wayTaken_1 hl (by decide) rfl (fun ls hl => ?_)
  refine lv_iconst (v := 0) hx hb dX3_wayTaken_3 (by decide) ?_
  refine lv_istore (lv' := [(6, .int 0), (5, .int x0), (0, .ref (a 8)), (1, .int x0), (2, .int y0), (3, .int n), (4, .int i)]) hx hb dX3_wayTaken_4 hl (by decide) rfl (fun ls hl => ?_)
  have K6 : ∀ (μ : Nat) (k : Int32) (j : Int32) (ls : Array Slot), (40 - j.toInt).toNat < μ → (k.toInt = -1 ∨ (0 ≤ k.toInt ∧ k.toInt ≤ 23)) → (0 ≤ j.toInt ∧ j.toInt ≤ 40) → lv_has ls 8 [(0, .ref (a 8)), (1, .int x0), (2, .int y0), (3, .int n), (4, .int i), (5, .int k), (6, .int j)] → W p l e (headSpec wsX3_wayTaken rm_X3_wayTaken).room s m ([.ref (a 8), .int x0, .int y0, .int n, .int i] : List Value).toArray below meth c s.heap [] 0 0 Q (F0 m 6 ls []) := by
    intro μ
    induction μ with
    | zero =>
      intro k j ls hμ6
      exact absurd hμ6 (Nat.not_lt_zero _)
    | succ μ ih6 =>
      intro k j ls hμ6 h6_0 h6_1 hl
      refine lv_iload hx hb dX3_wayTaken_6 (lv_at hl 6 rfl) ?_
      refine lv_iload_n hx hb dX3_wayTaken_8 rfl (lv_at hl 3 rfl) ?_
      refine lv_icmp_ge (tgt := 71) hx hb dX3_wayTaken_9 (by decide) (fun c9 => ?_) (fun c9 => ?_)
      · have c9_ := i_le c9
        refine lv_iconst (v := (-1)) hx hb dX3_wayTaken_71 (by decide) ?_
        subst hQ
        exact W.iret (v := (-1)) hx hb hr (fun t ht hW => ⟨(-1), rfl, trivial, ht⟩) (fun q h => absurd h List.not_mem_nil) dX3_wayTaken_72
      · have c9_ := i_nle c9
        refine lv_iload hx hb dX3_wayTaken_12 (lv_at hl 5 rfl) ?_
        refine lv_iload_n hx hb dX3_wayTaken_14 rfl (lv_at hl 2 rfl) ?_
        refine lv_icmp_eq (tgt := 71) hx hb dX3_wayTaken_15 (by decide) (fun c15 => ?_) (fun c15 => ?_)
        · have c15_ := i_eq c15
          refine lv_iconst (v := (-1)) hx hb dX3_wayTaken_71 (by decide) ?_
          subst hQ
          exact W.iret (v := (-1)) hx hb hr (fun t ht hW => ⟨(-1), rfl, trivial, ht⟩) (fun q h => absurd h List.not_mem_nil) dX3_wayTaken_72
        · have c15_ := i_ne c15
          refine lv_iload hx hb dX3_wayTaken_18 (lv_at hl 5 rfl) ?_
          refine lv_iconst (v := (-1)) hx hb dX3_wayTaken_20 (by decide) ?_
          refine lv_icmp_eq (tgt := 71) hx hb dX3_wayTaken_21 (by decide) (fun c21 => ?_) (fun c21 => ?_)
          · have c21_ := i_eq c21
            refine lv_iconst (v := (-1)) hx hb dX3_wayTaken_71 (by decide) ?_
            subst hQ
            exact W.iret (v := (-1)) hx hb hr (fun t ht hW => ⟨(-1), rfl, trivial, ht⟩) (fun q h => absurd h List.not_mem_nil) dX3_wayTaken_72
          · have c21_ := i_ne c21
            refine lv_aload_n hx hb dX3_wayTaken_24 rfl (lv_at hl 0 rfl) ?_
            refine va_get (D := eD E) (ci := 3) (v := .ref (a 203)) (C := RX3) (T := TX3) (N := 4) hx hb hts in_X3 hown hK hP 0 rfl rfl 3 (by decide) lk0 (fun _ h9 => h9) rfl dX3_wayTaken_25 ?_
            refine lv_iload hx hb dX3_wayTaken_28 (lv_at hl 6 rfl) ?_
            refine lv_bipush (v := 24) hx hb dX3_wayTaken_30 (by decide) ?_
            refine lv_imul hx hb dX3_wayTaken_32 ?_
            refine lv_topi (fun x32 e32 => ?_)
            have t32 := i_mul e32 (by rw [n_24]; omega)
            rw [n_24] at t32
            refine lv_iload hx hb dX3_wayTaken_33 (lv_at hl 5 rfl) ?_
            refine lv_iadd hx hb dX3_wayTaken_35 ?_
            refine lv_topi (fun x35 e35 => ?_)
            have t35 := i_add e35 (by omega)
            refine va_iald hx hb hK hP 1 0 rfl rfl (n := 960) (f := (v 203)) (i_in (by omega) (by omega)) dX3_wayTaken_36 ?_
            refine lv_topi (fun x36 e36 => ?_)
            refine lv_istore (lv' := [(7, .int x36), (0, .ref (a 8)), (1, .int x0), (2, .int y0), (3, .int n), (4, .int i), (5, .int k), (6, .int j)]) hx hb dX3_wayTaken_37 hl (by decide) rfl (fun ls hl => ?_)
            refine lv_iload hx hb dX3_wayTaken_39 (lv_at hl 7 rfl) ?_
            refine lv_iload hx hb dX3_wayTaken_41 (lv_at hl 5 rfl) ?_
            refine lv_icmp_ne (tgt := 49) hx hb dX3_wayTaken_43 (by decide) (fun c43 => ?_) (fun c43 => ?_)
            · have c43_ := i_ne c43
              refine lv_aload_n hx hb dX3_wayTaken_49 rfl (lv_at hl 1 rfl) ?_
              refine va_get (D := eD E) (ci := 3) (v := .ref (a 5)) (C := RX3) (T := TX3) (N := 4) hx hb hts in_X3 hown hK hP 0 rfl rfl 0 (by decide) lk1 (fun _ h9 => h9) rfl dX3_wayTaken_50 ?_
              refine va_get (D := eD E) (ci := 8) (v := .ref (ap 0)) (C := RX8) (T := TX8) (N := 2) hx hb hts in_X8 hown hK hP 2 rfl rfl 0 (by decide) lk2 (fun _ h9 => h9) rfl dX3_wayTaken_53 ?_
              refine lv_iload hx hb dX3_wayTaken_56 (lv_at hl 6 rfl) ?_
              refine lv_iload hx hb dX3_wayTaken_58 (lv_at hl 0 rfl) ?_
              refine rd_V (As := [.int k, .int x36]) (rest := []) (C := RX1) (ci := 1) ⟨hx, hb, hml, hown, hts⟩ (c_X1_beside l E A ap vp k x36 hI (by omega)) (cwV 2 hts gX3_wayTaken_X1_beside rfl rfl rfl (by decide +kernel) ⟨Nat.le_of_ble_eq_true rfl, Nat.le_of_ble_eq_true rfl⟩) hE (hP.sub (ws' := planL E ap vp) [3, 4, 5, 6, 7, 8, 9, 10, 11, 12, 13, 14, 15, 16, 17, 18, 19, 20, 21, 22, 23, 24, 25, 26, 27, 28, 29, 30, 31] rfl) rfl rfl rfl rfl hl.1 rfl (Nat.le_of_ble_eq_true rfl) dX3_wayTaken_60 ⟨Nat.zero_le _, Nat.zero_le _⟩ (fun r60 h60 => ?_)
              have hf60 := h60.2
              replace h60 := h60.1
              refine lv_istore (lv' := [(5, .int r60), (7, .int x36), (0, .ref (a 8)), (1, .int x0), (2, .int y0), (3, .int n), (4, .int i), (6, .int j)]) hx hb dX3_wayTaken_63 hl (by decide) rfl (fun ls hl => ?_)
              obtain ⟨x65, e65⟩ : ∃ y : Int32, y = j + 1 := ⟨_, rfl⟩
              refine lv_iinc (v := x65) (lv' := [(6, .int x65), (5, .int r60), (7, .int x36), (0, .ref (a 8)), (1, .int x0), (2, .int y0), (3, .int n), (4, .int i)]) hx hb dX3_wayTaken_65 hl (k := 7) rfl (by rw [e65]; rfl) (by decide) rfl (fun ls hl => ?_)
              have t65 := i_add e65 (by omega)
              refine lv_goto (tgt := 6) hx hb dX3_wayTaken_68 (by decide) ?_
              exact ih6 r60 x65 ls (by omega) (by omega) (by omega) (lv_sub hl [3, 4, 5, 6, 7, 1, 0] rfl)
            · have c43_ := i_eq c43
              refine lv_iload hx hb dX3_wayTaken_46 (lv_at hl 0 rfl) ?_
              subst hQ
              exact W.iret (v := x36) hx hb hr (fun t ht hW => ⟨x36, rfl, trivial, ht⟩) (fun q h => absurd h List.not_mem_nil) dX3_wayTaken_48
  exact K6 _ x0 0 ls (Nat.lt_succ_self _) (by omega) (by omega) (lv_sub hl [2, 3, 4, 5, 6, 1, 0] rfl)
