def rm_X3_fewestSteps : Room := { frames := 5, cells := 0, slots := 0, locals := 122 }
set_option maxHeartbeats 4000000 in
set_option maxRecDepth 100000 in
theorem c_X3_fewestSteps (l : Launch) (E : Ev) (A : Nat → Prop) (a : Nat → Nat) (v : Vf) (ap : Nat → Nat) (vp : Vf) (as_ : Nat → Nat) (vs : Vf) (x0 : Int32) (y0 : Int32) (step : Int32) (hI : PlanI vp) (hJ : StateI vs) (hstep : 0 ≤ step.toInt ∧ step.toInt ≤ 900000) : Met l yX3_fewestSteps wsX3_fewestSteps rm_X3_fewestSteps (RdP E A [.ref (a 8), .int x0, .int y0, .int step] (rpL E a v ap vp as_ vs)) (vp_Si (fun r => True)) 0 0 (fun _ => False) := by
  refine Met.ofW (cc := cX3_fewestSteps) (maxL := 6) (ret := (some .int)) (by decide) rfl ?_
  intro p e s m args below meth c s₁ B hml hv
  obtain ⟨rfl, hE, hP⟩ := hv
  have hx := B.exec
  have hb := B.bytes
  have hr := B.returns
  have hts := atoms_spec (ws := wsX3_fewestSteps) B.pre
  have hown : s.vm.findClass RX3 = some m.cls := findClass_of_methodNamed B.named
  have hlocks := B.notSynchronized
  have hK := hE.1
  have n_m1 : ((-1) : Int32).toInt = -1 := by decide
  have n_0 : (0 : Int32).toInt = 0 := by decide
  have n_1 : (1 : Int32).toInt = 1 := by decide
  have n_60 : (60 : Int32).toInt = 60 := by decide
  have hl := lv_entry ([.ref (a 8), .int x0, .int y0, .int step]) (n := 6) (Nat.le_of_ble_eq_true rfl)
  rw [lg_entry_eq]
  generalize (lg_sl ([.ref (a 8), .int x0, .int y0, .int step]) ++ List.replicate (6 - (lg_sl ([.ref (a 8), .int x0, .int y0, .int step])).length) Slot.unset).toArray = ls at hl ⊢
  have hl : lv_has ls 6 [(0, .ref (a 8)), (1, .int x0), (2, .int y0), (3, .int step)] := hl
  refine W_abs (fun Q hQ => ?_)
  obtain ⟨hg, hmc, hm0, hm1, hm2, hs0, hs1, hs2, hs3⟩ := id hI
  obtain ⟨hg1, hg2, hg3, hg4⟩ := id hg
  have hz0 := hm0.1
  have hz1 := hm1.1
  have hz2 := hm2.1
  have hc0 := hs0.1
  have hc1 := hs1.1
  have hc2 := hs2.1
  have hc3 := hs3.1
  obtain ⟨hj0, hj1, hj2⟩ := id hJ
  refine lv_iconst (v := 1) hx hb dX3_fewestSteps_0 (by decide) ?_
  refine lv_iload_n hx hb dX3_fewestSteps_1 rfl (lv_at hl 1 rfl) ?_
  refine lv_ishl hx hb dX3_fewestSteps_2 ?_
  refine lv_topi (fun x2 e2 => ?_)
  refine lv_istore (lv' := [(4, .int x2), (0, .ref (a 8)), (1, .int x0), (2, .int y0), (3, .int step)]) hx hb dX3_fewestSteps_3 hl (by decide) rfl (fun ls hl => ?_)
  refine lv_iconst (v := 0) hx hb dX3_fewestSteps_5 (by decide) ?_
  refine lv_istore (lv' := [(5, .int 0), (4, .int x2), (0, .ref (a 8)), (1, .int x0), (2, .int y0), (3, .int step)]) hx hb dX3_fewestSteps_6 hl (by decide) rfl (fun ls hl => ?_)
  have K8 : ∀ (μ : Nat) (rd : Int32) (n : Int32) (ls : Array Slot), (61 - n.toInt).toNat < μ → (0 ≤ n.toInt ∧ n.toInt ≤ 61) → lv_has ls 6 [(0, .ref (a 8)), (1, .int x0), (2, .int y0), (3, .int step), (4, .int rd), (5, .int n)] → W p l e (headSpec wsX3_fewestSteps rm_X3_fewestSteps).room s m ([.ref (a 8), .int x0, .int y0, .int step] : List Value).toArray below meth c s.heap [] 0 0 Q (F0 m 8 ls []) := by
    intro μ
    induction μ with
    | zero =>
      intro rd n ls hμ8
      exact absurd hμ8 (Nat.not_lt_zero _)
    | succ μ ih8 =>
      intro rd n ls hμ8 h8_0 hl
      refine lv_iload hx hb dX3_fewestSteps_8 (lv_at hl 5 rfl) ?_
      refine lv_bipush (v := 60) hx hb dX3_fewestSteps_10 (by decide) ?_
      refine lv_icmp_gt (tgt := 47) hx hb dX3_fewestSteps_12 (by decide) (fun c12 => ?_) (fun c12 => ?_)
      · have c12_ := i_lt c12
        refine lv_iconst (v := (-1)) hx hb dX3_fewestSteps_47 (by decide) ?_
        subst hQ
        exact W.iret (v := (-1)) hx hb hr (fun t ht hW => ⟨(-1), rfl, trivial, ht⟩) (fun q h => absurd h List.not_mem_nil) dX3_fewestSteps_48
      · have c12_ := i_nlt c12
        refine lv_iload hx hb dX3_fewestSteps_15 (lv_at hl 4 rfl) ?_
        refine lv_iload_n hx hb dX3_fewestSteps_17 rfl (lv_at hl 2 rfl) ?_
        refine lv_ishr hx hb dX3_fewestSteps_18 ?_
        refine lv_topi (fun x18 e18 => ?_)
        refine lv_iconst (v := 1) hx hb dX3_fewestSteps_19 (by decide) ?_
        refine lv_iand hx hb dX3_fewestSteps_20 ?_
        refine lv_topi (fun x20 e20 => ?_)
        refine lv_if_eq (tgt := 27) hx hb dX3_fewestSteps_21 (by decide) (fun c21 => ?_) (fun c21 => ?_)
        · have c21_ := i_eq c21
          refine lv_aload_n hx hb dX3_fewestSteps_27 rfl (lv_at hl 0 rfl) ?_
          refine lv_iload hx hb dX3_fewestSteps_28 (lv_at hl 4 rfl) ?_
          refine lv_iload_n hx hb dX3_fewestSteps_30 rfl (lv_at hl 3 rfl) ?_
          refine lv_iload hx hb dX3_fewestSteps_31 (lv_at hl 5 rfl) ?_
          refine lv_iadd hx hb dX3_fewestSteps_33 ?_
          refine lv_topi (fun x33 e33 => ?_)
          have t33 := i_add e33 (by omega)
          refine lv_iconst (v := 1) hx hb dX3_fewestSteps_34 (by decide) ?_
          refine lv_iadd hx hb dX3_fewestSteps_35 ?_
          refine lv_topi (fun x35 e35 => ?_)
          have t35 := i_add e35 (by omega)
          refine rd_V (As := [.int rd, .int x35]) (rest := []) (C := RX3) (ci := 3) ⟨hx, hb, hml, hown, hts⟩ (c_X3_reachedNext l E A a v ap vp as_ vs rd x35 hI hJ (by omega)) (cwV 2 hts gX3_fewestSteps_X3_reachedNext rfl rfl rfl (by decide +kernel) ⟨Nat.le_of_ble_eq_true rfl, Nat.le_of_ble_eq_true rfl⟩) hE (hP.sub (ws' := rpL E a v ap vp as_ vs) [0, 1, 2, 3, 4, 5, 6, 7, 8, 9, 10, 11, 12, 13, 14, 15, 16, 17, 18, 19, 20, 21, 22, 23, 24, 25, 26, 27, 28, 29, 30, 31, 32, 33, 34, 35] rfl) rfl rfl rfl rfl hl.1 rfl (Nat.le_of_ble_eq_true rfl) dX3_fewestSteps_36 ⟨Nat.zero_le _, Nat.zero_le _⟩ (fun r36 h36 => ?_)
          refine lv_istore (lv' := [(4, .int r36), (0, .ref (a 8)), (1, .int x0), (2, .int y0), (3, .int step), (5, .int n)]) hx hb dX3_fewestSteps_39 hl (by decide) rfl (fun ls hl => ?_)
          obtain ⟨x41, e41⟩ : ∃ y : Int32, y = n + 1 := ⟨_, rfl⟩
          refine lv_iinc (v := x41) (lv' := [(5, .int x41), (4, .int r36), (0, .ref (a 8)), (1, .int x0), (2, .int y0), (3, .int step)]) hx hb dX3_fewestSteps_41 hl (k := 5) rfl (by rw [e41]; rfl) (by decide) rfl (fun ls hl => ?_)
          have t41 := i_add e41 (by omega)
          refine lv_goto (tgt := 8) hx hb dX3_fewestSteps_44 (by decide) ?_
          exact ih8 r36 x41 ls (by omega) (by omega) (lv_sub hl [2, 3, 4, 5, 1, 0] rfl)
        · have c21_ := i_ne c21
          refine lv_iload hx hb dX3_fewestSteps_24 (lv_at hl 5 rfl) ?_
          subst hQ
          exact W.iret (v := n) hx hb hr (fun t ht hW => ⟨n, rfl, trivial, ht⟩) (fun q h => absurd h List.not_mem_nil) dX3_fewestSteps_26
  exact K8 _ x2 0 ls (Nat.lt_succ_self _) (by omega) (lv_sub hl [2, 3, 4, 5, 1, 0] rfl)
