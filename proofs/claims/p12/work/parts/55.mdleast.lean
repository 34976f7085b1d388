def rm_X10_ofPair_2 : Room := { frames := 2, cells := 0, slots := 0, locals := 47 }
set_option maxHeartbeats 4000000 in
set_option maxRecDepth 100000 in
theorem c_X10_ofPair_2 (l : Launch) (E : Ev) (A : Nat → Prop) (am : Nat → Nat) (vm : Vf) (x : Int32) (hH : MdH vm) : Met l yX10_ofPair wsX10_ofPair rm_X10_ofPair_2 (RdP E A [.ref (am 0), .int x] (mdL E am vm)) (vp_Si (fun r => (r.toInt = -1 ∨ ((0 ≤ r.toInt ∧ r.toInt ≤ 23 ∧ r.toInt < (vm 0 0).toInt * (vm 1 0).toInt) ∧ 1 ≤ (vm 0 0).toInt)) ∧ (r = mOP vm x))) 0 0 (fun _ => False) := by
  refine Met.ofW (cc := cX10_ofPair) (maxL := 2) (ret := (some .int)) (by decide) rfl ?_
  intro p e s m args below meth c s₁ B hml hv
  obtain ⟨rfl, hE, hP⟩ := hv
  have hx := B.exec
  have hb := B.bytes
  have hr := B.returns
  have hts := atoms_spec (ws := wsX10_ofPair) B.pre
  have hown : s.vm.findClass RX10 = some m.cls := findClass_of_methodNamed B.named
  have hlocks := B.notSynchronized
  have hK := hE.1
  have in_X10 : ∀ w ∈ u_ws RX10 TX10 79, w ∈ wsX10_ofPair := fun w h => List.mem_cons_of_mem _ (List.mem_append_right _ h)
  have lk0 := hts (.fieldLink RX10 159 "TidedGroundModel" "wide" "I") (List.mem_of_getElem? (i := 1) rfl)
  have n_m1 : ((-1) : Int32).toInt = -1 := by decide
  have n_0 : (0 : Int32).toInt = 0 := by decide
  have n_10 : (10 : Int32).toInt = 10 := by decide
  have hl := lv_entry ([.ref (am 0), .int x]) (n := 2) (Nat.le_of_ble_eq_true rfl)
  rw [lg_entry_eq]
  generalize (lg_sl ([.ref (am 0), .int x]) ++ List.replicate (2 - (lg_sl ([.ref (am 0), .int x])).length) Slot.unset).toArray = ls at hl ⊢
  have hl : lv_has ls 2 [(0, .ref (am 0)), (1, .int x)] := hl
  refine W_abs (fun Q hQ => ?_)
  obtain ⟨hmG, hmC, hmZ, hmM, hmA, hmS, hmT⟩ := id hH
  obtain ⟨hG1, hG2, hG3⟩ := id hmG
  obtain ⟨hC1, hC2, hC3, hC4, hC5, hC6⟩ := id hmC
  obtain ⟨hM1, hM2, hM3, hM4⟩ := id hmM
  obtain ⟨hA1, hA2, hA3, hA4, hA5⟩ := id hmA
  obtain ⟨hS1, hS2, hS3, hS4, hS5, hS6⟩ := id hmS
  obtain ⟨hT1, hT2, hT3, hT4, hT5⟩ := id hmT
  refine lv_iload_n hx hb dX10_ofPair_0 rfl (lv_at hl 1 rfl) ?_
  refine lv_if_lt (tgt := 36) hx hb dX10_ofPair_1 (by decide) (fun c1 => ?_) (fun c1 => ?_)
  · have c1_ := i_lt c1
    have hng1 : x.toInt < 0 := by omega
    refine lv_iconst (v := (-1)) hx hb dX10_ofPair_36 (by decide) ?_
    subst hQ
    exact W.iret (v := (-1)) hx hb hr (fun t ht hW => ⟨(-1), rfl, ⟨(by omega), (by first | exact op_neg hng1 n_m1 | exact op_eq hmG hps1 e8 e12 (Or.inl ⟨n_m1, hno16⟩) | exact op_eq hmG hps1 e8 e12 (Or.inr ⟨by rw [← h26t]; omega, hye16⟩))⟩, ht⟩) (fun q h => absurd h List.not_mem_nil) dX10_ofPair_37
  · have c1_ := i_nlt c1
    have hps1 : 0 ≤ x.toInt := by omega
    have rgx := i_rng x
    refine lv_aload_n hx hb dX10_ofPair_4 rfl (lv_at hl 0 rfl) ?_
    refine lv_iload_n hx hb dX10_ofPair_5 rfl (lv_at hl 1 rfl) ?_
    refine lv_bipush (v := 10) hx hb dX10_ofPair_6 (by decide) ?_
    refine lv_idiv hx hb dX10_ofPair_8 (by decide) ?_
    refine lv_topi (fun x8 e8 => ?_)
    have t8 := i_div e8 (by omega) (by omega)
    rw [n_10] at t8
    refine lv_iload_n hx hb dX10_ofPair_9 rfl (lv_at hl 1 rfl) ?_
    refine lv_bipush (v := 10) hx hb dX10_ofPair_10 (by decide) ?_
    refine lv_irem hx hb dX10_ofPair_12 (by decide) ?_
    refine lv_topi (fun x12 e12 => ?_)
    have t12 := i_rem e12 (by omega) (by omega)
    rw [n_10] at t12
    refine rd_V (As := [.int x8, .int x12]) (rest := []) (C := RX10) (ci := 10) ⟨hx, hb, hml, hown, hts⟩ (c_X10_isCell l E A am vm x8 x12 hH) (cwV 2 hts gX10_ofPair_X10_isCell rfl rfl rfl (by decide +kernel) ⟨Nat.le_of_ble_eq_true rfl, Nat.le_of_ble_eq_true rfl⟩) hE (hP.sub (ws' := mdL E am vm) [0, 1, 2, 3, 4, 5, 6, 7, 8, 9, 10, 11, 12, 13, 14, 15, 16, 17, 18, 19, 20, 21, 22, 23, 24, 25, 26, 27, 28, 29, 30, 31, 32, 33, 34, 35, 36, 37, 38, 39, 40, 41, 42, 43, 44, 45] rfl) rfl rfl rfl rfl hl.1 rfl (Nat.le_of_ble_eq_true rfl) dX10_ofPair_13 ⟨Nat.zero_le _, Nat.zero_le _⟩ (fun r13 h13 => ?_)
    refine lv_if_eq (tgt := 36) hx hb dX10_ofPair_16 (by decide) (fun c16 => ?_) (fun c16 => ?_)
    · have c16_ := i_eq c16
      replace h13 := or_n h13 c16_
      have hno16 : x8.toInt < 0 ∨ (vm 0 0).toInt ≤ x8.toInt ∨ x12.toInt < 0 ∨ (vm 1 0).toInt ≤ x12.toInt := by omega
      refine lv_iconst (v := (-1)) hx hb dX10_ofPair_36 (by decide) ?_
      subst hQ
      exact W.iret (v := (-1)) hx hb hr (fun t ht hW => ⟨(-1), rfl, ⟨(by omega), (by first | exact op_neg hng1 n_m1 | exact op_eq hmG hps1 e8 e12 (Or.inl ⟨n_m1, hno16⟩) | exact op_eq hmG hps1 e8 e12 (Or.inr ⟨by rw [← h26t]; omega, hye16⟩))⟩, ht⟩) (fun q h => absurd h List.not_mem_nil) dX10_ofPair_37
    · have c16_ := i_ne c16
      replace h13 := or_y h13 c16_
      clear c16_
      have hye16 : (0 ≤ x8.toInt ∧ x8.toInt < (vm 0 0).toInt) ∧ 0 ≤ x12.toInt ∧ x12.toInt < (vm 1 0).toInt := by omega
      have sv19_x8 : 0 ≤ x8.toInt ∧ x8.toInt ≤ 5 := by omega
      have sv19_x12 : 0 ≤ x12.toInt ∧ x12.toInt ≤ 5 := by omega
      refine lv_aload_n hx hb dX10_ofPair_19 rfl (lv_at hl 0 rfl) ?_
      refine va_get (D := eD E) (ci := 10) (v := .int (vm 0 0)) (C := RX10) (T := TX10) (N := 79) hx hb hts in_X10 hown hK hP 0 rfl rfl 0 (by decide) lk0 (fun _ h9 => h9) rfl dX10_ofPair_20 ?_
      refine lv_iload_n hx hb dX10_ofPair_23 rfl (lv_at hl 1 rfl) ?_
      refine lv_bipush (v := 10) hx hb dX10_ofPair_24 (by decide) ?_
      refine lv_irem hx hb dX10_ofPair_26 (by decide) ?_
      refine lv_topi (fun x26 e26 => ?_)
      have t26 := i_rem e26 (by omega) (by omega)
      rw [n_10] at t26
      have h26 : x26 = x12 := by rw [e26, e12]
      have h26t : x26.toInt = x12.toInt := by rw [h26]
      refine lv_imul hx hb dX10_ofPair_27 ?_
      refine lv_topi (fun x27 e27 => ?_)
      have qm27 := mcell_lt hG1 hG3 (x := x8) (y := x26) (by omega) (by omega) (by omega) (by omega)
      have t27 := i_mul e27 (by omega)
      refine lv_iload_n hx hb dX10_ofPair_28 rfl (lv_at hl 1 rfl) ?_
      refine lv_bipush (v := 10) hx hb dX10_ofPair_29 (by decide) ?_
      refine lv_idiv hx hb dX10_ofPair_31 (by decide) ?_
      refine lv_topi (fun x31 e31 => ?_)
      have t31 := i_div e31 (by omega) (by omega)
      rw [n_10] at t31
      have h31 : x31 = x8 := by rw [e31, e8]
      have h31t : x31.toInt = x8.toInt := by rw [h31]
      refine lv_iadd hx hb dX10_ofPair_32 ?_
      refine lv_topi (fun x32 e32 => ?_)
      have t32 := i_add e32 (by omega)
      refine lv_goto (tgt := 37) hx hb dX10_ofPair_33 (by decide) ?_
      subst hQ
      exact W.iret (v := x32) hx hb hr (fun t ht hW => ⟨x32, rfl, ⟨(by omega), (by first | exact op_neg hng1 n_m1 | exact op_eq hmG hps1 e8 e12 (Or.inl ⟨n_m1, hno16⟩) | exact op_eq hmG hps1 e8 e12 (Or.inr ⟨by rw [← h26t]; omega, hye16⟩))⟩, ht⟩) (fun q h => absurd h List.not_mem_nil) dX10_ofPair_37
def rm_X10_findRest : Room := { frames := 6, cells := 0, slots := 0, locals := 147 }
set_option maxHeartbeats 4000000 in
set_option maxRecDepth 100000 in
theorem c_X10_findRest (l : Launch) (E : Ev) (sz : Nat) (am : Nat → Nat) (vm : Vf) (b : Int32) (step : Int32) (n : Int32) (hMI : MdI vm) (hw : 1 ≤ (vm 0 0).toInt) (hb : 0 ≤ b.toInt ∧ b.toInt ≤ 23) (hstep : 0 ≤ step.toInt ∧ step.toInt ≤ 900000) (hn : 1 ≤ n.toInt ∧ n.toInt ≤ 40) : Met l yX10_findRest wsX10_findRest rm_X10_findRest (MtP E sz [.ref (am 0), .int b, .int step, .int n] (mdL E am vm)) (va_Qv (fun (u : Vf) => (MdI u ∧ (∀ t, t ≠ 63 → u t = vm t) ∧ (∀ k2 c2 : Int32, 0 ≤ k2.toInt → k2.toInt ≤ n.toInt → 0 ≤ c2.toInt ∧ c2.toInt < (u 0 0).toInt * (u 1 0).toInt → rsG u b step n k2 c2)) ∧ fr [63] vm u) (MtB E (va_A (mdL E am vm) sz) (fun u => mdL E am u)) (va_A (mdL E am vm) sz)) 0 0 (va_A (mdL E am vm) sz) := by
  refine Met.ofW (cc := cX10_findRest) (maxL := 9) (ret := none) (by decide) rfl ?_
  intro p e s m args below meth c s₁ B hml hv
  obtain ⟨rfl, hsz, hE, hP, hD0⟩ := hv
  subst hsz
  have hD := hD0.self (sz := s.heap.size)
  generalize hAe : va_A (mdL E am vm) s.heap.size = A at hD hE ⊢
  have hA : ∀ q : Nat, s.heap.size ≤ q → A q := fun q h => by rw [← hAe]; exact Or.inr h
  have hS : va_S A s.heap s.heap [] := va_S.rf
  have hx := B.exec
  have hb := B.bytes
  have hr := B.returns
  have hts := atoms_spec (ws := wsX10_findRest) B.pre
  have hown : s.vm.findClass RX10 = some m.cls := findClass_of_methodNamed B.named
  have hlocks := B.notSynchronized
  have hK := hE.1
  have in_X10 : ∀ w ∈ u_ws RX10 TX10 79, w ∈ wsX10_findRest := fun w h => List.mem_cons_of_mem _ (List.mem_append_right _ h)
  have lk0 := hts (.fieldLink RX10 128 "TidedGroundModel" "rest" "[I") (List.mem_of_getElem? (i := 2) rfl)
  have lk1 := hts (.constant RX10 392 1000000000) (List.mem_of_getElem? (i := 1) rfl)
  have n_m1 : ((-1) : Int32).toInt = -1 := by decide
  have n_0 : (0 : Int32).toInt = 0 := by decide
  have n_1 : (1 : Int32).toInt = 1 := by decide
  have n_5 : (5 : Int32).toInt = 5 := by decide
  have n_24 : (24 : Int32).toInt = 24 := by decide
  have n_1000000000 : (1000000000 : Int32).toInt = 1000000000 := by decide
  have hl := lv_entry ([.ref (am 0), .int b, .int step, .int n]) (n := 9) (Nat.le_of_ble_eq_true rfl)
  rw [lg_entry_eq]
  generalize (lg_sl ([.ref (am 0), .int b, .int step, .int n]) ++ List.replicate (9 - (lg_sl ([.ref (am 0), .int b, .int step, .int n])).length) Slot.unset).toArray = ls at hl ⊢
  have hl : lv_has ls 9 [(0, .ref (am 0)), (1, .int b), (2, .int step), (3, .int n)] := hl
  refine W_abs (fun Q hQ => ?_)
  have hH := hMI.1
  have hFz : fr [63] vm vm := fr.rf
  refine lv_iload_n hx hb dX10_findRest_0 rfl (lv_at hl 3 rfl) ?_
  refine lv_istore (lv' := [(4, .int n), (0, .ref (am 0)), (1, .int b), (2, .int step), (3, .int n)]) hx hb dX10_findRest_1 hl (by decide) rfl (fun ls hl => ?_)
  have K3 : ∀ (μ : Nat) (k : Int32) (vk : Vf) (H : Heap) (locs : List Loc) (ls : Array Slot), (k.toInt + 1).toNat < μ → va_P (eD E) vwCl (mdL E am vk) H → va_D A (mdL E am vk) → va_S A s.heap H locs → (-1 ≤ k.toInt ∧ k.toInt ≤ n.toInt) → (∀ t, t ≠ 63 → vk t = vm t) → (∀ k2 c2 : Int32, k.toInt < k2.toInt → k2.toInt ≤ n.toInt → 0 ≤ c2.toInt ∧ c2.toInt < (vk 0 0).toInt * (vk 1 0).toInt → rsG vk b step n k2 c2) → (fr [63] vm vk) → lv_has ls 9 [(0, .ref (am 0)), (1, .int b), (2, .int step), (3, .int n), (4, .int k)] → W p l e (headSpec wsX10_findRest rm_X10_findRest).room s m ([.ref (am 0), .int b, .int step, .int n] : List Value).toArray below meth c H locs 0 0 Q (F0 m 3 ls []) := by
    intro μ
    induction μ with
    | zero =>
      intro k vk H locs ls hμ3
      exact absurd hμ3 (Nat.not_lt_zero _)
    | succ μ ih3 =>
      intro k vk H locs ls hμ3 hP hD hS h3_0 h3_1 h3_2 h3_3 hl
      have hFz := h3_3
      refine lv_iload hx hb dX10_findRest_3 (lv_at hl 4 rfl) ?_
      refine lv_if_lt (tgt := 118) hx hb dX10_findRest_5 (by decide) (fun c5 => ?_) (fun c5 => ?_)
      · have c5_ := i_lt c5
        subst hQ
        exact W.vret hx hb hr (fun t ht hW => ⟨⟨(vk), rfl, (show (MdI vk ∧ (∀ t, t ≠ 63 → vk t = vm t) ∧ (∀ k2 c2 : Int32, 0 ≤ k2.toInt → k2.toInt ≤ n.toInt → 0 ≤ c2.toInt ∧ c2.toInt < (vk 0 0).toInt * (vk 1 0).toInt → rsG vk b step n k2 c2)) ∧ fr [63] vm vk from ⟨⟨hMI.n63 h3_1, h3_1, (fun k2 c2 a0 a2 a3 => h3_2 k2 c2 (by omega) a2 a3)⟩, hFz⟩), by rw [ht]; exact hP, hD⟩, hS.F ht⟩) hS.2.2 dX10_findRest_118
      · have c5_ := i_nlt c5
        refine lv_iconst (v := 0) hx hb dX10_findRest_8 (by decide) ?_
        refine lv_istore (lv' := [(5, .int 0), (0, .ref (am 0)), (1, .int b), (2, .int step), (3, .int n), (4, .int k)]) hx hb dX10_findRest_9 hl (by decide) rfl (fun ls hl => ?_)
        have K11 : ∀ (μ : Nat) (cl : Int32) (vc : Vf) (H : Heap) (locs : List Loc) (ls : Array Slot), (24 - cl.toInt).toNat < μ → va_P (eD E) vwCl (mdL E am vc) H → va_D A (mdL E am vc) → va_S A s.heap H locs → (0 ≤ cl.toInt ∧ cl.toInt ≤ 24) → (∀ t, t ≠ 63 → vc t = vm t) → (∀ k2 c2 : Int32, (k.toInt < k2.toInt ∨ (k2.toInt = k.toInt ∧ c2.toInt < cl.toInt)) → k2.toInt ≤ n.toInt → 0 ≤ c2.toInt ∧ c2.toInt < (vc 0 0).toInt * (vc 1 0).toInt → rsG vc b step n k2 c2) → (fr [63] vm vc) → lv_has ls 9 [(0, .ref (am 0)), (1, .int b), (2, .int step), (3, .int n), (4, .int k), (5, .int cl)] → W p l e (headSpec wsX10_findRest rm_X10_findRest).room s m ([.ref (am 0), .int b, .int step, .int n] : List Value).toArray below meth c H locs 0 0 Q (F0 m 11 ls []) := by
          intro μ
          induction μ with
          | zero =>
            intro cl vc H locs ls hμ11
            exact absurd hμ11 (Nat.not_lt_zero _)
          | succ μ ih11 =>
            intro cl vc H locs ls hμ11 hP hD hS h11_0 h11_1 h11_2 h11_3 hl
            have hfr : ∀ t, t ≠ 63 → vc t = vm t := h11_1
            have hMIk : MdI vc := hMI.n63 hfr
            have hH := hMIk.1
            have hcs : (vc 0 0).toInt * (vc 1 0).toInt ≤ 24 := hH.1.2.2
            have hwk : 1 ≤ (vc 0 0).toInt := by rw [hfr 0 (by decide)]; exact hw
            have hFz := h11_3
            refine lv_iload hx hb dX10_findRest_11 (lv_at hl 5 rfl) ?_
            refine lv_aload_n hx hb dX10_findRest_13 rfl (lv_at hl 0 rfl) ?_
            refine rd_V (As := []) (rest := [.int cl]) (C := RX10) (ci := 10) ⟨hx, hb, hml, hown, hts⟩ (c_X10_cells l E A am vc hH) (cwV 0 hts gX10_findRest_X10_cells rfl rfl rfl (by decide +kernel) ⟨Nat.le_of_ble_eq_true rfl, Nat.le_of_ble_eq_true rfl⟩) (hE.kept hS.2.1) (hP.sub (ws' := mdL E am vc) [0, 1, 2, 3, 4, 5, 6, 7, 8, 9, 10, 11, 12, 13, 14, 15, 16, 17, 18, 19, 20, 21, 22, 23, 24, 25, 26, 27, 28, 29, 30, 31, 32, 33, 34, 35, 36, 37, 38, 39, 40, 41, 42, 43, 44, 45] rfl) rfl rfl rfl rfl hl.1 rfl (Nat.le_of_ble_eq_true rfl) dX10_findRest_14 ⟨Nat.zero_le _, Nat.zero_le _⟩ (fun r14 h14 => ?_)
            refine lv_icmp_ge (tgt := 112) hx hb dX10_findRest_17 (by decide) (fun c17 => ?_) (fun c17 => ?_)
            · have c17_ := i_le c17
              obtain ⟨x112, e112⟩ : ∃ y : Int32, y = k + (-1) := ⟨_, rfl⟩
              refine lv_iinc (v := x112) (lv' := [(4, .int x112), (0, .ref (am 0)), (1, .int b), (2, .int step), (3, .int n), (5, .int cl)]) hx hb dX10_findRest_112 hl (k := 4) rfl (by rw [e112]; rfl) (by decide) rfl (fun ls hl => ?_)
              have t112 := i_add e112 (by omega)
              have t112 := i_add e112 (by omega)
              have hgk : ∀ k2 c2 : Int32, x112.toInt < k2.toInt → k2.toInt ≤ n.toInt → 0 ≤ c2.toInt ∧ c2.toInt < (vc 0 0).toInt * (vc 1 0).toInt → rsG vc b step n k2 c2 := fun k2 c2 a1 a2 a3 => h11_2 k2 c2 (by rw [← h14.1] at a3; omega) a2 a3
              refine lv_goto (tgt := 3) hx hb dX10_findRest_115 (by decide) ?_
              exact ih3 x112 vc _ _ ls (by omega) hP hD hS (by omega) hfr hgk hFz (lv_sub hl [1, 2, 3, 4, 0] rfl)
            · have c17_ := i_nle c17
              have hcc : cl.toInt < (vc 0 0).toInt * (vc 1 0).toInt := by omega
              refine lv_iload hx hb dX10_findRest_20 (lv_at hl 5 rfl) ?_
              refine lv_iload_n hx hb dX10_findRest_22 rfl (lv_at hl 1 rfl) ?_
              have K33 : ∀  (l0 : Int32) (H : Heap) (locs : List Loc) (ls : Array Slot), va_P (eD E) vwCl (mdL E am vc) H → va_D A (mdL E am vc) → va_S A s.heap H locs → (prX vc b step n k cl l0) → lv_has ls 9 [(0, .ref (am 0)), (1, .int b), (2, .int step), (3, .int n), (4, .int k), (5, .int cl)] → W p l e (headSpec wsX10_findRest rm_X10_findRest).room s m ([.ref (am 0), .int b, .int step, .int n] : List Value).toArray below meth c H locs 0 0 Q (F0 m 33 ls [.int l0]) := by
                intro l0 H locs ls hP hD hS h33_0 hl
                refine lv_istore (lv' := [(6, .int l0), (0, .ref (am 0)), (1, .int b), (2, .int step), (3, .int n), (4, .int k), (5, .int cl)]) hx hb dX10_findRest_33 hl (by decide) rfl (fun ls hl => ?_)
                refine lv_iconst (v := 0) hx hb dX10_findRest_35 (by decide) ?_
                refine lv_istore (lv' := [(7, .int 0), (6, .int l0), (0, .ref (am 0)), (1, .int b), (2, .int step), (3, .int n), (4, .int k), (5, .int cl)]) hx hb dX10_findRest_36 hl (by decide) rfl (fun ls hl => ?_)
                have K38 : ∀ (μ : Nat) (lst : Int32) (way : Int32) (H : Heap) (locs : List Loc) (ls : Array Slot), (5 - way.toInt).toNat < μ → va_P (eD E) vwCl (mdL E am vc) H → va_D A (mdL E am vc) → va_S A s.heap H locs → (0 ≤ way.toInt ∧ way.toInt ≤ 5) → (prX vc b step n k cl lst) → lv_has ls 9 [(0, .ref (am 0)), (1, .int b), (2, .int step), (3, .int n), (4, .int k), (5, .int cl), (6, .int lst), (7, .int way)] → W p l e (headSpec wsX10_findRest rm_X10_findRest).room s m ([.ref (am 0), .int b, .int step, .int n] : List Value).toArray below meth c H locs 0 0 Q (F0 m 38 ls []) := by
                  intro μ
                  induction μ with
                  | zero =>
                    intro lst way H locs ls hμ38
                    exact absurd hμ38 (Nat.not_lt_zero _)
                  | succ μ ih38 =>
                    intro lst way H locs ls hμ38 hP hD hS h38_0 h38_1 hl
                    refine lv_iload hx hb dX10_findRest_38 (lv_at hl 7 rfl) ?_
                    refine lv_iconst (v := 5) hx hb dX10_findRest_40 (by decide) ?_
                    refine lv_icmp_ge (tgt := 91) hx hb dX10_findRest_41 (by decide) (fun c41 => ?_) (fun c41 => ?_)
                    · have c41_ := i_le c41
                      refine lv_aload_n hx hb dX10_findRest_91 rfl (lv_at hl 0 rfl) ?_
                      refine va_get (D := eD E) (ci := 10) (v := .ref (am 63)) (C := RX10) (T := TX10) (N := 79) hx hb hts in_X10 hown hK hP 0 rfl rfl 63 (by decide) lk0 (fun _ h9 => h9) rfl dX10_findRest_92 ?_
                      refine lv_bipush (v := 24) hx hb dX10_findRest_95 (by decide) ?_
                      refine lv_iload hx hb dX10_findRest_97 (lv_at hl 4 rfl) ?_
                      refine lv_imul hx hb dX10_findRest_99 ?_
                      refine lv_topi (fun x99 e99 => ?_)
                      have t99 := i_mul e99 (by rw [n_24]; omega)
                      rw [n_24] at t99
                      refine lv_iload hx hb dX10_findRest_100 (lv_at hl 5 rfl) ?_
                      refine lv_iadd hx hb dX10_findRest_102 ?_
                      refine lv_topi (fun x102 e102 => ?_)
                      have t102 := i_add e102 (by omega)
                      have hix := idx24 e99 e102 (by omega) (by omega)
                      refine lv_iload hx hb dX10_findRest_103 (lv_at hl 6 rfl) ?_
                      refine va_iast hx hb hK hP hD hS 36 0 rfl rfl (n := 984) (f := (vc 63)) (i_in (by omega) (by omega)) dX10_findRest_105 (fun H locs hP hD hS => ?_)
                      replace hP : va_P (eD E) vwCl (mdL E am (up2 vc 63 x102.toNatClampNeg lst)) H := hP
                      replace hD : va_D A (mdL E am (up2 vc 63 x102.toNatClampNeg lst)) := hD
                      generalize hv105 : up2 vc 63 x102.toNatClampNeg lst = vm_105 at hP hD
                      have hFz : fr [63] vm vm_105 := by first | exact hFz | (rw [← hv105]; exact hFz.up (by decide))
                      have hfr : ∀ t, t ≠ 63 → vm_105 t = vm t := fun t ht => by rw [← hv105]; exact (up2_ne ht).trans (hfr t ht)
                      have hq0 : vm_105 0 = vc 0 := by rw [← hv105]; rfl
                      have hq1 : vm_105 1 = vc 1 := by rw [← hv105]; rfl
                      obtain ⟨x106, e106⟩ : ∃ y : Int32, y = cl + 1 := ⟨_, rfl⟩
                      refine lv_iinc (v := x106) (lv' := [(5, .int x106), (0, .ref (am 0)), (1, .int b), (2, .int step), (3, .int n), (4, .int k), (6, .int lst), (7, .int way)]) hx hb dX10_findRest_106 hl (k := 5) rfl (by rw [e106]; rfl) (by decide) rfl (fun ls hl => ?_)
                      have t106 := i_add e106 (by omega)
                      have hgd : ∀ k2 c2 : Int32, (k.toInt < k2.toInt ∨ (k2.toInt = k.toInt ∧ c2.toInt < x106.toInt)) → k2.toInt ≤ n.toInt → 0 ≤ c2.toInt ∧ c2.toInt < (vm_105 0 0).toInt * (vm_105 1 0).toInt → rsG vm_105 b step n k2 c2 := fun k2 c2 a1 a2 a3 => by rw [← hv105]; exact rs_put hH.1 (by omega) (by omega) ⟨by omega, hcc⟩ hix h38_1 (fun k3 c3 b1 b2 b3 => h11_2 k3 c3 b1 b2 b3) k2 c2 (by omega) a2 (by rw [hq0, hq1] at a3; exact a3)
                      refine lv_goto (tgt := 11) hx hb dX10_findRest_109 (by decide) ?_
                      exact ih11 x106 vm_105 _ _ ls (by omega) hP hD hS (by omega) hfr hgd hFz (lv_sub hl [1, 2, 3, 4, 5, 0] rfl)
                    · have c41_ := i_nle c41
                      refine lv_iload hx hb dX10_findRest_44 (lv_at hl 4 rfl) ?_
                      refine lv_iload_n hx hb dX10_findRest_46 rfl (lv_at hl 3 rfl) ?_
                      refine lv_icmp_ge (tgt := 91) hx hb dX10_findRest_47 (by decide) (fun c47 => ?_) (fun c47 => ?_)
                      · have c47_ := i_le c47
                        refine lv_aload_n hx hb dX10_findRest_91 rfl (lv_at hl 0 rfl) ?_
                        refine va_get (D := eD E) (ci := 10) (v := .ref (am 63)) (C := RX10) (T := TX10) (N := 79) hx hb hts in_X10 hown hK hP 0 rfl rfl 63 (by decide) lk0 (fun _ h9 => h9) rfl dX10_findRest_92 ?_
                        refine lv_bipush (v := 24) hx hb dX10_findRest_95 (by decide) ?_
                        refine lv_iload hx hb dX10_findRest_97 (lv_at hl 4 rfl) ?_
                        refine lv_imul hx hb dX10_findRest_99 ?_
                        refine lv_topi (fun x99 e99 => ?_)
                        have t99 := i_mul e99 (by rw [n_24]; omega)
                        rw [n_24] at t99
                        refine lv_iload hx hb dX10_findRest_100 (lv_at hl 5 rfl) ?_
                        refine lv_iadd hx hb dX10_findRest_102 ?_
                        refine lv_topi (fun x102 e102 => ?_)
                        have t102 := i_add e102 (by omega)
                        have hix := idx24 e99 e102 (by omega) (by omega)
                        refine lv_iload hx hb dX10_findRest_103 (lv_at hl 6 rfl) ?_
                        refine va_iast hx hb hK hP hD hS 36 0 rfl rfl (n := 984) (f := (vc 63)) (i_in (by omega) (by omega)) dX10_findRest_105 (fun H locs hP hD hS => ?_)
                        replace hP : va_P (eD E) vwCl (mdL E am (up2 vc 63 x102.toNatClampNeg lst)) H := hP
                        replace hD : va_D A (mdL E am (up2 vc 63 x102.toNatClampNeg lst)) := hD
                        generalize hv105 : up2 vc 63 x102.toNatClampNeg lst = vm_105 at hP hD
                        have hFz : fr [63] vm vm_105 := by first | exact hFz | (rw [← hv105]; exact hFz.up (by decide))
                        have hfr : ∀ t, t ≠ 63 → vm_105 t = vm t := fun t ht => by rw [← hv105]; exact (up2_ne ht).trans (hfr t ht)
                        have hq0 : vm_105 0 = vc 0 := by rw [← hv105]; rfl
                        have hq1 : vm_105 1 = vc 1 := by rw [← hv105]; rfl
                        obtain ⟨x106, e106⟩ : ∃ y : Int32, y = cl + 1 := ⟨_, rfl⟩
                        refine lv_iinc (v := x106) (lv' := [(5, .int x106), (0, .ref (am 0)), (1, .int b), (2, .int step), (3, .int n), (4, .int k), (6, .int lst), (7, .int way)]) hx hb dX10_findRest_106 hl (k := 5) rfl (by rw [e106]; rfl) (by decide) rfl (fun ls hl => ?_)
                        have t106 := i_add e106 (by omega)
                        have hgd : ∀ k2 c2 : Int32, (k.toInt < k2.toInt ∨ (k2.toInt = k.toInt ∧ c2.toInt < x106.toInt)) → k2.toInt ≤ n.toInt → 0 ≤ c2.toInt ∧ c2.toInt < (vm_105 0 0).toInt * (vm_105 1 0).toInt → rsG vm_105 b step n k2 c2 := fun k2 c2 a1 a2 a3 => by rw [← hv105]; exact rs_put hH.1 (by omega) (by omega) ⟨by omega, hcc⟩ hix h38_1 (fun k3 c3 b1 b2 b3 => h11_2 k3 c3 b1 b2 b3) k2 c2 (by omega) a2 (by rw [hq0, hq1] at a3; exact a3)
                        refine lv_goto (tgt := 11) hx hb dX10_findRest_109 (by decide) ?_
                        exact ih11 x106 vm_105 _ _ ls (by omega) hP hD hS (by omega) hfr hgd hFz (lv_sub hl [1, 2, 3, 4, 5, 0] rfl)
                      · have c47_ := i_nle c47
                        refine lv_iload hx hb dX10_findRest_50 (lv_at hl 5 rfl) ?_
                        refine lv_iload_n hx hb dX10_findRest_52 rfl (lv_at hl 1 rfl) ?_
                        refine lv_icmp_eq (tgt := 91) hx hb dX10_findRest_53 (by decide) (fun c53 => ?_) (fun c53 => ?_)
                        · have c53_ := i_eq c53
                          refine lv_aload_n hx hb dX10_findRest_91 rfl (lv_at hl 0 rfl) ?_
                          refine va_get (D := eD E) (ci := 10) (v := .ref (am 63)) (C := RX10) (T := TX10) (N := 79) hx hb hts in_X10 hown hK hP 0 rfl rfl 63 (by decide) lk0 (fun _ h9 => h9) rfl dX10_findRest_92 ?_
                          refine lv_bipush (v := 24) hx hb dX10_findRest_95 (by decide) ?_
                          refine lv_iload hx hb dX10_findRest_97 (lv_at hl 4 rfl) ?_
                          refine lv_imul hx hb dX10_findRest_99 ?_
                          refine lv_topi (fun x99 e99 => ?_)
                          have t99 := i_mul e99 (by rw [n_24]; omega)
                          rw [n_24] at t99
                          refine lv_iload hx hb dX10_findRest_100 (lv_at hl 5 rfl) ?_
                          refine lv_iadd hx hb dX10_findRest_102 ?_
                          refine lv_topi (fun x102 e102 => ?_)
                          have t102 := i_add e102 (by omega)
                          have hix := idx24 e99 e102 (by omega) (by omega)
                          refine lv_iload hx hb dX10_findRest_103 (lv_at hl 6 rfl) ?_
                          refine va_iast hx hb hK hP hD hS 36 0 rfl rfl (n := 984) (f := (vc 63)) (i_in (by omega) (by omega)) dX10_findRest_105 (fun H locs hP hD hS => ?_)
                          replace hP : va_P (eD E) vwCl (mdL E am (up2 vc 63 x102.toNatClampNeg lst)) H := hP
                          replace hD : va_D A (mdL E am (up2 vc 63 x102.toNatClampNeg lst)) := hD
                          generalize hv105 : up2 vc 63 x102.toNatClampNeg lst = vm_105 at hP hD
                          have hFz : fr [63] vm vm_105 := by first | exact hFz | (rw [← hv105]; exact hFz.up (by decide))
                          have hfr : ∀ t, t ≠ 63 → vm_105 t = vm t := fun t ht => by rw [← hv105]; exact (up2_ne ht).trans (hfr t ht)
                          have hq0 : vm_105 0 = vc 0 := by rw [← hv105]; rfl
                          have hq1 : vm_105 1 = vc 1 := by rw [← hv105]; rfl
                          obtain ⟨x106, e106⟩ : ∃ y : Int32, y = cl + 1 := ⟨_, rfl⟩
                          refine lv_iinc (v := x106) (lv' := [(5, .int x106), (0, .ref (am 0)), (1, .int b), (2, .int step), (3, .int n), (4, .int k), (6, .int lst), (7, .int way)]) hx hb dX10_findRest_106 hl (k := 5) rfl (by rw [e106]; rfl) (by decide) rfl (fun ls hl => ?_)
                          have t106 := i_add e106 (by omega)
                          have hgd : ∀ k2 c2 : Int32, (k.toInt < k2.toInt ∨ (k2.toInt = k.toInt ∧ c2.toInt < x106.toInt)) → k2.toInt ≤ n.toInt → 0 ≤ c2.toInt ∧ c2.toInt < (vm_105 0 0).toInt * (vm_105 1 0).toInt → rsG vm_105 b step n k2 c2 := fun k2 c2 a1 a2 a3 => by rw [← hv105]; exact rs_put hH.1 (by omega) (by omega) ⟨by omega, hcc⟩ hix h38_1 (fun k3 c3 b1 b2 b3 => h11_2 k3 c3 b1 b2 b3) k2 c2 (by omega) a2 (by rw [hq0, hq1] at a3; exact a3)
                          refine lv_goto (tgt := 11) hx hb dX10_findRest_109 (by decide) ?_
                          exact ih11 x106 vm_105 _ _ ls (by omega) hP hD hS (by omega) hfr hgd hFz (lv_sub hl [1, 2, 3, 4, 5, 0] rfl)
                        · have c53_ := i_ne c53
                          refine lv_aload_n hx hb dX10_findRest_56 rfl (lv_at hl 0 rfl) ?_
                          refine lv_iload hx hb dX10_findRest_57 (lv_at hl 4 rfl) ?_
                          refine lv_iload hx hb dX10_findRest_59 (lv_at hl 5 rfl) ?_
                          refine lv_iload hx hb dX10_findRest_61 (lv_at hl 7 rfl) ?_
                          refine lv_iload_n hx hb dX10_findRest_63 rfl (lv_at hl 2 rfl) ?_
                          refine rd_V (As := [.int k, .int cl, .int way, .int step]) (rest := []) (C := RX10) (ci := 10) ⟨hx, hb, hml, hown, hts⟩ (c_X10_restBy l E A am vc k cl way step hH (by omega) (by omega) (by omega) (by omega)) (cwV 4 hts gX10_findRest_X10_restBy rfl rfl rfl (by decide +kernel) ⟨Nat.le_of_ble_eq_true rfl, Nat.le_of_ble_eq_true rfl⟩) (hE.kept hS.2.1) (hP.sub (ws' := mdL E am vc) [0, 1, 2, 3, 4, 5, 6, 7, 8, 9, 10, 11, 12, 13, 14, 15, 16, 17, 18, 19, 20, 21, 22, 23, 24, 25, 26, 27, 28, 29, 30, 31, 32, 33, 34, 35, 36, 37, 38, 39, 40, 41, 42, 43, 44, 45] rfl) rfl rfl rfl rfl hl.1 rfl (Nat.le_of_ble_eq_true rfl) dX10_findRest_64 ⟨Nat.zero_le _, Nat.zero_le _⟩ (fun r64 h64 => ?_)
                          refine lv_istore (lv' := [(8, .int r64), (0, .ref (am 0)), (1, .int b), (2, .int step), (3, .int n), (4, .int k), (5, .int cl), (6, .int lst), (7, .int way)]) hx hb dX10_findRest_67 hl (by decide) rfl (fun ls hl => ?_)
                          refine lv_iload hx hb dX10_findRest_69 (lv_at hl 0 rfl) ?_
                          refine lv_iload hx hb dX10_findRest_71 (lv_at hl 7 rfl) ?_
                          have K83 : ∀  (nl : Int32) (H : Heap) (locs : List Loc) (ls : Array Slot), va_P (eD E) vwCl (mdL E am vc) H → va_D A (mdL E am vc) → va_S A s.heap H locs → (prX vc b step n k cl nl) → lv_has ls 9 [(0, .ref (am 0)), (1, .int b), (2, .int step), (3, .int n), (4, .int k), (5, .int cl), (6, .int lst), (7, .int way), (8, .int r64)] → W p l e (headSpec wsX10_findRest rm_X10_findRest).room s m ([.ref (am 0), .int b, .int step, .int n] : List Value).toArray below meth c H locs 0 0 Q (F0 m 83 ls [.int nl]) := by
                            intro nl H locs ls hP hD hS h83_0 hl
                            refine lv_istore (lv' := [(6, .int nl), (0, .ref (am 0)), (1, .int b), (2, .int step), (3, .int n), (4, .int k), (5, .int cl), (7, .int way), (8, .int r64)]) hx hb dX10_findRest_83 hl (by decide) rfl (fun ls hl => ?_)
                            obtain ⟨x85, e85⟩ : ∃ y : Int32, y = way + 1 := ⟨_, rfl⟩
                            refine lv_iinc (v := x85) (lv' := [(7, .int x85), (6, .int nl), (0, .ref (am 0)), (1, .int b), (2, .int step), (3, .int n), (4, .int k), (5, .int cl), (8, .int r64)]) hx hb dX10_findRest_85 hl (k := 7) rfl (by rw [e85]; rfl) (by decide) rfl (fun ls hl => ?_)
                            have t85 := i_add e85 (by omega)
                            refine lv_goto (tgt := 38) hx hb dX10_findRest_88 (by decide) ?_
                            exact ih38 nl x85 _ _ ls (by omega) hP hD hS (by omega) h83_0 (lv_sub hl [2, 3, 4, 5, 6, 7, 1, 0] rfl)
                          refine lv_icmp_ge (tgt := 81) hx hb dX10_findRest_73 (by decide) (fun c73 => ?_) (fun c73 => ?_)
                          · have c73_ := i_le c73
                            refine lv_iload hx hb dX10_findRest_81 (lv_at hl 7 rfl) ?_
                            exact K83 lst _ _ ls hP hD hS (by first | exact h38_1 | exact fun _ => Or.inr ⟨by omega, way, by omega, h64.symm⟩) (lv_sub hl [1, 2, 3, 4, 5, 6, 7, 8, 0] rfl)
                          · have c73_ := i_nle c73
                            refine lv_iload hx hb dX10_findRest_76 (lv_at hl 0 rfl) ?_
                            refine lv_goto (tgt := 83) hx hb dX10_findRest_78 (by decide) ?_
                            exact K83 r64 _ _ ls hP hD hS (by first | exact h38_1 | exact fun _ => Or.inr ⟨by omega, way, by omega, h64.symm⟩) (lv_sub hl [1, 2, 3, 4, 5, 6, 7, 8, 0] rfl)
                exact K38 _ l0 0 _ _ ls (Nat.lt_succ_self _) hP hD hS (by omega) h33_0 (lv_sub hl [2, 3, 4, 5, 6, 7, 1, 0] rfl)
              refine lv_icmp_ne (tgt := 30) hx hb dX10_findRest_23 (by decide) (fun c23 => ?_) (fun c23 => ?_)
              · have c23_ := i_ne c23
                refine lv_ldcw hx hb hown lk1 dX10_findRest_30 ?_
                exact K33 1000000000 _ _ ls hP hD hS (by first | exact fun _ => Or.inl c23 | exact fun q => absurd q (by omega)) (lv_sub hl [0, 1, 2, 3, 4, 5] rfl)
              · have c23_ := i_eq c23
                refine lv_iconst (v := 0) hx hb dX10_findRest_26 (by decide) ?_
                refine lv_goto (tgt := 33) hx hb dX10_findRest_27 (by decide) ?_
                exact K33 0 _ _ ls hP hD hS (by first | exact fun _ => Or.inl c23 | exact fun q => absurd q (by omega)) (lv_sub hl [0, 1, 2, 3, 4, 5] rfl)
        exact K11 _ 0 vk _ _ ls (Nat.lt_succ_self _) hP hD hS (by omega) h3_1 (fun k2 c2 a1 a2 a3 => h3_2 k2 c2 (by omega) a2 a3) hFz (lv_sub hl [1, 2, 3, 4, 5, 0] rfl)
  exact K3 _ n vm _ _ ls (Nat.lt_succ_self _) hP hD hS (by omega) (fun _ _ => rfl) (fun k2 c2 a1 a2 => absurd a1 (by omega)) hFz (lv_sub hl [1, 2, 3, 4, 0] rfl)
def rm_X10_least : Room := { frames := 7, cells := 0, slots := 0, locals := 175 }
set_option maxHeartbeats 4000000 in
set_option maxRecDepth 100000 in
theorem c_X10_least (l : Launch) (E : Ev) (sz : Nat) (am : Nat → Nat) (vm : Vf) (x : Int32) (y : Int32) (step : Int32) (n : Int32) (z : Int32) (hMI : MdI vm) : Met l yX10_least wsX10_least rm_X10_least (MtP E sz [.ref (am 0), .int x, .int y, .int step, .int n, .int z] (mdL E am vm)) (va_Qi (fun (r : Int32) (u : Vf) => (MdI u) ∧ fr [63] vm u) (MtB E (va_A (mdL E am vm) sz) (fun u => mdL E am u)) (va_A (mdL E am vm) sz)) 0 0 (va_A (mdL E am vm) sz) := by
  refine Met.ofW (cc := cX10_least) (maxL := 11) (ret := (some .int)) (by decide) rfl ?_
  intro p e s m args below meth c s₁ B hml hv
  obtain ⟨rfl, hsz, hE, hP, hD0⟩ := hv
  subst hsz
  have hD := hD0.self (sz := s.heap.size)
  generalize hAe : va_A (mdL E am vm) s.heap.size = A at hD hE ⊢
  have hA : ∀ q : Nat, s.heap.size ≤ q → A q := fun q h => by rw [← hAe]; exact Or.inr h
  have hS : va_S A s.heap s.heap [] := va_S.rf
  have hx := B.exec
  have hb := B.bytes
  have hr := B.returns
  have hts := atoms_spec (ws := wsX10_least) B.pre
  have hown : s.vm.findClass RX10 = some m.cls := findClass_of_methodNamed B.named
  have hlocks := B.notSynchronized
  have hK := hE.1
  have in_X10 : ∀ w ∈ u_ws RX10 TX10 79, w ∈ wsX10_least := fun w h => List.mem_cons_of_mem _ (List.mem_append_right _ h)
  have lk0 := hts (.constant RX10 329 (-1000000001)) (List.mem_of_getElem? (i := 1) rfl)
  have lk1 := hts (.constant RX10 175 (-1000000002)) (List.mem_of_getElem? (i := 3) rfl)
  have lk2 := hts (.constantLong RX10 419 40) (List.mem_of_getElem? (i := 2) rfl)
  have lk3 := hts (.fieldLink RX10 128 "TidedGroundModel" "rest" "[I") (List.mem_of_getElem? (i := 4) rfl)
  have lk4 := hts (.constant RX10 392 1000000000) (List.mem_of_getElem? (i := 5) rfl)
  have n_m1000000002 : ((-1000000002) : Int32).toInt = -1000000002 := by decide
  have n_m1000000001 : ((-1000000001) : Int32).toInt = -1000000001 := by decide
  have n_m1 : ((-1) : Int32).toInt = -1 := by decide
  have n_0 : (0 : Int32).toInt = 0 := by decide
  have n_1 : (1 : Int32).toInt = 1 := by decide
  have n_24 : (24 : Int32).toInt = 24 := by decide
  have n_1000000000 : (1000000000 : Int32).toInt = 1000000000 := by decide
  have hl := lv_entry ([.ref (am 0), .int x, .int y, .int step, .int n, .int z]) (n := 11) (Nat.le_of_ble_eq_true rfl)
  rw [lg_entry_eq]
  generalize (lg_sl ([.ref (am 0), .int x, .int y, .int step, .int n, .int z]) ++ List.replicate (11 - (lg_sl ([.ref (am 0), .int x, .int y, .int step, .int n, .int z])).length) Slot.unset).toArray = ls at hl ⊢
  have hl : lv_has ls 11 [(0, .ref (am 0)), (1, .int x), (2, .int y), (3, .int step), (4, .int n), (5, .int z)] := hl
  refine W_abs (fun Q hQ => ?_)
  have hH := hMI.1
  have hFz : fr [63] vm vm := fr.rf
  refine lv_aload_n hx hb dX10_least_0 rfl (lv_at hl 0 rfl) ?_
  refine lv_iload_n hx hb dX10_least_1 rfl (lv_at hl 1 rfl) ?_
  refine rd_V (As := [.int x]) (rest := []) (C := RX10) (ci := 10) ⟨hx, hb, hml, hown, hts⟩ (c_X10_ofPair_2 l E A am vm x hH) (cwV 1 hts gX10_least_X10_ofPair rfl rfl rfl (by decide +kernel) ⟨Nat.le_of_ble_eq_true rfl, Nat.le_of_ble_eq_true rfl⟩) (hE.kept hS.2.1) (hP.sub (ws' := mdL E am vm) [0, 1, 2, 3, 4, 5, 6, 7, 8, 9, 10, 11, 12, 13, 14, 15, 16, 17, 18, 19, 20, 21, 22, 23, 24, 25, 26, 27, 28, 29, 30, 31, 32, 33, 34, 35, 36, 37, 38, 39, 40, 41, 42, 43, 44, 45] rfl) rfl rfl rfl rfl hl.1 rfl (Nat.le_of_ble_eq_true rfl) dX10_least_2 ⟨Nat.zero_le _, Nat.zero_le _⟩ (fun r2 h2 => ?_)
  have hf2 := h2.2
  replace h2 := h2.1
  refine lv_istore (lv' := [(6, .int r2), (0, .ref (am 0)), (1, .int x), (2, .int y), (3, .int step), (4, .int n), (5, .int z)]) hx hb dX10_least_5 hl (by decide) rfl (fun ls hl => ?_)
  refine lv_aload_n hx hb dX10_least_7 rfl (lv_at hl 1 rfl) ?_
  refine lv_iload_n hx hb dX10_least_8 rfl (lv_at hl 3 rfl) ?_
  refine rd_V (As := [.int y]) (rest := []) (C := RX10) (ci := 10) ⟨hx, hb, hml, hown, hts⟩ (c_X10_ofPair_2 l E A am vm y hH) (cwV 1 hts gX10_least_X10_ofPair rfl rfl rfl (by decide +kernel) ⟨Nat.le_of_ble_eq_true rfl, Nat.le_of_ble_eq_true rfl⟩) (hE.kept hS.2.1) (hP.sub (ws' := mdL E am vm) [0, 1, 2, 3, 4, 5, 6, 7, 8, 9, 10, 11, 12, 13, 14, 15, 16, 17, 18, 19, 20, 21, 22, 23, 24, 25, 26, 27, 28, 29, 30, 31, 32, 33, 34, 35, 36, 37, 38, 39, 40, 41, 42, 43, 44, 45] rfl) rfl rfl rfl rfl hl.1 rfl (Nat.le_of_ble_eq_true rfl) dX10_least_9 ⟨Nat.zero_le _, Nat.zero_le _⟩ (fun r9 h9 => ?_)
  have hf9 := h9.2
  replace h9 := h9.1
  refine lv_istore (lv' := [(7, .int r9), (6, .int r2), (0, .ref (am 0)), (1, .int x), (2, .int y), (3, .int step), (4, .int n), (5, .int z)]) hx hb dX10_least_12 hl (by decide) rfl (fun ls hl => ?_)
  refine lv_iload hx hb dX10_least_14 (lv_at hl 1 rfl) ?_
  refine lv_if_lt (tgt := 24) hx hb dX10_least_16 (by decide) (fun c16 => ?_) (fun c16 => ?_)
  · have c16_ := i_lt c16
    refine lv_ldcw hx hb hown lk0 dX10_least_24 ?_
    subst hQ
    exact W.iret (v := (-1000000001)) hx hb hr (fun t ht hW => ⟨⟨(-1000000001), (vm), rfl, (show (MdI vm) ∧ fr [63] vm vm from ⟨hMI, hFz⟩), by rw [ht]; exact hP, hD⟩, hS.F ht⟩) hS.2.2 dX10_least_27
  · have c16_ := i_nlt c16
    refine lv_iload hx hb dX10_least_19 (lv_at hl 0 rfl) ?_
    refine lv_if_ge (tgt := 28) hx hb dX10_least_21 (by decide) (fun c21 => ?_) (fun c21 => ?_)
    · have c21_ := i_le c21
      refine lv_iload_n hx hb dX10_least_28 rfl (lv_at hl 5 rfl) ?_
      refine rd_S (As := [.int step]) (rest := []) ⟨hx, hb, hml, hown, hts⟩ (c_X10_isStep l E A step) (va_cwS 1 hts gX10_least_X10_isStep rfl rfl rfl (by decide +kernel) ⟨Nat.le_of_ble_eq_true rfl, Nat.le_of_ble_eq_true rfl⟩) (hE.kept hS.2.1) (hP.sub (ws' := []) [] rfl) rfl hl.1 rfl (Nat.le_of_ble_eq_true rfl) dX10_least_29 ⟨Nat.zero_le _, Nat.zero_le _⟩ (fun r29 h29 => ?_)
      refine lv_if_eq (tgt := 48) hx hb dX10_least_32 (by decide) (fun c32 => ?_) (fun c32 => ?_)
      · have c32_ := i_eq c32
        replace h29 := or_n h29 c32_
        refine lv_ldc hx hb hown lk1 dX10_least_48 ?_
        subst hQ
        exact W.iret (v := (-1000000002)) hx hb hr (fun t ht hW => ⟨⟨(-1000000002), (vm), rfl, (show (MdI vm) ∧ fr [63] vm vm from ⟨hMI, hFz⟩), by rw [ht]; exact hP, hD⟩, hS.F ht⟩) hS.2.2 dX10_least_50
      · have c32_ := i_ne c32
        replace h29 := or_y h29 c32_
        clear c32_
        refine lv_iload hx hb dX10_least_35 (lv_at hl 6 rfl) ?_
        refine lv_i2l hx hb dX10_least_37 rfl ?_
        refine lv_lconst (v := 1) hx hb dX10_least_38 (by decide) ?_
        refine lv_ldc2 hx hb hown lk2 dX10_least_39 ?_
        have lt42_0 : (n.toInt64).toInt = n.toInt := Int32.toInt_toInt64 _
        have lt42_1 : (1 : Int64).toInt = 1 := by decide
        have lt42_2 : (40 : Int64).toInt = 40 := by decide
        refine rd_S (As := [.long n.toInt64, .long 1, .long 40]) (rest := []) ⟨hx, hb, hml, hown, hts⟩ (c_X10_in l E A n.toInt64 1 40) (va_cwS 3 hts gX10_least_X10_in rfl rfl rfl (by decide +kernel) ⟨Nat.le_of_ble_eq_true rfl, Nat.le_of_ble_eq_true rfl⟩) (hE.kept hS.2.1) (hP.sub (ws' := []) [] rfl) rfl hl.1 rfl (Nat.le_of_ble_eq_true rfl) dX10_least_42 ⟨Nat.zero_le _, Nat.zero_le _⟩ (fun r42 h42 => ?_)
        refine lv_if_ne (tgt := 51) hx hb dX10_least_45 (by decide) (fun c45 => ?_) (fun c45 => ?_)
        · have c45_ := i_ne c45
          replace h42 := or_y h42 c45_
          clear c45_
          have sv51_step : 0 ≤ step.toInt ∧ step.toInt ≤ 900000 := by omega
          have sv51_n : 1 ≤ n.toInt ∧ n.toInt ≤ 40 := by omega
          have sv51_r2 : 0 ≤ r2.toInt ∧ r2.toInt ≤ 23 := by omega
          have sv51_r9 : 0 ≤ r9.toInt ∧ r9.toInt ≤ 23 := by omega
          have hw : 1 ≤ (vm 0 0).toInt := (by omega)
          refine lv_aload_n hx hb dX10_least_51 rfl (lv_at hl 2 rfl) ?_
          refine lv_iload hx hb dX10_least_52 (lv_at hl 0 rfl) ?_
          refine lv_iload_n hx hb dX10_least_54 rfl (lv_at hl 5 rfl) ?_
          refine lv_iload hx hb dX10_least_55 (lv_at hl 6 rfl) ?_
          refine mt_Vv (w1 := fun (u : Vf) => mdL E am u) (wf := fun (u : Vf) => mdL E am u) (wr := []) (As := [.int r9, .int step, .int n]) (rest := []) (C := RX10) (ci := 10) ⟨hx, hb, hml, hown, hts⟩ (c_X10_findRest l E s.heap.size am vm r9 step n hMI (by omega) (by omega) (by omega) (by omega)) (cwV 3 hts gX10_least_X10_findRest rfl rfl rfl (by decide +kernel) ⟨Nat.le_of_ble_eq_true rfl, Nat.le_of_ble_eq_true rfl⟩) hE hS hA hP hD [0, 1, 2, 3, 4, 5, 6, 7, 8, 9, 10, 11, 12, 13, 14, 15, 16, 17, 18, 19, 20, 21, 22, 23, 24, 25, 26, 27, 28, 29, 30, 31, 32, 33, 34, 35, 36, 37, 38, 39, 40, 41, 42, 43, 44, 45] [] rfl rfl (by decide) (by decide) (by decide) [0, 1, 2, 3, 4, 5, 6, 7, 8, 9, 10, 11, 12, 13, 14, 15, 16, 17, 18, 19, 20, 21, 22, 23, 24, 25, 26, 27, 28, 29, 30, 31, 32, 33, 34, 35, 36, 37, 38, 39, 40, 41, 42, 43, 44, 45] (by decide) (fun u => rfl) rfl rfl rfl rfl hl.1 rfl (Nat.le_of_ble_eq_true rfl) dX10_least_57 ⟨Nat.zero_le _, Nat.zero_le _⟩ (fun u57 H locs h57 hP hD hS => ?_)
          generalize u57 = o57_vm at hP hD h57
          try dsimp only at h57
          have hFn57 := h57.2
          replace h57 := h57.1
          replace hP : va_P (eD E) vwCl (mdL E am o57_vm) H := hP
          replace hD : va_D A (mdL E am o57_vm) := hD
          have hFz : fr [63] vm o57_vm := by first | exact hFz | exact hFz.tr hFn57 (by decide) | (rw [← hv57]; repeat' (first | exact hFz | refine fr.up ?_ (by decide) | refine fr.up3 ?_ (by decide)))
          have hMI := h57.1
          have hH := hMI.1
          have hq57a : (o57_vm 0 0).toInt = (vm 0 0).toInt := by rw [h57.2.1 0 (by decide)]
          have hq57b : o57_vm 1 0 = vm 1 0 := by rw [h57.2.1 1 (by decide)]
          have hcs : (o57_vm 0 0).toInt * (o57_vm 1 0).toInt = (vm 0 0).toInt * (vm 1 0).toInt := by rw [hq57a, hq57b]
          have hw57 : 1 ≤ (o57_vm 0 0).toInt := by omega
          have hc24 : (o57_vm 0 0).toInt * (o57_vm 1 0).toInt ≤ 24 := hH.1.2.2
          refine lv_aload_n hx hb dX10_least_60 rfl (lv_at hl 2 rfl) ?_
          refine va_get (D := eD E) (ci := 10) (v := .ref (am 63)) (C := RX10) (T := TX10) (N := 79) hx hb hts in_X10 hown hK hP 0 rfl rfl 63 (by decide) lk3 (fun _ h9 => h9) rfl dX10_least_61 ?_
          refine lv_iload hx hb dX10_least_64 (lv_at hl 1 rfl) ?_
          refine va_iald hx hb hK hP 36 0 rfl rfl (n := 984) (f := (o57_vm 63)) (i_in (by omega) (by omega)) dX10_least_66 ?_
          refine lv_topi (fun x66 e66 => ?_)
          refine lv_ldcw hx hb hown lk4 dX10_least_67 ?_
          refine lv_icmp_ge (tgt := 79) hx hb dX10_least_70 (by decide) (fun c70 => ?_) (fun c70 => ?_)
          · have c70_ := i_le c70
            refine lv_iconst (v := (-1)) hx hb dX10_least_79 (by decide) ?_
            subst hQ
            exact W.iret (v := (-1)) hx hb hr (fun t ht hW => ⟨⟨(-1), (o57_vm), rfl, (show (MdI o57_vm) ∧ fr [63] vm o57_vm from ⟨hMI, hFz⟩), by rw [ht]; exact hP, hD⟩, hS.F ht⟩) hS.2.2 dX10_least_80
          · have c70_ := i_nle c70
            refine lv_iload hx hb dX10_least_73 (lv_at hl 7 rfl) ?_
            refine lv_iconst (v := (-1)) hx hb dX10_least_75 (by decide) ?_
            refine lv_icmp_ge (tgt := 81) hx hb dX10_least_76 (by decide) (fun c76 => ?_) (fun c76 => ?_)
            · have c76_ := i_le c76
              refine lv_iload hx hb dX10_least_81 (lv_at hl 7 rfl) ?_
              refine lv_iconst (v := (-1)) hx hb dX10_least_83 (by decide) ?_
              refine lv_icmp_ne (tgt := 95) hx hb dX10_least_84 (by decide) (fun c84 => ?_) (fun c84 => ?_)
              · have c84_ := i_ne c84
                refine lv_iload hx hb dX10_least_95 (lv_at hl 1 rfl) ?_
                refine lv_istore (lv' := [(8, .int r2), (7, .int r9), (6, .int r2), (0, .ref (am 0)), (1, .int x), (2, .int y), (3, .int step), (4, .int n), (5, .int z)]) hx hb dX10_least_97 hl (by decide) rfl (fun ls hl => ?_)
                refine lv_iconst (v := (-1)) hx hb dX10_least_99 (by decide) ?_
                refine lv_istore (lv' := [(9, .int (-1)), (8, .int r2), (7, .int r9), (6, .int r2), (0, .ref (am 0)), (1, .int x), (2, .int y), (3, .int step), (4, .int n), (5, .int z)]) hx hb dX10_least_100 hl (by decide) rfl (fun ls hl => ?_)
                refine lv_iconst (v := 0) hx hb dX10_least_102 (by decide) ?_
                refine lv_istore (lv' := [(10, .int 0), (9, .int (-1)), (8, .int r2), (7, .int r9), (6, .int r2), (0, .ref (am 0)), (1, .int x), (2, .int y), (3, .int step), (4, .int n), (5, .int z)]) hx hb dX10_least_103 hl (by decide) rfl (fun ls hl => ?_)
                have K105 : ∀ (μ : Nat) (hr0 : Int32) (wy : Int32) (k : Int32) (H : Heap) (locs : List Loc) (ls : Array Slot), (41 - k.toInt).toNat < μ → va_P (eD E) vwCl (mdL E am o57_vm) H → va_D A (mdL E am o57_vm) → va_S A s.heap H locs → (0 ≤ hr0.toInt ∧ hr0.toInt < (o57_vm 0 0).toInt * (o57_vm 1 0).toInt) → (0 ≤ k.toInt ∧ k.toInt ≤ n.toInt) → ((o57_vm 63 (24 * k.toNatClampNeg + hr0.toNatClampNeg)).toInt < 1000000000) → lv_has ls 11 [(0, .ref (am 0)), (1, .int x), (2, .int y), (3, .int step), (4, .int n), (5, .int z), (6, .int r2), (7, .int r9), (8, .int hr0), (9, .int wy), (10, .int k)] → W p l e (headSpec wsX10_least rm_X10_least).room s m ([.ref (am 0), .int x, .int y, .int step, .int n, .int z] : List Value).toArray below meth c H locs 0 0 Q (F0 m 105 ls []) := by
                  intro μ
                  induction μ with
                  | zero =>
                    intro hr0 wy k H locs ls hμ105
                    exact absurd hμ105 (Nat.not_lt_zero _)
                  | succ μ ih105 =>
                    intro hr0 wy k H locs ls hμ105 hP hD hS h105_0 h105_1 h105_2 hl
                    refine lv_iload hx hb dX10_least_105 (lv_at hl 10 rfl) ?_
                    refine lv_iload hx hb dX10_least_107 (lv_at hl 5 rfl) ?_
                    refine lv_icmp_gt (tgt := 179) hx hb dX10_least_109 (by decide) (fun c109 => ?_) (fun c109 => ?_)
                    · have c109_ := i_lt c109
                      refine lv_iload hx hb dX10_least_179 (lv_at hl 9 rfl) ?_
                      subst hQ
                      exact W.iret (v := wy) hx hb hr (fun t ht hW => ⟨⟨wy, (o57_vm), rfl, (show (MdI o57_vm) ∧ fr [63] vm o57_vm from ⟨hMI, hFz⟩), by rw [ht]; exact hP, hD⟩, hS.F ht⟩) hS.2.2 dX10_least_181
                    · have c109_ := i_nlt c109
                      refine lv_iload hx hb dX10_least_112 (lv_at hl 8 rfl) ?_
                      refine lv_iload hx hb dX10_least_114 (lv_at hl 7 rfl) ?_
                      refine lv_icmp_ne (tgt := 121) hx hb dX10_least_116 (by decide) (fun c116 => ?_) (fun c116 => ?_)
                      · have c116_ := i_ne c116
                        obtain ⟨hkn, w0, hw0, hw2⟩ := ((h57.2.2 k hr0 (by omega) (by omega) (by omega)) h105_2).resolve_left c116
                        refine lv_iconst (v := 0) hx hb dX10_least_121 (by decide) ?_
                        refine lv_istore (lv' := [(9, .int 0), (0, .ref (am 0)), (1, .int x), (2, .int y), (3, .int step), (4, .int n), (5, .int z), (6, .int r2), (7, .int r9), (8, .int hr0), (10, .int k)]) hx hb dX10_least_122 hl (by decide) rfl (fun ls hl => ?_)
                        have K124 : ∀ (μ : Nat) (wy2 : Int32) (H : Heap) (locs : List Loc) (ls : Array Slot), (5 - wy2.toInt).toNat < μ → va_P (eD E) vwCl (mdL E am o57_vm) H → va_D A (mdL E am o57_vm) → va_S A s.heap H locs → (0 ≤ wy2.toInt ∧ wy2.toInt ≤ w0.toInt) → lv_has ls 11 [(0, .ref (am 0)), (1, .int x), (2, .int y), (3, .int step), (4, .int n), (5, .int z), (6, .int r2), (7, .int r9), (8, .int hr0), (9, .int wy2), (10, .int k)] → W p l e (headSpec wsX10_least rm_X10_least).room s m ([.ref (am 0), .int x, .int y, .int step, .int n, .int z] : List Value).toArray below meth c H locs 0 0 Q (F0 m 124 ls []) := by
                          intro μ
                          induction μ with
                          | zero =>
                            intro wy2 H locs ls hμ124
                            exact absurd hμ124 (Nat.not_lt_zero _)
                          | succ μ ih124 =>
                            intro wy2 H locs ls hμ124 hP hD hS h124_0 hl
                            refine lv_aload_n hx hb dX10_least_124 rfl (lv_at hl 0 rfl) ?_
                            refine lv_iload hx hb dX10_least_125 (lv_at hl 10 rfl) ?_
                            refine lv_iload hx hb dX10_least_127 (lv_at hl 8 rfl) ?_
                            refine lv_iload hx hb dX10_least_129 (lv_at hl 9 rfl) ?_
                            refine lv_iload_n hx hb dX10_least_131 rfl (lv_at hl 3 rfl) ?_
                            refine rd_V (As := [.int k, .int hr0, .int wy2, .int step]) (rest := []) (C := RX10) (ci := 10) ⟨hx, hb, hml, hown, hts⟩ (c_X10_restBy l E A am o57_vm k hr0 wy2 step hH (by omega) (by omega) (by omega) (by omega)) (cwV 4 hts gX10_least_X10_restBy rfl rfl rfl (by decide +kernel) ⟨Nat.le_of_ble_eq_true rfl, Nat.le_of_ble_eq_true rfl⟩) (hE.kept hS.2.1) (hP.sub (ws' := mdL E am o57_vm) [0, 1, 2, 3, 4, 5, 6, 7, 8, 9, 10, 11, 12, 13, 14, 15, 16, 17, 18, 19, 20, 21, 22, 23, 24, 25, 26, 27, 28, 29, 30, 31, 32, 33, 34, 35, 36, 37, 38, 39, 40, 41, 42, 43, 44, 45] rfl) rfl rfl rfl rfl hl.1 rfl (Nat.le_of_ble_eq_true rfl) dX10_least_132 ⟨Nat.zero_le _, Nat.zero_le _⟩ (fun r132 h132 => ?_)
                            refine lv_aload_n hx hb dX10_least_135 rfl (lv_at hl 0 rfl) ?_
                            refine va_get (D := eD E) (ci := 10) (v := .ref (am 63)) (C := RX10) (T := TX10) (N := 79) hx hb hts in_X10 hown hK hP 0 rfl rfl 63 (by decide) lk3 (fun _ h9 => h9) rfl dX10_least_136 ?_
                            refine lv_bipush (v := 24) hx hb dX10_least_139 (by decide) ?_
                            refine lv_iload hx hb dX10_least_141 (lv_at hl 10 rfl) ?_
                            refine lv_imul hx hb dX10_least_143 ?_
                            refine lv_topi (fun x143 e143 => ?_)
                            have t143 := i_mul e143 (by rw [n_24]; omega)
                            rw [n_24] at t143
                            refine lv_iload hx hb dX10_least_144 (lv_at hl 8 rfl) ?_
                            refine lv_iadd hx hb dX10_least_146 ?_
                            refine lv_topi (fun x146 e146 => ?_)
                            have t146 := i_add e146 (by omega)
                            have hix := idx24 e143 e146 (by omega) (by omega)
                            refine va_iald hx hb hK hP 36 0 rfl rfl (n := 984) (f := (o57_vm 63)) (i_in (by omega) (by omega)) dX10_least_147 ?_
                            refine lv_topi (fun x147 e147 => ?_)
                            rw [hix] at e147
                            refine lv_icmp_eq (tgt := 157) hx hb dX10_least_148 (by decide) (fun c148 => ?_) (fun c148 => ?_)
                            · have c148_ := i_eq c148
                              have hlt := mRB_lt (v := o57_vm) (k := k) (c := hr0) (way := wy2) (t := step) (by rw [← h132, c148, e147]; exact h105_2)
                              refine lv_aload_n hx hb dX10_least_157 rfl (lv_at hl 0 rfl) ?_
                              refine lv_iload hx hb dX10_least_158 (lv_at hl 8 rfl) ?_
                              refine lv_iload hx hb dX10_least_160 (lv_at hl 9 rfl) ?_
                              refine lv_iload_n hx hb dX10_least_162 rfl (lv_at hl 3 rfl) ?_
                              refine lv_iload hx hb dX10_least_163 (lv_at hl 10 rfl) ?_
                              refine lv_iadd hx hb dX10_least_165 ?_
                              refine lv_topi (fun x165 e165 => ?_)
                              have t165 := i_add e165 (by omega)
                              refine lv_iconst (v := 1) hx hb dX10_least_166 (by decide) ?_
                              refine lv_iadd hx hb dX10_least_167 ?_
                              refine lv_topi (fun x167 e167 => ?_)
                              have t167 := i_add e167 (by omega)
                              refine rd_V (As := [.int hr0, .int wy2, .int x167]) (rest := []) (C := RX10) (ci := 10) ⟨hx, hb, hml, hown, hts⟩ (c_X10_goes l E A am o57_vm hr0 wy2 x167 hH (by omega) (by omega) (by omega)) (cwV 3 hts gX10_least_X10_goes rfl rfl rfl (by decide +kernel) ⟨Nat.le_of_ble_eq_true rfl, Nat.le_of_ble_eq_true rfl⟩) (hE.kept hS.2.1) (hP.sub (ws' := mdL E am o57_vm) [0, 1, 2, 3, 4, 5, 6, 7, 8, 9, 10, 11, 12, 13, 14, 15, 16, 17, 18, 19, 20, 21, 22, 23, 24, 25, 26, 27, 28, 29, 30, 31, 32, 33, 34, 35, 36, 37, 38, 39, 40, 41, 42, 43, 44, 45] rfl) rfl rfl rfl rfl hl.1 rfl (Nat.le_of_ble_eq_true rfl) dX10_least_168 ⟨Nat.zero_le _, Nat.zero_le _⟩ (fun r168 h168 => ?_)
                              have hg168 : r168 = mGo o57_vm hr0 wy2 (step + k + 1) := by rw [h168.1, e167, e165]
                              rw [← hg168] at hlt
                              have hlt2 := mGo_lt (v := o57_vm) (c := hr0) (way := wy2) (t := step + k + 1) hH.1 (by omega) (by rw [← hg168]; exact hlt.1)
                              rw [← hg168] at hlt2
                              refine lv_istore (lv' := [(8, .int r168), (0, .ref (am 0)), (1, .int x), (2, .int y), (3, .int step), (4, .int n), (5, .int z), (6, .int r2), (7, .int r9), (9, .int wy2), (10, .int k)]) hx hb dX10_least_171 hl (by decide) rfl (fun ls hl => ?_)
                              obtain ⟨x173, e173⟩ : ∃ y : Int32, y = k + 1 := ⟨_, rfl⟩
                              refine lv_iinc (v := x173) (lv' := [(10, .int x173), (8, .int r168), (0, .ref (am 0)), (1, .int x), (2, .int y), (3, .int step), (4, .int n), (5, .int z), (6, .int r2), (7, .int r9), (9, .int wy2)]) hx hb dX10_least_173 hl (k := 10) rfl (by rw [e173]; rfl) (by decide) rfl (fun ls hl => ?_)
                              have t173 := i_add e173 (by omega)
                              have hnx : (o57_vm 63 (24 * x173.toNatClampNeg + r168.toNatClampNeg)).toInt < 1000000000 := by rw [i_nat1 (x := k) (by omega) t173, ← idx25 (k := k) (c := r168) (by omega) (by omega)]; exact hlt.2
                              refine lv_goto (tgt := 105) hx hb dX10_least_176 (by decide) ?_
                              exact ih105 r168 wy2 x173 _ _ ls (by omega) hP hD hS (by omega) (by omega) hnx (lv_sub hl [2, 3, 4, 5, 6, 7, 8, 9, 1, 10, 0] rfl)
                            · have c148_ := i_ne c148
                              have hwn : wy2.toInt ≠ w0.toInt := fun q => c148 (by rw [h132, i_eqr q, hw2, e147])
                              obtain ⟨x151, e151⟩ : ∃ y : Int32, y = wy2 + 1 := ⟨_, rfl⟩
                              refine lv_iinc (v := x151) (lv' := [(9, .int x151), (0, .ref (am 0)), (1, .int x), (2, .int y), (3, .int step), (4, .int n), (5, .int z), (6, .int r2), (7, .int r9), (8, .int hr0), (10, .int k)]) hx hb dX10_least_151 hl (k := 9) rfl (by rw [e151]; rfl) (by decide) rfl (fun ls hl => ?_)
                              have t151 := i_add e151 (by omega)
                              refine lv_goto (tgt := 124) hx hb dX10_least_154 (by decide) ?_
                              exact ih124 x151 _ _ ls (by omega) hP hD hS (by omega) (lv_sub hl [1, 2, 3, 4, 5, 6, 7, 8, 9, 0, 10] rfl)
                        exact K124 _ 0 _ _ ls (Nat.lt_succ_self _) hP hD hS (by omega) (lv_sub hl [1, 2, 3, 4, 5, 6, 7, 8, 9, 0, 10] rfl)
                      · have c116_ := i_eq c116
                        refine lv_iconst (v := (-1)) hx hb dX10_least_119 (by decide) ?_
                        subst hQ
                        exact W.iret (v := (-1)) hx hb hr (fun t ht hW => ⟨⟨(-1), (o57_vm), rfl, (show (MdI o57_vm) ∧ fr [63] vm o57_vm from ⟨hMI, hFz⟩), by rw [ht]; exact hP, hD⟩, hS.F ht⟩) hS.2.2 dX10_least_120
                exact K105 _ r2 (-1) 0 _ _ ls (Nat.lt_succ_self _) hP hD hS (by omega) (by omega) (by rw [idx0, ← e66]; omega) (lv_sub hl [5, 6, 7, 8, 9, 10, 4, 3, 2, 1, 0] rfl)
              · have c84_ := i_eq c84
                refine lv_aload_n hx hb dX10_least_87 rfl (lv_at hl 2 rfl) ?_
                refine va_get (D := eD E) (ci := 10) (v := .ref (am 63)) (C := RX10) (T := TX10) (N := 79) hx hb hts in_X10 hown hK hP 0 rfl rfl 63 (by decide) lk3 (fun _ h9 => h9) rfl dX10_least_88 ?_
                refine lv_iload hx hb dX10_least_91 (lv_at hl 1 rfl) ?_
                refine va_iald hx hb hK hP 36 0 rfl rfl (n := 984) (f := (o57_vm 63)) (i_in (by omega) (by omega)) dX10_least_93 ?_
                refine lv_topi (fun x93 e93 => ?_)
                subst hQ
                exact W.iret (v := x93) hx hb hr (fun t ht hW => ⟨⟨x93, (o57_vm), rfl, (show (MdI o57_vm) ∧ fr [63] vm o57_vm from ⟨hMI, hFz⟩), by rw [ht]; exact hP, hD⟩, hS.F ht⟩) hS.2.2 dX10_least_94
            · have c76_ := i_nle c76
              refine lv_iconst (v := (-1)) hx hb dX10_least_79 (by decide) ?_
              subst hQ
              exact W.iret (v := (-1)) hx hb hr (fun t ht hW => ⟨⟨(-1), (o57_vm), rfl, (show (MdI o57_vm) ∧ fr [63] vm o57_vm from ⟨hMI, hFz⟩), by rw [ht]; exact hP, hD⟩, hS.F ht⟩) hS.2.2 dX10_least_80
        · have c45_ := i_eq c45
          replace h42 := or_n h42 c45_
          refine lv_ldc hx hb hown lk1 dX10_least_48 ?_
          subst hQ
          exact W.iret (v := (-1000000002)) hx hb hr (fun t ht hW => ⟨⟨(-1000000002), (vm), rfl, (show (MdI vm) ∧ fr [63] vm vm from ⟨hMI, hFz⟩), by rw [ht]; exact hP, hD⟩, hS.F ht⟩) hS.2.2 dX10_least_50
    · have c21_ := i_nle c21
      refine lv_ldcw hx hb hown lk0 dX10_least_24 ?_
      subst hQ
      exact W.iret (v := (-1000000001)) hx hb hr (fun t ht hW => ⟨⟨(-1000000001), (vm), rfl, (show (MdI vm) ∧ fr [63] vm vm from ⟨hMI, hFz⟩), by rw [ht]; exact hP, hD⟩, hS.F ht⟩) hS.2.2 dX10_least_27
def rm_X10_has_2 : Room := { frames := 0, cells := 0, slots := 0, locals := 0 }
set_option maxHeartbeats 4000000 in
set_option maxRecDepth 100000 in
theorem c_X10_has_2 (l : Launch) (E : Ev) (A : Nat → Prop) (x : Int32) (k : Int32) : Met l yX10_has wsX10_has rm_X10_has_2 (RdP E A [.int x, .int k] ([])) (vp_Si (fun r => ((r.toInt = 1 ∧ mHb x k) ∨ (r.toInt = 0 ∧ ¬ mHb x k)) ∧ (r.toInt ≠ 0 ↔ hasB x k))) 0 0 (fun _ => False) := by
  refine Met.ofW (cc := cX10_has) (maxL := 2) (ret := (some .boolean)) (by decide) rfl ?_
  intro p e s m args below meth c s₁ B hml hv
  obtain ⟨rfl, hE, hP⟩ := hv
  have hx := B.exec
  have hb := B.bytes
  have hr := B.returns
  have hts := atoms_spec (ws := wsX10_has) B.pre
  have hown : s.vm.findClass RX10 = some m.cls := findClass_of_methodNamed B.named
  have hlocks := B.notSynchronized
  have hK := hE.1
  have n_0 : (0 : Int32).toInt = 0 := by decide
  have n_1 : (1 : Int32).toInt = 1 := by decide
  have hl := lv_entry ([.int x, .int k]) (n := 2) (Nat.le_of_ble_eq_true rfl)
  rw [lg_entry_eq]
  generalize (lg_sl ([.int x, .int k]) ++ List.replicate (2 - (lg_sl ([.int x, .int k])).length) Slot.unset).toArray = ls at hl ⊢
  have hl : lv_has ls 2 [(0, .int x), (1, .int k)] := hl
  refine W_abs (fun Q hQ => ?_)
  refine lv_iload_n hx hb dX10_has_0 rfl (lv_at hl 0 rfl) ?_
  refine lv_iload_n hx hb dX10_has_1 rfl (lv_at hl 1 rfl) ?_
  refine lv_ishr hx hb dX10_has_2 ?_
  refine lv_topi (fun x2 e2 => ?_)
  refine lv_iconst (v := 1) hx hb dX10_has_3 (by decide) ?_
  refine lv_iand hx hb dX10_has_4 ?_
  refine lv_topi (fun x4 e4 => ?_)
  refine lv_iconst (v := 1) hx hb dX10_has_5 (by decide) ?_
  refine lv_icmp_ne (tgt := 13) hx hb dX10_has_6 (by decide) (fun c6 => ?_) (fun c6 => ?_)
  · have c6_ := i_ne c6
    refine lv_iconst (v := 0) hx hb dX10_has_13 (by decide) ?_
    subst hQ
    exact W.zret (v := 0) hx hb hr rfl (fun t ht hW => ⟨0, rfl, ⟨(by first | exact Or.inl ⟨by omega, by unfold mHb; rw [← e2, ← e4]; exact c6⟩ | exact Or.inr ⟨by omega, fun q => c6 (by rw [e4, e2]; exact q)⟩), (by unfold hasB; rw [← e2, ← e4]; first | exact has_y e4 c6 (by decide) | exact has_n e4 c6 (by decide))⟩, ht⟩) (fun q h => absurd h List.not_mem_nil) dX10_has_14
  · have c6_ := i_eq c6
    refine lv_iconst (v := 1) hx hb dX10_has_9 (by decide) ?_
    refine lv_goto (tgt := 14) hx hb dX10_has_10 (by decide) ?_
    subst hQ
    exact W.zret (v := 1) hx hb hr rfl (fun t ht hW => ⟨1, rfl, ⟨(by first | exact Or.inl ⟨by omega, by unfold mHb; rw [← e2, ← e4]; exact c6⟩ | exact Or.inr ⟨by omega, fun q => c6 (by rw [e4, e2]; exact q)⟩), (by unfold hasB; rw [← e2, ← e4]; first | exact has_y e4 c6 (by decide) | exact has_n e4 c6 (by decide))⟩, ht⟩) (fun q h => absurd h List.not_mem_nil) dX10_has_14
def rm_X10_isLevelOf : Room := { frames := 4, cells := 0, slots := 0, locals := 91 }
set_option maxHeartbeats 4000000 in
set_option maxRecDepth 100000 in
theorem c_X10_isLevelOf (l : Launch) (E : Ev) (sz : Nat) (am : Nat → Nat) (vm : Vf) (x : Int32) (step : Int32) (set : Int32) (hMI : MdI vm) (hw : 1 ≤ (vm 0 0).toInt) (hx : 1 ≤ x.toInt ∧ x.toInt ≤ 9999) (hstep : 0 ≤ step.toInt ∧ step.toInt ≤ 2000000) (hset : 1 ≤ set.toInt ∧ set.toInt ≤ 31) : Met l yX10_isLevelOf wsX10_isLevelOf rm_X10_isLevelOf (MtP E sz [.ref (am 0), .int x, .int step, .int set] (mdL E am vm)) (va_Qi (fun (r : Int32) (u : Vf) => (scL lWt vm u ∧ (r.toInt = 0 ∨ r.toInt = 1) ∧ (r.toInt = 1 ∨ ¬ mLev vm x step set) ∧ (r.toInt = 0 ∨ (1 ≤ (u 65 0).toInt ∧ (u 65 0).toInt ≤ 5 ∧ -20000 ≤ (u 64 0).toInt ∧ (u 64 0).toInt ≤ 20000))) ∧ fr [64, 65, 66] vm u) (MtB E (va_A (mdL E am vm) sz) (fun u => mdL E am u)) (va_A (mdL E am vm) sz)) 0 0 (va_A (mdL E am vm) sz) := by
  refine Met.ofW (cc := cX10_isLevelOf) (maxL := 9) (ret := (some .boolean)) (by decide) rfl ?_
  intro p e s m args below meth c s₁ B hml hv
  obtain ⟨rfl, hsz, hE, hP, hD0⟩ := hv
  subst hsz
  have hD := hD0.self (sz := s.heap.size)
  generalize hAe : va_A (mdL E am vm) s.heap.size = A at hD hE ⊢
  have hA : ∀ q : Nat, s.heap.size ≤ q → A q := fun q h => by rw [← hAe]; exact Or.inr h
  have hS : va_S A s.heap s.heap [] := va_S.rf
  have hx := B.exec
  have hb := B.bytes
  have hr := B.returns
  have hts := atoms_spec (ws := wsX10_isLevelOf) B.pre
  have hown : s.vm.findClass RX10 = some m.cls := findClass_of_methodNamed B.named
  have hlocks := B.notSynchronized
  have hK := hE.1
  have in_X10 : ∀ w ∈ u_ws RX10 TX10 79, w ∈ wsX10_isLevelOf := fun w h => List.mem_cons_of_mem _ (List.mem_append_right _ h)
  have lk0 := hts (.fieldLink RX10 276 "TidedGroundModel" "wells" "I") (List.mem_of_getElem? (i := 1) rfl)
  have lk1 := hts (.fieldLink RX10 428 "TidedGroundModel" "above" "I") (List.mem_of_getElem? (i := 2) rfl)
  have lk2 := hts (.fieldLink RX10 431 "TidedGroundModel" "below" "I") (List.mem_of_getElem? (i := 3) rfl)
  have lk3 := hts (.fieldLink RX10 434 "TidedGroundModel" "wet" "I") (List.mem_of_getElem? (i := 4) rfl)
  have n_0 : (0 : Int32).toInt = 0 := by decide
  have n_1 : (1 : Int32).toInt = 1 := by decide
  have hl := lv_entry ([.ref (am 0), .int x, .int step, .int set]) (n := 9) (Nat.le_of_ble_eq_true rfl)
  rw [lg_entry_eq]
  generalize (lg_sl ([.ref (am 0), .int x, .int step, .int set]) ++ List.replicate (9 - (lg_sl ([.ref (am 0), .int x, .int step, .int set])).length) Slot.unset).toArray = ls at hl ⊢
  have hl : lv_has ls 9 [(0, .ref (am 0)), (1, .int x), (2, .int step), (3, .int set)] := hl
  refine W_abs (fun Q hQ => ?_)
  have hH := hMI.1
  obtain ⟨hC1, hC2, hC3, hC4, hC5, hC6⟩ := id hH.2.1
  have hFz : fr [64, 65, 66] vm vm := fr.rf
  refine lv_iload_n hx hb dX10_isLevelOf_0 rfl (lv_at hl 1 rfl) ?_
  refine lv_istore (lv' := [(4, .int x), (0, .ref (am 0)), (1, .int x), (2, .int step), (3, .int set)]) hx hb dX10_isLevelOf_1 hl (by decide) rfl (fun ls hl => ?_)
  refine lv_iconst (v := 0) hx hb dX10_isLevelOf_3 (by decide) ?_
  refine lv_istore (lv' := [(5, .int 0), (4, .int x), (0, .ref (am 0)), (1, .int x), (2, .int step), (3, .int set)]) hx hb dX10_isLevelOf_4 hl (by decide) rfl (fun ls hl => ?_)
  refine lv_iconst (v := 0) hx hb dX10_isLevelOf_6 (by decide) ?_
  refine lv_istore (lv' := [(6, .int 0), (5, .int 0), (4, .int x), (0, .ref (am 0)), (1, .int x), (2, .int step), (3, .int set)]) hx hb dX10_isLevelOf_7 hl (by decide) rfl (fun ls hl => ?_)
  have K9 : ∀ (μ : Nat) (sum : Int32) (nn : Int32) (w : Int32) (H : Heap) (locs : List Loc) (ls : Array Slot), (5 - w.toInt).toNat < μ → va_P (eD E) vwCl (mdL E am vm) H → va_D A (mdL E am vm) → va_S A s.heap H locs → (0 ≤ w.toInt ∧ w.toInt ≤ (vm 16 0).toInt) → (sum.toInt = x.toInt + wS (lvF vm step) (lvP set) w.toNatClampNeg) → (nn.toInt = wN (lvP set) w.toNatClampNeg) → ((-342 * w.toInt ≤ sum.toInt - x.toInt ∧ sum.toInt - x.toInt ≤ 342 * w.toInt) ∧ (0 ≤ nn.toInt ∧ nn.toInt ≤ w.toInt)) → lv_has ls 9 [(0, .ref (am 0)), (1, .int x), (2, .int step), (3, .int set), (4, .int sum), (5, .int nn), (6, .int w)] → W p l e (headSpec wsX10_isLevelOf rm_X10_isLevelOf).room s m ([.ref (am 0), .int x, .int step, .int set] : List Value).toArray below meth c H locs 0 0 Q (F0 m 9 ls []) := by
    intro μ
    induction μ with
    | zero =>
      intro sum nn w H locs ls hμ9
      exact absurd hμ9 (Nat.not_lt_zero _)
    | succ μ ih9 =>
      intro sum nn w H locs ls hμ9 hP hD hS h9_0 h9_1 h9_2 h9_3 hl
      refine lv_iload hx hb dX10_isLevelOf_9 (lv_at hl 6 rfl) ?_
      refine lv_aload_n hx hb dX10_isLevelOf_11 rfl (lv_at hl 0 rfl) ?_
      refine va_get (D := eD E) (ci := 10) (v := .int (vm 16 0)) (C := RX10) (T := TX10) (N := 79) hx hb hts in_X10 hown hK hP 0 rfl rfl 16 (by decide) lk0 (fun _ h9 => h9) rfl dX10_isLevelOf_12 ?_
      refine lv_icmp_ge (tgt := 68) hx hb dX10_isLevelOf_15 (by decide) (fun c15 => ?_) (fun c15 => ?_)
      · have c15_ := i_le c15
        have hwe : w.toNatClampNeg = (vm 16 0).toNatClampNeg := by rw [show w = vm 16 0 from i_eqr (by omega)]
        have hS1 : sum.toInt = x.toInt + wS (lvF vm step) (lvP set) (vm 16 0).toNatClampNeg := by rw [← hwe]; exact h9_1
        have hN1 : nn.toInt = wN (lvP set) (vm 16 0).toNatClampNeg := by rw [← hwe]; exact h9_2
        refine lv_iload hx hb dX10_isLevelOf_68 (lv_at hl 5 rfl) ?_
        have K78 : ∀  (g0 : Int32) (H : Heap) (locs : List Loc) (ls : Array Slot), va_P (eD E) vwCl (mdL E am vm) H → va_D A (mdL E am vm) → va_S A s.heap H locs → ((g0.toInt = 1 ∧ 1 ≤ nn.toInt) ∨ (g0.toInt = 0 ∧ nn.toInt ≤ 0)) → lv_has ls 9 [(0, .ref (am 0)), (1, .int x), (2, .int step), (3, .int set), (4, .int sum), (5, .int nn), (6, .int w)] → W p l e (headSpec wsX10_isLevelOf rm_X10_isLevelOf).room s m ([.ref (am 0), .int x, .int step, .int set] : List Value).toArray below meth c H locs 0 0 Q (F0 m 78 ls [.int g0]) := by
          intro g0 H locs ls hP hD hS h78_0 hl
          refine lv_istore (lv' := [(6, .int g0), (0, .ref (am 0)), (1, .int x), (2, .int step), (3, .int set), (4, .int sum), (5, .int nn)]) hx hb dX10_isLevelOf_78 hl (by decide) rfl (fun ls hl => ?_)
          refine lv_iconst (v := 0) hx hb dX10_isLevelOf_80 (by decide) ?_
          refine lv_istore (lv' := [(7, .int 0), (6, .int g0), (0, .ref (am 0)), (1, .int x), (2, .int step), (3, .int set), (4, .int sum), (5, .int nn)]) hx hb dX10_isLevelOf_81 hl (by decide) rfl (fun ls hl => ?_)
          have K83 : ∀ (μ : Nat) (gd : Int32) (w2 : Int32) (H : Heap) (locs : List Loc) (ls : Array Slot), (5 - w2.toInt).toNat < μ → va_P (eD E) vwCl (mdL E am vm) H → va_D A (mdL E am vm) → va_S A s.heap H locs → (0 ≤ w2.toInt ∧ w2.toInt ≤ (vm 16 0).toInt) → ((gd.toInt = 1 ∧ 1 ≤ nn.toInt) ∨ gd.toInt = 0) → (gd.toInt = 1 ∨ ¬ mLev vm x step set) → lv_has ls 9 [(0, .ref (am 0)), (1, .int x), (2, .int step), (3, .int set), (4, .int sum), (5, .int nn), (6, .int gd), (7, .int w2)] → W p l e (headSpec wsX10_isLevelOf rm_X10_isLevelOf).room s m ([.ref (am 0), .int x, .int step, .int set] : List Value).toArray below meth c H locs 0 0 Q (F0 m 83 ls []) := by
            intro μ
            induction μ with
            | zero =>
              intro gd w2 H locs ls hμ83
              exact absurd hμ83 (Nat.not_lt_zero _)
            | succ μ ih83 =>
              intro gd w2 H locs ls hμ83 hP hD hS h83_0 h83_1 h83_2 hl
              refine lv_iload hx hb dX10_isLevelOf_83 (lv_at hl 7 rfl) ?_
              refine lv_aload_n hx hb dX10_isLevelOf_85 rfl (lv_at hl 0 rfl) ?_
              refine va_get (D := eD E) (ci := 10) (v := .int (vm 16 0)) (C := RX10) (T := TX10) (N := 79) hx hb hts in_X10 hown hK hP 0 rfl rfl 16 (by decide) lk0 (fun _ h9 => h9) rfl dX10_isLevelOf_86 ?_
              refine lv_icmp_ge (tgt := 143) hx hb dX10_isLevelOf_89 (by decide) (fun c89 => ?_) (fun c89 => ?_)
              · have c89_ := i_le c89
                refine lv_aload_n hx hb dX10_isLevelOf_143 rfl (lv_at hl 0 rfl) ?_
                refine lv_iload hx hb dX10_isLevelOf_144 (lv_at hl 4 rfl) ?_
                refine va_put (D := eD E) (ci := 10) (v := .int sum) (ty := .int) (C := RX10) (T := TX10) (N := 79) hx hb hts in_X10 tyX10 tyX10_ok nmX10 hown hK hP hD hS 0 rfl rfl 64 (by decide) lk1 (fun _ h9 => h9) rfl (by decide +kernel) rfl rfl (Nat.le_of_ble_eq_true rfl) dX10_isLevelOf_146 (fun H locs hP hD hS => ?_)
                replace hP : va_P (eD E) vwCl (mdL E am (up2 vm 64 0 sum)) H := hP
                replace hD : va_D A (mdL E am (up2 vm 64 0 sum)) := hD
                generalize hv146 : up2 vm 64 0 sum = vm_146 at hP hD
                have hFz : fr [64, 65, 66] vm vm_146 := by first | exact hFz | (rw [← hv146]; exact hFz.up (by decide))
                refine lv_aload_n hx hb dX10_isLevelOf_149 rfl (lv_at hl 0 rfl) ?_
                refine lv_iload hx hb dX10_isLevelOf_150 (lv_at hl 5 rfl) ?_
                refine va_put (D := eD E) (ci := 10) (v := .int nn) (ty := .int) (C := RX10) (T := TX10) (N := 79) hx hb hts in_X10 tyX10 tyX10_ok nmX10 hown hK hP hD hS 0 rfl rfl 65 (by decide) lk2 (fun _ h9 => h9) rfl (by decide +kernel) rfl rfl (Nat.le_of_ble_eq_true rfl) dX10_isLevelOf_152 (fun H locs hP hD hS => ?_)
                replace hP : va_P (eD E) vwCl (mdL E am (up2 vm_146 65 0 nn)) H := hP
                replace hD : va_D A (mdL E am (up2 vm_146 65 0 nn)) := hD
                generalize hv152 : up2 vm_146 65 0 nn = vm_152 at hP hD
                have hFz : fr [64, 65, 66] vm vm_152 := by first | exact hFz | (rw [← hv152]; exact hFz.up (by decide))
                refine lv_aload_n hx hb dX10_isLevelOf_155 rfl (lv_at hl 0 rfl) ?_
                refine lv_iload_n hx hb dX10_isLevelOf_156 rfl (lv_at hl 3 rfl) ?_
                refine va_put (D := eD E) (ci := 10) (v := .int set) (ty := .int) (C := RX10) (T := TX10) (N := 79) hx hb hts in_X10 tyX10 tyX10_ok nmX10 hown hK hP hD hS 0 rfl rfl 66 (by decide) lk3 (fun _ h9 => h9) rfl (by decide +kernel) rfl rfl (Nat.le_of_ble_eq_true rfl) dX10_isLevelOf_157 (fun H locs hP hD hS => ?_)
                replace hP : va_P (eD E) vwCl (mdL E am (up2 vm_152 66 0 set)) H := hP
                replace hD : va_D A (mdL E am (up2 vm_152 66 0 set)) := hD
                generalize hv157 : up2 vm_152 66 0 set = vm_157 at hP hD
                have hFz : fr [64, 65, 66] vm vm_157 := by first | exact hFz | (rw [← hv157]; exact hFz.up (by decide))
                refine lv_iload hx hb dX10_isLevelOf_160 (lv_at hl 6 rfl) ?_
                subst hQ
                exact W.zret (v := gd) hx hb hr (nar_b (by omega)) (fun t ht hW => ⟨⟨gd, (vm_157), rfl, (show (scL lWt vm vm_157 ∧ (gd.toInt = 0 ∨ gd.toInt = 1) ∧ (gd.toInt = 1 ∨ ¬ mLev vm x step set) ∧ (gd.toInt = 0 ∨ (1 ≤ (vm_157 65 0).toInt ∧ (vm_157 65 0).toInt ≤ 5 ∧ -20000 ≤ (vm_157 64 0).toInt ∧ (vm_157 64 0).toInt ≤ 20000))) ∧ fr [64, 65, 66] vm vm_157 from ⟨⟨(by rw [← hv157, ← hv152, ← hv146]; exact ((scL.rf.up (by decide)).up (by decide)).up (by decide)), by omega, h83_2, (by rw [← hv157, ← hv152, ← hv146]; show gd.toInt = 0 ∨ (1 ≤ nn.toInt ∧ nn.toInt ≤ 5 ∧ -20000 ≤ sum.toInt ∧ sum.toInt ≤ 20000); omega)⟩, hFz⟩), by rw [ht]; exact hP, hD⟩, hS.F ht⟩) hS.2.2 dX10_isLevelOf_162
              · have c89_ := i_nle c89
                refine lv_aload_n hx hb dX10_isLevelOf_92 rfl (lv_at hl 0 rfl) ?_
                refine lv_iload hx hb dX10_isLevelOf_93 (lv_at hl 7 rfl) ?_
                refine lv_iload_n hx hb dX10_isLevelOf_95 rfl (lv_at hl 2 rfl) ?_
                refine rd_V (As := [.int w2, .int step]) (rest := []) (C := RX10) (ci := 10) ⟨hx, hb, hml, hown, hts⟩ (c_X10_floorOf l E A am vm w2 step hH (by omega) (by omega) (by omega)) (cwV 2 hts gX10_isLevelOf_X10_floorOf rfl rfl rfl (by decide +kernel) ⟨Nat.le_of_ble_eq_true rfl, Nat.le_of_ble_eq_true rfl⟩) (hE.kept hS.2.1) (hP.sub (ws' := mdL E am vm) [0, 1, 2, 3, 4, 5, 6, 7, 8, 9, 10, 11, 12, 13, 14, 15, 16, 17, 18, 19, 20, 21, 22, 23, 24, 25, 26, 27, 28, 29, 30, 31, 32, 33, 34, 35, 36, 37, 38, 39, 40, 41, 42, 43, 44, 45] rfl) rfl rfl rfl rfl hl.1 rfl (Nat.le_of_ble_eq_true rfl) dX10_isLevelOf_96 ⟨Nat.zero_le _, Nat.zero_le _⟩ (fun r96 h96 => ?_)
                have hf96 : lvF vm step w2.toNatClampNeg = r96.toInt := by rw [lvF_e (by omega), h96.1]
                have hw2k : w2.toNatClampNeg < (vm 16 0).toNatClampNeg := by have a1 := i_nat (x := w2) (by omega); have a2 := i_nat (x := vm 16 0) (by omega); omega
                refine lv_iload hx hb dX10_isLevelOf_99 (lv_at hl 5 rfl) ?_
                refine lv_imul hx hb dX10_isLevelOf_101 ?_
                refine lv_topi (fun x101 e101 => ?_)
                have t101 := i_mul5 e101 (by omega) (by omega)
                refine lv_iload hx hb dX10_isLevelOf_102 (lv_at hl 4 rfl) ?_
                have K112 : ∀  (lw : Int32) (H : Heap) (locs : List Loc) (ls : Array Slot), va_P (eD E) vwCl (mdL E am vm) H → va_D A (mdL E am vm) → va_S A s.heap H locs → ((lw.toInt = 1 ∧ r96.toInt * nn.toInt < sum.toInt) ∨ (lw.toInt = 0 ∧ sum.toInt ≤ r96.toInt * nn.toInt)) → lv_has ls 9 [(0, .ref (am 0)), (1, .int x), (2, .int step), (3, .int set), (4, .int sum), (5, .int nn), (6, .int gd), (7, .int w2)] → W p l e (headSpec wsX10_isLevelOf rm_X10_isLevelOf).room s m ([.ref (am 0), .int x, .int step, .int set] : List Value).toArray below meth c H locs 0 0 Q (F0 m 112 ls [.int lw]) := by
                  intro lw H locs ls hP hD hS h112_0 hl
                  refine lv_istore (lv' := [(8, .int lw), (0, .ref (am 0)), (1, .int x), (2, .int step), (3, .int set), (4, .int sum), (5, .int nn), (6, .int gd), (7, .int w2)]) hx hb dX10_isLevelOf_112 hl (by decide) rfl (fun ls hl => ?_)
                  refine lv_iload hx hb dX10_isLevelOf_114 (lv_at hl 7 rfl) ?_
                  have K135 : ∀  (g2 : Int32) (H : Heap) (locs : List Loc) (ls : Array Slot), va_P (eD E) vwCl (mdL E am vm) H → va_D A (mdL E am vm) → va_S A s.heap H locs → ((g2.toInt = 1 ∧ gd.toInt = 1) ∨ g2.toInt = 0) → (g2.toInt = 1 ∨ ¬ mLev vm x step set) → lv_has ls 9 [(0, .ref (am 0)), (1, .int x), (2, .int step), (3, .int set), (4, .int sum), (5, .int nn), (6, .int gd), (7, .int w2), (8, .int lw)] → W p l e (headSpec wsX10_isLevelOf rm_X10_isLevelOf).room s m ([.ref (am 0), .int x, .int step, .int set] : List Value).toArray below meth c H locs 0 0 Q (F0 m 135 ls [.int g2]) := by
                    intro g2 H locs ls hP hD hS h135_0 h135_1 hl
                    refine lv_istore (lv' := [(6, .int g2), (0, .ref (am 0)), (1, .int x), (2, .int step), (3, .int set), (4, .int sum), (5, .int nn), (7, .int w2), (8, .int lw)]) hx hb dX10_isLevelOf_135 hl (by decide) rfl (fun ls hl => ?_)
                    obtain ⟨x137, e137⟩ : ∃ y : Int32, y = w2 + 1 := ⟨_, rfl⟩
                    refine lv_iinc (v := x137) (lv' := [(7, .int x137), (6, .int g2), (0, .ref (am 0)), (1, .int x), (2, .int step), (3, .int set), (4, .int sum), (5, .int nn), (8, .int lw)]) hx hb dX10_isLevelOf_137 hl (k := 7) rfl (by rw [e137]; rfl) (by decide) rfl (fun ls hl => ?_)
                    have t137 := i_add e137 (by omega)
                    refine lv_goto (tgt := 83) hx hb dX10_isLevelOf_140 (by decide) ?_
                    exact ih83 g2 x137 _ _ ls (by omega) hP hD hS (by omega) (by omega) h135_1 (lv_sub hl [2, 3, 4, 5, 6, 7, 1, 0] rfl)
                  refine lv_if_eq (tgt := 134) hx hb dX10_isLevelOf_116 (by decide) (fun c116 => ?_) (fun c116 => ?_)
                  · have c116_ := i_eq c116
                    refine lv_iconst (v := 0) hx hb dX10_isLevelOf_134 (by decide) ?_
                    exact K135 0 _ _ ls hP hD hS (by omega) (by first | exact Or.inl (by omega) | exact Or.inr hnl | exact h83_2.elim (fun q => absurd q (by omega)) Or.inr) (lv_sub hl [1, 2, 3, 4, 5, 6, 7, 8, 0] rfl)
                  · have c116_ := i_ne c116
                    refine lv_iload hx hb dX10_isLevelOf_119 (lv_at hl 0 rfl) ?_
                    refine lv_iload_n hx hb dX10_isLevelOf_121 rfl (lv_at hl 4 rfl) ?_
                    refine lv_iload hx hb dX10_isLevelOf_122 (lv_at hl 8 rfl) ?_
                    refine rd_S (As := [.int set, .int w2]) (rest := [.int lw]) ⟨hx, hb, hml, hown, hts⟩ (c_X10_has_2 l E A set w2) (va_cwS 2 hts gX10_isLevelOf_X10_has rfl rfl rfl (by decide +kernel) ⟨Nat.le_of_ble_eq_true rfl, Nat.le_of_ble_eq_true rfl⟩) (hE.kept hS.2.1) (hP.sub (ws' := []) [] rfl) rfl hl.1 rfl (Nat.le_of_ble_eq_true rfl) dX10_isLevelOf_124 ⟨Nat.zero_le _, Nat.zero_le _⟩ (fun r124 h124 => ?_)
                    have hf124 := h124.2
                    replace h124 := h124.1
                    have hp124 : (r124.toInt = 1 ∧ lvP set w2.toNatClampNeg = true) ∨ (r124.toInt = 0 ∧ lvP set w2.toNatClampNeg = false) := h124.imp (fun q => ⟨q.1, lvP_t q.2 (by omega)⟩) (fun q => ⟨q.1, lvP_f q.2 (by omega)⟩)
                    refine lv_icmp_ne (tgt := 134) hx hb dX10_isLevelOf_127 (by decide) (fun c127 => ?_) (fun c127 => ?_)
                    · have c127_ := i_ne c127
                      have hnl : ¬ mLev vm x step set := fun q => lev_no q hw2k hf96 hN1 hS1 hp124 h112_0 c127_
                      refine lv_iconst (v := 0) hx hb dX10_isLevelOf_134 (by decide) ?_
                      exact K135 0 _ _ ls hP hD hS (by omega) (by first | exact Or.inl (by omega) | exact Or.inr hnl | exact h83_2.elim (fun q => absurd q (by omega)) Or.inr) (lv_sub hl [1, 2, 3, 4, 5, 6, 7, 8, 0] rfl)
                    · have c127_ := i_eq c127
                      refine lv_iconst (v := 1) hx hb dX10_isLevelOf_130 (by decide) ?_
                      refine lv_goto (tgt := 135) hx hb dX10_isLevelOf_131 (by decide) ?_
                      exact K135 1 _ _ ls hP hD hS (by omega) (by first | exact Or.inl (by omega) | exact Or.inr hnl | exact h83_2.elim (fun q => absurd q (by omega)) Or.inr) (lv_sub hl [1, 2, 3, 4, 5, 6, 7, 8, 0] rfl)
                refine lv_icmp_ge (tgt := 111) hx hb dX10_isLevelOf_104 (by decide) (fun c104 => ?_) (fun c104 => ?_)
                · have c104_ := i_le c104
                  refine lv_iconst (v := 0) hx hb dX10_isLevelOf_111 (by decide) ?_
                  exact K112 0 _ _ ls hP hD hS (Or.inr ⟨by decide, by omega⟩) (lv_sub hl [0, 1, 2, 3, 4, 5, 6, 7] rfl)
                · have c104_ := i_nle c104
                  refine lv_iconst (v := 1) hx hb dX10_isLevelOf_107 (by decide) ?_
                  refine lv_goto (tgt := 112) hx hb dX10_isLevelOf_108 (by decide) ?_
                  exact K112 1 _ _ ls hP hD hS (Or.inl ⟨by decide, by omega⟩) (lv_sub hl [0, 1, 2, 3, 4, 5, 6, 7] rfl)
          exact K83 _ g0 0 _ _ ls (Nat.lt_succ_self _) hP hD hS (by omega) (by omega) (h78_0.elim (fun q => Or.inl q.1) (fun q => Or.inr (fun z => by have := z.1; omega))) (lv_sub hl [2, 3, 4, 5, 6, 7, 1, 0] rfl)
        refine lv_if_le (tgt := 77) hx hb dX10_isLevelOf_70 (by decide) (fun c70 => ?_) (fun c70 => ?_)
        · have c70_ := i_le c70
          refine lv_iconst (v := 0) hx hb dX10_isLevelOf_77 (by decide) ?_
          exact K78 0 _ _ ls hP hD hS (Or.inr ⟨by decide, by omega⟩) (lv_sub hl [0, 1, 2, 3, 4, 5, 6] rfl)
        · have c70_ := i_nle c70
          refine lv_iconst (v := 1) hx hb dX10_isLevelOf_73 (by decide) ?_
          refine lv_goto (tgt := 78) hx hb dX10_isLevelOf_74 (by decide) ?_
          exact K78 1 _ _ ls hP hD hS (Or.inl ⟨by decide, by omega⟩) (lv_sub hl [0, 1, 2, 3, 4, 5, 6] rfl)
      · have c15_ := i_nle c15
        refine lv_iload hx hb dX10_isLevelOf_18 (lv_at hl 4 rfl) ?_
        refine lv_iload_n hx hb dX10_isLevelOf_20 rfl (lv_at hl 3 rfl) ?_
        refine lv_iload hx hb dX10_isLevelOf_21 (lv_at hl 6 rfl) ?_
        refine rd_S (As := [.int set, .int w]) (rest := [.int sum]) ⟨hx, hb, hml, hown, hts⟩ (c_X10_has_2 l E A set w) (va_cwS 2 hts gX10_isLevelOf_X10_has rfl rfl rfl (by decide +kernel) ⟨Nat.le_of_ble_eq_true rfl, Nat.le_of_ble_eq_true rfl⟩) (hE.kept hS.2.1) (hP.sub (ws' := []) [] rfl) rfl hl.1 rfl (Nat.le_of_ble_eq_true rfl) dX10_isLevelOf_23 ⟨Nat.zero_le _, Nat.zero_le _⟩ (fun r23 h23 => ?_)
        have hf23 := h23.2
        replace h23 := h23.1
        have hp23 : (r23.toInt = 1 ∧ lvP set w.toNatClampNeg = true) ∨ (r23.toInt = 0 ∧ lvP set w.toNatClampNeg = false) := h23.imp (fun q => ⟨q.1, lvP_t q.2 (by omega)⟩) (fun q => ⟨q.1, lvP_f q.2 (by omega)⟩)
        have K40 : ∀  (ad : Int32) (H : Heap) (locs : List Loc) (ls : Array Slot), va_P (eD E) vwCl (mdL E am vm) H → va_D A (mdL E am vm) → va_S A s.heap H locs → (ad.toInt = (if lvP set w.toNatClampNeg = true then lvF vm step w.toNatClampNeg else 0)) → (-342 ≤ ad.toInt ∧ ad.toInt ≤ 342) → lv_has ls 9 [(0, .ref (am 0)), (1, .int x), (2, .int step), (3, .int set), (4, .int sum), (5, .int nn), (6, .int w)] → W p l e (headSpec wsX10_isLevelOf rm_X10_isLevelOf).room s m ([.ref (am 0), .int x, .int step, .int set] : List Value).toArray below meth c H locs 0 0 Q (F0 m 40 ls [.int ad, .int sum]) := by
          intro ad H locs ls hP hD hS h40_0 h40_1 hl
          refine lv_iadd hx hb dX10_isLevelOf_40 ?_
          refine lv_topi (fun x40 e40 => ?_)
          have t40 := i_add e40 (by omega)
          refine lv_istore (lv' := [(4, .int x40), (0, .ref (am 0)), (1, .int x), (2, .int step), (3, .int set), (5, .int nn), (6, .int w)]) hx hb dX10_isLevelOf_41 hl (by decide) rfl (fun ls hl => ?_)
          refine lv_iload hx hb dX10_isLevelOf_43 (lv_at hl 5 rfl) ?_
          refine lv_iload_n hx hb dX10_isLevelOf_45 rfl (lv_at hl 4 rfl) ?_
          refine lv_iload hx hb dX10_isLevelOf_46 (lv_at hl 6 rfl) ?_
          refine rd_S (As := [.int set, .int w]) (rest := [.int nn]) ⟨hx, hb, hml, hown, hts⟩ (c_X10_has_2 l E A set w) (va_cwS 2 hts gX10_isLevelOf_X10_has rfl rfl rfl (by decide +kernel) ⟨Nat.le_of_ble_eq_true rfl, Nat.le_of_ble_eq_true rfl⟩) (hE.kept hS.2.1) (hP.sub (ws' := []) [] rfl) rfl hl.1 rfl (Nat.le_of_ble_eq_true rfl) dX10_isLevelOf_48 ⟨Nat.zero_le _, Nat.zero_le _⟩ (fun r48 h48 => ?_)
          have hf48 := h48.2
          replace h48 := h48.1
          have hp48 : (r48.toInt = 1 ∧ lvP set w.toNatClampNeg = true) ∨ (r48.toInt = 0 ∧ lvP set w.toNatClampNeg = false) := h48.imp (fun q => ⟨q.1, lvP_t q.2 (by omega)⟩) (fun q => ⟨q.1, lvP_f q.2 (by omega)⟩)
          have K59 : ∀  (a1 : Int32) (H : Heap) (locs : List Loc) (ls : Array Slot), va_P (eD E) vwCl (mdL E am vm) H → va_D A (mdL E am vm) → va_S A s.heap H locs → (a1.toInt = (if lvP set w.toNatClampNeg = true then 1 else 0)) → (0 ≤ a1.toInt ∧ a1.toInt ≤ 1) → lv_has ls 9 [(0, .ref (am 0)), (1, .int x), (2, .int step), (3, .int set), (4, .int x40), (5, .int nn), (6, .int w)] → W p l e (headSpec wsX10_isLevelOf rm_X10_isLevelOf).room s m ([.ref (am 0), .int x, .int step, .int set] : List Value).toArray below meth c H locs 0 0 Q (F0 m 59 ls [.int a1, .int nn]) := by
            intro a1 H locs ls hP hD hS h59_0 h59_1 hl
            refine lv_iadd hx hb dX10_isLevelOf_59 ?_
            refine lv_topi (fun x59 e59 => ?_)
            have t59 := i_add e59 (by omega)
            refine lv_istore (lv' := [(5, .int x59), (0, .ref (am 0)), (1, .int x), (2, .int step), (3, .int set), (4, .int x40), (6, .int w)]) hx hb dX10_isLevelOf_60 hl (by decide) rfl (fun ls hl => ?_)
            obtain ⟨x62, e62⟩ : ∃ y : Int32, y = w + 1 := ⟨_, rfl⟩
            refine lv_iinc (v := x62) (lv' := [(6, .int x62), (5, .int x59), (0, .ref (am 0)), (1, .int x), (2, .int step), (3, .int set), (4, .int x40)]) hx hb dX10_isLevelOf_62 hl (k := 6) rfl (by rw [e62]; rfl) (by decide) rfl (fun ls hl => ?_)
            have t62 := i_add e62 (by omega)
            have hsS : x40.toInt = x.toInt + wS (lvF vm step) (lvP set) x62.toNatClampNeg := by rw [i_nat1 (x := w) (by omega) t62, wS_s, ← h40_0]; omega
            have hsN : x59.toInt = wN (lvP set) x62.toNatClampNeg := by rw [i_nat1 (x := w) (by omega) t62, wN_s, ← h59_0]; omega
            refine lv_goto (tgt := 9) hx hb dX10_isLevelOf_65 (by decide) ?_
            exact ih9 x40 x59 x62 _ _ ls (by omega) hP hD hS (by omega) hsS hsN (by omega) (lv_sub hl [2, 3, 4, 5, 6, 1, 0] rfl)
          refine lv_if_eq (tgt := 58) hx hb dX10_isLevelOf_51 (by decide) (fun c51 => ?_) (fun c51 => ?_)
          · have c51_ := i_eq c51
            replace h48 := or_n h48 c51_
            have hpw : lvP set w.toNatClampNeg = false := hp48.elim (fun q => absurd q.1 (by omega)) (fun q => q.2)
            refine lv_iconst (v := 0) hx hb dX10_isLevelOf_58 (by decide) ?_
            exact K59 0 _ _ ls hP hD hS (by first | (rw [if_neg (by rw [hpw]; decide)]; decide) | (rw [if_pos hpw]; decide)) (by omega) (lv_sub hl [1, 2, 3, 4, 0, 5, 6] rfl)
          · have c51_ := i_ne c51
            replace h48 := or_y h48 c51_
            clear c51_
            have hpw : lvP set w.toNatClampNeg = true := hp48.elim (fun q => q.2) (fun q => absurd q.1 (by omega))
            refine lv_iconst (v := 1) hx hb dX10_isLevelOf_54 (by decide) ?_
            refine lv_goto (tgt := 59) hx hb dX10_isLevelOf_55 (by decide) ?_
            exact K59 1 _ _ ls hP hD hS (by first | (rw [if_neg (by rw [hpw]; decide)]; decide) | (rw [if_pos hpw]; decide)) (by omega) (lv_sub hl [1, 2, 3, 4, 0, 5, 6] rfl)
        refine lv_if_eq (tgt := 39) hx hb dX10_isLevelOf_26 (by decide) (fun c26 => ?_) (fun c26 => ?_)
        · have c26_ := i_eq c26
          replace h23 := or_n h23 c26_
          have hpw : lvP set w.toNatClampNeg = false := hp23.elim (fun q => absurd q.1 (by omega)) (fun q => q.2)
          refine lv_iconst (v := 0) hx hb dX10_isLevelOf_39 (by decide) ?_
          exact K40 0 _ _ ls hP hD hS (by first | (rw [if_neg (by rw [hpw]; decide)]; decide) | (rw [if_pos hpw, lvF_e (by omega), h33.1])) (by omega) (lv_sub hl [0, 1, 2, 3, 4, 5, 6] rfl)
        · have c26_ := i_ne c26
          replace h23 := or_y h23 c26_
          clear c26_
          have hpw : lvP set w.toNatClampNeg = true := hp23.elim (fun q => q.2) (fun q => absurd q.1 (by omega))
          refine lv_aload_n hx hb dX10_isLevelOf_29 rfl (lv_at hl 0 rfl) ?_
          refine lv_iload hx hb dX10_isLevelOf_30 (lv_at hl 6 rfl) ?_
          refine lv_iload_n hx hb dX10_isLevelOf_32 rfl (lv_at hl 2 rfl) ?_
          refine rd_V (As := [.int w, .int step]) (rest := [.int sum]) (C := RX10) (ci := 10) ⟨hx, hb, hml, hown, hts⟩ (c_X10_floorOf l E A am vm w step hH (by omega) (by omega) (by omega)) (cwV 2 hts gX10_isLevelOf_X10_floorOf rfl rfl rfl (by decide +kernel) ⟨Nat.le_of_ble_eq_true rfl, Nat.le_of_ble_eq_true rfl⟩) (hE.kept hS.2.1) (hP.sub (ws' := mdL E am vm) [0, 1, 2, 3, 4, 5, 6, 7, 8, 9, 10, 11, 12, 13, 14, 15, 16, 17, 18, 19, 20, 21, 22, 23, 24, 25, 26, 27, 28, 29, 30, 31, 32, 33, 34, 35, 36, 37, 38, 39, 40, 41, 42, 43, 44, 45] rfl) rfl rfl rfl rfl hl.1 rfl (Nat.le_of_ble_eq_true rfl) dX10_isLevelOf_33 ⟨Nat.zero_le _, Nat.zero_le _⟩ (fun r33 h33 => ?_)
          refine lv_goto (tgt := 40) hx hb dX10_isLevelOf_36 (by decide) ?_
          exact K40 r33 _ _ ls hP hD hS (by first | (rw [if_neg (by rw [hpw]; decide)]; decide) | (rw [if_pos hpw, lvF_e (by omega), h33.1])) (by omega) (lv_sub hl [0, 1, 2, 3, 4, 5, 6] rfl)
  exact K9 _ x 0 0 _ _ ls (Nat.lt_succ_self _) hP hD hS (by omega) (by rw [tn0]; exact (Int.add_zero _).symm) (by rw [tn0]; exact (by decide : (0 : Int32).toInt = 0)) (by omega) (lv_sub hl [3, 4, 5, 6, 2, 1, 0] rfl)
def rm_X10_findWater : Room := { frames := 5, cells := 0, slots := 0, locals := 119 }
set_option maxHeartbeats 4000000 in
set_option maxRecDepth 100000 in
theorem c_X10_findWater (l : Launch) (E : Ev) (sz : Nat) (am : Nat → Nat) (vm : Vf) (x : Int32) (step : Int32) (hMI : MdI vm) (hw : 1 ≤ (vm 0 0).toInt) (hwl : 1 ≤ (vm 16 0).toInt) (hx : 0 ≤ x.toInt ∧ x.toInt ≤ 9999) (hstep : 0 ≤ step.toInt ∧ step.toInt ≤ 900000) : Met l yX10_findWater wsX10_findWater rm_X10_findWater (MtP E sz [.ref (am 0), .int x, .int step] (mdL E am vm)) (va_Qv (fun (u : Vf) => (MdI u) ∧ fr [64, 65, 66] vm u) (MtB E (va_A (mdL E am vm) sz) (fun u => mdL E am u)) (va_A (mdL E am vm) sz)) 0 0 (va_A (mdL E am vm) sz) := by
  refine Met.ofW (cc := cX10_findWater) (maxL := 5) (ret := none) (by decide) rfl ?_
  intro p e s m args below meth c s₁ B hml hv
  obtain ⟨rfl, hsz, hE, hP, hD0⟩ := hv
  subst hsz
  have hD := hD0.self (sz := s.heap.size)
  generalize hAe : va_A (mdL E am vm) s.heap.size = A at hD hE ⊢
  have hA : ∀ q : Nat, s.heap.size ≤ q → A q := fun q h => by rw [← hAe]; exact Or.inr h
  have hS : va_S A s.heap s.heap [] := va_S.rf
  have hx := B.exec
  have hb := B.bytes
  have hr := B.returns
  have hts := atoms_spec (ws := wsX10_findWater) B.pre
  have hown : s.vm.findClass RX10 = some m.cls := findClass_of_methodNamed B.named
  have hlocks := B.notSynchronized
  have hK := hE.1
  have in_X10 : ∀ w ∈ u_ws RX10 TX10 79, w ∈ wsX10_findWater := fun w h => List.mem_cons_of_mem _ (List.mem_append_right _ h)
  have lk0 := hts (.fieldLink RX10 428 "TidedGroundModel" "above" "I") (List.mem_of_getElem? (i := 1) rfl)
  have lk1 := hts (.fieldLink RX10 431 "TidedGroundModel" "below" "I") (List.mem_of_getElem? (i := 3) rfl)
  have lk2 := hts (.fieldLink RX10 276 "TidedGroundModel" "wells" "I") (List.mem_of_getElem? (i := 2) rfl)
  have lk3 := hts (.fieldLink RX10 434 "TidedGroundModel" "wet" "I") (List.mem_of_getElem? (i := 4) rfl)
  have n_0 : (0 : Int32).toInt = 0 := by decide
  have n_1 : (1 : Int32).toInt = 1 := by decide
  have hl := lv_entry ([.ref (am 0), .int x, .int step]) (n := 5) (Nat.le_of_ble_eq_true rfl)
  rw [lg_entry_eq]
  generalize (lg_sl ([.ref (am 0), .int x, .int step]) ++ List.replicate (5 - (lg_sl ([.ref (am 0), .int x, .int step])).length) Slot.unset).toArray = ls at hl ⊢
  have hl : lv_has ls 5 [(0, .ref (am 0)), (1, .int x), (2, .int step)] := hl
  refine W_abs (fun Q hQ => ?_)
  have hH := hMI.1
  obtain ⟨hC1, hC2, hC3, hC4, hC5, hC6⟩ := id hH.2.1
  obtain ⟨s0, hs0, hs1⟩ : ∃ s : Int32, (1 ≤ s.toInt ∧ s.toInt ≤ 31) ∧ (0 < x.toInt → mLev vm x step s) := (Decidable.em (0 < x.toInt)).elim (fun q => (lev_ex (v := vm) (x := x) (t := step) q hwl hC4.2).elim (fun s hs => ⟨s, hs.1, fun _ => hs.2⟩)) (fun q => ⟨1, by decide, fun z => absurd z q⟩)
  have hFz : fr [64, 65, 66] vm vm := fr.rf
  refine lv_iconst (v := 1) hx hb dX10_findWater_0 (by decide) ?_
  refine lv_istore_n (lv' := [(3, .int 1), (0, .ref (am 0)), (1, .int x), (2, .int step)]) hx hb dX10_findWater_1 rfl hl (by decide) rfl (fun ls hl => ?_)
  have K2 : ∀ (μ : Nat) (st : Int32) (vk : Vf) (H : Heap) (locs : List Loc) (ls : Array Slot), (31 - st.toInt).toNat < μ → va_P (eD E) vwCl (mdL E am vk) H → va_D A (mdL E am vk) → va_S A s.heap H locs → (1 ≤ st.toInt ∧ st.toInt ≤ 31) → (scL lWt vm vk) → ((x.toInt = 0 ∧ st.toInt = 1) ∨ (1 ≤ x.toInt ∧ st.toInt ≤ s0.toInt)) → (fr [64, 65, 66] vm vk) → lv_has ls 5 [(0, .ref (am 0)), (1, .int x), (2, .int step), (3, .int st)] → W p l e (headSpec wsX10_findWater rm_X10_findWater).room s m ([.ref (am 0), .int x, .int step] : List Value).toArray below meth c H locs 0 0 Q (F0 m 2 ls []) := by
    intro μ
    induction μ with
    | zero =>
      intro st vk H locs ls hμ2
      exact absurd hμ2 (Nat.not_lt_zero _)
    | succ μ ih2 =>
      intro st vk H locs ls hμ2 hP hD hS h2_0 h2_1 h2_2 h2_3 hl
      have hsl := h2_1
      have hMIv : MdI vk := hMI.on (hsl.mem (by decide))
      have hH := hMIv.1
      have hq16 : (vk 16 0).toInt = (vm 16 0).toInt := by rw [hsl 16 (by decide)]
      have hq0 : (vk 0 0).toInt = (vm 0 0).toInt := by rw [hsl 0 (by decide)]
      have hsl0k := hsl
      have hFz := h2_3
      refine lv_iload_n hx hb dX10_findWater_2 rfl (lv_at hl 1 rfl) ?_
      have K22 : ∀  (vl : Vf) (H : Heap) (locs : List Loc) (ls : Array Slot), va_P (eD E) vwCl (mdL E am vl) H → va_D A (mdL E am vl) → va_S A s.heap H locs → (scL lWt vm vl) → (x.toInt = 0 ∨ ((1 ≤ (vl 65 0).toInt ∧ (vl 65 0).toInt ≤ 5) ∧ (-20000 ≤ (vl 64 0).toInt ∧ (vl 64 0).toInt ≤ 20000))) → (fr [64, 65, 66] vm vl) → lv_has ls 5 [(0, .ref (am 0)), (1, .int x), (2, .int step), (3, .int st)] → W p l e (headSpec wsX10_findWater rm_X10_findWater).room s m ([.ref (am 0), .int x, .int step] : List Value).toArray below meth c H locs 0 0 Q (F0 m 22 ls []) := by
        intro vl H locs ls hP hD hS h22_0 h22_1 h22_2 hl
        have hsl := h22_0
        have hMIv : MdI vl := hMI.on (hsl.mem (by decide))
        have hH := hMIv.1
        have hq16 : (vl 16 0).toInt = (vm 16 0).toInt := by rw [hsl 16 (by decide)]
        have hq0 : (vl 0 0).toInt = (vm 0 0).toInt := by rw [hsl 0 (by decide)]
        have hFz := h22_2
        refine lv_iload_n hx hb dX10_findWater_22 rfl (lv_at hl 1 rfl) ?_
        have K96 : ∀  (vq : Vf) (H : Heap) (locs : List Loc) (ls : Array Slot), va_P (eD E) vwCl (mdL E am vq) H → va_D A (mdL E am vq) → va_S A s.heap H locs → (scL lWt vm vq) → ((1 ≤ (vq 65 0).toInt ∧ (vq 65 0).toInt ≤ 5) ∧ (-20000 ≤ (vq 64 0).toInt ∧ (vq 64 0).toInt ≤ 20000)) → (fr [64, 65, 66] vm vq) → lv_has ls 5 [(0, .ref (am 0)), (1, .int x), (2, .int step), (3, .int st)] → W p l e (headSpec wsX10_findWater rm_X10_findWater).room s m ([.ref (am 0), .int x, .int step] : List Value).toArray below meth c H locs 0 0 Q (F0 m 96 ls []) := by
          intro vq H locs ls hP hD hS h96_0 h96_1 h96_2 hl
          have hsl := h96_0
          have hFz := h96_2
          refine lv_aload_n hx hb dX10_findWater_96 rfl (lv_at hl 0 rfl) ?_
          refine va_get (D := eD E) (ci := 10) (v := .int (vq 64 0)) (C := RX10) (T := TX10) (N := 79) hx hb hts in_X10 hown hK hP 0 rfl rfl 64 (by decide) lk0 (fun _ h9 => h9) rfl dX10_findWater_97 ?_
          refine lv_aload_n hx hb dX10_findWater_100 rfl (lv_at hl 0 rfl) ?_
          refine va_get (D := eD E) (ci := 10) (v := .int (vq 65 0)) (C := RX10) (T := TX10) (N := 79) hx hb hts in_X10 hown hK hP 0 rfl rfl 65 (by decide) lk1 (fun _ h9 => h9) rfl dX10_findWater_101 ?_
          refine rd_S (As := [.int (vq 64 0), .int (vq 65 0)]) (rest := []) ⟨hx, hb, hml, hown, hts⟩ (c_X10_divisor l E A (vq 64 0) (vq 65 0) (by omega) (by omega)) (va_cwS 2 hts gX10_findWater_X10_divisor rfl rfl rfl (by decide +kernel) ⟨Nat.le_of_ble_eq_true rfl, Nat.le_of_ble_eq_true rfl⟩) (hE.kept hS.2.1) (hP.sub (ws' := []) [] rfl) rfl hl.1 rfl (Nat.le_of_ble_eq_true rfl) dX10_findWater_104 ⟨Nat.zero_le _, Nat.zero_le _⟩ (fun r104 h104 => ?_)
          have g104 := gcd_le' (a := (vq 64 0).toInt) (b := (vq 65 0).toInt) (by omega)
          refine lv_istore (lv' := [(4, .int r104), (0, .ref (am 0)), (1, .int x), (2, .int step), (3, .int st)]) hx hb dX10_findWater_107 hl (by decide) rfl (fun ls hl => ?_)
          refine lv_aload_n hx hb dX10_findWater_109 rfl (lv_at hl 1 rfl) ?_
          refine lv_dup hx hb dX10_findWater_110 rfl ?_
          refine va_get (D := eD E) (ci := 10) (v := .int (vq 64 0)) (C := RX10) (T := TX10) (N := 79) hx hb hts in_X10 hown hK hP 0 rfl rfl 64 (by decide) lk0 (fun _ h9 => h9) rfl dX10_findWater_111 ?_
          refine lv_iload hx hb dX10_findWater_114 (lv_at hl 0 rfl) ?_
          refine lv_idiv hx hb dX10_findWater_116 (i_ne0 (by omega)) ?_
          refine lv_topi (fun x116 e116 => ?_)
          refine va_put (D := eD E) (ci := 10) (v := .int x116) (ty := .int) (C := RX10) (T := TX10) (N := 79) hx hb hts in_X10 tyX10 tyX10_ok nmX10 hown hK hP hD hS 0 rfl rfl 64 (by decide) lk0 (fun _ h9 => h9) rfl (by decide +kernel) rfl rfl (Nat.le_of_ble_eq_true rfl) dX10_findWater_117 (fun H locs hP hD hS => ?_)
          replace hP : va_P (eD E) vwCl (mdL E am (up2 vq 64 0 x116)) H := hP
          replace hD : va_D A (mdL E am (up2 vq 64 0 x116)) := hD
          generalize hv117 : up2 vq 64 0 x116 = vm_117 at hP hD
          have hFz : fr [64, 65, 66] vm vm_117 := by first | exact hFz | (rw [← hv117]; exact hFz.up (by decide))
          have hsl : scL lWt vm vm_117 := by rw [← hv117]; exact hsl.up (by decide)
          refine lv_aload_n hx hb dX10_findWater_120 rfl (lv_at hl 1 rfl) ?_
          refine lv_dup hx hb dX10_findWater_121 rfl ?_
          refine va_get (D := eD E) (ci := 10) (v := .int (vm_117 65 0)) (C := RX10) (T := TX10) (N := 79) hx hb hts in_X10 hown hK hP 0 rfl rfl 65 (by decide) lk1 (fun _ h9 => h9) rfl dX10_findWater_122 ?_
          refine lv_iload hx hb dX10_findWater_125 (lv_at hl 0 rfl) ?_
          refine lv_idiv hx hb dX10_findWater_127 (i_ne0 (by omega)) ?_
          refine lv_topi (fun x127 e127 => ?_)
          refine va_put (D := eD E) (ci := 10) (v := .int x127) (ty := .int) (C := RX10) (T := TX10) (N := 79) hx hb hts in_X10 tyX10 tyX10_ok nmX10 hown hK hP hD hS 0 rfl rfl 65 (by decide) lk1 (fun _ h9 => h9) rfl (by decide +kernel) rfl rfl (Nat.le_of_ble_eq_true rfl) dX10_findWater_128 (fun H locs hP hD hS => ?_)
          replace hP : va_P (eD E) vwCl (mdL E am (up2 vm_117 65 0 x127)) H := hP
          replace hD : va_D A (mdL E am (up2 vm_117 65 0 x127)) := hD
          generalize hv128 : up2 vm_117 65 0 x127 = vm_128 at hP hD
          have hFz : fr [64, 65, 66] vm vm_128 := by first | exact hFz | (rw [← hv128]; exact hFz.up (by decide))
          have hsl : scL lWt vm vm_128 := by rw [← hv128]; exact hsl.up (by decide)
          subst hQ
          exact W.vret hx hb hr (fun t ht hW => ⟨⟨(vm_128), rfl, (show (MdI vm_128) ∧ fr [64, 65, 66] vm vm_128 from ⟨hMI.on (hsl.mem (by decide)), hFz⟩), by rw [ht]; exact hP, hD⟩, hS.F ht⟩) hS.2.2 dX10_findWater_131
        refine lv_if_ne (tgt := 96) hx hb dX10_findWater_23 (by decide) (fun c23 => ?_) (fun c23 => ?_)
        · have c23_ := i_ne c23
          exact K96  vl _ _ ls hP hD hS hsl (by omega) hFz (lv_sub hl [0, 1, 2, 3] rfl)
        · have c23_ := i_eq c23
          refine lv_aload_n hx hb dX10_findWater_26 rfl (lv_at hl 0 rfl) ?_
          refine lv_aload_n hx hb dX10_findWater_27 rfl (lv_at hl 0 rfl) ?_
          refine lv_iconst (v := 0) hx hb dX10_findWater_28 (by decide) ?_
          refine lv_iload_n hx hb dX10_findWater_29 rfl (lv_at hl 2 rfl) ?_
          refine rd_V (As := [.int 0, .int step]) (rest := [.ref (am 0)]) (C := RX10) (ci := 10) ⟨hx, hb, hml, hown, hts⟩ (c_X10_floorOf l E A am vl 0 step hH (by omega) (by omega) (by omega)) (cwV 2 hts gX10_findWater_X10_floorOf rfl rfl rfl (by decide +kernel) ⟨Nat.le_of_ble_eq_true rfl, Nat.le_of_ble_eq_true rfl⟩) (hE.kept hS.2.1) (hP.sub (ws' := mdL E am vl) [0, 1, 2, 3, 4, 5, 6, 7, 8, 9, 10, 11, 12, 13, 14, 15, 16, 17, 18, 19, 20, 21, 22, 23, 24, 25, 26, 27, 28, 29, 30, 31, 32, 33, 34, 35, 36, 37, 38, 39, 40, 41, 42, 43, 44, 45] rfl) rfl rfl rfl rfl hl.1 rfl (Nat.le_of_ble_eq_true rfl) dX10_findWater_30 ⟨Nat.zero_le _, Nat.zero_le _⟩ (fun r30 h30 => ?_)
          refine va_put (D := eD E) (ci := 10) (v := .int r30) (ty := .int) (C := RX10) (T := TX10) (N := 79) hx hb hts in_X10 tyX10 tyX10_ok nmX10 hown hK hP hD hS 0 rfl rfl 64 (by decide) lk0 (fun _ h9 => h9) rfl (by decide +kernel) rfl rfl (Nat.le_of_ble_eq_true rfl) dX10_findWater_33 (fun H locs hP hD hS => ?_)
          replace hP : va_P (eD E) vwCl (mdL E am (up2 vl 64 0 r30)) H := hP
          replace hD : va_D A (mdL E am (up2 vl 64 0 r30)) := hD
          generalize hv33 : up2 vl 64 0 r30 = vm_33 at hP hD
          have hFz : fr [64, 65, 66] vm vm_33 := by first | exact hFz | (rw [← hv33]; exact hFz.up (by decide))
          have hsl : scL lWt vm vm_33 := by rw [← hv33]; exact hsl.up (by decide)
          have hq33 : (vm_33 64 0).toInt = r30.toInt := by rw [← hv33]; rfl
          refine lv_iconst (v := 1) hx hb dX10_findWater_36 (by decide) ?_
          refine lv_istore (lv' := [(4, .int 1), (0, .ref (am 0)), (1, .int x), (2, .int step), (3, .int st)]) hx hb dX10_findWater_37 hl (by decide) rfl (fun ls hl => ?_)
          have K39 : ∀ (μ : Nat) (w : Int32) (vn : Vf) (H : Heap) (locs : List Loc) (ls : Array Slot), (5 - w.toInt).toNat < μ → va_P (eD E) vwCl (mdL E am vn) H → va_D A (mdL E am vn) → va_S A s.heap H locs → (1 ≤ w.toInt ∧ w.toInt ≤ 5) → (scL lWt vm vn) → (-342 ≤ (vn 64 0).toInt ∧ (vn 64 0).toInt ≤ 342) → (fr [64, 65, 66] vm vn) → lv_has ls 5 [(0, .ref (am 0)), (1, .int x), (2, .int step), (3, .int st), (4, .int w)] → W p l e (headSpec wsX10_findWater rm_X10_findWater).room s m ([.ref (am 0), .int x, .int step] : List Value).toArray below meth c H locs 0 0 Q (F0 m 39 ls []) := by
            intro μ
            induction μ with
            | zero =>
              intro w vn H locs ls hμ39
              exact absurd hμ39 (Nat.not_lt_zero _)
            | succ μ ih39 =>
              intro w vn H locs ls hμ39 hP hD hS h39_0 h39_1 h39_2 h39_3 hl
              have hsl := h39_1
              have hMIv : MdI vn := hMI.on (hsl.mem (by decide))
              have hH := hMIv.1
              have hq16 : (vn 16 0).toInt = (vm 16 0).toInt := by rw [hsl 16 (by decide)]
              have hq0 : (vn 0 0).toInt = (vm 0 0).toInt := by rw [hsl 0 (by decide)]
              have hFz := h39_3
              refine lv_iload hx hb dX10_findWater_39 (lv_at hl 4 rfl) ?_
              refine lv_aload_n hx hb dX10_findWater_41 rfl (lv_at hl 0 rfl) ?_
              refine va_get (D := eD E) (ci := 10) (v := .int (vn 16 0)) (C := RX10) (T := TX10) (N := 79) hx hb hts in_X10 hown hK hP 0 rfl rfl 16 (by decide) lk2 (fun _ h9 => h9) rfl dX10_findWater_42 ?_
              refine lv_icmp_ge (tgt := 86) hx hb dX10_findWater_45 (by decide) (fun c45 => ?_) (fun c45 => ?_)
              · have c45_ := i_le c45
                refine lv_aload_n hx hb dX10_findWater_86 rfl (lv_at hl 0 rfl) ?_
                refine lv_iconst (v := 1) hx hb dX10_findWater_87 (by decide) ?_
                refine va_put (D := eD E) (ci := 10) (v := .int 1) (ty := .int) (C := RX10) (T := TX10) (N := 79) hx hb hts in_X10 tyX10 tyX10_ok nmX10 hown hK hP hD hS 0 rfl rfl 65 (by decide) lk1 (fun _ h9 => h9) rfl (by decide +kernel) rfl rfl (Nat.le_of_ble_eq_true rfl) dX10_findWater_88 (fun H locs hP hD hS => ?_)
                replace hP : va_P (eD E) vwCl (mdL E am (up2 vn 65 0 1)) H := hP
                replace hD : va_D A (mdL E am (up2 vn 65 0 1)) := hD
                generalize hv88 : up2 vn 65 0 1 = vm_88 at hP hD
                have hFz : fr [64, 65, 66] vm vm_88 := by first | exact hFz | (rw [← hv88]; exact hFz.up (by decide))
                have hsl : scL lWt vm vm_88 := by rw [← hv88]; exact hsl.up (by decide)
                have hq88 : (vm_88 64 0).toInt = (vn 64 0).toInt := by rw [← hv88]; rfl
                have hq88b : (vm_88 65 0).toInt = 1 := by rw [← hv88]; exact (by decide : (1 : Int32).toInt = 1)
                refine lv_aload_n hx hb dX10_findWater_91 rfl (lv_at hl 0 rfl) ?_
                refine lv_iconst (v := 0) hx hb dX10_findWater_92 (by decide) ?_
                refine va_put (D := eD E) (ci := 10) (v := .int 0) (ty := .int) (C := RX10) (T := TX10) (N := 79) hx hb hts in_X10 tyX10 tyX10_ok nmX10 hown hK hP hD hS 0 rfl rfl 66 (by decide) lk3 (fun _ h9 => h9) rfl (by decide +kernel) rfl rfl (Nat.le_of_ble_eq_true rfl) dX10_findWater_93 (fun H locs hP hD hS => ?_)
                replace hP : va_P (eD E) vwCl (mdL E am (up2 vm_88 66 0 0)) H := hP
                replace hD : va_D A (mdL E am (up2 vm_88 66 0 0)) := hD
                generalize hv93 : up2 vm_88 66 0 0 = vm_93 at hP hD
                have hFz : fr [64, 65, 66] vm vm_93 := by first | exact hFz | (rw [← hv93]; exact hFz.up (by decide))
                have hsl : scL lWt vm vm_93 := by rw [← hv93]; exact hsl.up (by decide)
                have hq93 : (vm_93 64 0).toInt = (vm_88 64 0).toInt := by rw [← hv93]; rfl
                have hq93b : (vm_93 65 0).toInt = (vm_88 65 0).toInt := by rw [← hv93]; rfl
                exact K96  vm_93 _ _ ls hP hD hS hsl (by omega) hFz (lv_sub hl [0, 1, 2, 3] rfl)
              · have c45_ := i_nle c45
                refine lv_aload_n hx hb dX10_findWater_48 rfl (lv_at hl 0 rfl) ?_
                refine lv_aload_n hx hb dX10_findWater_49 rfl (lv_at hl 0 rfl) ?_
                refine lv_iload hx hb dX10_findWater_50 (lv_at hl 4 rfl) ?_
                refine lv_iload_n hx hb dX10_findWater_52 rfl (lv_at hl 2 rfl) ?_
                refine rd_V (As := [.int w, .int step]) (rest := [.ref (am 0)]) (C := RX10) (ci := 10) ⟨hx, hb, hml, hown, hts⟩ (c_X10_floorOf l E A am vn w step hH (by omega) (by omega) (by omega)) (cwV 2 hts gX10_findWater_X10_floorOf rfl rfl rfl (by decide +kernel) ⟨Nat.le_of_ble_eq_true rfl, Nat.le_of_ble_eq_true rfl⟩) (hE.kept hS.2.1) (hP.sub (ws' := mdL E am vn) [0, 1, 2, 3, 4, 5, 6, 7, 8, 9, 10, 11, 12, 13, 14, 15, 16, 17, 18, 19, 20, 21, 22, 23, 24, 25, 26, 27, 28, 29, 30, 31, 32, 33, 34, 35, 36, 37, 38, 39, 40, 41, 42, 43, 44, 45] rfl) rfl rfl rfl rfl hl.1 rfl (Nat.le_of_ble_eq_true rfl) dX10_findWater_53 ⟨Nat.zero_le _, Nat.zero_le _⟩ (fun r53 h53 => ?_)
                refine lv_aload_n hx hb dX10_findWater_56 rfl (lv_at hl 0 rfl) ?_
                refine va_get (D := eD E) (ci := 10) (v := .int (vn 64 0)) (C := RX10) (T := TX10) (N := 79) hx hb hts in_X10 hown hK hP 0 rfl rfl 64 (by decide) lk0 (fun _ h9 => h9) rfl dX10_findWater_57 ?_
                have K77 : ∀  (na : Int32) (H : Heap) (locs : List Loc) (ls : Array Slot), va_P (eD E) vwCl (mdL E am vn) H → va_D A (mdL E am vn) → va_S A s.heap H locs → (-342 ≤ na.toInt ∧ na.toInt ≤ 342) → lv_has ls 5 [(0, .ref (am 0)), (1, .int x), (2, .int step), (3, .int st), (4, .int w)] → W p l e (headSpec wsX10_findWater rm_X10_findWater).room s m ([.ref (am 0), .int x, .int step] : List Value).toArray below meth c H locs 0 0 Q (F0 m 77 ls [.int na, .ref (am 0)]) := by
                  intro na H locs ls hP hD hS h77_0 hl
                  refine va_put (D := eD E) (ci := 10) (v := .int na) (ty := .int) (C := RX10) (T := TX10) (N := 79) hx hb hts in_X10 tyX10 tyX10_ok nmX10 hown hK hP hD hS 0 rfl rfl 64 (by decide) lk0 (fun _ h9 => h9) rfl (by decide +kernel) rfl rfl (Nat.le_of_ble_eq_true rfl) dX10_findWater_77 (fun H locs hP hD hS => ?_)
                  replace hP : va_P (eD E) vwCl (mdL E am (up2 vn 64 0 na)) H := hP
                  replace hD : va_D A (mdL E am (up2 vn 64 0 na)) := hD
                  generalize hv77 : up2 vn 64 0 na = vm_77 at hP hD
                  have hFz : fr [64, 65, 66] vm vm_77 := by first | exact hFz | (rw [← hv77]; exact hFz.up (by decide))
                  have hsl : scL lWt vm vm_77 := by rw [← hv77]; exact hsl.up (by decide)
                  have hq77 : (vm_77 64 0).toInt = na.toInt := by rw [← hv77]; rfl
                  obtain ⟨x80, e80⟩ : ∃ y : Int32, y = w + 1 := ⟨_, rfl⟩
                  refine lv_iinc (v := x80) (lv' := [(4, .int x80), (0, .ref (am 0)), (1, .int x), (2, .int step), (3, .int st)]) hx hb dX10_findWater_80 hl (k := 4) rfl (by rw [e80]; rfl) (by decide) rfl (fun ls hl => ?_)
                  have t80 := i_add e80 (by omega)
                  refine lv_goto (tgt := 39) hx hb dX10_findWater_83 (by decide) ?_
                  exact ih39 x80 vm_77 _ _ ls (by omega) hP hD hS (by omega) hsl (by omega) hFz (lv_sub hl [1, 2, 3, 4, 0] rfl)
                refine lv_icmp_ge (tgt := 73) hx hb dX10_findWater_60 (by decide) (fun c60 => ?_) (fun c60 => ?_)
                · have c60_ := i_le c60
                  refine lv_aload_n hx hb dX10_findWater_73 rfl (lv_at hl 0 rfl) ?_
                  refine va_get (D := eD E) (ci := 10) (v := .int (vn 64 0)) (C := RX10) (T := TX10) (N := 79) hx hb hts in_X10 hown hK hP 0 rfl rfl 64 (by decide) lk0 (fun _ h9 => h9) rfl dX10_findWater_74 ?_
                  exact K77 (vn 64 0) _ _ ls hP hD hS (by omega) (lv_sub hl [0, 1, 2, 3, 4] rfl)
                · have c60_ := i_nle c60
                  refine lv_aload_n hx hb dX10_findWater_63 rfl (lv_at hl 0 rfl) ?_
                  refine lv_iload hx hb dX10_findWater_64 (lv_at hl 4 rfl) ?_
                  refine lv_iload_n hx hb dX10_findWater_66 rfl (lv_at hl 2 rfl) ?_
                  refine rd_V (As := [.int w, .int step]) (rest := [.ref (am 0)]) (C := RX10) (ci := 10) ⟨hx, hb, hml, hown, hts⟩ (c_X10_floorOf l E A am vn w step hH (by omega) (by omega) (by omega)) (cwV 2 hts gX10_findWater_X10_floorOf rfl rfl rfl (by decide +kernel) ⟨Nat.le_of_ble_eq_true rfl, Nat.le_of_ble_eq_true rfl⟩) (hE.kept hS.2.1) (hP.sub (ws' := mdL E am vn) [0, 1, 2, 3, 4, 5, 6, 7, 8, 9, 10, 11, 12, 13, 14, 15, 16, 17, 18, 19, 20, 21, 22, 23, 24, 25, 26, 27, 28, 29, 30, 31, 32, 33, 34, 35, 36, 37, 38, 39, 40, 41, 42, 43, 44, 45] rfl) rfl rfl rfl rfl hl.1 rfl (Nat.le_of_ble_eq_true rfl) dX10_findWater_67 ⟨Nat.zero_le _, Nat.zero_le _⟩ (fun r67 h67 => ?_)
                  refine lv_goto (tgt := 77) hx hb dX10_findWater_70 (by decide) ?_
                  exact K77 r67 _ _ ls hP hD hS (by omega) (lv_sub hl [0, 1, 2, 3, 4] rfl)
          exact K39 _ 1 vm_33 _ _ ls (Nat.lt_succ_self _) hP hD hS (by omega) hsl (by omega) hFz (lv_sub hl [1, 2, 3, 4, 0] rfl)
      refine lv_if_le (tgt := 22) hx hb dX10_findWater_3 (by decide) (fun c3 => ?_) (fun c3 => ?_)
      · have c3_ := i_le c3
        exact K22  vk _ _ ls hP hD hS hsl (by omega) hFz (lv_sub hl [0, 1, 2, 3] rfl)
      · have c3_ := i_nle c3
        refine lv_aload_n hx hb dX10_findWater_6 rfl (lv_at hl 0 rfl) ?_
        refine lv_iload_n hx hb dX10_findWater_7 rfl (lv_at hl 1 rfl) ?_
        refine lv_iload_n hx hb dX10_findWater_8 rfl (lv_at hl 2 rfl) ?_
        refine lv_iload_n hx hb dX10_findWater_9 rfl (lv_at hl 3 rfl) ?_
        refine mt_Vi (w1 := fun (u : Vf) => mdL E am u) (wf := fun (u : Vf) => mdL E am u) (wr := []) (As := [.int x, .int step, .int st]) (rest := []) (C := RX10) (ci := 10) ⟨hx, hb, hml, hown, hts⟩ (c_X10_isLevelOf l E H.size am vk x step st hMIv (by omega) (by omega) (by omega) (by omega)) (cwV 3 hts gX10_findWater_X10_isLevelOf rfl rfl rfl (by decide +kernel) ⟨Nat.le_of_ble_eq_true rfl, Nat.le_of_ble_eq_true rfl⟩) hE hS hA hP hD [0, 1, 2, 3, 4, 5, 6, 7, 8, 9, 10, 11, 12, 13, 14, 15, 16, 17, 18, 19, 20, 21, 22, 23, 24, 25, 26, 27, 28, 29, 30, 31, 32, 33, 34, 35, 36, 37, 38, 39, 40, 41, 42, 43, 44, 45] [] rfl rfl (by decide) (by decide) (by decide) [0, 1, 2, 3, 4, 5, 6, 7, 8, 9, 10, 11, 12, 13, 14, 15, 16, 17, 18, 19, 20, 21, 22, 23, 24, 25, 26, 27, 28, 29, 30, 31, 32, 33, 34, 35, 36, 37, 38, 39, 40, 41, 42, 43, 44, 45] (by decide) (fun u => rfl) rfl rfl rfl rfl hl.1 rfl (Nat.le_of_ble_eq_true rfl) dX10_findWater_10 ⟨Nat.zero_le _, Nat.zero_le _⟩ (fun r10 u10 H locs h10 hP hD hS => ?_)
        generalize u10 = o10_vm at hP hD h10
        try dsimp only at h10
        have hFn10 := h10.2
        replace h10 := h10.1
        replace hP : va_P (eD E) vwCl (mdL E am o10_vm) H := hP
        replace hD : va_D A (mdL E am o10_vm) := hD
        have hFz : fr [64, 65, 66] vm o10_vm := by first | exact hFz | exact hFz.tr hFn10 (by decide) | (rw [← hv10]; repeat' (first | exact hFz | refine fr.up ?_ (by decide) | refine fr.up3 ?_ (by decide)))
        have hsl : scL lWt vm o10_vm := fun t a => (h10.1 t a).trans (hsl t a)
        have hlv : r10.toInt = 1 ∨ ¬ mLev vm x step st := by have z := h10.2.2.1; rw [lev_fr hsl0k] at z; exact z
        refine lv_if_ne (tgt := 22) hx hb dX10_findWater_13 (by decide) (fun c13 => ?_) (fun c13 => ?_)
        · have c13_ := i_ne c13
          have hr64 := h10.2.2.2
          exact K22  o10_vm _ _ ls hP hD hS hsl (by omega) hFz (lv_sub hl [0, 1, 2, 3] rfl)
        · have c13_ := i_eq c13
          have hne : st.toInt ≠ s0.toInt := fun q => hlv.elim (fun z => absurd z (by omega)) (fun z => z (by rw [i_eqr q]; exact hs1 (by omega)))
          obtain ⟨x16, e16⟩ : ∃ y : Int32, y = st + 1 := ⟨_, rfl⟩
          refine lv_iinc (v := x16) (lv' := [(3, .int x16), (0, .ref (am 0)), (1, .int x), (2, .int step)]) hx hb dX10_findWater_16 hl (k := 3) rfl (by rw [e16]; rfl) (by decide) rfl (fun ls hl => ?_)
          have t16 := i_add e16 (by omega)
          refine lv_goto (tgt := 2) hx hb dX10_findWater_19 (by decide) ?_
          exact ih2 x16 o10_vm _ _ ls (by omega) hP hD hS (by omega) hsl (by omega) hFz (lv_sub hl [1, 2, 3, 0] rfl)
  exact K2 _ 1 vm _ _ ls (Nat.lt_succ_self _) hP hD hS (by omega) scL.rf (by omega) hFz (lv_sub hl [1, 2, 3, 0] rfl)
def rm_X10_water : Room := { frames := 6, cells := 0, slots := 0, locals := 143 }
set_option maxHeartbeats 4000000 in
set_option maxRecDepth 100000 in
theorem c_X10_water (l : Launch) (E : Ev) (sz : Nat) (am : Nat → Nat) (vm : Vf) (x : Int32) (step : Int32) (what : Int32) (hMI : MdI vm) : Met l yX10_water wsX10_water rm_X10_water (MtP E sz [.ref (am 0), .int x, .int step, .int what] (mdL E am vm)) (va_Qi (fun (r : Int32) (u : Vf) => (MdI u) ∧ fr [64, 65, 66] vm u) (MtB E (va_A (mdL E am vm) sz) (fun u => mdL E am u)) (va_A (mdL E am vm) sz)) 0 0 (va_A (mdL E am vm) sz) := by
  refine Met.ofW (cc := cX10_water) (maxL := 4) (ret := (some .int)) (by decide) rfl ?_
  intro p e s m args below meth c s₁ B hml hv
  obtain ⟨rfl, hsz, hE, hP, hD0⟩ := hv
  subst hsz
  have hD := hD0.self (sz := s.heap.size)
  generalize hAe : va_A (mdL E am vm) s.heap.size = A at hD hE ⊢
  have hA : ∀ q : Nat, s.heap.size ≤ q → A q := fun q h => by rw [← hAe]; exact Or.inr h
  have hS : va_S A s.heap s.heap [] := va_S.rf
  have hx := B.exec
  have hb := B.bytes
  have hr := B.returns
  have hts := atoms_spec (ws := wsX10_water) B.pre
  have hown : s.vm.findClass RX10 = some m.cls := findClass_of_methodNamed B.named
  have hlocks := B.notSynchronized
  have hK := hE.1
  have in_X10 : ∀ w ∈ u_ws RX10 TX10 79, w ∈ wsX10_water := fun w h => List.mem_cons_of_mem _ (List.mem_append_right _ h)
  have lk0 := hts (.constantLong RX10 351 9999) (List.mem_of_getElem? (i := 1) rfl)
  have lk1 := hts (.constant RX10 175 (-1000000002)) (List.mem_of_getElem? (i := 3) rfl)
  have lk2 := hts (.constantLong RX10 440 2) (List.mem_of_getElem? (i := 2) rfl)
  have lk3 := hts (.fieldLink RX10 276 "TidedGroundModel" "wells" "I") (List.mem_of_getElem? (i := 4) rfl)
  have lk4 := hts (.fieldLink RX10 434 "TidedGroundModel" "wet" "I") (List.mem_of_getElem? (i := 8) rfl)
  have lk5 := hts (.fieldLink RX10 431 "TidedGroundModel" "below" "I") (List.mem_of_getElem? (i := 7) rfl)
  have lk6 := hts (.fieldLink RX10 428 "TidedGroundModel" "above" "I") (List.mem_of_getElem? (i := 6) rfl)
  have lk7 := hts (.constant RX10 366 (-1000000003)) (List.mem_of_getElem? (i := 5) rfl)
  have n_m1000000003 : ((-1000000003) : Int32).toInt = -1000000003 := by decide
  have n_m1000000002 : ((-1000000002) : Int32).toInt = -1000000002 := by decide
  have n_0 : (0 : Int32).toInt = 0 := by decide
  have n_1 : (1 : Int32).toInt = 1 := by decide
  have hl := lv_entry ([.ref (am 0), .int x, .int step, .int what]) (n := 4) (Nat.le_of_ble_eq_true rfl)
  rw [lg_entry_eq]
  generalize (lg_sl ([.ref (am 0), .int x, .int step, .int what]) ++ List.replicate (4 - (lg_sl ([.ref (am 0), .int x, .int step, .int what])).length) Slot.unset).toArray = ls at hl ⊢
  have hl : lv_has ls 4 [(0, .ref (am 0)), (1, .int x), (2, .int step), (3, .int what)] := hl
  refine W_abs (fun Q hQ => ?_)
  have hH := hMI.1
  obtain ⟨hmG, hmC, hmZ, hmM, hmA, hmS, hmT⟩ := id hH
  obtain ⟨hG1, hG2, hG3⟩ := id hmG
  obtain ⟨hC1, hC2, hC3, hC4, hC5, hC6⟩ := id hmC
  obtain ⟨hM1, hM2, hM3, hM4⟩ := id hmM
  obtain ⟨hA1, hA2, hA3, hA4, hA5⟩ := id hmA
  obtain ⟨hS1, hS2, hS3, hS4, hS5, hS6⟩ := id hmS
  obtain ⟨hT1, hT2, hT3, hT4, hT5⟩ := id hmT
  have hFz : fr [64, 65, 66] vm vm := fr.rf
  refine lv_iload_n hx hb dX10_water_0 rfl (lv_at hl 1 rfl) ?_
  refine lv_i2l hx hb dX10_water_1 rfl ?_
  refine lv_lconst (v := 0) hx hb dX10_water_2 (by decide) ?_
  refine lv_ldc2 hx hb hown lk0 dX10_water_3 ?_
  have lt6_0 : (x.toInt64).toInt = x.toInt := Int32.toInt_toInt64 _
  have lt6_1 : (0 : Int64).toInt = 0 := by decide
  have lt6_2 : (9999 : Int64).toInt = 9999 := by decide
  refine rd_S (As := [.long x.toInt64, .long 0, .long 9999]) (rest := []) ⟨hx, hb, hml, hown, hts⟩ (c_X10_in l E A x.toInt64 0 9999) (va_cwS 3 hts gX10_water_X10_in rfl rfl rfl (by decide +kernel) ⟨Nat.le_of_ble_eq_true rfl, Nat.le_of_ble_eq_true rfl⟩) (hE.kept hS.2.1) (hP.sub (ws' := []) [] rfl) rfl hl.1 rfl (Nat.le_of_ble_eq_true rfl) dX10_water_6 ⟨Nat.zero_le _, Nat.zero_le _⟩ (fun r6 h6 => ?_)
  refine lv_if_eq (tgt := 31) hx hb dX10_water_9 (by decide) (fun c9 => ?_) (fun c9 => ?_)
  · have c9_ := i_eq c9
    replace h6 := or_n h6 c9_
    refine lv_ldc hx hb hown lk1 dX10_water_31 ?_
    subst hQ
    exact W.iret (v := (-1000000002)) hx hb hr (fun t ht hW => ⟨⟨(-1000000002), (vm), rfl, (show (MdI vm) ∧ fr [64, 65, 66] vm vm from ⟨hMI, hFz⟩), by rw [ht]; exact hP, hD⟩, hS.F ht⟩) hS.2.2 dX10_water_33
  · have c9_ := i_ne c9
    replace h6 := or_y h6 c9_
    clear c9_
    refine lv_iload_n hx hb dX10_water_12 rfl (lv_at hl 2 rfl) ?_
    refine rd_S (As := [.int step]) (rest := []) ⟨hx, hb, hml, hown, hts⟩ (c_X10_isStep l E A step) (va_cwS 1 hts gX10_water_X10_isStep rfl rfl rfl (by decide +kernel) ⟨Nat.le_of_ble_eq_true rfl, Nat.le_of_ble_eq_true rfl⟩) (hE.kept hS.2.1) (hP.sub (ws' := []) [] rfl) rfl hl.1 rfl (Nat.le_of_ble_eq_true rfl) dX10_water_13 ⟨Nat.zero_le _, Nat.zero_le _⟩ (fun r13 h13 => ?_)
    refine lv_if_eq (tgt := 31) hx hb dX10_water_16 (by decide) (fun c16 => ?_) (fun c16 => ?_)
    · have c16_ := i_eq c16
      replace h13 := or_n h13 c16_
      refine lv_ldc hx hb hown lk1 dX10_water_31 ?_
      subst hQ
      exact W.iret (v := (-1000000002)) hx hb hr (fun t ht hW => ⟨⟨(-1000000002), (vm), rfl, (show (MdI vm) ∧ fr [64, 65, 66] vm vm from ⟨hMI, hFz⟩), by rw [ht]; exact hP, hD⟩, hS.F ht⟩) hS.2.2 dX10_water_33
    · have c16_ := i_ne c16
      replace h13 := or_y h13 c16_
      clear c16_
      refine lv_iload_n hx hb dX10_water_19 rfl (lv_at hl 3 rfl) ?_
      refine lv_i2l hx hb dX10_water_20 rfl ?_
      refine lv_lconst (v := 0) hx hb dX10_water_21 (by decide) ?_
      refine lv_ldc2 hx hb hown lk2 dX10_water_22 ?_
      have lt25_0 : (what.toInt64).toInt = what.toInt := Int32.toInt_toInt64 _
      have lt25_1 : (0 : Int64).toInt = 0 := by decide
      have lt25_2 : (2 : Int64).toInt = 2 := by decide
      refine rd_S (As := [.long what.toInt64, .long 0, .long 2]) (rest := []) ⟨hx, hb, hml, hown, hts⟩ (c_X10_in l E A what.toInt64 0 2) (va_cwS 3 hts gX10_water_X10_in rfl rfl rfl (by decide +kernel) ⟨Nat.le_of_ble_eq_true rfl, Nat.le_of_ble_eq_true rfl⟩) (hE.kept hS.2.1) (hP.sub (ws' := []) [] rfl) rfl hl.1 rfl (Nat.le_of_ble_eq_true rfl) dX10_water_25 ⟨Nat.zero_le _, Nat.zero_le _⟩ (fun r25 h25 => ?_)
      refine lv_if_ne (tgt := 34) hx hb dX10_water_28 (by decide) (fun c28 => ?_) (fun c28 => ?_)
      · have c28_ := i_ne c28
        replace h25 := or_y h25 c28_
        clear c28_
        refine lv_aload_n hx hb dX10_water_34 rfl (lv_at hl 0 rfl) ?_
        refine va_get (D := eD E) (ci := 10) (v := .int (vm 16 0)) (C := RX10) (T := TX10) (N := 79) hx hb hts in_X10 hown hK hP 0 rfl rfl 16 (by decide) lk3 (fun _ h9 => h9) rfl dX10_water_35 ?_
        refine lv_if_ne (tgt := 45) hx hb dX10_water_38 (by decide) (fun c38 => ?_) (fun c38 => ?_)
        · have c38_ := i_ne c38
          have hw : 1 ≤ (vm 0 0).toInt := (by rcases hmZ with q | q <;> omega)
          have hwl : 1 ≤ (vm 16 0).toInt := by omega
          refine lv_aload_n hx hb dX10_water_45 rfl (lv_at hl 0 rfl) ?_
          refine lv_iload_n hx hb dX10_water_46 rfl (lv_at hl 1 rfl) ?_
          refine lv_iload_n hx hb dX10_water_47 rfl (lv_at hl 2 rfl) ?_
          refine mt_Vv (w1 := fun (u : Vf) => mdL E am u) (wf := fun (u : Vf) => mdL E am u) (wr := []) (As := [.int x, .int step]) (rest := []) (C := RX10) (ci := 10) ⟨hx, hb, hml, hown, hts⟩ (c_X10_findWater l E s.heap.size am vm x step hMI (by omega) (by omega) (by omega) (by omega)) (cwV 2 hts gX10_water_X10_findWater rfl rfl rfl (by decide +kernel) ⟨Nat.le_of_ble_eq_true rfl, Nat.le_of_ble_eq_true rfl⟩) hE hS hA hP hD [0, 1, 2, 3, 4, 5, 6, 7, 8, 9, 10, 11, 12, 13, 14, 15, 16, 17, 18, 19, 20, 21, 22, 23, 24, 25, 26, 27, 28, 29, 30, 31, 32, 33, 34, 35, 36, 37, 38, 39, 40, 41, 42, 43, 44, 45] [] rfl rfl (by decide) (by decide) (by decide) [0, 1, 2, 3, 4, 5, 6, 7, 8, 9, 10, 11, 12, 13, 14, 15, 16, 17, 18, 19, 20, 21, 22, 23, 24, 25, 26, 27, 28, 29, 30, 31, 32, 33, 34, 35, 36, 37, 38, 39, 40, 41, 42, 43, 44, 45] (by decide) (fun u => rfl) rfl rfl rfl rfl hl.1 rfl (Nat.le_of_ble_eq_true rfl) dX10_water_48 ⟨Nat.zero_le _, Nat.zero_le _⟩ (fun u48 H locs h48 hP hD hS => ?_)
          generalize u48 = o48_vm at hP hD h48
          try dsimp only at h48
          have hFn48 := h48.2
          replace h48 := h48.1
          replace hP : va_P (eD E) vwCl (mdL E am o48_vm) H := hP
          replace hD : va_D A (mdL E am o48_vm) := hD
          have hFz : fr [64, 65, 66] vm o48_vm := by first | exact hFz | exact hFz.tr hFn48 (by decide) | (rw [← hv48]; repeat' (first | exact hFz | refine fr.up ?_ (by decide) | refine fr.up3 ?_ (by decide)))
          refine lv_iload_n hx hb dX10_water_51 rfl (lv_at hl 3 rfl) ?_
          refine lv_if_ne (tgt := 62) hx hb dX10_water_52 (by decide) (fun c52 => ?_) (fun c52 => ?_)
          · have c52_ := i_ne c52
            refine lv_iload_n hx hb dX10_water_62 rfl (lv_at hl 3 rfl) ?_
            refine lv_iconst (v := 1) hx hb dX10_water_63 (by decide) ?_
            refine lv_icmp_ne (tgt := 74) hx hb dX10_water_64 (by decide) (fun c64 => ?_) (fun c64 => ?_)
            · have c64_ := i_ne c64
              refine lv_aload_n hx hb dX10_water_74 rfl (lv_at hl 0 rfl) ?_
              refine va_get (D := eD E) (ci := 10) (v := .int (o48_vm 66 0)) (C := RX10) (T := TX10) (N := 79) hx hb hts in_X10 hown hK hP 0 rfl rfl 66 (by decide) lk4 (fun _ h9 => h9) rfl dX10_water_75 ?_
              subst hQ
              exact W.iret (v := (o48_vm 66 0)) hx hb hr (fun t ht hW => ⟨⟨(o48_vm 66 0), (o48_vm), rfl, (show (MdI o48_vm) ∧ fr [64, 65, 66] vm o48_vm from ⟨h48, hFz⟩), by rw [ht]; exact hP, hD⟩, hS.F ht⟩) hS.2.2 dX10_water_78
            · have c64_ := i_eq c64
              refine lv_aload_n hx hb dX10_water_67 rfl (lv_at hl 0 rfl) ?_
              refine va_get (D := eD E) (ci := 10) (v := .int (o48_vm 65 0)) (C := RX10) (T := TX10) (N := 79) hx hb hts in_X10 hown hK hP 0 rfl rfl 65 (by decide) lk5 (fun _ h9 => h9) rfl dX10_water_68 ?_
              refine lv_goto (tgt := 78) hx hb dX10_water_71 (by decide) ?_
              subst hQ
              exact W.iret (v := (o48_vm 65 0)) hx hb hr (fun t ht hW => ⟨⟨(o48_vm 65 0), (o48_vm), rfl, (show (MdI o48_vm) ∧ fr [64, 65, 66] vm o48_vm from ⟨h48, hFz⟩), by rw [ht]; exact hP, hD⟩, hS.F ht⟩) hS.2.2 dX10_water_78
          · have c52_ := i_eq c52
            refine lv_aload_n hx hb dX10_water_55 rfl (lv_at hl 0 rfl) ?_
            refine va_get (D := eD E) (ci := 10) (v := .int (o48_vm 64 0)) (C := RX10) (T := TX10) (N := 79) hx hb hts in_X10 hown hK hP 0 rfl rfl 64 (by decide) lk6 (fun _ h9 => h9) rfl dX10_water_56 ?_
            refine lv_goto (tgt := 78) hx hb dX10_water_59 (by decide) ?_
            subst hQ
            exact W.iret (v := (o48_vm 64 0)) hx hb hr (fun t ht hW => ⟨⟨(o48_vm 64 0), (o48_vm), rfl, (show (MdI o48_vm) ∧ fr [64, 65, 66] vm o48_vm from ⟨h48, hFz⟩), by rw [ht]; exact hP, hD⟩, hS.F ht⟩) hS.2.2 dX10_water_78
        · have c38_ := i_eq c38
          refine lv_ldcw hx hb hown lk7 dX10_water_41 ?_
          subst hQ
          exact W.iret (v := (-1000000003)) hx hb hr (fun t ht hW => ⟨⟨(-1000000003), (vm), rfl, (show (MdI vm) ∧ fr [64, 65, 66] vm vm from ⟨hMI, hFz⟩), by rw [ht]; exact hP, hD⟩, hS.F ht⟩) hS.2.2 dX10_water_44
      · have c28_ := i_eq c28
        replace h25 := or_n h25 c28_
        refine lv_ldc hx hb hown lk1 dX10_water_31 ?_
        subst hQ
        exact W.iret (v := (-1000000002)) hx hb hr (fun t ht hW => ⟨⟨(-1000000002), (vm), rfl, (show (MdI vm) ∧ fr [64, 65, 66] vm vm from ⟨hMI, hFz⟩), by rw [ht]; exact hP, hD⟩, hS.F ht⟩) hS.2.2 dX10_water_33
