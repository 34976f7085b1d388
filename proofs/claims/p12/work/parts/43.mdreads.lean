def rm_X10_isAslant : Room := { frames := 3, cells := 0, slots := 0, locals := 71 }
set_option maxHeartbeats 4000000 in
set_option maxRecDepth 100000 in
theorem c_X10_isAslant (l : Launch) (E : Ev) (A : Nat → Prop) (am : Nat → Nat) (vm : Vf) (step : Int32) (hH : MdH vm) (hstep : 0 ≤ step.toInt ∧ step.toInt ≤ 2000000) : Met l yX10_isAslant wsX10_isAslant rm_X10_isAslant (RdP E A [.ref (am 0), .int step] (mdL E am vm)) (vp_Si (fun r => ((r.toInt = 0 ∨ r.toInt = 1)) ∧ (r.toInt ≠ 0 ↔ AslP vm step))) 0 0 (fun _ => False) := by
  refine Met.ofW (cc := cX10_isAslant) (maxL := 6) (ret := (some .boolean)) (by decide) rfl ?_
  intro p e s m args below meth c s₁ B hml hv
  obtain ⟨rfl, hE, hP⟩ := hv
  have hx := B.exec
  have hb := B.bytes
  have hr := B.returns
  have hts := atoms_spec (ws := wsX10_isAslant) B.pre
  have hown : s.vm.findClass RX10 = some m.cls := findClass_of_methodNamed B.named
  have hlocks := B.notSynchronized
  have hK := hE.1
  have n_0 : (0 : Int32).toInt = 0 := by decide
  have n_1 : (1 : Int32).toInt = 1 := by decide
  have n_2 : (2 : Int32).toInt = 2 := by decide
  have n_4 : (4 : Int32).toInt = 4 := by decide
  have hl := lv_entry ([.ref (am 0), .int step]) (n := 6) (Nat.le_of_ble_eq_true rfl)
  rw [lg_entry_eq]
  generalize (lg_sl ([.ref (am 0), .int step]) ++ List.replicate (6 - (lg_sl ([.ref (am 0), .int step])).length) Slot.unset).toArray = ls at hl ⊢
  have hl : lv_has ls 6 [(0, .ref (am 0)), (1, .int step)] := hl
  refine W_abs (fun Q hQ => ?_)
  obtain ⟨hmG, hmC, hmZ, hmM, hmA, hmS, hmT⟩ := id hH
  obtain ⟨hG1, hG2, hG3⟩ := id hmG
  obtain ⟨hC1, hC2, hC3, hC4, hC5, hC6⟩ := id hmC
  obtain ⟨hM1, hM2, hM3, hM4⟩ := id hmM
  obtain ⟨hA1, hA2, hA3, hA4, hA5⟩ := id hmA
  obtain ⟨hS1, hS2, hS3, hS4, hS5, hS6⟩ := id hmS
  obtain ⟨hT1, hT2, hT3, hT4, hT5⟩ := id hmT
  have hnn0 := Int.mul_nonneg hG1.1 hG2.1
  refine lv_aload_n hx hb dX10_isAslant_0 rfl (lv_at hl 0 rfl) ?_
  refine rd_V (As := []) (rest := []) (C := RX10) (ci := 10) ⟨hx, hb, hml, hown, hts⟩ (c_X10_cells l E A am vm hH) (cwV 0 hts gX10_isAslant_X10_cells rfl rfl rfl (by decide +kernel) ⟨Nat.le_of_ble_eq_true rfl, Nat.le_of_ble_eq_true rfl⟩) hE (hP.sub (ws' := mdL E am vm) [0, 1, 2, 3, 4, 5, 6, 7, 8, 9, 10, 11, 12, 13, 14, 15, 16, 17, 18, 19, 20, 21, 22, 23, 24, 25, 26, 27, 28, 29, 30, 31, 32, 33, 34, 35, 36, 37, 38, 39, 40, 41, 42, 43, 44, 45] rfl) rfl rfl rfl rfl hl.1 rfl (Nat.le_of_ble_eq_true rfl) dX10_isAslant_1 ⟨Nat.zero_le _, Nat.zero_le _⟩ (fun r1 h1 => ?_)
  refine lv_iconst (v := 1) hx hb dX10_isAslant_4 (by decide) ?_
  have K13 : ∀  (is0 : Int32) (ls : Array Slot), (is0.toInt = 0 ∨ is0.toInt = 1) → (is0.toInt ≠ 0 ↔ 1 < ((vm 0 0).toInt * (vm 1 0).toInt)) → lv_has ls 6 [(0, .ref (am 0)), (1, .int step)] → W p l e (headSpec wsX10_isAslant rm_X10_isAslant).room s m ([.ref (am 0), .int step] : List Value).toArray below meth c s.heap [] 0 0 Q (F0 m 13 ls [.int is0]) := by
    intro is0 ls h13_0 h13_1 hl
    have hx13_0 := h13_1
    clear h13_1
    refine lv_istore_n (lv' := [(2, .int is0), (0, .ref (am 0)), (1, .int step)]) hx hb dX10_isAslant_13 rfl hl (by decide) rfl (fun ls hl => ?_)
    refine lv_iconst (v := 0) hx hb dX10_isAslant_14 (by decide) ?_
    refine lv_istore_n (lv' := [(3, .int 0), (2, .int is0), (0, .ref (am 0)), (1, .int step)]) hx hb dX10_isAslant_15 rfl hl (by decide) rfl (fun ls hl => ?_)
    have K16 : ∀ (μ : Nat) (is1 : Int32) (k : Int32) (ls : Array Slot), (24 - k.toInt).toNat < μ → (0 ≤ k.toInt ∧ k.toInt ≤ 24) → (is1.toInt = 0 ∨ is1.toInt = 1) → (is1.toInt ≠ 0 ↔ (1 < ((vm 0 0).toInt * (vm 1 0).toInt) ∧ AslQ vm step k.toInt)) → (k.toInt ≤ ((vm 0 0).toInt * (vm 1 0).toInt)) → lv_has ls 6 [(0, .ref (am 0)), (1, .int step), (2, .int is1), (3, .int k)] → W p l e (headSpec wsX10_isAslant rm_X10_isAslant).room s m ([.ref (am 0), .int step] : List Value).toArray below meth c s.heap [] 0 0 Q (F0 m 16 ls []) := by
      intro μ
      induction μ with
      | zero =>
        intro is1 k ls hμ16
        exact absurd hμ16 (Nat.not_lt_zero _)
      | succ μ ih16 =>
        intro is1 k ls hμ16 h16_0 h16_1 h16_2 h16_3 hl
        have hx16_0 := h16_2
        clear h16_2
        have hx16_1 := h16_3
        clear h16_3
        refine lv_iload_n hx hb dX10_isAslant_16 rfl (lv_at hl 3 rfl) ?_
        refine lv_aload_n hx hb dX10_isAslant_17 rfl (lv_at hl 0 rfl) ?_
        refine rd_V (As := []) (rest := [.int k]) (C := RX10) (ci := 10) ⟨hx, hb, hml, hown, hts⟩ (c_X10_cells l E A am vm hH) (cwV 0 hts gX10_isAslant_X10_cells rfl rfl rfl (by decide +kernel) ⟨Nat.le_of_ble_eq_true rfl, Nat.le_of_ble_eq_true rfl⟩) hE (hP.sub (ws' := mdL E am vm) [0, 1, 2, 3, 4, 5, 6, 7, 8, 9, 10, 11, 12, 13, 14, 15, 16, 17, 18, 19, 20, 21, 22, 23, 24, 25, 26, 27, 28, 29, 30, 31, 32, 33, 34, 35, 36, 37, 38, 39, 40, 41, 42, 43, 44, 45] rfl) rfl rfl rfl rfl hl.1 rfl (Nat.le_of_ble_eq_true rfl) dX10_isAslant_18 ⟨Nat.zero_le _, Nat.zero_le _⟩ (fun r18 h18 => ?_)
        refine lv_icmp_ge (tgt := 89) hx hb dX10_isAslant_21 (by decide) (fun c21 => ?_) (fun c21 => ?_)
        · have c21_ := i_le c21
          have hex21 : (vm 0 0).toInt * (vm 1 0).toInt ≤ k.toInt := by omega
          refine lv_iload_n hx hb dX10_isAslant_89 rfl (lv_at hl 2 rfl) ?_
          subst hQ
          exact W.zret (v := is1) hx hb hr (nar_b (by omega)) (fun t ht hW => ⟨is1, rfl, ⟨(by omega), ⟨fun z => by first | exact ⟨(hx16_0.mp z).1, asl_le (hx16_0.mp z).2 hex21⟩ | exact absurd hz25 z, fun z => hx16_0.mpr ⟨z.1, asl_le z.2 hx16_1⟩⟩⟩, ht⟩) (fun q h => absurd h List.not_mem_nil) dX10_isAslant_90
        · have c21_ := i_nle c21
          have hw : 1 ≤ (vm 0 0).toInt := wd_pos (d := (vm 1 0).toInt) hG1.1 (by omega)
          refine lv_iload_n hx hb dX10_isAslant_24 rfl (lv_at hl 2 rfl) ?_
          refine lv_if_eq (tgt := 89) hx hb dX10_isAslant_25 (by decide) (fun c25 => ?_) (fun c25 => ?_)
          · have c25_ := i_eq c25
            have hz25 : is1.toInt = 0 := by omega
            refine lv_iload_n hx hb dX10_isAslant_89 rfl (lv_at hl 2 rfl) ?_
            subst hQ
            exact W.zret (v := is1) hx hb hr (nar_b (by omega)) (fun t ht hW => ⟨is1, rfl, ⟨(by omega), ⟨fun z => by first | exact ⟨(hx16_0.mp z).1, asl_le (hx16_0.mp z).2 hex21⟩ | exact absurd hz25 z, fun z => hx16_0.mpr ⟨z.1, asl_le z.2 hx16_1⟩⟩⟩, ht⟩) (fun q h => absurd h List.not_mem_nil) dX10_isAslant_90
          · have c25_ := i_ne c25
            refine lv_iconst (v := 2) hx hb dX10_isAslant_28 (by decide) ?_
            refine lv_istore (lv' := [(4, .int 2), (0, .ref (am 0)), (1, .int step), (2, .int is1), (3, .int k)]) hx hb dX10_isAslant_29 hl (by decide) rfl (fun ls hl => ?_)
            have K31 : ∀ (μ : Nat) (is2 : Int32) (way : Int32) (ls : Array Slot), (4 - way.toInt).toNat < μ → (0 ≤ way.toInt ∧ way.toInt ≤ 4) → (is2.toInt = 0 ∨ is2.toInt = 1) → (is2.toInt ≠ 0 ↔ ((1 < ((vm 0 0).toInt * (vm 1 0).toInt) ∧ AslQ vm step k.toInt) ∧ (2 < way.toInt → ¬ LikP vm k 2 step) ∧ (3 < way.toInt → ¬ LikP vm k 3 step))) → (2 ≤ way.toInt) → lv_has ls 6 [(0, .ref (am 0)), (1, .int step), (2, .int is2), (3, .int k), (4, .int way)] → W p l e (headSpec wsX10_isAslant rm_X10_isAslant).room s m ([.ref (am 0), .int step] : List Value).toArray below meth c s.heap [] 0 0 Q (F0 m 31 ls []) := by
              intro μ
              induction μ with
              | zero =>
                intro is2 way ls hμ31
                exact absurd hμ31 (Nat.not_lt_zero _)
              | succ μ ih31 =>
                intro is2 way ls hμ31 h31_0 h31_1 h31_2 h31_3 hl
                have hx31_0 := h31_2
                clear h31_2
                have hx31_1 := h31_3
                clear h31_3
                refine lv_iload hx hb dX10_isAslant_31 (lv_at hl 4 rfl) ?_
                refine lv_iconst (v := 4) hx hb dX10_isAslant_33 (by decide) ?_
                refine lv_icmp_ge (tgt := 83) hx hb dX10_isAslant_34 (by decide) (fun c34 => ?_) (fun c34 => ?_)
                · have c34_ := i_le c34
                  obtain ⟨x83, e83⟩ : ∃ y : Int32, y = k + 1 := ⟨_, rfl⟩
                  refine lv_iinc (v := x83) (lv' := [(3, .int x83), (0, .ref (am 0)), (1, .int step), (2, .int is2), (4, .int way)]) hx hb dX10_isAslant_83 hl (k := 3) rfl (by rw [e83]; rfl) (by decide) rfl (fun ls hl => ?_)
                  have t83 := i_add e83 (by omega)
                  refine lv_goto (tgt := 16) hx hb dX10_isAslant_86 (by decide) ?_
                  exact ih16 is2 x83 ls (by omega) (by omega) (by omega) (asl_row (by omega) t83 (by omega) hx31_0) (by omega) (lv_sub hl [1, 2, 3, 0] rfl)
                · have c34_ := i_nle c34
                  refine lv_aload_n hx hb dX10_isAslant_37 rfl (lv_at hl 0 rfl) ?_
                  refine lv_iload_n hx hb dX10_isAslant_38 rfl (lv_at hl 3 rfl) ?_
                  refine lv_iload hx hb dX10_isAslant_39 (lv_at hl 4 rfl) ?_
                  refine rd_V (As := [.int k, .int way]) (rest := []) (C := RX10) (ci := 10) ⟨hx, hb, hml, hown, hts⟩ (c_X10_beside l E A am vm k way hH (by omega) (by omega)) (cwV 2 hts gX10_isAslant_X10_beside rfl rfl rfl (by decide +kernel) ⟨Nat.le_of_ble_eq_true rfl, Nat.le_of_ble_eq_true rfl⟩) hE (hP.sub (ws' := mdL E am vm) [0, 1, 2, 3, 4, 5, 6, 7, 8, 9, 10, 11, 12, 13, 14, 15, 16, 17, 18, 19, 20, 21, 22, 23, 24, 25, 26, 27, 28, 29, 30, 31, 32, 33, 34, 35, 36, 37, 38, 39, 40, 41, 42, 43, 44, 45] rfl) rfl rfl rfl rfl hl.1 rfl (Nat.le_of_ble_eq_true rfl) dX10_isAslant_41 ⟨Nat.zero_le _, Nat.zero_le _⟩ (fun r41 h41 => ?_)
                  refine lv_istore (lv' := [(5, .int r41), (0, .ref (am 0)), (1, .int step), (2, .int is2), (3, .int k), (4, .int way)]) hx hb dX10_isAslant_44 hl (by decide) rfl (fun ls hl => ?_)
                  refine lv_iload_n hx hb dX10_isAslant_46 rfl (lv_at hl 3 rfl) ?_
                  have K76 : ∀  (is3 : Int32) (ls : Array Slot), (is3.toInt = 0 ∨ is3.toInt = 1) → (is3.toInt ≠ 0 ↔ (is2.toInt ≠ 0 ∧ ¬ LikP vm k way step)) → lv_has ls 6 [(0, .ref (am 0)), (1, .int step), (2, .int is2), (3, .int k), (4, .int way), (5, .int r41)] → W p l e (headSpec wsX10_isAslant rm_X10_isAslant).room s m ([.ref (am 0), .int step] : List Value).toArray below meth c s.heap [] 0 0 Q (F0 m 76 ls [.int is3]) := by
                    intro is3 ls h76_0 h76_1 hl
                    have hx76_0 := h76_1
                    clear h76_1
                    refine lv_istore_n (lv' := [(2, .int is3), (0, .ref (am 0)), (1, .int step), (3, .int k), (4, .int way), (5, .int r41)]) hx hb dX10_isAslant_76 rfl hl (by decide) rfl (fun ls hl => ?_)
                    obtain ⟨x77, e77⟩ : ∃ y : Int32, y = way + 1 := ⟨_, rfl⟩
                    refine lv_iinc (v := x77) (lv' := [(4, .int x77), (2, .int is3), (0, .ref (am 0)), (1, .int step), (3, .int k), (5, .int r41)]) hx hb dX10_isAslant_77 hl (k := 4) rfl (by rw [e77]; rfl) (by decide) rfl (fun ls hl => ?_)
                    have t77 := i_add e77 (by omega)
                    refine lv_goto (tgt := 31) hx hb dX10_isAslant_80 (by decide) ?_
                    exact ih31 is3 x77 ls (by omega) (by omega) (by omega) (asl_way ⟨hx31_1, by omega⟩ t77 hx31_0 hx76_0) (by omega) (lv_sub hl [2, 3, 1, 4, 0] rfl)
                  refine lv_if_eq (tgt := 75) hx hb dX10_isAslant_47 (by decide) (fun c47 => ?_) (fun c47 => ?_)
                  · have c47_ := i_eq c47
                    have hz47 : is2.toInt = 0 := by omega
                    refine lv_iconst (v := 0) hx hb dX10_isAslant_75 (by decide) ?_
                    exact K76 0 ls (Or.inl (by decide)) (by first | exact ⟨fun q => absurd n_0 q, fun q => absurd hz47 q.1⟩ | exact ⟨fun q => absurd n_0 q, fun q => absurd hl68 q.2⟩ | exact ⟨fun _ => ⟨hnz47, hnl52⟩, fun _ => by decide⟩) (lv_sub hl [1, 2, 3, 4, 5, 0] rfl)
                  · have c47_ := i_ne c47
                    have hnz47 : is2.toInt ≠ 0 := by omega
                    refine lv_iload hx hb dX10_isAslant_50 (lv_at hl 0 rfl) ?_
                    refine lv_if_lt (tgt := 71) hx hb dX10_isAslant_52 (by decide) (fun c52 => ?_) (fun c52 => ?_)
                    · have c52_ := i_lt c52
                      have hnl52 : ¬ LikP vm k way step := fun q => absurd q.1 (by rw [← h41.1]; omega)
                      refine lv_iconst (v := 1) hx hb dX10_isAslant_71 (by decide) ?_
                      refine lv_goto (tgt := 76) hx hb dX10_isAslant_72 (by decide) ?_
                      exact K76 1 ls (Or.inr (by decide)) (by first | exact ⟨fun q => absurd n_0 q, fun q => absurd hz47 q.1⟩ | exact ⟨fun q => absurd n_0 q, fun q => absurd hl68 q.2⟩ | exact ⟨fun _ => ⟨hnz47, hnl52⟩, fun _ => by decide⟩) (lv_sub hl [1, 2, 3, 4, 5, 0] rfl)
                    · have c52_ := i_nlt c52
                      refine lv_aload_n hx hb dX10_isAslant_55 rfl (lv_at hl 1 rfl) ?_
                      refine lv_iload hx hb dX10_isAslant_56 (lv_at hl 0 rfl) ?_
                      refine lv_iload_n hx hb dX10_isAslant_58 rfl (lv_at hl 2 rfl) ?_
                      refine rd_V (As := [.int r41, .int step]) (rest := []) (C := RX10) (ci := 10) ⟨hx, hb, hml, hown, hts⟩ (c_X10_heightAt l E A am vm r41 step hH (by omega) (by omega) (by omega)) (cwV 2 hts gX10_isAslant_X10_heightAt rfl rfl rfl (by decide +kernel) ⟨Nat.le_of_ble_eq_true rfl, Nat.le_of_ble_eq_true rfl⟩) hE (hP.sub (ws' := mdL E am vm) [0, 1, 2, 3, 4, 5, 6, 7, 8, 9, 10, 11, 12, 13, 14, 15, 16, 17, 18, 19, 20, 21, 22, 23, 24, 25, 26, 27, 28, 29, 30, 31, 32, 33, 34, 35, 36, 37, 38, 39, 40, 41, 42, 43, 44, 45] rfl) rfl rfl rfl rfl hl.1 rfl (Nat.le_of_ble_eq_true rfl) dX10_isAslant_59 ⟨Nat.zero_le _, Nat.zero_le _⟩ (fun r59 h59 => ?_)
                      refine lv_aload_n hx hb dX10_isAslant_62 rfl (lv_at hl 1 rfl) ?_
                      refine lv_iload_n hx hb dX10_isAslant_63 rfl (lv_at hl 4 rfl) ?_
                      refine lv_iload_n hx hb dX10_isAslant_64 rfl (lv_at hl 2 rfl) ?_
                      refine rd_V (As := [.int k, .int step]) (rest := [.int r59]) (C := RX10) (ci := 10) ⟨hx, hb, hml, hown, hts⟩ (c_X10_heightAt l E A am vm k step hH (by omega) (by omega) (by omega)) (cwV 2 hts gX10_isAslant_X10_heightAt rfl rfl rfl (by decide +kernel) ⟨Nat.le_of_ble_eq_true rfl, Nat.le_of_ble_eq_true rfl⟩) hE (hP.sub (ws' := mdL E am vm) [0, 1, 2, 3, 4, 5, 6, 7, 8, 9, 10, 11, 12, 13, 14, 15, 16, 17, 18, 19, 20, 21, 22, 23, 24, 25, 26, 27, 28, 29, 30, 31, 32, 33, 34, 35, 36, 37, 38, 39, 40, 41, 42, 43, 44, 45] rfl) rfl rfl rfl rfl hl.1 rfl (Nat.le_of_ble_eq_true rfl) dX10_isAslant_65 ⟨Nat.zero_le _, Nat.zero_le _⟩ (fun r65 h65 => ?_)
                      refine lv_icmp_eq (tgt := 75) hx hb dX10_isAslant_68 (by decide) (fun c68 => ?_) (fun c68 => ?_)
                      · have c68_ := i_eq c68
                        have hl68 : LikP vm k way step := ⟨by rw [← h41.1]; omega, by rw [← h41.1, ← h59.1, ← h65.1]; exact c68⟩
                        refine lv_iconst (v := 0) hx hb dX10_isAslant_75 (by decide) ?_
                        exact K76 0 ls (Or.inl (by decide)) (by first | exact ⟨fun q => absurd n_0 q, fun q => absurd hz47 q.1⟩ | exact ⟨fun q => absurd n_0 q, fun q => absurd hl68 q.2⟩ | exact ⟨fun _ => ⟨hnz47, hnl52⟩, fun _ => by decide⟩) (lv_sub hl [1, 2, 3, 4, 5, 0] rfl)
                      · have c68_ := i_ne c68
                        have hnl52 : ¬ LikP vm k way step := fun q => c68 (by rw [h59.1, h65.1, h41.1]; exact q.2)
                        refine lv_iconst (v := 1) hx hb dX10_isAslant_71 (by decide) ?_
                        refine lv_goto (tgt := 76) hx hb dX10_isAslant_72 (by decide) ?_
                        exact K76 1 ls (Or.inr (by decide)) (by first | exact ⟨fun q => absurd n_0 q, fun q => absurd hz47 q.1⟩ | exact ⟨fun q => absurd n_0 q, fun q => absurd hl68 q.2⟩ | exact ⟨fun _ => ⟨hnz47, hnl52⟩, fun _ => by decide⟩) (lv_sub hl [1, 2, 3, 4, 5, 0] rfl)
            exact K31 _ is1 2 ls (Nat.lt_succ_self _) (by omega) (by omega) ⟨fun z => ⟨hx16_0.mp z, fun q => absurd q (by rw [n_2]; omega), fun q => absurd q (by rw [n_2]; omega)⟩, fun z => hx16_0.mpr z.1⟩ (by rw [n_2]; omega) (lv_sub hl [1, 2, 3, 4, 0] rfl)
    exact K16 _ is0 0 ls (Nat.lt_succ_self _) (by omega) (by omega) ⟨fun z => ⟨hx13_0.mp z, fun j hj => absurd hj (by rw [n_0]; omega)⟩, fun z => hx13_0.mpr z.1⟩ (by rw [n_0]; omega) (lv_sub hl [2, 3, 1, 0] rfl)
  refine lv_icmp_le (tgt := 12) hx hb dX10_isAslant_5 (by decide) (fun c5 => ?_) (fun c5 => ?_)
  · have c5_ := i_le c5
    refine lv_iconst (v := 0) hx hb dX10_isAslant_12 (by decide) ?_
    exact K13 0 ls (Or.inl (by decide)) (by constructor <;> intro z <;> omega) (lv_sub hl [0, 1] rfl)
  · have c5_ := i_nle c5
    refine lv_iconst (v := 1) hx hb dX10_isAslant_8 (by decide) ?_
    refine lv_goto (tgt := 13) hx hb dX10_isAslant_9 (by decide) ?_
    exact K13 1 ls (Or.inr (by decide)) (by constructor <;> intro z <;> omega) (lv_sub hl [0, 1] rfl)
def rm_X10_aslant : Room := { frames := 4, cells := 0, slots := 0, locals := 96 }
set_option maxHeartbeats 4000000 in
set_option maxRecDepth 100000 in
theorem c_X10_aslant (l : Launch) (E : Ev) (A : Nat → Prop) (am : Nat → Nat) (vm : Vf) (step : Int32) (hH : MdH vm) : Met l yX10_aslant wsX10_aslant rm_X10_aslant (RdP E A [.ref (am 0), .int step] (mdL E am vm)) (vp_Si (fun r => (True) ∧ (OutP (0 ≤ step.toInt ∧ step.toInt ≤ 900000) r (NotP ((vm 0 0).toInt ≠ 0) r (NxP (fun j => AslP vm (step + Int32.ofNat j)) (vm 22 0).toInt r))))) 0 0 (fun _ => False) := by
  refine Met.ofW (cc := cX10_aslant) (maxL := 3) (ret := (some .int)) (by decide) rfl ?_
  intro p e s m args below meth c s₁ B hml hv
  obtain ⟨rfl, hE, hP⟩ := hv
  have hx := B.exec
  have hb := B.bytes
  have hr := B.returns
  have hts := atoms_spec (ws := wsX10_aslant) B.pre
  have hown : s.vm.findClass RX10 = some m.cls := findClass_of_methodNamed B.named
  have hlocks := B.notSynchronized
  have hK := hE.1
  have in_X10 : ∀ w ∈ u_ws RX10 TX10 79, w ∈ wsX10_aslant := fun w h => List.mem_cons_of_mem _ (List.mem_append_right _ h)
  have lk0 := hts (.fieldLink RX10 159 "TidedGroundModel" "wide" "I") (List.mem_of_getElem? (i := 2) rfl)
  have lk1 := hts (.fieldLink RX10 55 "TidedGroundModel" "period" "I") (List.mem_of_getElem? (i := 4) rfl)
  have lk2 := hts (.constant RX10 366 (-1000000003)) (List.mem_of_getElem? (i := 3) rfl)
  have lk3 := hts (.constant RX10 175 (-1000000002)) (List.mem_of_getElem? (i := 1) rfl)
  have n_m1000000003 : ((-1000000003) : Int32).toInt = -1000000003 := by decide
  have n_m1000000002 : ((-1000000002) : Int32).toInt = -1000000002 := by decide
  have n_m1 : ((-1) : Int32).toInt = -1 := by decide
  have n_0 : (0 : Int32).toInt = 0 := by decide
  have n_1 : (1 : Int32).toInt = 1 := by decide
  have hl := lv_entry ([.ref (am 0), .int step]) (n := 3) (Nat.le_of_ble_eq_true rfl)
  rw [lg_entry_eq]
  generalize (lg_sl ([.ref (am 0), .int step]) ++ List.replicate (3 - (lg_sl ([.ref (am 0), .int step])).length) Slot.unset).toArray = ls at hl ⊢
  have hl : lv_has ls 3 [(0, .ref (am 0)), (1, .int step)] := hl
  refine W_abs (fun Q hQ => ?_)
  obtain ⟨hmG, hmC, hmZ, hmM, hmA, hmS, hmT⟩ := id hH
  obtain ⟨hG1, hG2, hG3⟩ := id hmG
  obtain ⟨hC1, hC2, hC3, hC4, hC5, hC6⟩ := id hmC
  obtain ⟨hM1, hM2, hM3, hM4⟩ := id hmM
  obtain ⟨hA1, hA2, hA3, hA4, hA5⟩ := id hmA
  obtain ⟨hS1, hS2, hS3, hS4, hS5, hS6⟩ := id hmS
  obtain ⟨hT1, hT2, hT3, hT4, hT5⟩ := id hmT
  refine lv_iload_n hx hb dX10_aslant_0 rfl (lv_at hl 1 rfl) ?_
  refine rd_S (As := [.int step]) (rest := []) ⟨hx, hb, hml, hown, hts⟩ (c_X10_isStep l E A step) (va_cwS 1 hts gX10_aslant_X10_isStep rfl rfl rfl (by decide +kernel) ⟨Nat.le_of_ble_eq_true rfl, Nat.le_of_ble_eq_true rfl⟩) hE (hP.sub (ws' := []) [] rfl) rfl hl.1 rfl (Nat.le_of_ble_eq_true rfl) dX10_aslant_1 ⟨Nat.zero_le _, Nat.zero_le _⟩ (fun r1 h1 => ?_)
  refine lv_if_ne (tgt := 10) hx hb dX10_aslant_4 (by decide) (fun c4 => ?_) (fun c4 => ?_)
  · have c4_ := i_ne c4
    replace h1 := or_y h1 c4_
    clear c4_
    have sv10_step : 0 ≤ step.toInt ∧ step.toInt ≤ 900000 := by omega
    refine lv_aload_n hx hb dX10_aslant_10 rfl (lv_at hl 0 rfl) ?_
    refine va_get (D := eD E) (ci := 10) (v := .int (vm 0 0)) (C := RX10) (T := TX10) (N := 79) hx hb hts in_X10 hown hK hP 0 rfl rfl 0 (by decide) lk0 (fun _ h9 => h9) rfl dX10_aslant_11 ?_
    refine lv_if_ne (tgt := 21) hx hb dX10_aslant_14 (by decide) (fun c14 => ?_) (fun c14 => ?_)
    · have c14_ := i_ne c14
      refine lv_iconst (v := 0) hx hb dX10_aslant_21 (by decide) ?_
      refine lv_istore_n (lv' := [(2, .int 0), (0, .ref (am 0)), (1, .int step)]) hx hb dX10_aslant_22 rfl hl (by decide) rfl (fun ls hl => ?_)
      have K23 : ∀ (μ : Nat) (i : Int32) (ls : Array Slot), (729 - i.toInt).toNat < μ → (0 ≤ i.toInt ∧ i.toInt ≤ 729) → (∀ j : Nat, (j : Int) < i.toInt → ¬ AslP vm (step + Int32.ofNat j)) → lv_has ls 3 [(0, .ref (am 0)), (1, .int step), (2, .int i)] → W p l e (headSpec wsX10_aslant rm_X10_aslant).room s m ([.ref (am 0), .int step] : List Value).toArray below meth c s.heap [] 0 0 Q (F0 m 23 ls []) := by
        intro μ
        induction μ with
        | zero =>
          intro i ls hμ23
          exact absurd hμ23 (Nat.not_lt_zero _)
        | succ μ ih23 =>
          intro i ls hμ23 h23_0 h23_1 hl
          have hx23_0 := h23_1
          clear h23_1
          refine lv_iload_n hx hb dX10_aslant_23 rfl (lv_at hl 2 rfl) ?_
          refine lv_aload_n hx hb dX10_aslant_24 rfl (lv_at hl 0 rfl) ?_
          refine va_get (D := eD E) (ci := 10) (v := .int (vm 22 0)) (C := RX10) (T := TX10) (N := 79) hx hb hts in_X10 hown hK hP 0 rfl rfl 22 (by decide) lk1 (fun _ h9 => h9) rfl dX10_aslant_25 ?_
          refine lv_icmp_ge (tgt := 49) hx hb dX10_aslant_28 (by decide) (fun c28 => ?_) (fun c28 => ?_)
          · have c28_ := i_le c28
            refine lv_iconst (v := (-1)) hx hb dX10_aslant_49 (by decide) ?_
            subst hQ
            exact W.iret (v := (-1)) hx hb hr (fun t ht hW => ⟨(-1), rfl, ⟨trivial, (Or.inr ⟨by omega, Or.inr ⟨by omega, nxs_end (T := AslP vm) hx23_0 (by omega) (by omega)⟩⟩)⟩, ht⟩) (fun q h => absurd h List.not_mem_nil) dX10_aslant_50
          · have c28_ := i_nle c28
            refine lv_aload_n hx hb dX10_aslant_31 rfl (lv_at hl 0 rfl) ?_
            refine lv_iload_n hx hb dX10_aslant_32 rfl (lv_at hl 1 rfl) ?_
            refine lv_iload_n hx hb dX10_aslant_33 rfl (lv_at hl 2 rfl) ?_
            refine lv_iadd hx hb dX10_aslant_34 ?_
            refine lv_topi (fun x34 e34 => ?_)
            have t34 := i_add e34 (by omega)
            refine rd_V (As := [.int x34]) (rest := []) (C := RX10) (ci := 10) ⟨hx, hb, hml, hown, hts⟩ (c_X10_isAslant l E A am vm x34 hH (by omega)) (cwV 1 hts gX10_aslant_X10_isAslant rfl rfl rfl (by decide +kernel) ⟨Nat.le_of_ble_eq_true rfl, Nat.le_of_ble_eq_true rfl⟩) hE (hP.sub (ws' := mdL E am vm) [0, 1, 2, 3, 4, 5, 6, 7, 8, 9, 10, 11, 12, 13, 14, 15, 16, 17, 18, 19, 20, 21, 22, 23, 24, 25, 26, 27, 28, 29, 30, 31, 32, 33, 34, 35, 36, 37, 38, 39, 40, 41, 42, 43, 44, 45] rfl) rfl rfl rfl rfl hl.1 rfl (Nat.le_of_ble_eq_true rfl) dX10_aslant_35 ⟨Nat.zero_le _, Nat.zero_le _⟩ (fun r35 h35 => ?_)
            have hf35 := h35.2
            replace h35 := h35.1
            refine lv_if_eq (tgt := 43) hx hb dX10_aslant_38 (by decide) (fun c38 => ?_) (fun c38 => ?_)
            · have c38_ := i_eq c38
              clear h35
              obtain ⟨x43, e43⟩ : ∃ y : Int32, y = i + 1 := ⟨_, rfl⟩
              refine lv_iinc (v := x43) (lv' := [(2, .int x43), (0, .ref (am 0)), (1, .int step)]) hx hb dX10_aslant_43 hl (k := 2) rfl (by rw [e43]; rfl) (by decide) rfl (fun ls hl => ?_)
              have t43 := i_add e43 (by omega)
              refine lv_goto (tgt := 23) hx hb dX10_aslant_46 (by decide) ?_
              exact ih23 x43 ls (by omega) (by omega) (nxs_no (T := AslP vm) hx23_0 (by omega) t43 e34 (fun z => hf35.mpr z (by omega))) (lv_sub hl [1, 2, 0] rfl)
            · have c38_ := i_ne c38
              replace h35 := b_y h35 c38_
              clear c38_
              refine lv_iload_n hx hb dX10_aslant_41 rfl (lv_at hl 2 rfl) ?_
              subst hQ
              exact W.iret (v := i) hx hb hr (fun t ht hW => ⟨i, rfl, ⟨trivial, (Or.inr ⟨by omega, Or.inr ⟨by omega, nxs_at (T := AslP vm) hx23_0 (by omega) (by omega) e34 (hf35.mp (by omega))⟩⟩)⟩, ht⟩) (fun q h => absurd h List.not_mem_nil) dX10_aslant_42
      exact K23 _ 0 ls (Nat.lt_succ_self _) (by omega) (fun j hj => absurd hj (by rw [n_0]; omega)) (lv_sub hl [1, 2, 0] rfl)
    · have c14_ := i_eq c14
      refine lv_ldcw hx hb hown lk2 dX10_aslant_17 ?_
      subst hQ
      exact W.iret (v := (-1000000003)) hx hb hr (fun t ht hW => ⟨(-1000000003), rfl, ⟨trivial, (Or.inr ⟨by omega, Or.inl ⟨by omega, fun z => z (by omega)⟩⟩)⟩, ht⟩) (fun q h => absurd h List.not_mem_nil) dX10_aslant_20
  · have c4_ := i_eq c4
    replace h1 := or_n h1 c4_
    refine lv_ldc hx hb hown lk3 dX10_aslant_7 ?_
    subst hQ
    exact W.iret (v := (-1000000002)) hx hb hr (fun t ht hW => ⟨(-1000000002), rfl, ⟨trivial, (Or.inl ⟨by omega, by omega⟩)⟩, ht⟩) (fun q h => absurd h List.not_mem_nil) dX10_aslant_9
def rm_X10_isTurn : Room := { frames := 3, cells := 0, slots := 0, locals := 69 }
set_option maxHeartbeats 4000000 in
set_option maxRecDepth 100000 in
theorem c_X10_isTurn (l : Launch) (E : Ev) (A : Nat → Prop) (am : Nat → Nat) (vm : Vf) (cell : Int32) (step : Int32) (hH : MdH vm) (hw : 1 ≤ (vm 0 0).toInt) (hcell : 0 ≤ cell.toInt ∧ cell.toInt ≤ 23) (hstep : 1 ≤ step.toInt ∧ step.toInt ≤ 1900000) : Met l yX10_isTurn wsX10_isTurn rm_X10_isTurn (RdP E A [.ref (am 0), .int cell, .int step] (mdL E am vm)) (vp_Si (fun r => ((r.toInt = 0 ∨ r.toInt = 1)) ∧ (r.toInt ≠ 0 ↔ TrnP vm cell step))) 0 0 (fun _ => False) := by
  refine Met.ofW (cc := cX10_isTurn) (maxL := 5) (ret := (some .boolean)) (by decide) rfl ?_
  intro p e s m args below meth c s₁ B hml hv
  obtain ⟨rfl, hE, hP⟩ := hv
  have hx := B.exec
  have hb := B.bytes
  have hr := B.returns
  have hts := atoms_spec (ws := wsX10_isTurn) B.pre
  have hown : s.vm.findClass RX10 = some m.cls := findClass_of_methodNamed B.named
  have hlocks := B.notSynchronized
  have hK := hE.1
  have n_0 : (0 : Int32).toInt = 0 := by decide
  have n_1 : (1 : Int32).toInt = 1 := by decide
  have hl := lv_entry ([.ref (am 0), .int cell, .int step]) (n := 5) (Nat.le_of_ble_eq_true rfl)
  rw [lg_entry_eq]
  generalize (lg_sl ([.ref (am 0), .int cell, .int step]) ++ List.replicate (5 - (lg_sl ([.ref (am 0), .int cell, .int step])).length) Slot.unset).toArray = ls at hl ⊢
  have hl : lv_has ls 5 [(0, .ref (am 0)), (1, .int cell), (2, .int step)] := hl
  refine W_abs (fun Q hQ => ?_)
  obtain ⟨hmG, hmC, hmZ, hmM, hmA, hmS, hmT⟩ := id hH
  obtain ⟨hG1, hG2, hG3⟩ := id hmG
  obtain ⟨hC1, hC2, hC3, hC4, hC5, hC6⟩ := id hmC
  obtain ⟨hM1, hM2, hM3, hM4⟩ := id hmM
  obtain ⟨hA1, hA2, hA3, hA4, hA5⟩ := id hmA
  obtain ⟨hS1, hS2, hS3, hS4, hS5, hS6⟩ := id hmS
  obtain ⟨hT1, hT2, hT3, hT4, hT5⟩ := id hmT
  refine lv_aload_n hx hb dX10_isTurn_0 rfl (lv_at hl 0 rfl) ?_
  refine lv_iload_n hx hb dX10_isTurn_1 rfl (lv_at hl 1 rfl) ?_
  refine lv_iload_n hx hb dX10_isTurn_2 rfl (lv_at hl 2 rfl) ?_
  refine lv_iconst (v := 1) hx hb dX10_isTurn_3 (by decide) ?_
  refine lv_isub hx hb dX10_isTurn_4 ?_
  refine lv_topi (fun x4 e4 => ?_)
  have t4 := i_sub e4 (by omega)
  refine rd_V (As := [.int cell, .int x4]) (rest := []) (C := RX10) (ci := 10) ⟨hx, hb, hml, hown, hts⟩ (c_X10_heightAt l E A am vm cell x4 hH (by omega) (by omega) (by omega)) (cwV 2 hts gX10_isTurn_X10_heightAt rfl rfl rfl (by decide +kernel) ⟨Nat.le_of_ble_eq_true rfl, Nat.le_of_ble_eq_true rfl⟩) hE (hP.sub (ws' := mdL E am vm) [0, 1, 2, 3, 4, 5, 6, 7, 8, 9, 10, 11, 12, 13, 14, 15, 16, 17, 18, 19, 20, 21, 22, 23, 24, 25, 26, 27, 28, 29, 30, 31, 32, 33, 34, 35, 36, 37, 38, 39, 40, 41, 42, 43, 44, 45] rfl) rfl rfl rfl rfl hl.1 rfl (Nat.le_of_ble_eq_true rfl) dX10_isTurn_5 ⟨Nat.zero_le _, Nat.zero_le _⟩ (fun r5 h5 => ?_)
  refine lv_aload_n hx hb dX10_isTurn_8 rfl (lv_at hl 0 rfl) ?_
  refine lv_iload_n hx hb dX10_isTurn_9 rfl (lv_at hl 1 rfl) ?_
  refine lv_iload_n hx hb dX10_isTurn_10 rfl (lv_at hl 2 rfl) ?_
  refine rd_V (As := [.int cell, .int step]) (rest := [.int r5]) (C := RX10) (ci := 10) ⟨hx, hb, hml, hown, hts⟩ (c_X10_heightAt l E A am vm cell step hH (by omega) (by omega) (by omega)) (cwV 2 hts gX10_isTurn_X10_heightAt rfl rfl rfl (by decide +kernel) ⟨Nat.le_of_ble_eq_true rfl, Nat.le_of_ble_eq_true rfl⟩) hE (hP.sub (ws' := mdL E am vm) [0, 1, 2, 3, 4, 5, 6, 7, 8, 9, 10, 11, 12, 13, 14, 15, 16, 17, 18, 19, 20, 21, 22, 23, 24, 25, 26, 27, 28, 29, 30, 31, 32, 33, 34, 35, 36, 37, 38, 39, 40, 41, 42, 43, 44, 45] rfl) rfl rfl rfl rfl hl.1 rfl (Nat.le_of_ble_eq_true rfl) dX10_isTurn_11 ⟨Nat.zero_le _, Nat.zero_le _⟩ (fun r11 h11 => ?_)
  refine lv_isub hx hb dX10_isTurn_14 ?_
  refine lv_topi (fun x14 e14 => ?_)
  have t14 := i_sub e14 (by omega)
  refine lv_istore_n (lv' := [(3, .int x14), (0, .ref (am 0)), (1, .int cell), (2, .int step)]) hx hb dX10_isTurn_15 rfl hl (by decide) rfl (fun ls hl => ?_)
  refine lv_aload_n hx hb dX10_isTurn_16 rfl (lv_at hl 1 rfl) ?_
  refine lv_iload_n hx hb dX10_isTurn_17 rfl (lv_at hl 2 rfl) ?_
  refine lv_iload_n hx hb dX10_isTurn_18 rfl (lv_at hl 3 rfl) ?_
  refine lv_iconst (v := 1) hx hb dX10_isTurn_19 (by decide) ?_
  refine lv_iadd hx hb dX10_isTurn_20 ?_
  refine lv_topi (fun x20 e20 => ?_)
  have t20 := i_add e20 (by omega)
  refine rd_V (As := [.int cell, .int x20]) (rest := []) (C := RX10) (ci := 10) ⟨hx, hb, hml, hown, hts⟩ (c_X10_heightAt l E A am vm cell x20 hH (by omega) (by omega) (by omega)) (cwV 2 hts gX10_isTurn_X10_heightAt rfl rfl rfl (by decide +kernel) ⟨Nat.le_of_ble_eq_true rfl, Nat.le_of_ble_eq_true rfl⟩) hE (hP.sub (ws' := mdL E am vm) [0, 1, 2, 3, 4, 5, 6, 7, 8, 9, 10, 11, 12, 13, 14, 15, 16, 17, 18, 19, 20, 21, 22, 23, 24, 25, 26, 27, 28, 29, 30, 31, 32, 33, 34, 35, 36, 37, 38, 39, 40, 41, 42, 43, 44, 45] rfl) rfl rfl rfl rfl hl.1 rfl (Nat.le_of_ble_eq_true rfl) dX10_isTurn_21 ⟨Nat.zero_le _, Nat.zero_le _⟩ (fun r21 h21 => ?_)
  refine lv_aload_n hx hb dX10_isTurn_24 rfl (lv_at hl 1 rfl) ?_
  refine lv_iload_n hx hb dX10_isTurn_25 rfl (lv_at hl 2 rfl) ?_
  refine lv_iload_n hx hb dX10_isTurn_26 rfl (lv_at hl 3 rfl) ?_
  refine rd_V (As := [.int cell, .int step]) (rest := [.int r21]) (C := RX10) (ci := 10) ⟨hx, hb, hml, hown, hts⟩ (c_X10_heightAt l E A am vm cell step hH (by omega) (by omega) (by omega)) (cwV 2 hts gX10_isTurn_X10_heightAt rfl rfl rfl (by decide +kernel) ⟨Nat.le_of_ble_eq_true rfl, Nat.le_of_ble_eq_true rfl⟩) hE (hP.sub (ws' := mdL E am vm) [0, 1, 2, 3, 4, 5, 6, 7, 8, 9, 10, 11, 12, 13, 14, 15, 16, 17, 18, 19, 20, 21, 22, 23, 24, 25, 26, 27, 28, 29, 30, 31, 32, 33, 34, 35, 36, 37, 38, 39, 40, 41, 42, 43, 44, 45] rfl) rfl rfl rfl rfl hl.1 rfl (Nat.le_of_ble_eq_true rfl) dX10_isTurn_27 ⟨Nat.zero_le _, Nat.zero_le _⟩ (fun r27 h27 => ?_)
  refine lv_isub hx hb dX10_isTurn_30 ?_
  refine lv_topi (fun x30 e30 => ?_)
  have t30 := i_sub e30 (by omega)
  refine lv_istore (lv' := [(4, .int x30), (3, .int x14), (0, .ref (am 0)), (1, .int cell), (2, .int step)]) hx hb dX10_isTurn_31 hl (by decide) rfl (fun ls hl => ?_)
  refine lv_iload_n hx hb dX10_isTurn_33 rfl (lv_at hl 1 rfl) ?_
  refine lv_if_ge (tgt := 42) hx hb dX10_isTurn_34 (by decide) (fun c34 => ?_) (fun c34 => ?_)
  · have c34_ := i_le c34
    refine lv_iload_n hx hb dX10_isTurn_42 rfl (lv_at hl 1 rfl) ?_
    refine lv_if_le (tgt := 55) hx hb dX10_isTurn_43 (by decide) (fun c43 => ?_) (fun c43 => ?_)
    · have c43_ := i_le c43
      refine lv_iconst (v := 0) hx hb dX10_isTurn_55 (by decide) ?_
      subst hQ
      exact W.zret (v := 0) hx hb hr rfl (fun t ht hW => ⟨0, rfl, ⟨(by omega), (by have q27 : r27 = r11 := (by rw [h27.1, h11.1]); have q28 := i_eq q27; unfold TrnP; rw [← e4, ← e20, ← h5.1, ← h21.1, ← h11.1]; constructor <;> intro z <;> omega)⟩, ht⟩) (fun q h => absurd h List.not_mem_nil) dX10_isTurn_56
    · have c43_ := i_nle c43
      refine lv_iload hx hb dX10_isTurn_46 (lv_at hl 0 rfl) ?_
      refine lv_if_le (tgt := 55) hx hb dX10_isTurn_48 (by decide) (fun c48 => ?_) (fun c48 => ?_)
      · have c48_ := i_le c48
        refine lv_iconst (v := 0) hx hb dX10_isTurn_55 (by decide) ?_
        subst hQ
        exact W.zret (v := 0) hx hb hr rfl (fun t ht hW => ⟨0, rfl, ⟨(by omega), (by have q27 : r27 = r11 := (by rw [h27.1, h11.1]); have q28 := i_eq q27; unfold TrnP; rw [← e4, ← e20, ← h5.1, ← h21.1, ← h11.1]; constructor <;> intro z <;> omega)⟩, ht⟩) (fun q h => absurd h List.not_mem_nil) dX10_isTurn_56
      · have c48_ := i_nle c48
        refine lv_iconst (v := 1) hx hb dX10_isTurn_51 (by decide) ?_
        refine lv_goto (tgt := 56) hx hb dX10_isTurn_52 (by decide) ?_
        subst hQ
        exact W.zret (v := 1) hx hb hr rfl (fun t ht hW => ⟨1, rfl, ⟨(by omega), (by have q27 : r27 = r11 := (by rw [h27.1, h11.1]); have q28 := i_eq q27; unfold TrnP; rw [← e4, ← e20, ← h5.1, ← h21.1, ← h11.1]; constructor <;> intro z <;> omega)⟩, ht⟩) (fun q h => absurd h List.not_mem_nil) dX10_isTurn_56
  · have c34_ := i_nle c34
    refine lv_iload hx hb dX10_isTurn_37 (lv_at hl 0 rfl) ?_
    refine lv_if_lt (tgt := 51) hx hb dX10_isTurn_39 (by decide) (fun c39 => ?_) (fun c39 => ?_)
    · have c39_ := i_lt c39
      refine lv_iconst (v := 1) hx hb dX10_isTurn_51 (by decide) ?_
      refine lv_goto (tgt := 56) hx hb dX10_isTurn_52 (by decide) ?_
      subst hQ
      exact W.zret (v := 1) hx hb hr rfl (fun t ht hW => ⟨1, rfl, ⟨(by omega), (by have q27 : r27 = r11 := (by rw [h27.1, h11.1]); have q28 := i_eq q27; unfold TrnP; rw [← e4, ← e20, ← h5.1, ← h21.1, ← h11.1]; constructor <;> intro z <;> omega)⟩, ht⟩) (fun q h => absurd h List.not_mem_nil) dX10_isTurn_56
    · have c39_ := i_nlt c39
      refine lv_iload_n hx hb dX10_isTurn_42 rfl (lv_at hl 1 rfl) ?_
      refine lv_if_le (tgt := 55) hx hb dX10_isTurn_43 (by decide) (fun c43 => ?_) (fun c43 => ?_)
      · have c43_ := i_le c43
        refine lv_iconst (v := 0) hx hb dX10_isTurn_55 (by decide) ?_
        subst hQ
        exact W.zret (v := 0) hx hb hr rfl (fun t ht hW => ⟨0, rfl, ⟨(by omega), (by have q27 : r27 = r11 := (by rw [h27.1, h11.1]); have q28 := i_eq q27; unfold TrnP; rw [← e4, ← e20, ← h5.1, ← h21.1, ← h11.1]; constructor <;> intro z <;> omega)⟩, ht⟩) (fun q h => absurd h List.not_mem_nil) dX10_isTurn_56
      · have c43_ := i_nle c43
        refine lv_iload hx hb dX10_isTurn_46 (lv_at hl 0 rfl) ?_
        refine lv_if_le (tgt := 55) hx hb dX10_isTurn_48 (by decide) (fun c48 => ?_) (fun c48 => ?_)
        · have c48_ := i_le c48
          refine lv_iconst (v := 0) hx hb dX10_isTurn_55 (by decide) ?_
          subst hQ
          exact W.zret (v := 0) hx hb hr rfl (fun t ht hW => ⟨0, rfl, ⟨(by omega), (by have q27 : r27 = r11 := (by rw [h27.1, h11.1]); have q28 := i_eq q27; unfold TrnP; rw [← e4, ← e20, ← h5.1, ← h21.1, ← h11.1]; constructor <;> intro z <;> omega)⟩, ht⟩) (fun q h => absurd h List.not_mem_nil) dX10_isTurn_56
        · have c48_ := i_nle c48
          refine lv_iconst (v := 1) hx hb dX10_isTurn_51 (by decide) ?_
          refine lv_goto (tgt := 56) hx hb dX10_isTurn_52 (by decide) ?_
          subst hQ
          exact W.zret (v := 1) hx hb hr rfl (fun t ht hW => ⟨1, rfl, ⟨(by omega), (by have q27 : r27 = r11 := (by rw [h27.1, h11.1]); have q28 := i_eq q27; unfold TrnP; rw [← e4, ← e20, ← h5.1, ← h21.1, ← h11.1]; constructor <;> intro z <;> omega)⟩, ht⟩) (fun q h => absurd h List.not_mem_nil) dX10_isTurn_56
def rm_X10_turn : Room := { frames := 4, cells := 0, slots := 0, locals := 93 }
set_option maxHeartbeats 4000000 in
set_option maxRecDepth 100000 in
theorem c_X10_turn (l : Launch) (E : Ev) (A : Nat → Prop) (am : Nat → Nat) (vm : Vf) (x : Int32) (y : Int32) (step : Int32) (hH : MdH vm) : Met l yX10_turn wsX10_turn rm_X10_turn (RdP E A [.ref (am 0), .int x, .int y, .int step] (mdL E am vm)) (vp_Si (fun r => (True) ∧ (UnkP (inG x y (vm 0 0) (vm 1 0)) r (OutP (1 ≤ step.toInt ∧ step.toInt ≤ 900000) r (NxP (fun j => TrnP vm (mC vm x y) (step + Int32.ofNat j)) (vm 22 0).toInt r))))) 0 0 (fun _ => False) := by
  refine Met.ofW (cc := cX10_turn) (maxL := 5) (ret := (some .int)) (by decide) rfl ?_
  intro p e s m args below meth c s₁ B hml hv
  obtain ⟨rfl, hE, hP⟩ := hv
  have hx := B.exec
  have hb := B.bytes
  have hr := B.returns
  have hts := atoms_spec (ws := wsX10_turn) B.pre
  have hown : s.vm.findClass RX10 = some m.cls := findClass_of_methodNamed B.named
  have hlocks := B.notSynchronized
  have hK := hE.1
  have in_X10 : ∀ w ∈ u_ws RX10 TX10 79, w ∈ wsX10_turn := fun w h => List.mem_cons_of_mem _ (List.mem_append_right _ h)
  have lk0 := hts (.constantLong RX10 390 900000) (List.mem_of_getElem? (i := 2) rfl)
  have lk1 := hts (.fieldLink RX10 55 "TidedGroundModel" "period" "I") (List.mem_of_getElem? (i := 4) rfl)
  have lk2 := hts (.fieldLink RX10 159 "TidedGroundModel" "wide" "I") (List.mem_of_getElem? (i := 5) rfl)
  have lk3 := hts (.constant RX10 175 (-1000000002)) (List.mem_of_getElem? (i := 3) rfl)
  have lk4 := hts (.constant RX10 329 (-1000000001)) (List.mem_of_getElem? (i := 1) rfl)
  have n_m1000000002 : ((-1000000002) : Int32).toInt = -1000000002 := by decide
  have n_m1000000001 : ((-1000000001) : Int32).toInt = -1000000001 := by decide
  have n_m1 : ((-1) : Int32).toInt = -1 := by decide
  have n_0 : (0 : Int32).toInt = 0 := by decide
  have n_1 : (1 : Int32).toInt = 1 := by decide
  have hl := lv_entry ([.ref (am 0), .int x, .int y, .int step]) (n := 5) (Nat.le_of_ble_eq_true rfl)
  rw [lg_entry_eq]
  generalize (lg_sl ([.ref (am 0), .int x, .int y, .int step]) ++ List.replicate (5 - (lg_sl ([.ref (am 0), .int x, .int y, .int step])).length) Slot.unset).toArray = ls at hl ⊢
  have hl : lv_has ls 5 [(0, .ref (am 0)), (1, .int x), (2, .int y), (3, .int step)] := hl
  refine W_abs (fun Q hQ => ?_)
  obtain ⟨hmG, hmC, hmZ, hmM, hmA, hmS, hmT⟩ := id hH
  obtain ⟨hG1, hG2, hG3⟩ := id hmG
  obtain ⟨hC1, hC2, hC3, hC4, hC5, hC6⟩ := id hmC
  obtain ⟨hM1, hM2, hM3, hM4⟩ := id hmM
  obtain ⟨hA1, hA2, hA3, hA4, hA5⟩ := id hmA
  obtain ⟨hS1, hS2, hS3, hS4, hS5, hS6⟩ := id hmS
  obtain ⟨hT1, hT2, hT3, hT4, hT5⟩ := id hmT
  refine lv_aload_n hx hb dX10_turn_0 rfl (lv_at hl 0 rfl) ?_
  refine lv_iload_n hx hb dX10_turn_1 rfl (lv_at hl 1 rfl) ?_
  refine lv_iload_n hx hb dX10_turn_2 rfl (lv_at hl 2 rfl) ?_
  refine rd_V (As := [.int x, .int y]) (rest := []) (C := RX10) (ci := 10) ⟨hx, hb, hml, hown, hts⟩ (c_X10_isCell l E A am vm x y hH) (cwV 2 hts gX10_turn_X10_isCell rfl rfl rfl (by decide +kernel) ⟨Nat.le_of_ble_eq_true rfl, Nat.le_of_ble_eq_true rfl⟩) hE (hP.sub (ws' := mdL E am vm) [0, 1, 2, 3, 4, 5, 6, 7, 8, 9, 10, 11, 12, 13, 14, 15, 16, 17, 18, 19, 20, 21, 22, 23, 24, 25, 26, 27, 28, 29, 30, 31, 32, 33, 34, 35, 36, 37, 38, 39, 40, 41, 42, 43, 44, 45] rfl) rfl rfl rfl rfl hl.1 rfl (Nat.le_of_ble_eq_true rfl) dX10_turn_3 ⟨Nat.zero_le _, Nat.zero_le _⟩ (fun r3 h3 => ?_)
  refine lv_if_ne (tgt := 13) hx hb dX10_turn_6 (by decide) (fun c6 => ?_) (fun c6 => ?_)
  · have c6_ := i_ne c6
    replace h3 := or_y h3 c6_
    clear c6_
    have sv13_x : 0 ≤ x.toInt ∧ x.toInt ≤ 5 := by omega
    have sv13_y : 0 ≤ y.toInt ∧ y.toInt ≤ 5 := by omega
    have hcel : inG x y (vm 0 0) (vm 1 0) := (by unfold inG; omega)
    refine lv_iload_n hx hb dX10_turn_13 rfl (lv_at hl 3 rfl) ?_
    refine lv_i2l hx hb dX10_turn_14 rfl ?_
    refine lv_lconst (v := 1) hx hb dX10_turn_15 (by decide) ?_
    refine lv_ldc2 hx hb hown lk0 dX10_turn_16 ?_
    have lt19_0 : (step.toInt64).toInt = step.toInt := Int32.toInt_toInt64 _
    have lt19_1 : (1 : Int64).toInt = 1 := by decide
    have lt19_2 : (900000 : Int64).toInt = 900000 := by decide
    refine rd_S (As := [.long step.toInt64, .long 1, .long 900000]) (rest := []) ⟨hx, hb, hml, hown, hts⟩ (c_X10_in l E A step.toInt64 1 900000) (va_cwS 3 hts gX10_turn_X10_in rfl rfl rfl (by decide +kernel) ⟨Nat.le_of_ble_eq_true rfl, Nat.le_of_ble_eq_true rfl⟩) hE (hP.sub (ws' := []) [] rfl) rfl hl.1 rfl (Nat.le_of_ble_eq_true rfl) dX10_turn_19 ⟨Nat.zero_le _, Nat.zero_le _⟩ (fun r19 h19 => ?_)
    refine lv_if_ne (tgt := 28) hx hb dX10_turn_22 (by decide) (fun c22 => ?_) (fun c22 => ?_)
    · have c22_ := i_ne c22
      replace h19 := or_y h19 c22_
      clear c22_
      have sv28_step : 1 ≤ step.toInt ∧ step.toInt ≤ 900000 := by omega
      refine lv_iconst (v := 0) hx hb dX10_turn_28 (by decide) ?_
      refine lv_istore (lv' := [(4, .int 0), (0, .ref (am 0)), (1, .int x), (2, .int y), (3, .int step)]) hx hb dX10_turn_29 hl (by decide) rfl (fun ls hl => ?_)
      have K31 : ∀ (μ : Nat) (i : Int32) (ls : Array Slot), (729 - i.toInt).toNat < μ → (0 ≤ i.toInt ∧ i.toInt ≤ 729) → (∀ j : Nat, (j : Int) < i.toInt → ¬ TrnP vm (mC vm x y) (step + Int32.ofNat j)) → lv_has ls 5 [(0, .ref (am 0)), (1, .int x), (2, .int y), (3, .int step), (4, .int i)] → W p l e (headSpec wsX10_turn rm_X10_turn).room s m ([.ref (am 0), .int x, .int y, .int step] : List Value).toArray below meth c s.heap [] 0 0 Q (F0 m 31 ls []) := by
        intro μ
        induction μ with
        | zero =>
          intro i ls hμ31
          exact absurd hμ31 (Nat.not_lt_zero _)
        | succ μ ih31 =>
          intro i ls hμ31 h31_0 h31_1 hl
          have hx31_0 := h31_1
          clear h31_1
          refine lv_iload hx hb dX10_turn_31 (lv_at hl 4 rfl) ?_
          refine lv_aload_n hx hb dX10_turn_33 rfl (lv_at hl 0 rfl) ?_
          refine va_get (D := eD E) (ci := 10) (v := .int (vm 22 0)) (C := RX10) (T := TX10) (N := 79) hx hb hts in_X10 hown hK hP 0 rfl rfl 22 (by decide) lk1 (fun _ h9 => h9) rfl dX10_turn_34 ?_
          refine lv_icmp_ge (tgt := 68) hx hb dX10_turn_37 (by decide) (fun c37 => ?_) (fun c37 => ?_)
          · have c37_ := i_le c37
            refine lv_iconst (v := (-1)) hx hb dX10_turn_68 (by decide) ?_
            subst hQ
            exact W.iret (v := (-1)) hx hb hr (fun t ht hW => ⟨(-1), rfl, ⟨trivial, (Or.inr ⟨hcel, Or.inr ⟨by omega, nxs_end (T := TrnP vm (mC vm x y)) hx31_0 (by omega) (by omega)⟩⟩)⟩, ht⟩) (fun q h => absurd h List.not_mem_nil) dX10_turn_69
          · have c37_ := i_nle c37
            refine lv_aload_n hx hb dX10_turn_40 rfl (lv_at hl 0 rfl) ?_
            refine lv_aload_n hx hb dX10_turn_41 rfl (lv_at hl 0 rfl) ?_
            refine va_get (D := eD E) (ci := 10) (v := .int (vm 0 0)) (C := RX10) (T := TX10) (N := 79) hx hb hts in_X10 hown hK hP 0 rfl rfl 0 (by decide) lk2 (fun _ h9 => h9) rfl dX10_turn_42 ?_
            refine lv_iload_n hx hb dX10_turn_45 rfl (lv_at hl 2 rfl) ?_
            refine lv_imul hx hb dX10_turn_46 ?_
            refine lv_topi (fun x46 e46 => ?_)
            have qm46 := mcell_lt hG1 hG3 (x := x) (y := y) (by omega) (by omega) (by omega) (by omega)
            have t46 := i_mul e46 (by omega)
            refine lv_iload_n hx hb dX10_turn_47 rfl (lv_at hl 1 rfl) ?_
            refine lv_iadd hx hb dX10_turn_48 ?_
            refine lv_topi (fun x48 e48 => ?_)
            have t48 := i_add e48 (by omega)
            refine lv_iload_n hx hb dX10_turn_49 rfl (lv_at hl 3 rfl) ?_
            refine lv_iload hx hb dX10_turn_50 (lv_at hl 4 rfl) ?_
            refine lv_iadd hx hb dX10_turn_52 ?_
            refine lv_topi (fun x52 e52 => ?_)
            have t52 := i_add e52 (by omega)
            refine rd_V (As := [.int x48, .int x52]) (rest := []) (C := RX10) (ci := 10) ⟨hx, hb, hml, hown, hts⟩ (c_X10_isTurn l E A am vm x48 x52 hH (by omega) (by omega) (by omega)) (cwV 2 hts gX10_turn_X10_isTurn rfl rfl rfl (by decide +kernel) ⟨Nat.le_of_ble_eq_true rfl, Nat.le_of_ble_eq_true rfl⟩) hE (hP.sub (ws' := mdL E am vm) [0, 1, 2, 3, 4, 5, 6, 7, 8, 9, 10, 11, 12, 13, 14, 15, 16, 17, 18, 19, 20, 21, 22, 23, 24, 25, 26, 27, 28, 29, 30, 31, 32, 33, 34, 35, 36, 37, 38, 39, 40, 41, 42, 43, 44, 45] rfl) rfl rfl rfl rfl hl.1 rfl (Nat.le_of_ble_eq_true rfl) dX10_turn_53 ⟨Nat.zero_le _, Nat.zero_le _⟩ (fun r53 h53 => ?_)
            have hf53 := h53.2
            replace h53 := h53.1
            refine lv_if_eq (tgt := 62) hx hb dX10_turn_56 (by decide) (fun c56 => ?_) (fun c56 => ?_)
            · have c56_ := i_eq c56
              clear h53
              obtain ⟨x62, e62⟩ : ∃ y : Int32, y = i + 1 := ⟨_, rfl⟩
              refine lv_iinc (v := x62) (lv' := [(4, .int x62), (0, .ref (am 0)), (1, .int x), (2, .int y), (3, .int step)]) hx hb dX10_turn_62 hl (k := 4) rfl (by rw [e62]; rfl) (by decide) rfl (fun ls hl => ?_)
              have t62 := i_add e62 (by omega)
              refine lv_goto (tgt := 31) hx hb dX10_turn_65 (by decide) ?_
              exact ih31 x62 ls (by omega) (by omega) (nxs_no (T := TrnP vm (mC vm x y)) hx31_0 (by omega) t62 e52 (fun z => hf53.mpr (by rw [show x48 = mC vm x y from (by unfold mC; rw [e48, e46])]; exact z) (by omega))) (lv_sub hl [1, 2, 3, 4, 0] rfl)
            · have c56_ := i_ne c56
              replace h53 := b_y h53 c56_
              clear c56_
              refine lv_iload hx hb dX10_turn_59 (lv_at hl 4 rfl) ?_
              subst hQ
              exact W.iret (v := i) hx hb hr (fun t ht hW => ⟨i, rfl, ⟨trivial, (Or.inr ⟨hcel, Or.inr ⟨by omega, nxs_at (T := TrnP vm (mC vm x y)) hx31_0 (by omega) (by omega) e52 (by have z := hf53.mp (by omega); rw [show x48 = mC vm x y from (by unfold mC; rw [e48, e46])] at z; exact z)⟩⟩)⟩, ht⟩) (fun q h => absurd h List.not_mem_nil) dX10_turn_61
      exact K31 _ 0 ls (Nat.lt_succ_self _) (by omega) (fun j hj => absurd hj (by rw [n_0]; omega)) (lv_sub hl [1, 2, 3, 4, 0] rfl)
    · have c22_ := i_eq c22
      replace h19 := or_n h19 c22_
      refine lv_ldc hx hb hown lk3 dX10_turn_25 ?_
      subst hQ
      exact W.iret (v := (-1000000002)) hx hb hr (fun t ht hW => ⟨(-1000000002), rfl, ⟨trivial, (Or.inr ⟨hcel, Or.inl ⟨by omega, by omega⟩⟩)⟩, ht⟩) (fun q h => absurd h List.not_mem_nil) dX10_turn_27
  · have c6_ := i_eq c6
    replace h3 := or_n h3 c6_
    refine lv_ldcw hx hb hown lk4 dX10_turn_9 ?_
    subst hQ
    exact W.iret (v := (-1000000001)) hx hb hr (fun t ht hW => ⟨(-1000000001), rfl, ⟨trivial, (Or.inl ⟨by omega, (by unfold inG; omega)⟩)⟩, ht⟩) (fun q h => absurd h List.not_mem_nil) dX10_turn_12
def rm_X10_most : Room := { frames := 2, cells := 0, slots := 0, locals := 47 }
set_option maxHeartbeats 4000000 in
set_option maxRecDepth 100000 in
theorem c_X10_most (l : Launch) (E : Ev) (A : Nat → Prop) (am : Nat → Nat) (vm : Vf) (x : Int32) (y : Int32) (step : Int32) (what : Int32) (hH : MdH vm) : Met l yX10_most wsX10_most rm_X10_most (RdP E A [.ref (am 0), .int x, .int y, .int step, .int what] (mdL E am vm)) (vp_Si (fun r => (True) ∧ (UnkP (inG x y (vm 0 0) (vm 1 0)) r (OutP ((0 ≤ step.toInt ∧ step.toInt ≤ 900000) ∧ (0 ≤ what.toInt ∧ what.toInt ≤ 1)) r (MosP vm (mC vm x y) step what r))))) 0 0 (fun _ => False) := by
  refine Met.ofW (cc := cX10_most) (maxL := 8) (ret := (some .int)) (by decide) rfl ?_
  intro p e s m args below meth c s₁ B hml hv
  obtain ⟨rfl, hE, hP⟩ := hv
  have hx := B.exec
  have hb := B.bytes
  have hr := B.returns
  have hts := atoms_spec (ws := wsX10_most) B.pre
  have hown : s.vm.findClass RX10 = some m.cls := findClass_of_methodNamed B.named
  have hlocks := B.notSynchronized
  have hK := hE.1
  have in_X10 : ∀ w ∈ u_ws RX10 TX10 79, w ∈ wsX10_most := fun w h => List.mem_cons_of_mem _ (List.mem_append_right _ h)
  have lk0 := hts (.constant RX10 175 (-1000000002)) (List.mem_of_getElem? (i := 2) rfl)
  have lk1 := hts (.fieldLink RX10 159 "TidedGroundModel" "wide" "I") (List.mem_of_getElem? (i := 3) rfl)
  have lk2 := hts (.fieldLink RX10 55 "TidedGroundModel" "period" "I") (List.mem_of_getElem? (i := 4) rfl)
  have lk3 := hts (.constant RX10 329 (-1000000001)) (List.mem_of_getElem? (i := 1) rfl)
  have n_m1000000002 : ((-1000000002) : Int32).toInt = -1000000002 := by decide
  have n_m1000000001 : ((-1000000001) : Int32).toInt = -1000000001 := by decide
  have n_0 : (0 : Int32).toInt = 0 := by decide
  have n_1 : (1 : Int32).toInt = 1 := by decide
  have hl := lv_entry ([.ref (am 0), .int x, .int y, .int step, .int what]) (n := 8) (Nat.le_of_ble_eq_true rfl)
  rw [lg_entry_eq]
  generalize (lg_sl ([.ref (am 0), .int x, .int y, .int step, .int what]) ++ List.replicate (8 - (lg_sl ([.ref (am 0), .int x, .int y, .int step, .int what])).length) Slot.unset).toArray = ls at hl ⊢
  have hl : lv_has ls 8 [(0, .ref (am 0)), (1, .int x), (2, .int y), (3, .int step), (4, .int what)] := hl
  refine W_abs (fun Q hQ => ?_)
  obtain ⟨hmG, hmC, hmZ, hmM, hmA, hmS, hmT⟩ := id hH
  obtain ⟨hG1, hG2, hG3⟩ := id hmG
  obtain ⟨hC1, hC2, hC3, hC4, hC5, hC6⟩ := id hmC
  obtain ⟨hM1, hM2, hM3, hM4⟩ := id hmM
  obtain ⟨hA1, hA2, hA3, hA4, hA5⟩ := id hmA
  obtain ⟨hS1, hS2, hS3, hS4, hS5, hS6⟩ := id hmS
  obtain ⟨hT1, hT2, hT3, hT4, hT5⟩ := id hmT
  refine lv_aload_n hx hb dX10_most_0 rfl (lv_at hl 0 rfl) ?_
  refine lv_iload_n hx hb dX10_most_1 rfl (lv_at hl 1 rfl) ?_
  refine lv_iload_n hx hb dX10_most_2 rfl (lv_at hl 2 rfl) ?_
  refine rd_V (As := [.int x, .int y]) (rest := []) (C := RX10) (ci := 10) ⟨hx, hb, hml, hown, hts⟩ (c_X10_isCell l E A am vm x y hH) (cwV 2 hts gX10_most_X10_isCell rfl rfl rfl (by decide +kernel) ⟨Nat.le_of_ble_eq_true rfl, Nat.le_of_ble_eq_true rfl⟩) hE (hP.sub (ws' := mdL E am vm) [0, 1, 2, 3, 4, 5, 6, 7, 8, 9, 10, 11, 12, 13, 14, 15, 16, 17, 18, 19, 20, 21, 22, 23, 24, 25, 26, 27, 28, 29, 30, 31, 32, 33, 34, 35, 36, 37, 38, 39, 40, 41, 42, 43, 44, 45] rfl) rfl rfl rfl rfl hl.1 rfl (Nat.le_of_ble_eq_true rfl) dX10_most_3 ⟨Nat.zero_le _, Nat.zero_le _⟩ (fun r3 h3 => ?_)
  refine lv_if_ne (tgt := 13) hx hb dX10_most_6 (by decide) (fun c6 => ?_) (fun c6 => ?_)
  · have c6_ := i_ne c6
    replace h3 := or_y h3 c6_
    clear c6_
    have sv13_x : 0 ≤ x.toInt ∧ x.toInt ≤ 5 := by omega
    have sv13_y : 0 ≤ y.toInt ∧ y.toInt ≤ 5 := by omega
    have hcel : inG x y (vm 0 0) (vm 1 0) := (by unfold inG; omega)
    refine lv_iload_n hx hb dX10_most_13 rfl (lv_at hl 3 rfl) ?_
    refine rd_S (As := [.int step]) (rest := []) ⟨hx, hb, hml, hown, hts⟩ (c_X10_isStep l E A step) (va_cwS 1 hts gX10_most_X10_isStep rfl rfl rfl (by decide +kernel) ⟨Nat.le_of_ble_eq_true rfl, Nat.le_of_ble_eq_true rfl⟩) hE (hP.sub (ws' := []) [] rfl) rfl hl.1 rfl (Nat.le_of_ble_eq_true rfl) dX10_most_14 ⟨Nat.zero_le _, Nat.zero_le _⟩ (fun r14 h14 => ?_)
    refine lv_if_eq (tgt := 31) hx hb dX10_most_17 (by decide) (fun c17 => ?_) (fun c17 => ?_)
    · have c17_ := i_eq c17
      replace h14 := or_n h14 c17_
      refine lv_ldc hx hb hown lk0 dX10_most_31 ?_
      subst hQ
      exact W.iret (v := (-1000000002)) hx hb hr (fun t ht hW => ⟨(-1000000002), rfl, ⟨trivial, (Or.inr ⟨hcel, Or.inl ⟨by omega, by omega⟩⟩)⟩, ht⟩) (fun q h => absurd h List.not_mem_nil) dX10_most_33
    · have c17_ := i_ne c17
      replace h14 := or_y h14 c17_
      clear c17_
      refine lv_iload hx hb dX10_most_20 (lv_at hl 4 rfl) ?_
      refine lv_i2l hx hb dX10_most_22 rfl ?_
      refine lv_lconst (v := 0) hx hb dX10_most_23 (by decide) ?_
      refine lv_lconst (v := 1) hx hb dX10_most_24 (by decide) ?_
      have lt25_0 : (what.toInt64).toInt = what.toInt := Int32.toInt_toInt64 _
      have lt25_1 : (0 : Int64).toInt = 0 := by decide
      have lt25_2 : (1 : Int64).toInt = 1 := by decide
      refine rd_S (As := [.long what.toInt64, .long 0, .long 1]) (rest := []) ⟨hx, hb, hml, hown, hts⟩ (c_X10_in l E A what.toInt64 0 1) (va_cwS 3 hts gX10_most_X10_in rfl rfl rfl (by decide +kernel) ⟨Nat.le_of_ble_eq_true rfl, Nat.le_of_ble_eq_true rfl⟩) hE (hP.sub (ws' := []) [] rfl) rfl hl.1 rfl (Nat.le_of_ble_eq_true rfl) dX10_most_25 ⟨Nat.zero_le _, Nat.zero_le _⟩ (fun r25 h25 => ?_)
      refine lv_if_ne (tgt := 34) hx hb dX10_most_28 (by decide) (fun c28 => ?_) (fun c28 => ?_)
      · have c28_ := i_ne c28
        replace h25 := or_y h25 c28_
        clear c28_
        have sv34_step : 0 ≤ step.toInt ∧ step.toInt ≤ 900000 := by omega
        refine lv_aload_n hx hb dX10_most_34 rfl (lv_at hl 0 rfl) ?_
        refine va_get (D := eD E) (ci := 10) (v := .int (vm 0 0)) (C := RX10) (T := TX10) (N := 79) hx hb hts in_X10 hown hK hP 0 rfl rfl 0 (by decide) lk1 (fun _ h9 => h9) rfl dX10_most_35 ?_
        refine lv_iload_n hx hb dX10_most_38 rfl (lv_at hl 2 rfl) ?_
        refine lv_imul hx hb dX10_most_39 ?_
        refine lv_topi (fun x39 e39 => ?_)
        have qm39 := mcell_lt hG1 hG3 (x := x) (y := y) (by omega) (by omega) (by omega) (by omega)
        have t39 := i_mul e39 (by omega)
        refine lv_iload_n hx hb dX10_most_40 rfl (lv_at hl 1 rfl) ?_
        refine lv_iadd hx hb dX10_most_41 ?_
        refine lv_topi (fun x41 e41 => ?_)
        have t41 := i_add e41 (by omega)
        refine lv_istore (lv' := [(5, .int x41), (0, .ref (am 0)), (1, .int x), (2, .int y), (3, .int step), (4, .int what)]) hx hb dX10_most_42 hl (by decide) rfl (fun ls hl => ?_)
        have sv44_x41 : 0 ≤ x41.toInt ∧ x41.toInt ≤ 23 := by omega
        refine lv_iload_n hx hb dX10_most_44 rfl (lv_at hl 4 rfl) ?_
        refine lv_istore (lv' := [(6, .int step), (5, .int x41), (0, .ref (am 0)), (1, .int x), (2, .int y), (3, .int step), (4, .int what)]) hx hb dX10_most_45 hl (by decide) rfl (fun ls hl => ?_)
        refine lv_iconst (v := 1) hx hb dX10_most_47 (by decide) ?_
        refine lv_istore (lv' := [(7, .int 1), (6, .int step), (5, .int x41), (0, .ref (am 0)), (1, .int x), (2, .int y), (3, .int step), (4, .int what)]) hx hb dX10_most_48 hl (by decide) rfl (fun ls hl => ?_)
        have K50 : ∀ (μ : Nat) (best : Int32) (i : Int32) (ls : Array Slot), (729 - i.toInt).toNat < μ → (1 ≤ i.toInt ∧ i.toInt ≤ 729) → (0 ≤ best.toInt ∧ best.toInt ≤ 1000000) → (best = mBestN vm x41 step (i.toInt - 1).toNat) → (i.toInt ≤ (vm 22 0).toInt) → lv_has ls 8 [(0, .ref (am 0)), (1, .int x), (2, .int y), (3, .int step), (4, .int what), (5, .int x41), (6, .int best), (7, .int i)] → W p l e (headSpec wsX10_most rm_X10_most).room s m ([.ref (am 0), .int x, .int y, .int step, .int what] : List Value).toArray below meth c s.heap [] 0 0 Q (F0 m 50 ls []) := by
          intro μ
          induction μ with
          | zero =>
            intro best i ls hμ50
            exact absurd hμ50 (Nat.not_lt_zero _)
          | succ μ ih50 =>
            intro best i ls hμ50 h50_0 h50_1 h50_2 h50_3 hl
            have hx50_0 := h50_2
            clear h50_2
            have hx50_1 := h50_3
            clear h50_3
            refine lv_iload hx hb dX10_most_50 (lv_at hl 7 rfl) ?_
            refine lv_aload_n hx hb dX10_most_52 rfl (lv_at hl 0 rfl) ?_
            refine va_get (D := eD E) (ci := 10) (v := .int (vm 22 0)) (C := RX10) (T := TX10) (N := 79) hx hb hts in_X10 hown hK hP 0 rfl rfl 22 (by decide) lk2 (fun _ h9 => h9) rfl dX10_most_53 ?_
            refine lv_icmp_ge (tgt := 97) hx hb dX10_most_56 (by decide) (fun c56 => ?_) (fun c56 => ?_)
            · have c56_ := i_le c56
              refine lv_iload hx hb dX10_most_97 (lv_at hl 4 rfl) ?_
              refine lv_if_ne (tgt := 107) hx hb dX10_most_99 (by decide) (fun c99 => ?_) (fun c99 => ?_)
              · have c99_ := i_ne c99
                have hv99 : what.toInt = 1 := by omega
                refine lv_aload_n hx hb dX10_most_107 rfl (lv_at hl 0 rfl) ?_
                refine lv_iload hx hb dX10_most_108 (lv_at hl 5 rfl) ?_
                refine lv_iload hx hb dX10_most_110 (lv_at hl 6 rfl) ?_
                refine rd_V (As := [.int x41, .int best]) (rest := []) (C := RX10) (ci := 10) ⟨hx, hb, hml, hown, hts⟩ (c_X10_pullAt l E A am vm x41 best hH (by omega) (by omega) (by omega)) (cwV 2 hts gX10_most_X10_pullAt rfl rfl rfl (by decide +kernel) ⟨Nat.le_of_ble_eq_true rfl, Nat.le_of_ble_eq_true rfl⟩) hE (hP.sub (ws' := mdL E am vm) [0, 1, 2, 3, 4, 5, 6, 7, 8, 9, 10, 11, 12, 13, 14, 15, 16, 17, 18, 19, 20, 21, 22, 23, 24, 25, 26, 27, 28, 29, 30, 31, 32, 33, 34, 35, 36, 37, 38, 39, 40, 41, 42, 43, 44, 45] rfl) rfl rfl rfl rfl hl.1 rfl (Nat.le_of_ble_eq_true rfl) dX10_most_112 ⟨Nat.zero_le _, Nat.zero_le _⟩ (fun r112 h112 => ?_)
                subst hQ
                exact W.iret (v := r112) hx hb hr (fun t ht hW => ⟨r112, rfl, ⟨trivial, (by have eC : x41 = mC vm x y := (by unfold mC; rw [e41, e39]); have hi : (i.toInt - 1).toNat = ((vm 22 0).toInt - 1).toNat := (by omega); have eb : best = mBest vm x41 step := (by show best = mBestN vm x41 step ((vm 22 0).toInt - 1).toNat; rw [← hi]; exact hx50_0); exact Or.inr ⟨hcel, Or.inr ⟨by omega, by rw [← eC]; first | exact Or.inl ⟨hw99, eb⟩ | exact Or.inr ⟨hv99, by rw [← eb]; exact h112.1⟩⟩⟩)⟩, ht⟩) (fun q h => absurd h List.not_mem_nil) dX10_most_115
              · have c99_ := i_eq c99
                have hw99 : what.toInt = 0 := by omega
                refine lv_iload hx hb dX10_most_102 (lv_at hl 6 rfl) ?_
                refine lv_goto (tgt := 115) hx hb dX10_most_104 (by decide) ?_
                subst hQ
                exact W.iret (v := best) hx hb hr (fun t ht hW => ⟨best, rfl, ⟨trivial, (by have eC : x41 = mC vm x y := (by unfold mC; rw [e41, e39]); have hi : (i.toInt - 1).toNat = ((vm 22 0).toInt - 1).toNat := (by omega); have eb : best = mBest vm x41 step := (by show best = mBestN vm x41 step ((vm 22 0).toInt - 1).toNat; rw [← hi]; exact hx50_0); exact Or.inr ⟨hcel, Or.inr ⟨by omega, by rw [← eC]; first | exact Or.inl ⟨hw99, eb⟩ | exact Or.inr ⟨hv99, by rw [← eb]; exact h112.1⟩⟩⟩)⟩, ht⟩) (fun q h => absurd h List.not_mem_nil) dX10_most_115
            · have c56_ := i_nle c56
              refine lv_aload_n hx hb dX10_most_59 rfl (lv_at hl 0 rfl) ?_
              refine lv_iload hx hb dX10_most_60 (lv_at hl 5 rfl) ?_
              refine lv_iload_n hx hb dX10_most_62 rfl (lv_at hl 3 rfl) ?_
              refine lv_iload hx hb dX10_most_63 (lv_at hl 7 rfl) ?_
              refine lv_iadd hx hb dX10_most_65 ?_
              refine lv_topi (fun x65 e65 => ?_)
              have t65 := i_add e65 (by omega)
              refine rd_V (As := [.int x41, .int x65]) (rest := []) (C := RX10) (ci := 10) ⟨hx, hb, hml, hown, hts⟩ (c_X10_pullAt l E A am vm x41 x65 hH (by omega) (by omega) (by omega)) (cwV 2 hts gX10_most_X10_pullAt rfl rfl rfl (by decide +kernel) ⟨Nat.le_of_ble_eq_true rfl, Nat.le_of_ble_eq_true rfl⟩) hE (hP.sub (ws' := mdL E am vm) [0, 1, 2, 3, 4, 5, 6, 7, 8, 9, 10, 11, 12, 13, 14, 15, 16, 17, 18, 19, 20, 21, 22, 23, 24, 25, 26, 27, 28, 29, 30, 31, 32, 33, 34, 35, 36, 37, 38, 39, 40, 41, 42, 43, 44, 45] rfl) rfl rfl rfl rfl hl.1 rfl (Nat.le_of_ble_eq_true rfl) dX10_most_66 ⟨Nat.zero_le _, Nat.zero_le _⟩ (fun r66 h66 => ?_)
              refine lv_aload_n hx hb dX10_most_69 rfl (lv_at hl 0 rfl) ?_
              refine lv_iload hx hb dX10_most_70 (lv_at hl 5 rfl) ?_
              refine lv_iload hx hb dX10_most_72 (lv_at hl 6 rfl) ?_
              refine rd_V (As := [.int x41, .int best]) (rest := [.int r66]) (C := RX10) (ci := 10) ⟨hx, hb, hml, hown, hts⟩ (c_X10_pullAt l E A am vm x41 best hH (by omega) (by omega) (by omega)) (cwV 2 hts gX10_most_X10_pullAt rfl rfl rfl (by decide +kernel) ⟨Nat.le_of_ble_eq_true rfl, Nat.le_of_ble_eq_true rfl⟩) hE (hP.sub (ws' := mdL E am vm) [0, 1, 2, 3, 4, 5, 6, 7, 8, 9, 10, 11, 12, 13, 14, 15, 16, 17, 18, 19, 20, 21, 22, 23, 24, 25, 26, 27, 28, 29, 30, 31, 32, 33, 34, 35, 36, 37, 38, 39, 40, 41, 42, 43, 44, 45] rfl) rfl rfl rfl rfl hl.1 rfl (Nat.le_of_ble_eq_true rfl) dX10_most_74 ⟨Nat.zero_le _, Nat.zero_le _⟩ (fun r74 h74 => ?_)
              have K89 : ∀  (nb : Int32) (ls : Array Slot), (0 ≤ nb.toInt ∧ nb.toInt ≤ 1000000) → (nb = if mPull vm x41 best < mPull vm x41 x65 then x65 else best) → lv_has ls 8 [(0, .ref (am 0)), (1, .int x), (2, .int y), (3, .int step), (4, .int what), (5, .int x41), (6, .int best), (7, .int i)] → W p l e (headSpec wsX10_most rm_X10_most).room s m ([.ref (am 0), .int x, .int y, .int step, .int what] : List Value).toArray below meth c s.heap [] 0 0 Q (F0 m 89 ls [.int nb]) := by
                intro nb ls h89_0 h89_1 hl
                have hx89_0 := h89_1
                clear h89_1
                refine lv_istore (lv' := [(6, .int nb), (0, .ref (am 0)), (1, .int x), (2, .int y), (3, .int step), (4, .int what), (5, .int x41), (7, .int i)]) hx hb dX10_most_89 hl (by decide) rfl (fun ls hl => ?_)
                obtain ⟨x91, e91⟩ : ∃ y : Int32, y = i + 1 := ⟨_, rfl⟩
                refine lv_iinc (v := x91) (lv' := [(7, .int x91), (6, .int nb), (0, .ref (am 0)), (1, .int x), (2, .int y), (3, .int step), (4, .int what), (5, .int x41)]) hx hb dX10_most_91 hl (k := 7) rfl (by rw [e91]; rfl) (by decide) rfl (fun ls hl => ?_)
                have t91 := i_add e91 (by omega)
                refine lv_goto (tgt := 50) hx hb dX10_most_94 (by decide) ?_
                exact ih50 nb x91 ls (by omega) (by omega) (by omega) (best_next hx50_0 (by omega) t91 e65 hx89_0) (by omega) (lv_sub hl [2, 3, 4, 5, 6, 7, 1, 0] rfl)
              refine lv_icmp_le (tgt := 87) hx hb dX10_most_77 (by decide) (fun c77 => ?_) (fun c77 => ?_)
              · have c77_ := i_le c77
                refine lv_iload hx hb dX10_most_87 (lv_at hl 6 rfl) ?_
                exact K89 best ls (by omega) (by rw [← h66.1, ← h74.1]; first | rw [if_neg (Int32.not_lt.mpr c77)] | rw [if_pos (Int32.not_le.mp c77), e83, e65]) (lv_sub hl [0, 1, 2, 3, 4, 5, 6, 7] rfl)
              · have c77_ := i_nle c77
                refine lv_iload_n hx hb dX10_most_80 rfl (lv_at hl 3 rfl) ?_
                refine lv_iload hx hb dX10_most_81 (lv_at hl 7 rfl) ?_
                refine lv_iadd hx hb dX10_most_83 ?_
                refine lv_topi (fun x83 e83 => ?_)
                have t83 := i_add e83 (by omega)
                refine lv_goto (tgt := 89) hx hb dX10_most_84 (by decide) ?_
                exact K89 x83 ls (by omega) (by rw [← h66.1, ← h74.1]; first | rw [if_neg (Int32.not_lt.mpr c77)] | rw [if_pos (Int32.not_le.mp c77), e83, e65]) (lv_sub hl [0, 1, 2, 3, 4, 5, 6, 7] rfl)
        exact K50 _ step 1 ls (Nat.lt_succ_self _) (by omega) (by omega) (by rw [n_1]; rfl) (by rw [n_1]; omega) (lv_sub hl [3, 4, 5, 6, 7, 2, 1, 0] rfl)
      · have c28_ := i_eq c28
        replace h25 := or_n h25 c28_
        refine lv_ldc hx hb hown lk0 dX10_most_31 ?_
        subst hQ
        exact W.iret (v := (-1000000002)) hx hb hr (fun t ht hW => ⟨(-1000000002), rfl, ⟨trivial, (Or.inr ⟨hcel, Or.inl ⟨by omega, by omega⟩⟩)⟩, ht⟩) (fun q h => absurd h List.not_mem_nil) dX10_most_33
  · have c6_ := i_eq c6
    replace h3 := or_n h3 c6_
    refine lv_ldcw hx hb hown lk3 dX10_most_9 ?_
    subst hQ
    exact W.iret (v := (-1000000001)) hx hb hr (fun t ht hW => ⟨(-1000000001), rfl, ⟨trivial, (Or.inl ⟨by omega, (by unfold inG; omega)⟩)⟩, ht⟩) (fun q h => absurd h List.not_mem_nil) dX10_most_12
def rm_X10_bell : Room := { frames := 4, cells := 0, slots := 0, locals := 97 }
set_option maxHeartbeats 4000000 in
set_option maxRecDepth 100000 in
theorem c_X10_bell (l : Launch) (E : Ev) (A : Nat → Prop) (am : Nat → Nat) (vm : Vf) (x : Int32) (y : Int32) (lim : Int32) (step : Int32) (what : Int32) (hH : MdH vm) : Met l yX10_bell wsX10_bell rm_X10_bell (RdP E A [.ref (am 0), .int x, .int y, .int lim, .int step, .int what] (mdL E am vm)) (vp_Si (fun r => (True) ∧ (UnkP (inG x y (vm 0 0) (vm 1 0)) r (OutP ((0 ≤ lim.toInt ∧ lim.toInt ≤ 999) ∧ (0 ≤ step.toInt ∧ step.toInt ≤ 900000) ∧ (0 ≤ what.toInt ∧ what.toInt ≤ 1)) r (BelP vm (mC vm x y) lim step what r))))) 0 0 (fun _ => False) := by
  refine Met.ofW (cc := cX10_bell) (maxL := 10) (ret := (some .int)) (by decide) rfl ?_
  intro p e s m args below meth c s₁ B hml hv
  obtain ⟨rfl, hE, hP⟩ := hv
  have hx := B.exec
  have hb := B.bytes
  have hr := B.returns
  have hts := atoms_spec (ws := wsX10_bell) B.pre
  have hown : s.vm.findClass RX10 = some m.cls := findClass_of_methodNamed B.named
  have hlocks := B.notSynchronized
  have hK := hE.1
  have in_X10 : ∀ w ∈ u_ws RX10 TX10 79, w ∈ wsX10_bell := fun w h => List.mem_cons_of_mem _ (List.mem_append_right _ h)
  have lk0 := hts (.constantLong RX10 374 999) (List.mem_of_getElem? (i := 2) rfl)
  have lk1 := hts (.constant RX10 175 (-1000000002)) (List.mem_of_getElem? (i := 3) rfl)
  have lk2 := hts (.fieldLink RX10 55 "TidedGroundModel" "period" "I") (List.mem_of_getElem? (i := 4) rfl)
  have lk3 := hts (.fieldLink RX10 159 "TidedGroundModel" "wide" "I") (List.mem_of_getElem? (i := 5) rfl)
  have lk4 := hts (.constant RX10 329 (-1000000001)) (List.mem_of_getElem? (i := 1) rfl)
  have n_m1000000002 : ((-1000000002) : Int32).toInt = -1000000002 := by decide
  have n_m1000000001 : ((-1000000001) : Int32).toInt = -1000000001 := by decide
  have n_m1 : ((-1) : Int32).toInt = -1 := by decide
  have n_0 : (0 : Int32).toInt = 0 := by decide
  have n_1 : (1 : Int32).toInt = 1 := by decide
  have hl := lv_entry ([.ref (am 0), .int x, .int y, .int lim, .int step, .int what]) (n := 10) (Nat.le_of_ble_eq_true rfl)
  rw [lg_entry_eq]
  generalize (lg_sl ([.ref (am 0), .int x, .int y, .int lim, .int step, .int what]) ++ List.replicate (10 - (lg_sl ([.ref (am 0), .int x, .int y, .int lim, .int step, .int what])).length) Slot.unset).toArray = ls at hl ⊢
  have hl : lv_has ls 10 [(0, .ref (am 0)), (1, .int x), (2, .int y), (3, .int lim), (4, .int step), (5, .int what)] := hl
  refine W_abs (fun Q hQ => ?_)
  obtain ⟨hmG, hmC, hmZ, hmM, hmA, hmS, hmT⟩ := id hH
  obtain ⟨hG1, hG2, hG3⟩ := id hmG
  obtain ⟨hC1, hC2, hC3, hC4, hC5, hC6⟩ := id hmC
  obtain ⟨hM1, hM2, hM3, hM4⟩ := id hmM
  obtain ⟨hA1, hA2, hA3, hA4, hA5⟩ := id hmA
  obtain ⟨hS1, hS2, hS3, hS4, hS5, hS6⟩ := id hmS
  obtain ⟨hT1, hT2, hT3, hT4, hT5⟩ := id hmT
  refine lv_aload_n hx hb dX10_bell_0 rfl (lv_at hl 0 rfl) ?_
  refine lv_iload_n hx hb dX10_bell_1 rfl (lv_at hl 1 rfl) ?_
  refine lv_iload_n hx hb dX10_bell_2 rfl (lv_at hl 2 rfl) ?_
  refine rd_V (As := [.int x, .int y]) (rest := []) (C := RX10) (ci := 10) ⟨hx, hb, hml, hown, hts⟩ (c_X10_isCell l E A am vm x y hH) (cwV 2 hts gX10_bell_X10_isCell rfl rfl rfl (by decide +kernel) ⟨Nat.le_of_ble_eq_true rfl, Nat.le_of_ble_eq_true rfl⟩) hE (hP.sub (ws' := mdL E am vm) [0, 1, 2, 3, 4, 5, 6, 7, 8, 9, 10, 11, 12, 13, 14, 15, 16, 17, 18, 19, 20, 21, 22, 23, 24, 25, 26, 27, 28, 29, 30, 31, 32, 33, 34, 35, 36, 37, 38, 39, 40, 41, 42, 43, 44, 45] rfl) rfl rfl rfl rfl hl.1 rfl (Nat.le_of_ble_eq_true rfl) dX10_bell_3 ⟨Nat.zero_le _, Nat.zero_le _⟩ (fun r3 h3 => ?_)
  refine lv_if_ne (tgt := 13) hx hb dX10_bell_6 (by decide) (fun c6 => ?_) (fun c6 => ?_)
  · have c6_ := i_ne c6
    replace h3 := or_y h3 c6_
    clear c6_
    have sv13_x : 0 ≤ x.toInt ∧ x.toInt ≤ 5 := by omega
    have sv13_y : 0 ≤ y.toInt ∧ y.toInt ≤ 5 := by omega
    have hcel : inG x y (vm 0 0) (vm 1 0) := (by unfold inG; omega)
    refine lv_iload_n hx hb dX10_bell_13 rfl (lv_at hl 3 rfl) ?_
    refine lv_i2l hx hb dX10_bell_14 rfl ?_
    refine lv_lconst (v := 0) hx hb dX10_bell_15 (by decide) ?_
    refine lv_ldc2 hx hb hown lk0 dX10_bell_16 ?_
    have lt19_0 : (lim.toInt64).toInt = lim.toInt := Int32.toInt_toInt64 _
    have lt19_1 : (0 : Int64).toInt = 0 := by decide
    have lt19_2 : (999 : Int64).toInt = 999 := by decide
    refine rd_S (As := [.long lim.toInt64, .long 0, .long 999]) (rest := []) ⟨hx, hb, hml, hown, hts⟩ (c_X10_in l E A lim.toInt64 0 999) (va_cwS 3 hts gX10_bell_X10_in rfl rfl rfl (by decide +kernel) ⟨Nat.le_of_ble_eq_true rfl, Nat.le_of_ble_eq_true rfl⟩) hE (hP.sub (ws' := []) [] rfl) rfl hl.1 rfl (Nat.le_of_ble_eq_true rfl) dX10_bell_19 ⟨Nat.zero_le _, Nat.zero_le _⟩ (fun r19 h19 => ?_)
    refine lv_if_eq (tgt := 44) hx hb dX10_bell_22 (by decide) (fun c22 => ?_) (fun c22 => ?_)
    · have c22_ := i_eq c22
      replace h19 := or_n h19 c22_
      refine lv_ldc hx hb hown lk1 dX10_bell_44 ?_
      subst hQ
      exact W.iret (v := (-1000000002)) hx hb hr (fun t ht hW => ⟨(-1000000002), rfl, ⟨trivial, (Or.inr ⟨hcel, Or.inl ⟨by omega, by omega⟩⟩)⟩, ht⟩) (fun q h => absurd h List.not_mem_nil) dX10_bell_46
    · have c22_ := i_ne c22
      replace h19 := or_y h19 c22_
      clear c22_
      refine lv_iload hx hb dX10_bell_25 (lv_at hl 4 rfl) ?_
      refine rd_S (As := [.int step]) (rest := []) ⟨hx, hb, hml, hown, hts⟩ (c_X10_isStep l E A step) (va_cwS 1 hts gX10_bell_X10_isStep rfl rfl rfl (by decide +kernel) ⟨Nat.le_of_ble_eq_true rfl, Nat.le_of_ble_eq_true rfl⟩) hE (hP.sub (ws' := []) [] rfl) rfl hl.1 rfl (Nat.le_of_ble_eq_true rfl) dX10_bell_27 ⟨Nat.zero_le _, Nat.zero_le _⟩ (fun r27 h27 => ?_)
      refine lv_if_eq (tgt := 44) hx hb dX10_bell_30 (by decide) (fun c30 => ?_) (fun c30 => ?_)
      · have c30_ := i_eq c30
        replace h27 := or_n h27 c30_
        refine lv_ldc hx hb hown lk1 dX10_bell_44 ?_
        subst hQ
        exact W.iret (v := (-1000000002)) hx hb hr (fun t ht hW => ⟨(-1000000002), rfl, ⟨trivial, (Or.inr ⟨hcel, Or.inl ⟨by omega, by omega⟩⟩)⟩, ht⟩) (fun q h => absurd h List.not_mem_nil) dX10_bell_46
      · have c30_ := i_ne c30
        replace h27 := or_y h27 c30_
        clear c30_
        refine lv_iload hx hb dX10_bell_33 (lv_at hl 5 rfl) ?_
        refine lv_i2l hx hb dX10_bell_35 rfl ?_
        refine lv_lconst (v := 0) hx hb dX10_bell_36 (by decide) ?_
        refine lv_lconst (v := 1) hx hb dX10_bell_37 (by decide) ?_
        have lt38_0 : (what.toInt64).toInt = what.toInt := Int32.toInt_toInt64 _
        have lt38_1 : (0 : Int64).toInt = 0 := by decide
        have lt38_2 : (1 : Int64).toInt = 1 := by decide
        refine rd_S (As := [.long what.toInt64, .long 0, .long 1]) (rest := []) ⟨hx, hb, hml, hown, hts⟩ (c_X10_in l E A what.toInt64 0 1) (va_cwS 3 hts gX10_bell_X10_in rfl rfl rfl (by decide +kernel) ⟨Nat.le_of_ble_eq_true rfl, Nat.le_of_ble_eq_true rfl⟩) hE (hP.sub (ws' := []) [] rfl) rfl hl.1 rfl (Nat.le_of_ble_eq_true rfl) dX10_bell_38 ⟨Nat.zero_le _, Nat.zero_le _⟩ (fun r38 h38 => ?_)
        refine lv_if_ne (tgt := 47) hx hb dX10_bell_41 (by decide) (fun c41 => ?_) (fun c41 => ?_)
        · have c41_ := i_ne c41
          replace h38 := or_y h38 c41_
          clear c41_
          have sv47_step : 0 ≤ step.toInt ∧ step.toInt ≤ 900000 := by omega
          refine lv_iconst (v := (-1)) hx hb dX10_bell_47 (by decide) ?_
          refine lv_istore (lv' := [(6, .int (-1)), (0, .ref (am 0)), (1, .int x), (2, .int y), (3, .int lim), (4, .int step), (5, .int what)]) hx hb dX10_bell_48 hl (by decide) rfl (fun ls hl => ?_)
          refine lv_iconst (v := 0) hx hb dX10_bell_50 (by decide) ?_
          refine lv_istore (lv' := [(7, .int 0), (6, .int (-1)), (0, .ref (am 0)), (1, .int x), (2, .int y), (3, .int lim), (4, .int step), (5, .int what)]) hx hb dX10_bell_51 hl (by decide) rfl (fun ls hl => ?_)
          refine lv_iconst (v := 0) hx hb dX10_bell_53 (by decide) ?_
          refine lv_istore (lv' := [(8, .int 0), (7, .int 0), (6, .int (-1)), (0, .ref (am 0)), (1, .int x), (2, .int y), (3, .int lim), (4, .int step), (5, .int what)]) hx hb dX10_bell_54 hl (by decide) rfl (fun ls hl => ?_)
          have K56 : ∀ (μ : Nat) (fi : Int32) (rg : Int32) (i : Int32) (ls : Array Slot), (729 - i.toInt).toNat < μ → (0 ≤ i.toInt ∧ i.toInt ≤ 729) → (FsP (fun j => lim < mLean vm (mC vm x y) (step + Int32.ofNat j)) i.toInt fi) → (rg = mRgN vm (mC vm x y) lim step i.toNatClampNeg) → (i.toInt ≤ (vm 22 0).toInt) → lv_has ls 10 [(0, .ref (am 0)), (1, .int x), (2, .int y), (3, .int lim), (4, .int step), (5, .int what), (6, .int fi), (7, .int rg), (8, .int i)] → W p l e (headSpec wsX10_bell rm_X10_bell).room s m ([.ref (am 0), .int x, .int y, .int lim, .int step, .int what] : List Value).toArray below meth c s.heap [] 0 0 Q (F0 m 56 ls []) := by
            intro μ
            induction μ with
            | zero =>
              intro fi rg i ls hμ56
              exact absurd hμ56 (Nat.not_lt_zero _)
            | succ μ ih56 =>
              intro fi rg i ls hμ56 h56_0 h56_1 h56_2 h56_3 hl
              have hx56_0 := h56_1
              clear h56_1
              have hx56_1 := h56_2
              clear h56_2
              have hx56_2 := h56_3
              clear h56_3
              refine lv_iload hx hb dX10_bell_56 (lv_at hl 8 rfl) ?_
              refine lv_aload_n hx hb dX10_bell_58 rfl (lv_at hl 0 rfl) ?_
              refine va_get (D := eD E) (ci := 10) (v := .int (vm 22 0)) (C := RX10) (T := TX10) (N := 79) hx hb hts in_X10 hown hK hP 0 rfl rfl 22 (by decide) lk2 (fun _ h9 => h9) rfl dX10_bell_59 ?_
              refine lv_icmp_ge (tgt := 133) hx hb dX10_bell_62 (by decide) (fun c62 => ?_) (fun c62 => ?_)
              · have c62_ := i_le c62
                refine lv_iload hx hb dX10_bell_133 (lv_at hl 5 rfl) ?_
                refine lv_if_ne (tgt := 143) hx hb dX10_bell_135 (by decide) (fun c135 => ?_) (fun c135 => ?_)
                · have c135_ := i_ne c135
                  have hv135 : what.toInt = 1 := by omega
                  refine lv_iload hx hb dX10_bell_143 (lv_at hl 7 rfl) ?_
                  subst hQ
                  exact W.iret (v := rg) hx hb hr (fun t ht hW => ⟨rg, rfl, ⟨trivial, (by have ei : i = vm 22 0 := i_eqr (by omega); exact Or.inr ⟨hcel, Or.inr ⟨by omega, by first | exact Or.inr ⟨hv135, by rw [← ei]; exact hx56_1⟩ | exact Or.inl ⟨hw135, by rw [← ei]; exact hx56_0⟩⟩⟩)⟩, ht⟩) (fun q h => absurd h List.not_mem_nil) dX10_bell_145
                · have c135_ := i_eq c135
                  have hw135 : what.toInt = 0 := by omega
                  refine lv_iload hx hb dX10_bell_138 (lv_at hl 6 rfl) ?_
                  refine lv_goto (tgt := 145) hx hb dX10_bell_140 (by decide) ?_
                  subst hQ
                  exact W.iret (v := fi) hx hb hr (fun t ht hW => ⟨fi, rfl, ⟨trivial, (by have ei : i = vm 22 0 := i_eqr (by omega); exact Or.inr ⟨hcel, Or.inr ⟨by omega, by first | exact Or.inr ⟨hv135, by rw [← ei]; exact hx56_1⟩ | exact Or.inl ⟨hw135, by rw [← ei]; exact hx56_0⟩⟩⟩)⟩, ht⟩) (fun q h => absurd h List.not_mem_nil) dX10_bell_145
              · have c62_ := i_nle c62
                refine lv_aload_n hx hb dX10_bell_65 rfl (lv_at hl 0 rfl) ?_
                refine lv_aload_n hx hb dX10_bell_66 rfl (lv_at hl 0 rfl) ?_
                refine va_get (D := eD E) (ci := 10) (v := .int (vm 0 0)) (C := RX10) (T := TX10) (N := 79) hx hb hts in_X10 hown hK hP 0 rfl rfl 0 (by decide) lk3 (fun _ h9 => h9) rfl dX10_bell_67 ?_
                refine lv_iload_n hx hb dX10_bell_70 rfl (lv_at hl 2 rfl) ?_
                refine lv_imul hx hb dX10_bell_71 ?_
                refine lv_topi (fun x71 e71 => ?_)
                have qm71 := mcell_lt hG1 hG3 (x := x) (y := y) (by omega) (by omega) (by omega) (by omega)
                have t71 := i_mul e71 (by omega)
                refine lv_iload_n hx hb dX10_bell_72 rfl (lv_at hl 1 rfl) ?_
                refine lv_iadd hx hb dX10_bell_73 ?_
                refine lv_topi (fun x73 e73 => ?_)
                have t73 := i_add e73 (by omega)
                refine lv_iload hx hb dX10_bell_74 (lv_at hl 4 rfl) ?_
                refine lv_iload hx hb dX10_bell_76 (lv_at hl 8 rfl) ?_
                refine lv_iadd hx hb dX10_bell_78 ?_
                refine lv_topi (fun x78 e78 => ?_)
                have t78 := i_add e78 (by omega)
                refine rd_V (As := [.int x73, .int x78]) (rest := []) (C := RX10) (ci := 10) ⟨hx, hb, hml, hown, hts⟩ (c_X10_leanAt l E A am vm x73 x78 hH (by omega) (by omega) (by omega)) (cwV 2 hts gX10_bell_X10_leanAt rfl rfl rfl (by decide +kernel) ⟨Nat.le_of_ble_eq_true rfl, Nat.le_of_ble_eq_true rfl⟩) hE (hP.sub (ws' := mdL E am vm) [0, 1, 2, 3, 4, 5, 6, 7, 8, 9, 10, 11, 12, 13, 14, 15, 16, 17, 18, 19, 20, 21, 22, 23, 24, 25, 26, 27, 28, 29, 30, 31, 32, 33, 34, 35, 36, 37, 38, 39, 40, 41, 42, 43, 44, 45] rfl) rfl rfl rfl rfl hl.1 rfl (Nat.le_of_ble_eq_true rfl) dX10_bell_79 ⟨Nat.zero_le _, Nat.zero_le _⟩ (fun r79 h79 => ?_)
                have hf79 := h79.2
                replace h79 := h79.1
                have hL79 : r79 = mLean vm (mC vm x y) x78 := by rw [hf79, show x73 = mC vm x y from (by unfold mC; rw [e73, e71])]
                refine lv_iload_n hx hb dX10_bell_82 rfl (lv_at hl 3 rfl) ?_
                have K91 : ∀  (b1 : Int32) (ls : Array Slot), (b1.toInt ≠ 0 ↔ lim < mLean vm (mC vm x y) x78) → lv_has ls 10 [(0, .ref (am 0)), (1, .int x), (2, .int y), (3, .int lim), (4, .int step), (5, .int what), (6, .int fi), (7, .int rg), (8, .int i)] → W p l e (headSpec wsX10_bell rm_X10_bell).room s m ([.ref (am 0), .int x, .int y, .int lim, .int step, .int what] : List Value).toArray below meth c s.heap [] 0 0 Q (F0 m 91 ls [.int b1]) := by
                  intro b1 ls h91_0 hl
                  have hx91_0 := h91_0
                  clear h91_0
                  refine lv_istore (lv' := [(9, .int b1), (0, .ref (am 0)), (1, .int x), (2, .int y), (3, .int lim), (4, .int step), (5, .int what), (6, .int fi), (7, .int rg), (8, .int i)]) hx hb dX10_bell_91 hl (by decide) rfl (fun ls hl => ?_)
                  refine lv_iload hx hb dX10_bell_93 (lv_at hl 0 rfl) ?_
                  have K110 : ∀  (b2 : Int32) (ls : Array Slot), (((b1.toInt ≠ 0 ∧ fi.toInt < 0) ∧ b2 = i) ∨ (¬ (b1.toInt ≠ 0 ∧ fi.toInt < 0) ∧ b2 = fi)) → lv_has ls 10 [(0, .ref (am 0)), (1, .int x), (2, .int y), (3, .int lim), (4, .int step), (5, .int what), (6, .int fi), (7, .int rg), (8, .int i), (9, .int b1)] → W p l e (headSpec wsX10_bell rm_X10_bell).room s m ([.ref (am 0), .int x, .int y, .int lim, .int step, .int what] : List Value).toArray below meth c s.heap [] 0 0 Q (F0 m 110 ls [.int b2]) := by
                    intro b2 ls h110_0 hl
                    have hx110_0 := h110_0
                    clear h110_0
                    refine lv_istore (lv' := [(6, .int b2), (0, .ref (am 0)), (1, .int x), (2, .int y), (3, .int lim), (4, .int step), (5, .int what), (7, .int rg), (8, .int i), (9, .int b1)]) hx hb dX10_bell_110 hl (by decide) rfl (fun ls hl => ?_)
                    refine lv_iload hx hb dX10_bell_112 (lv_at hl 7 rfl) ?_
                    refine lv_iload hx hb dX10_bell_114 (lv_at hl 9 rfl) ?_
                    have K124 : ∀  (b3 : Int32) (ls : Array Slot), ((b1.toInt ≠ 0 ∧ b3 = 1) ∨ (b1.toInt = 0 ∧ b3 = 0)) → lv_has ls 10 [(0, .ref (am 0)), (1, .int x), (2, .int y), (3, .int lim), (4, .int step), (5, .int what), (6, .int b2), (7, .int rg), (8, .int i), (9, .int b1)] → W p l e (headSpec wsX10_bell rm_X10_bell).room s m ([.ref (am 0), .int x, .int y, .int lim, .int step, .int what] : List Value).toArray below meth c s.heap [] 0 0 Q (F0 m 124 ls [.int b3, .int rg]) := by
                      intro b3 ls h124_0 hl
                      have hx124_0 := h124_0
                      clear h124_0
                      refine lv_iadd hx hb dX10_bell_124 ?_
                      refine lv_topi (fun x124 e124 => ?_)
                      refine lv_istore (lv' := [(7, .int x124), (0, .ref (am 0)), (1, .int x), (2, .int y), (3, .int lim), (4, .int step), (5, .int what), (6, .int b2), (8, .int i), (9, .int b1)]) hx hb dX10_bell_125 hl (by decide) rfl (fun ls hl => ?_)
                      obtain ⟨x127, e127⟩ : ∃ y : Int32, y = i + 1 := ⟨_, rfl⟩
                      refine lv_iinc (v := x127) (lv' := [(8, .int x127), (7, .int x124), (0, .ref (am 0)), (1, .int x), (2, .int y), (3, .int lim), (4, .int step), (5, .int what), (6, .int b2), (9, .int b1)]) hx hb dX10_bell_127 hl (k := 8) rfl (by rw [e127]; rfl) (by decide) rfl (fun ls hl => ?_)
                      have t127 := i_add e127 (by omega)
                      refine lv_goto (tgt := 56) hx hb dX10_bell_130 (by decide) ?_
                      exact ih56 b2 x124 x127 ls (by omega) (by omega) (fs_next2 (T := (fun q => lim < mLean vm (mC vm x y) q)) hx56_0 (by omega) t127 e78 hx91_0 hx110_0) (rg_next hx56_1 (by omega) t127 e78 (rg_b hx91_0 hx124_0 e124)) (by omega) (lv_sub hl [2, 3, 4, 5, 6, 7, 8, 1, 0] rfl)
                    refine lv_if_eq (tgt := 123) hx hb dX10_bell_116 (by decide) (fun c116 => ?_) (fun c116 => ?_)
                    · have c116_ := i_eq c116
                      have hz116 : b1.toInt = 0 := by omega
                      refine lv_iconst (v := 0) hx hb dX10_bell_123 (by decide) ?_
                      exact K124 0 ls (by first | exact Or.inl ⟨hy116, rfl⟩ | exact Or.inr ⟨hz116, rfl⟩) (lv_sub hl [1, 2, 3, 4, 5, 6, 0, 7, 8, 9] rfl)
                    · have c116_ := i_ne c116
                      have hy116 : b1.toInt ≠ 0 := by omega
                      refine lv_iconst (v := 1) hx hb dX10_bell_119 (by decide) ?_
                      refine lv_goto (tgt := 124) hx hb dX10_bell_120 (by decide) ?_
                      exact K124 1 ls (by first | exact Or.inl ⟨hy116, rfl⟩ | exact Or.inr ⟨hz116, rfl⟩) (lv_sub hl [1, 2, 3, 4, 5, 6, 0, 7, 8, 9] rfl)
                  refine lv_if_eq (tgt := 108) hx hb dX10_bell_95 (by decide) (fun c95 => ?_) (fun c95 => ?_)
                  · have c95_ := i_eq c95
                    have hz95 : ¬ (b1.toInt ≠ 0 ∧ fi.toInt < 0) := fun q => q.1 (by omega)
                    refine lv_iload hx hb dX10_bell_108 (lv_at hl 7 rfl) ?_
                    exact K110 fi ls (by first | exact Or.inl ⟨hy100, rfl⟩ | exact Or.inr ⟨hz95, rfl⟩) (lv_sub hl [1, 2, 3, 4, 5, 6, 7, 8, 9, 0] rfl)
                  · have c95_ := i_ne c95
                    refine lv_iload hx hb dX10_bell_98 (lv_at hl 7 rfl) ?_
                    refine lv_if_ge (tgt := 108) hx hb dX10_bell_100 (by decide) (fun c100 => ?_) (fun c100 => ?_)
                    · have c100_ := i_le c100
                      have hz95 : ¬ (b1.toInt ≠ 0 ∧ fi.toInt < 0) := fun q => absurd q.2 (by omega)
                      refine lv_iload hx hb dX10_bell_108 (lv_at hl 7 rfl) ?_
                      exact K110 fi ls (by first | exact Or.inl ⟨hy100, rfl⟩ | exact Or.inr ⟨hz95, rfl⟩) (lv_sub hl [1, 2, 3, 4, 5, 6, 7, 8, 9, 0] rfl)
                    · have c100_ := i_nle c100
                      have hy100 : b1.toInt ≠ 0 ∧ fi.toInt < 0 := ⟨by omega, by omega⟩
                      refine lv_iload hx hb dX10_bell_103 (lv_at hl 9 rfl) ?_
                      refine lv_goto (tgt := 110) hx hb dX10_bell_105 (by decide) ?_
                      exact K110 i ls (by first | exact Or.inl ⟨hy100, rfl⟩ | exact Or.inr ⟨hz95, rfl⟩) (lv_sub hl [1, 2, 3, 4, 5, 6, 7, 8, 9, 0] rfl)
                refine lv_icmp_le (tgt := 90) hx hb dX10_bell_83 (by decide) (fun c83 => ?_) (fun c83 => ?_)
                · have c83_ := i_le c83
                  have hle83 : ¬ lim < mLean vm (mC vm x y) x78 := by rw [← hL79]; exact Int32.not_lt.mpr c83
                  refine lv_iconst (v := 0) hx hb dX10_bell_90 (by decide) ?_
                  exact K91 0 ls (by first | exact ⟨fun q => absurd n_0 q, fun q => absurd q hle83⟩ | exact ⟨fun _ => hlt83, fun _ => by decide⟩) (lv_sub hl [0, 1, 2, 3, 4, 5, 6, 7, 8] rfl)
                · have c83_ := i_nle c83
                  have hlt83 : lim < mLean vm (mC vm x y) x78 := by rw [← hL79]; exact Int32.not_le.mp c83
                  refine lv_iconst (v := 1) hx hb dX10_bell_86 (by decide) ?_
                  refine lv_goto (tgt := 91) hx hb dX10_bell_87 (by decide) ?_
                  exact K91 1 ls (by first | exact ⟨fun q => absurd n_0 q, fun q => absurd q hle83⟩ | exact ⟨fun _ => hlt83, fun _ => by decide⟩) (lv_sub hl [0, 1, 2, 3, 4, 5, 6, 7, 8] rfl)
          exact K56 _ (-1) 0 0 ls (Nat.lt_succ_self _) (by omega) (Or.inl ⟨n_m1, fun j hj => absurd hj (by rw [n_0]; omega)⟩) rfl (by rw [n_0]; omega) (lv_sub hl [3, 4, 5, 6, 7, 8, 2, 1, 0] rfl)
        · have c41_ := i_eq c41
          replace h38 := or_n h38 c41_
          refine lv_ldc hx hb hown lk1 dX10_bell_44 ?_
          subst hQ
          exact W.iret (v := (-1000000002)) hx hb hr (fun t ht hW => ⟨(-1000000002), rfl, ⟨trivial, (Or.inr ⟨hcel, Or.inl ⟨by omega, by omega⟩⟩)⟩, ht⟩) (fun q h => absurd h List.not_mem_nil) dX10_bell_46
  · have c6_ := i_eq c6
    replace h3 := or_n h3 c6_
    refine lv_ldcw hx hb hown lk4 dX10_bell_9 ?_
    subst hQ
    exact W.iret (v := (-1000000001)) hx hb hr (fun t ht hW => ⟨(-1000000001), rfl, ⟨trivial, (Or.inl ⟨by omega, (by unfold inG; omega)⟩)⟩, ht⟩) (fun q h => absurd h List.not_mem_nil) dX10_bell_12
def rm_X10_breaks : Room := { frames := 5, cells := 0, slots := 0, locals := 119 }
set_option maxHeartbeats 4000000 in
set_option maxRecDepth 100000 in
theorem c_X10_breaks (l : Launch) (E : Ev) (A : Nat → Prop) (am : Nat → Nat) (vm : Vf) (step : Int32) (what : Int32) (hH : MdH vm) : Met l yX10_breaks wsX10_breaks rm_X10_breaks (RdP E A [.ref (am 0), .int step, .int what] (mdL E am vm)) (vp_Si (fun r => (True) ∧ (OutP ((0 ≤ step.toInt ∧ step.toInt ≤ 900000) ∧ (0 ≤ what.toInt ∧ what.toInt ≤ 1)) r (BrkR vm step what r)))) 0 0 (fun _ => False) := by
  refine Met.ofW (cc := cX10_breaks) (maxL := 5) (ret := (some .int)) (by decide) rfl ?_
  intro p e s m args below meth c s₁ B hml hv
  obtain ⟨rfl, hE, hP⟩ := hv
  have hx := B.exec
  have hb := B.bytes
  have hr := B.returns
  have hts := atoms_spec (ws := wsX10_breaks) B.pre
  have hown : s.vm.findClass RX10 = some m.cls := findClass_of_methodNamed B.named
  have hlocks := B.notSynchronized
  have hK := hE.1
  have in_X10 : ∀ w ∈ u_ws RX10 TX10 79, w ∈ wsX10_breaks := fun w h => List.mem_cons_of_mem _ (List.mem_append_right _ h)
  have lk0 := hts (.constant RX10 175 (-1000000002)) (List.mem_of_getElem? (i := 1) rfl)
  have lk1 := hts (.fieldLink RX10 55 "TidedGroundModel" "period" "I") (List.mem_of_getElem? (i := 2) rfl)
  have lk2 := hts (.fieldLink RX10 270 "TidedGroundModel" "houses" "I") (List.mem_of_getElem? (i := 3) rfl)
  have n_m1000000002 : ((-1000000002) : Int32).toInt = -1000000002 := by decide
  have n_m1 : ((-1) : Int32).toInt = -1 := by decide
  have n_0 : (0 : Int32).toInt = 0 := by decide
  have n_1 : (1 : Int32).toInt = 1 := by decide
  have hl := lv_entry ([.ref (am 0), .int step, .int what]) (n := 5) (Nat.le_of_ble_eq_true rfl)
  rw [lg_entry_eq]
  generalize (lg_sl ([.ref (am 0), .int step, .int what]) ++ List.replicate (5 - (lg_sl ([.ref (am 0), .int step, .int what])).length) Slot.unset).toArray = ls at hl ⊢
  have hl : lv_has ls 5 [(0, .ref (am 0)), (1, .int step), (2, .int what)] := hl
  refine W_abs (fun Q hQ => ?_)
  obtain ⟨hmG, hmC, hmZ, hmM, hmA, hmS, hmT⟩ := id hH
  obtain ⟨hG1, hG2, hG3⟩ := id hmG
  obtain ⟨hC1, hC2, hC3, hC4, hC5, hC6⟩ := id hmC
  obtain ⟨hM1, hM2, hM3, hM4⟩ := id hmM
  obtain ⟨hA1, hA2, hA3, hA4, hA5⟩ := id hmA
  obtain ⟨hS1, hS2, hS3, hS4, hS5, hS6⟩ := id hmS
  obtain ⟨hT1, hT2, hT3, hT4, hT5⟩ := id hmT
  refine lv_iload_n hx hb dX10_breaks_0 rfl (lv_at hl 1 rfl) ?_
  refine rd_S (As := [.int step]) (rest := []) ⟨hx, hb, hml, hown, hts⟩ (c_X10_isStep l E A step) (va_cwS 1 hts gX10_breaks_X10_isStep rfl rfl rfl (by decide +kernel) ⟨Nat.le_of_ble_eq_true rfl, Nat.le_of_ble_eq_true rfl⟩) hE (hP.sub (ws' := []) [] rfl) rfl hl.1 rfl (Nat.le_of_ble_eq_true rfl) dX10_breaks_1 ⟨Nat.zero_le _, Nat.zero_le _⟩ (fun r1 h1 => ?_)
  refine lv_if_eq (tgt := 17) hx hb dX10_breaks_4 (by decide) (fun c4 => ?_) (fun c4 => ?_)
  · have c4_ := i_eq c4
    replace h1 := or_n h1 c4_
    refine lv_ldc hx hb hown lk0 dX10_breaks_17 ?_
    subst hQ
    exact W.iret (v := (-1000000002)) hx hb hr (fun t ht hW => ⟨(-1000000002), rfl, ⟨trivial, (Or.inl ⟨by omega, by omega⟩)⟩, ht⟩) (fun q h => absurd h List.not_mem_nil) dX10_breaks_19
  · have c4_ := i_ne c4
    replace h1 := or_y h1 c4_
    clear c4_
    refine lv_iload_n hx hb dX10_breaks_7 rfl (lv_at hl 2 rfl) ?_
    refine lv_i2l hx hb dX10_breaks_8 rfl ?_
    refine lv_lconst (v := 0) hx hb dX10_breaks_9 (by decide) ?_
    refine lv_lconst (v := 1) hx hb dX10_breaks_10 (by decide) ?_
    have lt11_0 : (what.toInt64).toInt = what.toInt := Int32.toInt_toInt64 _
    have lt11_1 : (0 : Int64).toInt = 0 := by decide
    have lt11_2 : (1 : Int64).toInt = 1 := by decide
    refine rd_S (As := [.long what.toInt64, .long 0, .long 1]) (rest := []) ⟨hx, hb, hml, hown, hts⟩ (c_X10_in l E A what.toInt64 0 1) (va_cwS 3 hts gX10_breaks_X10_in rfl rfl rfl (by decide +kernel) ⟨Nat.le_of_ble_eq_true rfl, Nat.le_of_ble_eq_true rfl⟩) hE (hP.sub (ws' := []) [] rfl) rfl hl.1 rfl (Nat.le_of_ble_eq_true rfl) dX10_breaks_11 ⟨Nat.zero_le _, Nat.zero_le _⟩ (fun r11 h11 => ?_)
    refine lv_if_ne (tgt := 20) hx hb dX10_breaks_14 (by decide) (fun c14 => ?_) (fun c14 => ?_)
    · have c14_ := i_ne c14
      replace h11 := or_y h11 c14_
      clear c14_
      have sv20_step : 0 ≤ step.toInt ∧ step.toInt ≤ 900000 := by omega
      refine lv_iconst (v := 0) hx hb dX10_breaks_20 (by decide) ?_
      refine lv_istore_n (lv' := [(3, .int 0), (0, .ref (am 0)), (1, .int step), (2, .int what)]) hx hb dX10_breaks_21 rfl hl (by decide) rfl (fun ls hl => ?_)
      have K22 : ∀ (μ : Nat) (i : Int32) (ls : Array Slot), (729 - i.toInt).toNat < μ → (0 ≤ i.toInt ∧ i.toInt ≤ 729) → (NoB vm step i.toInt) → lv_has ls 5 [(0, .ref (am 0)), (1, .int step), (2, .int what), (3, .int i)] → W p l e (headSpec wsX10_breaks rm_X10_breaks).room s m ([.ref (am 0), .int step, .int what] : List Value).toArray below meth c s.heap [] 0 0 Q (F0 m 22 ls []) := by
        intro μ
        induction μ with
        | zero =>
          intro i ls hμ22
          exact absurd hμ22 (Nat.not_lt_zero _)
        | succ μ ih22 =>
          intro i ls hμ22 h22_0 h22_1 hl
          have hx22_0 := h22_1
          clear h22_1
          refine lv_iload_n hx hb dX10_breaks_22 rfl (lv_at hl 3 rfl) ?_
          refine lv_aload_n hx hb dX10_breaks_23 rfl (lv_at hl 0 rfl) ?_
          refine va_get (D := eD E) (ci := 10) (v := .int (vm 22 0)) (C := RX10) (T := TX10) (N := 79) hx hb hts in_X10 hown hK hP 0 rfl rfl 22 (by decide) lk1 (fun _ h9 => h9) rfl dX10_breaks_24 ?_
          refine lv_icmp_ge (tgt := 79) hx hb dX10_breaks_27 (by decide) (fun c27 => ?_) (fun c27 => ?_)
          · have c27_ := i_le c27
            refine lv_iconst (v := (-1)) hx hb dX10_breaks_79 (by decide) ?_
            subst hQ
            exact W.iret (v := (-1)) hx hb hr (fun t ht hW => ⟨(-1), rfl, ⟨trivial, (Or.inr ⟨by omega, Or.inl ⟨by omega, fun j hj => hx22_0 j (by omega)⟩⟩)⟩, ht⟩) (fun q h => absurd h List.not_mem_nil) dX10_breaks_80
          · have c27_ := i_nle c27
            refine lv_iconst (v := 0) hx hb dX10_breaks_30 (by decide) ?_
            refine lv_istore (lv' := [(4, .int 0), (0, .ref (am 0)), (1, .int step), (2, .int what), (3, .int i)]) hx hb dX10_breaks_31 hl (by decide) rfl (fun ls hl => ?_)
            have K33 : ∀ (μ : Nat) (h : Int32) (ls : Array Slot), (6 - h.toInt).toNat < μ → (0 ≤ h.toInt ∧ h.toInt ≤ 6) → (NoH vm (step + i) h.toInt) → lv_has ls 5 [(0, .ref (am 0)), (1, .int step), (2, .int what), (3, .int i), (4, .int h)] → W p l e (headSpec wsX10_breaks rm_X10_breaks).room s m ([.ref (am 0), .int step, .int what] : List Value).toArray below meth c s.heap [] 0 0 Q (F0 m 33 ls []) := by
              intro μ
              induction μ with
              | zero =>
                intro h ls hμ33
                exact absurd hμ33 (Nat.not_lt_zero _)
              | succ μ ih33 =>
                intro h ls hμ33 h33_0 h33_1 hl
                have hx33_0 := h33_1
                clear h33_1
                refine lv_iload hx hb dX10_breaks_33 (lv_at hl 4 rfl) ?_
                refine lv_aload_n hx hb dX10_breaks_35 rfl (lv_at hl 0 rfl) ?_
                refine va_get (D := eD E) (ci := 10) (v := .int (vm 9 0)) (C := RX10) (T := TX10) (N := 79) hx hb hts in_X10 hown hK hP 0 rfl rfl 9 (by decide) lk2 (fun _ h9 => h9) rfl dX10_breaks_36 ?_
                refine lv_icmp_ge (tgt := 73) hx hb dX10_breaks_39 (by decide) (fun c39 => ?_) (fun c39 => ?_)
                · have c39_ := i_le c39
                  obtain ⟨x73, e73⟩ : ∃ y : Int32, y = i + 1 := ⟨_, rfl⟩
                  refine lv_iinc (v := x73) (lv' := [(3, .int x73), (0, .ref (am 0)), (1, .int step), (2, .int what), (4, .int h)]) hx hb dX10_breaks_73 hl (k := 3) rfl (by rw [e73]; rfl) (by decide) rfl (fun ls hl => ?_)
                  have t73 := i_add e73 (by omega)
                  refine lv_goto (tgt := 22) hx hb dX10_breaks_76 (by decide) ?_
                  exact ih22 x73 ls (by omega) (by omega) (nob_next hx22_0 (by omega) t73 rfl (fun k hk => hx33_0 k (by omega))) (lv_sub hl [1, 2, 3, 0] rfl)
                · have c39_ := i_nle c39
                  have hw : 1 ≤ (vm 0 0).toInt := (by rcases hmZ with q | q <;> omega)
                  refine lv_aload_n hx hb dX10_breaks_42 rfl (lv_at hl 0 rfl) ?_
                  refine lv_iload hx hb dX10_breaks_43 (lv_at hl 4 rfl) ?_
                  refine lv_iload_n hx hb dX10_breaks_45 rfl (lv_at hl 1 rfl) ?_
                  refine lv_iload_n hx hb dX10_breaks_46 rfl (lv_at hl 3 rfl) ?_
                  refine lv_iadd hx hb dX10_breaks_47 ?_
                  refine lv_topi (fun x47 e47 => ?_)
                  have t47 := i_add e47 (by omega)
                  refine rd_V (As := [.int h, .int x47]) (rest := []) (C := RX10) (ci := 10) ⟨hx, hb, hml, hown, hts⟩ (c_X10_doesBreak l E A am vm h x47 hH (by omega) (by omega) (by omega)) (cwV 2 hts gX10_breaks_X10_doesBreak rfl rfl rfl (by decide +kernel) ⟨Nat.le_of_ble_eq_true rfl, Nat.le_of_ble_eq_true rfl⟩) hE (hP.sub (ws' := mdL E am vm) [0, 1, 2, 3, 4, 5, 6, 7, 8, 9, 10, 11, 12, 13, 14, 15, 16, 17, 18, 19, 20, 21, 22, 23, 24, 25, 26, 27, 28, 29, 30, 31, 32, 33, 34, 35, 36, 37, 38, 39, 40, 41, 42, 43, 44, 45] rfl) rfl rfl rfl rfl hl.1 rfl (Nat.le_of_ble_eq_true rfl) dX10_breaks_48 ⟨Nat.zero_le _, Nat.zero_le _⟩ (fun r48 h48 => ?_)
                  have hf48 := h48.2
                  replace h48 := h48.1
                  refine lv_if_eq (tgt := 67) hx hb dX10_breaks_51 (by decide) (fun c51 => ?_) (fun c51 => ?_)
                  · have c51_ := i_eq c51
                    clear h48
                    obtain ⟨x67, e67⟩ : ∃ y : Int32, y = h + 1 := ⟨_, rfl⟩
                    refine lv_iinc (v := x67) (lv' := [(4, .int x67), (0, .ref (am 0)), (1, .int step), (2, .int what), (3, .int i)]) hx hb dX10_breaks_67 hl (k := 4) rfl (by rw [e67]; rfl) (by decide) rfl (fun ls hl => ?_)
                    have t67 := i_add e67 (by omega)
                    refine lv_goto (tgt := 33) hx hb dX10_breaks_70 (by decide) ?_
                    exact ih33 x67 ls (by omega) (by omega) (noh_next hx33_0 (by omega) t67 (fun z => z (by rw [← e47, ← hf48]; exact c51))) (lv_sub hl [1, 2, 3, 4, 0] rfl)
                  · have c51_ := i_ne c51
                    replace h48 := b_y h48 c51_
                    clear c51_
                    refine lv_iload_n hx hb dX10_breaks_54 rfl (lv_at hl 2 rfl) ?_
                    refine lv_if_ne (tgt := 64) hx hb dX10_breaks_55 (by decide) (fun c55 => ?_) (fun c55 => ?_)
                    · have c55_ := i_ne c55
                      have hv55 : ¬ what.toInt = 0 := by omega
                      refine lv_iload hx hb dX10_breaks_64 (lv_at hl 4 rfl) ?_
                      subst hQ
                      exact W.iret (v := h) hx hb hr (fun t ht hW => ⟨h, rfl, ⟨trivial, (Or.inr ⟨by omega, brk_at hx22_0 hx33_0 ⟨by omega, by omega⟩ ⟨by omega, by omega⟩ rfl (by rw [← e47, ← hf48]; exact c51) (by first | rw [if_pos hw55, e60] | rw [if_neg hv55])⟩)⟩, ht⟩) (fun q h => absurd h List.not_mem_nil) dX10_breaks_66
                    · have c55_ := i_eq c55
                      have hw55 : what.toInt = 0 := by omega
                      refine lv_iload_n hx hb dX10_breaks_58 rfl (lv_at hl 1 rfl) ?_
                      refine lv_iload_n hx hb dX10_breaks_59 rfl (lv_at hl 3 rfl) ?_
                      refine lv_iadd hx hb dX10_breaks_60 ?_
                      refine lv_topi (fun x60 e60 => ?_)
                      have t60 := i_add e60 (by omega)
                      refine lv_goto (tgt := 66) hx hb dX10_breaks_61 (by decide) ?_
                      subst hQ
                      exact W.iret (v := x60) hx hb hr (fun t ht hW => ⟨x60, rfl, ⟨trivial, (Or.inr ⟨by omega, brk_at hx22_0 hx33_0 ⟨by omega, by omega⟩ ⟨by omega, by omega⟩ rfl (by rw [← e47, ← hf48]; exact c51) (by first | rw [if_pos hw55, e60] | rw [if_neg hv55])⟩)⟩, ht⟩) (fun q h => absurd h List.not_mem_nil) dX10_breaks_66
            exact K33 _ 0 ls (Nat.lt_succ_self _) (by omega) (fun j hj => absurd hj (by rw [n_0]; omega)) (lv_sub hl [1, 2, 3, 4, 0] rfl)
      exact K22 _ 0 ls (Nat.lt_succ_self _) (by omega) (fun j hj => absurd hj (by rw [n_0]; omega)) (lv_sub hl [1, 2, 3, 0] rfl)
    · have c14_ := i_eq c14
      replace h11 := or_n h11 c14_
      refine lv_ldc hx hb hown lk0 dX10_breaks_17 ?_
      subst hQ
      exact W.iret (v := (-1000000002)) hx hb hr (fun t ht hW => ⟨(-1000000002), rfl, ⟨trivial, (Or.inl ⟨by omega, by omega⟩)⟩, ht⟩) (fun q h => absurd h List.not_mem_nil) dX10_breaks_19
def rm_X10_props : Room := { frames := 5, cells := 0, slots := 0, locals := 121 }
set_option maxHeartbeats 4000000 in
set_option maxRecDepth 100000 in
theorem c_X10_props (l : Launch) (E : Ev) (A : Nat → Prop) (am : Nat → Nat) (vm : Vf) (size : Int32) (hH : MdH vm) : Met l yX10_props wsX10_props rm_X10_props (RdP E A [.ref (am 0), .int size] (mdL E am vm)) (vp_Si (fun r => (True) ∧ (OutP (1 ≤ size.toInt ∧ size.toInt ≤ 20) r (r = mPrN vm size (vm 9 0).toNatClampNeg)))) 0 0 (fun _ => False) := by
  refine Met.ofW (cc := cX10_props) (maxL := 4) (ret := (some .int)) (by decide) rfl ?_
  intro p e s m args below meth c s₁ B hml hv
  obtain ⟨rfl, hE, hP⟩ := hv
  have hx := B.exec
  have hb := B.bytes
  have hr := B.returns
  have hts := atoms_spec (ws := wsX10_props) B.pre
  have hown : s.vm.findClass RX10 = some m.cls := findClass_of_methodNamed B.named
  have hlocks := B.notSynchronized
  have hK := hE.1
  have in_X10 : ∀ w ∈ u_ws RX10 TX10 79, w ∈ wsX10_props := fun w h => List.mem_cons_of_mem _ (List.mem_append_right _ h)
  have lk0 := hts (.constantLong RX10 410 20) (List.mem_of_getElem? (i := 1) rfl)
  have lk1 := hts (.fieldLink RX10 270 "TidedGroundModel" "houses" "I") (List.mem_of_getElem? (i := 3) rfl)
  have lk2 := hts (.constant RX10 175 (-1000000002)) (List.mem_of_getElem? (i := 2) rfl)
  have n_m1000000002 : ((-1000000002) : Int32).toInt = -1000000002 := by decide
  have n_0 : (0 : Int32).toInt = 0 := by decide
  have n_1 : (1 : Int32).toInt = 1 := by decide
  have hl := lv_entry ([.ref (am 0), .int size]) (n := 4) (Nat.le_of_ble_eq_true rfl)
  rw [lg_entry_eq]
  generalize (lg_sl ([.ref (am 0), .int size]) ++ List.replicate (4 - (lg_sl ([.ref (am 0), .int size])).length) Slot.unset).toArray = ls at hl ⊢
  have hl : lv_has ls 4 [(0, .ref (am 0)), (1, .int size)] := hl
  refine W_abs (fun Q hQ => ?_)
  obtain ⟨hmG, hmC, hmZ, hmM, hmA, hmS, hmT⟩ := id hH
  obtain ⟨hG1, hG2, hG3⟩ := id hmG
  obtain ⟨hC1, hC2, hC3, hC4, hC5, hC6⟩ := id hmC
  obtain ⟨hM1, hM2, hM3, hM4⟩ := id hmM
  obtain ⟨hA1, hA2, hA3, hA4, hA5⟩ := id hmA
  obtain ⟨hS1, hS2, hS3, hS4, hS5, hS6⟩ := id hmS
  obtain ⟨hT1, hT2, hT3, hT4, hT5⟩ := id hmT
  refine lv_iload_n hx hb dX10_props_0 rfl (lv_at hl 1 rfl) ?_
  refine lv_i2l hx hb dX10_props_1 rfl ?_
  refine lv_lconst (v := 1) hx hb dX10_props_2 (by decide) ?_
  refine lv_ldc2 hx hb hown lk0 dX10_props_3 ?_
  have lt6_0 : (size.toInt64).toInt = size.toInt := Int32.toInt_toInt64 _
  have lt6_1 : (1 : Int64).toInt = 1 := by decide
  have lt6_2 : (20 : Int64).toInt = 20 := by decide
  refine rd_S (As := [.long size.toInt64, .long 1, .long 20]) (rest := []) ⟨hx, hb, hml, hown, hts⟩ (c_X10_in l E A size.toInt64 1 20) (va_cwS 3 hts gX10_props_X10_in rfl rfl rfl (by decide +kernel) ⟨Nat.le_of_ble_eq_true rfl, Nat.le_of_ble_eq_true rfl⟩) hE (hP.sub (ws' := []) [] rfl) rfl hl.1 rfl (Nat.le_of_ble_eq_true rfl) dX10_props_6 ⟨Nat.zero_le _, Nat.zero_le _⟩ (fun r6 h6 => ?_)
  refine lv_if_ne (tgt := 15) hx hb dX10_props_9 (by decide) (fun c9 => ?_) (fun c9 => ?_)
  · have c9_ := i_ne c9
    replace h6 := or_y h6 c9_
    clear c9_
    have sv15_size : 1 ≤ size.toInt ∧ size.toInt ≤ 20 := by omega
    refine lv_iconst (v := 0) hx hb dX10_props_15 (by decide) ?_
    refine lv_istore_n (lv' := [(2, .int 0), (0, .ref (am 0)), (1, .int size)]) hx hb dX10_props_16 rfl hl (by decide) rfl (fun ls hl => ?_)
    refine lv_iconst (v := 0) hx hb dX10_props_17 (by decide) ?_
    refine lv_istore_n (lv' := [(3, .int 0), (2, .int 0), (0, .ref (am 0)), (1, .int size)]) hx hb dX10_props_18 rfl hl (by decide) rfl (fun ls hl => ?_)
    have K19 : ∀ (μ : Nat) (sm : Int32) (h : Int32) (ls : Array Slot), (6 - h.toInt).toNat < μ → (0 ≤ h.toInt ∧ h.toInt ≤ 6) → (sm = mPrN vm size h.toNatClampNeg) → (h.toInt ≤ (vm 9 0).toInt) → lv_has ls 4 [(0, .ref (am 0)), (1, .int size), (2, .int sm), (3, .int h)] → W p l e (headSpec wsX10_props rm_X10_props).room s m ([.ref (am 0), .int size] : List Value).toArray below meth c s.heap [] 0 0 Q (F0 m 19 ls []) := by
      intro μ
      induction μ with
      | zero =>
        intro sm h ls hμ19
        exact absurd hμ19 (Nat.not_lt_zero _)
      | succ μ ih19 =>
        intro sm h ls hμ19 h19_0 h19_1 h19_2 hl
        have hx19_0 := h19_1
        clear h19_1
        have hx19_1 := h19_2
        clear h19_2
        refine lv_iload_n hx hb dX10_props_19 rfl (lv_at hl 3 rfl) ?_
        refine lv_aload_n hx hb dX10_props_20 rfl (lv_at hl 0 rfl) ?_
        refine va_get (D := eD E) (ci := 10) (v := .int (vm 9 0)) (C := RX10) (T := TX10) (N := 79) hx hb hts in_X10 hown hK hP 0 rfl rfl 9 (by decide) lk1 (fun _ h9 => h9) rfl dX10_props_21 ?_
        refine lv_icmp_ge (tgt := 47) hx hb dX10_props_24 (by decide) (fun c24 => ?_) (fun c24 => ?_)
        · have c24_ := i_le c24
          refine lv_iload_n hx hb dX10_props_47 rfl (lv_at hl 2 rfl) ?_
          subst hQ
          exact W.iret (v := sm) hx hb hr (fun t ht hW => ⟨sm, rfl, ⟨trivial, (Or.inr ⟨by omega, by rw [← show h = vm 9 0 from i_eqr (by omega)]; exact hx19_0⟩)⟩, ht⟩) (fun q h => absurd h List.not_mem_nil) dX10_props_48
        · have c24_ := i_nle c24
          have hw : 1 ≤ (vm 0 0).toInt := (by rcases hmZ with q | q <;> omega)
          refine lv_iload_n hx hb dX10_props_27 rfl (lv_at hl 2 rfl) ?_
          refine lv_aload_n hx hb dX10_props_28 rfl (lv_at hl 0 rfl) ?_
          refine lv_iload_n hx hb dX10_props_29 rfl (lv_at hl 3 rfl) ?_
          refine rd_V (As := [.int h]) (rest := [.int sm]) (C := RX10) (ci := 10) ⟨hx, hb, hml, hown, hts⟩ (c_X10_needOf l E A am vm h hH (by omega) (by omega)) (cwV 1 hts gX10_props_X10_needOf rfl rfl rfl (by decide +kernel) ⟨Nat.le_of_ble_eq_true rfl, Nat.le_of_ble_eq_true rfl⟩) hE (hP.sub (ws' := mdL E am vm) [0, 1, 2, 3, 4, 5, 6, 7, 8, 9, 10, 11, 12, 13, 14, 15, 16, 17, 18, 19, 20, 21, 22, 23, 24, 25, 26, 27, 28, 29, 30, 31, 32, 33, 34, 35, 36, 37, 38, 39, 40, 41, 42, 43, 44, 45] rfl) rfl rfl rfl rfl hl.1 rfl (Nat.le_of_ble_eq_true rfl) dX10_props_30 ⟨Nat.zero_le _, Nat.zero_le _⟩ (fun r30 h30 => ?_)
          have hf30 := h30.2
          replace h30 := h30.1
          refine lv_iload_n hx hb dX10_props_33 rfl (lv_at hl 1 rfl) ?_
          refine lv_iadd hx hb dX10_props_34 ?_
          refine lv_topi (fun x34 e34 => ?_)
          refine lv_iconst (v := 1) hx hb dX10_props_35 (by decide) ?_
          refine lv_isub hx hb dX10_props_36 ?_
          refine lv_topi (fun x36 e36 => ?_)
          refine lv_iload_n hx hb dX10_props_37 rfl (lv_at hl 1 rfl) ?_
          refine lv_idiv hx hb dX10_props_38 (i_ne0 (by omega)) ?_
          refine lv_topi (fun x38 e38 => ?_)
          refine lv_iadd hx hb dX10_props_39 ?_
          refine lv_topi (fun x39 e39 => ?_)
          refine lv_istore_n (lv' := [(2, .int x39), (0, .ref (am 0)), (1, .int size), (3, .int h)]) hx hb dX10_props_40 rfl hl (by decide) rfl (fun ls hl => ?_)
          obtain ⟨x41, e41⟩ : ∃ y : Int32, y = h + 1 := ⟨_, rfl⟩
          refine lv_iinc (v := x41) (lv' := [(3, .int x41), (2, .int x39), (0, .ref (am 0)), (1, .int size)]) hx hb dX10_props_41 hl (k := 3) rfl (by rw [e41]; rfl) (by decide) rfl (fun ls hl => ?_)
          have t41 := i_add e41 (by omega)
          refine lv_goto (tgt := 19) hx hb dX10_props_44 (by decide) ?_
          exact ih19 x39 x41 ls (by omega) (by omega) (pr_next hx19_0 (by omega) t41 (by rw [e39, e38, e36, e34, hf30])) (by omega) (lv_sub hl [2, 3, 1, 0] rfl)
    exact K19 _ 0 0 ls (Nat.lt_succ_self _) (by omega) rfl (by rw [n_0]; omega) (lv_sub hl [2, 3, 1, 0] rfl)
  · have c9_ := i_eq c9
    replace h6 := or_n h6 c9_
    refine lv_ldc hx hb hown lk2 dX10_props_12 ?_
    subst hQ
    exact W.iret (v := (-1000000002)) hx hb hr (fun t ht hW => ⟨(-1000000002), rfl, ⟨trivial, (Or.inl ⟨by omega, by omega⟩)⟩, ht⟩) (fun q h => absurd h List.not_mem_nil) dX10_props_14
def rm_X10_soonest : Room := { frames := 5, cells := 0, slots := 0, locals := 122 }
set_option maxHeartbeats 4000000 in
set_option maxRecDepth 100000 in
theorem c_X10_soonest (l : Launch) (E : Ev) (A : Nat → Prop) (am : Nat → Nat) (vm : Vf) (x : Int32) (y : Int32) (step : Int32) (hH : MdH vm) : Met l yX10_soonest wsX10_soonest rm_X10_soonest (RdP E A [.ref (am 0), .int x, .int y, .int step] (mdL E am vm)) (vp_Si (fun r => (True) ∧ (UnkP (0 ≤ (mOP vm x).toInt ∧ 0 ≤ (mOP vm y).toInt) r (OutP (0 ≤ step.toInt ∧ step.toInt ≤ 900000) r (SoP vm (mOP vm x) (mOP vm y) step r))))) 0 0 (fun _ => False) := by
  refine Met.ofW (cc := cX10_soonest) (maxL := 12) (ret := (some .int)) (by decide) rfl ?_
  intro p e s m args below meth c s₁ B hml hv
  obtain ⟨rfl, hE, hP⟩ := hv
  have hx := B.exec
  have hb := B.bytes
  have hr := B.returns
  have hts := atoms_spec (ws := wsX10_soonest) B.pre
  have hown : s.vm.findClass RX10 = some m.cls := findClass_of_methodNamed B.named
  have hlocks := B.notSynchronized
  have hK := hE.1
  have lk0 := hts (.constant RX10 329 (-1000000001)) (List.mem_of_getElem? (i := 1) rfl)
  have lk1 := hts (.constant RX10 175 (-1000000002)) (List.mem_of_getElem? (i := 2) rfl)
  have n_m1000000002 : ((-1000000002) : Int32).toInt = -1000000002 := by decide
  have n_m1000000001 : ((-1000000001) : Int32).toInt = -1000000001 := by decide
  have n_m1 : ((-1) : Int32).toInt = -1 := by decide
  have n_0 : (0 : Int32).toInt = 0 := by decide
  have n_1 : (1 : Int32).toInt = 1 := by decide
  have n_5 : (5 : Int32).toInt = 5 := by decide
  have n_60 : (60 : Int32).toInt = 60 := by decide
  have hl := lv_entry ([.ref (am 0), .int x, .int y, .int step]) (n := 12) (Nat.le_of_ble_eq_true rfl)
  rw [lg_entry_eq]
  generalize (lg_sl ([.ref (am 0), .int x, .int y, .int step]) ++ List.replicate (12 - (lg_sl ([.ref (am 0), .int x, .int y, .int step])).length) Slot.unset).toArray = ls at hl ⊢
  have hl : lv_has ls 12 [(0, .ref (am 0)), (1, .int x), (2, .int y), (3, .int step)] := hl
  refine W_abs (fun Q hQ => ?_)
  obtain ⟨hmG, hmC, hmZ, hmM, hmA, hmS, hmT⟩ := id hH
  obtain ⟨hG1, hG2, hG3⟩ := id hmG
  obtain ⟨hC1, hC2, hC3, hC4, hC5, hC6⟩ := id hmC
  obtain ⟨hM1, hM2, hM3, hM4⟩ := id hmM
  obtain ⟨hA1, hA2, hA3, hA4, hA5⟩ := id hmA
  obtain ⟨hS1, hS2, hS3, hS4, hS5, hS6⟩ := id hmS
  obtain ⟨hT1, hT2, hT3, hT4, hT5⟩ := id hmT
  refine lv_aload_n hx hb dX10_soonest_0 rfl (lv_at hl 0 rfl) ?_
  refine lv_iload_n hx hb dX10_soonest_1 rfl (lv_at hl 1 rfl) ?_
  refine rd_V (As := [.int x]) (rest := []) (C := RX10) (ci := 10) ⟨hx, hb, hml, hown, hts⟩ (c_X10_ofPair l E A am vm x hH) (cwV 1 hts gX10_soonest_X10_ofPair rfl rfl rfl (by decide +kernel) ⟨Nat.le_of_ble_eq_true rfl, Nat.le_of_ble_eq_true rfl⟩) hE (hP.sub (ws' := mdL E am vm) [0, 1, 2, 3, 4, 5, 6, 7, 8, 9, 10, 11, 12, 13, 14, 15, 16, 17, 18, 19, 20, 21, 22, 23, 24, 25, 26, 27, 28, 29, 30, 31, 32, 33, 34, 35, 36, 37, 38, 39, 40, 41, 42, 43, 44, 45] rfl) rfl rfl rfl rfl hl.1 rfl (Nat.le_of_ble_eq_true rfl) dX10_soonest_2 ⟨Nat.zero_le _, Nat.zero_le _⟩ (fun r2 h2 => ?_)
  have hf2 := h2.2
  replace h2 := h2.1
  refine lv_istore (lv' := [(4, .int r2), (0, .ref (am 0)), (1, .int x), (2, .int y), (3, .int step)]) hx hb dX10_soonest_5 hl (by decide) rfl (fun ls hl => ?_)
  refine lv_aload_n hx hb dX10_soonest_7 rfl (lv_at hl 1 rfl) ?_
  refine lv_iload_n hx hb dX10_soonest_8 rfl (lv_at hl 3 rfl) ?_
  refine rd_V (As := [.int y]) (rest := []) (C := RX10) (ci := 10) ⟨hx, hb, hml, hown, hts⟩ (c_X10_ofPair l E A am vm y hH) (cwV 1 hts gX10_soonest_X10_ofPair rfl rfl rfl (by decide +kernel) ⟨Nat.le_of_ble_eq_true rfl, Nat.le_of_ble_eq_true rfl⟩) hE (hP.sub (ws' := mdL E am vm) [0, 1, 2, 3, 4, 5, 6, 7, 8, 9, 10, 11, 12, 13, 14, 15, 16, 17, 18, 19, 20, 21, 22, 23, 24, 25, 26, 27, 28, 29, 30, 31, 32, 33, 34, 35, 36, 37, 38, 39, 40, 41, 42, 43, 44, 45] rfl) rfl rfl rfl rfl hl.1 rfl (Nat.le_of_ble_eq_true rfl) dX10_soonest_9 ⟨Nat.zero_le _, Nat.zero_le _⟩ (fun r9 h9 => ?_)
  have hf9 := h9.2
  replace h9 := h9.1
  refine lv_istore (lv' := [(5, .int r9), (4, .int r2), (0, .ref (am 0)), (1, .int x), (2, .int y), (3, .int step)]) hx hb dX10_soonest_12 hl (by decide) rfl (fun ls hl => ?_)
  refine lv_iload hx hb dX10_soonest_14 (lv_at hl 1 rfl) ?_
  refine lv_if_lt (tgt := 24) hx hb dX10_soonest_16 (by decide) (fun c16 => ?_) (fun c16 => ?_)
  · have c16_ := i_lt c16
    refine lv_ldcw hx hb hown lk0 dX10_soonest_24 ?_
    subst hQ
    exact W.iret (v := (-1000000001)) hx hb hr (fun t ht hW => ⟨(-1000000001), rfl, ⟨trivial, (Or.inl ⟨by omega, by rw [← hf2, ← hf9]; omega⟩)⟩, ht⟩) (fun q h => absurd h List.not_mem_nil) dX10_soonest_27
  · have c16_ := i_nlt c16
    refine lv_iload hx hb dX10_soonest_19 (lv_at hl 0 rfl) ?_
    refine lv_if_ge (tgt := 28) hx hb dX10_soonest_21 (by decide) (fun c21 => ?_) (fun c21 => ?_)
    · have c21_ := i_le c21
      refine lv_iload_n hx hb dX10_soonest_28 rfl (lv_at hl 5 rfl) ?_
      refine rd_S (As := [.int step]) (rest := []) ⟨hx, hb, hml, hown, hts⟩ (c_X10_isStep l E A step) (va_cwS 1 hts gX10_soonest_X10_isStep rfl rfl rfl (by decide +kernel) ⟨Nat.le_of_ble_eq_true rfl, Nat.le_of_ble_eq_true rfl⟩) hE (hP.sub (ws' := []) [] rfl) rfl hl.1 rfl (Nat.le_of_ble_eq_true rfl) dX10_soonest_29 ⟨Nat.zero_le _, Nat.zero_le _⟩ (fun r29 h29 => ?_)
      refine lv_if_ne (tgt := 38) hx hb dX10_soonest_32 (by decide) (fun c32 => ?_) (fun c32 => ?_)
      · have c32_ := i_ne c32
        replace h29 := or_y h29 c32_
        clear c32_
        have sv38_step : 0 ≤ step.toInt ∧ step.toInt ≤ 900000 := by omega
        have sv38_r2 : 0 ≤ r2.toInt ∧ r2.toInt ≤ 23 := by omega
        have hw : 1 ≤ (vm 0 0).toInt := (by omega)
        have hnn0 := Int.mul_nonneg hG1.1 hG2.1
        refine lv_iconst (v := 1) hx hb dX10_soonest_38 (by decide) ?_
        refine lv_iload hx hb dX10_soonest_39 (lv_at hl 1 rfl) ?_
        refine lv_ishl hx hb dX10_soonest_41 ?_
        refine lv_topi (fun x41 e41 => ?_)
        refine lv_istore (lv' := [(6, .int x41), (5, .int r9), (4, .int r2), (0, .ref (am 0)), (1, .int x), (2, .int y), (3, .int step)]) hx hb dX10_soonest_42 hl (by decide) rfl (fun ls hl => ?_)
        refine lv_iconst (v := 0) hx hb dX10_soonest_44 (by decide) ?_
        refine lv_istore (lv' := [(7, .int 0), (6, .int x41), (5, .int r9), (4, .int r2), (0, .ref (am 0)), (1, .int x), (2, .int y), (3, .int step)]) hx hb dX10_soonest_45 hl (by decide) rfl (fun ls hl => ?_)
        have K47 : ∀ (μ : Nat) (on : Int32) (n : Int32) (ls : Array Slot), (61 - n.toInt).toNat < μ → (0 ≤ n.toInt ∧ n.toInt ≤ 61) → (on = mOnN vm r2 step n.toNatClampNeg) → (∀ j : Nat, (j : Int) < n.toInt → ¬ hasB (mOnN vm r2 step j) r9) → lv_has ls 12 [(0, .ref (am 0)), (1, .int x), (2, .int y), (3, .int step), (4, .int r2), (5, .int r9), (6, .int on), (7, .int n)] → W p l e (headSpec wsX10_soonest rm_X10_soonest).room s m ([.ref (am 0), .int x, .int y, .int step] : List Value).toArray below meth c s.heap [] 0 0 Q (F0 m 47 ls []) := by
          intro μ
          induction μ with
          | zero =>
            intro on n ls hμ47
            exact absurd hμ47 (Nat.not_lt_zero _)
          | succ μ ih47 =>
            intro on n ls hμ47 h47_0 h47_1 h47_2 hl
            have hx47_0 := h47_1
            clear h47_1
            have hx47_1 := h47_2
            clear h47_2
            refine lv_iload hx hb dX10_soonest_47 (lv_at hl 7 rfl) ?_
            refine lv_bipush (v := 60) hx hb dX10_soonest_49 (by decide) ?_
            refine lv_icmp_gt (tgt := 158) hx hb dX10_soonest_51 (by decide) (fun c51 => ?_) (fun c51 => ?_)
            · have c51_ := i_lt c51
              refine lv_iconst (v := (-1)) hx hb dX10_soonest_158 (by decide) ?_
              subst hQ
              exact W.iret (v := (-1)) hx hb hr (fun t ht hW => ⟨(-1), rfl, ⟨trivial, (Or.inr ⟨by rw [← hf2, ← hf9]; omega, Or.inr ⟨by omega, by rw [← hf2, ← hf9]; exact nx_end (P := fun j => hasB (mOnN vm r2 step j) r9) hx47_1 (by omega) (by omega)⟩⟩)⟩, ht⟩) (fun q h => absurd h List.not_mem_nil) dX10_soonest_159
            · have c51_ := i_nlt c51
              refine lv_iload hx hb dX10_soonest_54 (lv_at hl 6 rfl) ?_
              refine lv_iload hx hb dX10_soonest_56 (lv_at hl 5 rfl) ?_
              refine rd_S (As := [.int on, .int r9]) (rest := []) ⟨hx, hb, hml, hown, hts⟩ (c_X10_has l E A on r9) (va_cwS 2 hts gX10_soonest_X10_has rfl rfl rfl (by decide +kernel) ⟨Nat.le_of_ble_eq_true rfl, Nat.le_of_ble_eq_true rfl⟩) hE (hP.sub (ws' := []) [] rfl) rfl hl.1 rfl (Nat.le_of_ble_eq_true rfl) dX10_soonest_58 ⟨Nat.zero_le _, Nat.zero_le _⟩ (fun r58 h58 => ?_)
              have hf58 := h58.2
              replace h58 := h58.1
              refine lv_if_eq (tgt := 67) hx hb dX10_soonest_61 (by decide) (fun c61 => ?_) (fun c61 => ?_)
              · have c61_ := i_eq c61
                clear h58
                have hn61 : ¬ hasB on r9 := fun q => absurd (show r58.toInt = 0 by omega) (hf58.mpr q)
                refine lv_iload hx hb dX10_soonest_67 (lv_at hl 6 rfl) ?_
                refine lv_istore (lv' := [(8, .int on), (0, .ref (am 0)), (1, .int x), (2, .int y), (3, .int step), (4, .int r2), (5, .int r9), (6, .int on), (7, .int n)]) hx hb dX10_soonest_69 hl (by decide) rfl (fun ls hl => ?_)
                refine lv_iconst (v := 0) hx hb dX10_soonest_71 (by decide) ?_
                refine lv_istore (lv' := [(9, .int 0), (8, .int on), (0, .ref (am 0)), (1, .int x), (2, .int y), (3, .int step), (4, .int r2), (5, .int r9), (6, .int on), (7, .int n)]) hx hb dX10_soonest_72 hl (by decide) rfl (fun ls hl => ?_)
                have K74 : ∀ (μ : Nat) (th : Int32) (k : Int32) (ls : Array Slot), (24 - k.toInt).toNat < μ → (0 ≤ k.toInt ∧ k.toInt ≤ 24) → (th = mReN vm on (step + n + 1) k.toNatClampNeg) → (k.toInt ≤ (vm 0 0).toInt * (vm 1 0).toInt) → lv_has ls 12 [(0, .ref (am 0)), (1, .int x), (2, .int y), (3, .int step), (4, .int r2), (5, .int r9), (6, .int on), (7, .int n), (8, .int th), (9, .int k)] → W p l e (headSpec wsX10_soonest rm_X10_soonest).room s m ([.ref (am 0), .int x, .int y, .int step] : List Value).toArray below meth c s.heap [] 0 0 Q (F0 m 74 ls []) := by
                  intro μ
                  induction μ with
                  | zero =>
                    intro th k ls hμ74
                    exact absurd hμ74 (Nat.not_lt_zero _)
                  | succ μ ih74 =>
                    intro th k ls hμ74 h74_0 h74_1 h74_2 hl
                    have hx74_0 := h74_1
                    clear h74_1
                    have hx74_1 := h74_2
                    clear h74_2
                    refine lv_iload hx hb dX10_soonest_74 (lv_at hl 9 rfl) ?_
                    refine lv_aload_n hx hb dX10_soonest_76 rfl (lv_at hl 0 rfl) ?_
                    refine rd_V (As := []) (rest := [.int k]) (C := RX10) (ci := 10) ⟨hx, hb, hml, hown, hts⟩ (c_X10_cells l E A am vm hH) (cwV 0 hts gX10_soonest_X10_cells rfl rfl rfl (by decide +kernel) ⟨Nat.le_of_ble_eq_true rfl, Nat.le_of_ble_eq_true rfl⟩) hE (hP.sub (ws' := mdL E am vm) [0, 1, 2, 3, 4, 5, 6, 7, 8, 9, 10, 11, 12, 13, 14, 15, 16, 17, 18, 19, 20, 21, 22, 23, 24, 25, 26, 27, 28, 29, 30, 31, 32, 33, 34, 35, 36, 37, 38, 39, 40, 41, 42, 43, 44, 45] rfl) rfl rfl rfl rfl hl.1 rfl (Nat.le_of_ble_eq_true rfl) dX10_soonest_77 ⟨Nat.zero_le _, Nat.zero_le _⟩ (fun r77 h77 => ?_)
                    refine lv_icmp_ge (tgt := 148) hx hb dX10_soonest_80 (by decide) (fun c80 => ?_) (fun c80 => ?_)
                    · have c80_ := i_le c80
                      refine lv_iload hx hb dX10_soonest_148 (lv_at hl 8 rfl) ?_
                      refine lv_istore (lv' := [(6, .int th), (0, .ref (am 0)), (1, .int x), (2, .int y), (3, .int step), (4, .int r2), (5, .int r9), (7, .int n), (8, .int th), (9, .int k)]) hx hb dX10_soonest_150 hl (by decide) rfl (fun ls hl => ?_)
                      obtain ⟨x152, e152⟩ : ∃ y : Int32, y = n + 1 := ⟨_, rfl⟩
                      refine lv_iinc (v := x152) (lv' := [(7, .int x152), (6, .int th), (0, .ref (am 0)), (1, .int x), (2, .int y), (3, .int step), (4, .int r2), (5, .int r9), (8, .int th), (9, .int k)]) hx hb dX10_soonest_152 hl (k := 7) rfl (by rw [e152]; rfl) (by decide) rfl (fun ls hl => ?_)
                      have t152 := i_add e152 (by omega)
                      refine lv_goto (tgt := 47) hx hb dX10_soonest_155 (by decide) ?_
                      exact ih47 th x152 ls (by omega) (by omega) (on_next hx47_0 (by omega) t152 rfl (by have ek : k.toNatClampNeg = ((vm 0 0).toInt * (vm 1 0).toInt).toNat := (by show k.toInt.toNat = _; omega); show th = mReN vm on (step + n + 1) ((vm 0 0).toInt * (vm 1 0).toInt).toNat; rw [← ek]; exact hx74_0)) (nx_no (P := fun j => hasB (mOnN vm r2 step j) r9) hx47_1 (by omega) t152 (by show ¬ hasB (mOnN vm r2 step n.toNatClampNeg) r9; rw [← hx47_0]; exact hn61)) (lv_sub hl [2, 3, 4, 5, 6, 7, 1, 0] rfl)
                    · have c80_ := i_nle c80
                      refine lv_iconst (v := 1) hx hb dX10_soonest_83 (by decide) ?_
                      refine lv_istore (lv' := [(10, .int 1), (0, .ref (am 0)), (1, .int x), (2, .int y), (3, .int step), (4, .int r2), (5, .int r9), (6, .int on), (7, .int n), (8, .int th), (9, .int k)]) hx hb dX10_soonest_84 hl (by decide) rfl (fun ls hl => ?_)
                      have K86 : ∀ (μ : Nat) (t2 : Int32) (way : Int32) (ls : Array Slot), (5 - way.toInt).toNat < μ → (0 ≤ way.toInt ∧ way.toInt ≤ 5) → (RwP vm on k (step + n + 1) way.toInt t2) → (1 ≤ way.toInt) → lv_has ls 12 [(0, .ref (am 0)), (1, .int x), (2, .int y), (3, .int step), (4, .int r2), (5, .int r9), (6, .int on), (7, .int n), (8, .int t2), (9, .int k), (10, .int way)] → W p l e (headSpec wsX10_soonest rm_X10_soonest).room s m ([.ref (am 0), .int x, .int y, .int step] : List Value).toArray below meth c s.heap [] 0 0 Q (F0 m 86 ls []) := by
                        intro μ
                        induction μ with
                        | zero =>
                          intro t2 way ls hμ86
                          exact absurd hμ86 (Nat.not_lt_zero _)
                        | succ μ ih86 =>
                          intro t2 way ls hμ86 h86_0 h86_1 h86_2 hl
                          have hx86_0 := h86_1
                          clear h86_1
                          have hx86_1 := h86_2
                          clear h86_2
                          refine lv_iload hx hb dX10_soonest_86 (lv_at hl 10 rfl) ?_
                          refine lv_iconst (v := 5) hx hb dX10_soonest_88 (by decide) ?_
                          refine lv_icmp_ge (tgt := 142) hx hb dX10_soonest_89 (by decide) (fun c89 => ?_) (fun c89 => ?_)
                          · have c89_ := i_le c89
                            have hw89 : way.toInt = 5 := by omega
                            obtain ⟨x142, e142⟩ : ∃ y : Int32, y = k + 1 := ⟨_, rfl⟩
                            refine lv_iinc (v := x142) (lv' := [(9, .int x142), (0, .ref (am 0)), (1, .int x), (2, .int y), (3, .int step), (4, .int r2), (5, .int r9), (6, .int on), (7, .int n), (8, .int t2), (10, .int way)]) hx hb dX10_soonest_142 hl (k := 9) rfl (by rw [e142]; rfl) (by decide) rfl (fun ls hl => ?_)
                            have t142 := i_add e142 (by omega)
                            refine lv_goto (tgt := 74) hx hb dX10_soonest_145 (by decide) ?_
                            exact ih74 t2 x142 ls (by omega) (by omega) (rwp_out hx86_0 (by omega) t142 (by first | exact Or.inl hw89 | exact Or.inr hn99)) (by omega) (lv_sub hl [1, 2, 3, 4, 5, 6, 7, 8, 9, 0] rfl)
                          · have c89_ := i_nle c89
                            refine lv_iload hx hb dX10_soonest_92 (lv_at hl 6 rfl) ?_
                            refine lv_iload hx hb dX10_soonest_94 (lv_at hl 9 rfl) ?_
                            refine rd_S (As := [.int on, .int k]) (rest := []) ⟨hx, hb, hml, hown, hts⟩ (c_X10_has l E A on k) (va_cwS 2 hts gX10_soonest_X10_has rfl rfl rfl (by decide +kernel) ⟨Nat.le_of_ble_eq_true rfl, Nat.le_of_ble_eq_true rfl⟩) hE (hP.sub (ws' := []) [] rfl) rfl hl.1 rfl (Nat.le_of_ble_eq_true rfl) dX10_soonest_96 ⟨Nat.zero_le _, Nat.zero_le _⟩ (fun r96 h96 => ?_)
                            have hf96 := h96.2
                            replace h96 := h96.1
                            refine lv_if_eq (tgt := 142) hx hb dX10_soonest_99 (by decide) (fun c99 => ?_) (fun c99 => ?_)
                            · have c99_ := i_eq c99
                              clear h96
                              have hn99 : ¬ hasB on k := fun q => absurd (show r96.toInt = 0 by omega) (hf96.mpr q)
                              obtain ⟨x142, e142⟩ : ∃ y : Int32, y = k + 1 := ⟨_, rfl⟩
                              refine lv_iinc (v := x142) (lv' := [(9, .int x142), (0, .ref (am 0)), (1, .int x), (2, .int y), (3, .int step), (4, .int r2), (5, .int r9), (6, .int on), (7, .int n), (8, .int t2), (10, .int way)]) hx hb dX10_soonest_142 hl (k := 9) rfl (by rw [e142]; rfl) (by decide) rfl (fun ls hl => ?_)
                              have t142 := i_add e142 (by omega)
                              refine lv_goto (tgt := 74) hx hb dX10_soonest_145 (by decide) ?_
                              exact ih74 t2 x142 ls (by omega) (by omega) (rwp_out hx86_0 (by omega) t142 (by first | exact Or.inl hw89 | exact Or.inr hn99)) (by omega) (lv_sub hl [1, 2, 3, 4, 5, 6, 7, 8, 9, 0] rfl)
                            · have c99_ := i_ne c99
                              replace h96 := b_y h96 c99_
                              clear c99_
                              have hy99 : hasB on k := hf96.mp (by omega)
                              refine lv_aload_n hx hb dX10_soonest_102 rfl (lv_at hl 0 rfl) ?_
                              refine lv_iload hx hb dX10_soonest_103 (lv_at hl 9 rfl) ?_
                              refine lv_iload hx hb dX10_soonest_105 (lv_at hl 10 rfl) ?_
                              refine lv_iload_n hx hb dX10_soonest_107 rfl (lv_at hl 3 rfl) ?_
                              refine lv_iload hx hb dX10_soonest_108 (lv_at hl 7 rfl) ?_
                              refine lv_iadd hx hb dX10_soonest_110 ?_
                              refine lv_topi (fun x110 e110 => ?_)
                              have t110 := i_add e110 (by omega)
                              refine lv_iconst (v := 1) hx hb dX10_soonest_111 (by decide) ?_
                              refine lv_iadd hx hb dX10_soonest_112 ?_
                              refine lv_topi (fun x112 e112 => ?_)
                              have t112 := i_add e112 (by omega)
                              have ht112 : x112 = step + n + 1 := by rw [e112, e110]
                              refine rd_V (As := [.int k, .int way, .int x112]) (rest := []) (C := RX10) (ci := 10) ⟨hx, hb, hml, hown, hts⟩ (c_X10_goes l E A am vm k way x112 hH (by omega) (by omega) (by omega)) (cwV 3 hts gX10_soonest_X10_goes rfl rfl rfl (by decide +kernel) ⟨Nat.le_of_ble_eq_true rfl, Nat.le_of_ble_eq_true rfl⟩) hE (hP.sub (ws' := mdL E am vm) [0, 1, 2, 3, 4, 5, 6, 7, 8, 9, 10, 11, 12, 13, 14, 15, 16, 17, 18, 19, 20, 21, 22, 23, 24, 25, 26, 27, 28, 29, 30, 31, 32, 33, 34, 35, 36, 37, 38, 39, 40, 41, 42, 43, 44, 45] rfl) rfl rfl rfl rfl hl.1 rfl (Nat.le_of_ble_eq_true rfl) dX10_soonest_113 ⟨Nat.zero_le _, Nat.zero_le _⟩ (fun r113 h113 => ?_)
                              refine lv_istore (lv' := [(11, .int r113), (0, .ref (am 0)), (1, .int x), (2, .int y), (3, .int step), (4, .int r2), (5, .int r9), (6, .int on), (7, .int n), (8, .int t2), (9, .int k), (10, .int way)]) hx hb dX10_soonest_116 hl (by decide) rfl (fun ls hl => ?_)
                              refine lv_iload hx hb dX10_soonest_118 (lv_at hl 9 rfl) ?_
                              refine lv_iload hx hb dX10_soonest_120 (lv_at hl 0 rfl) ?_
                              have K133 : ∀  (sb : Int32) (ls : Array Slot), ((r113.toInt < 0 ∧ sb = 0) ∨ (¬ r113.toInt < 0 ∧ sb = (1 : Int32) <<< (r113 &&& 31))) → lv_has ls 12 [(0, .ref (am 0)), (1, .int x), (2, .int y), (3, .int step), (4, .int r2), (5, .int r9), (6, .int on), (7, .int n), (8, .int t2), (9, .int k), (10, .int way), (11, .int r113)] → W p l e (headSpec wsX10_soonest rm_X10_soonest).room s m ([.ref (am 0), .int x, .int y, .int step] : List Value).toArray below meth c s.heap [] 0 0 Q (F0 m 133 ls [.int sb, .int t2]) := by
                                intro sb ls h133_0 hl
                                have hx133_0 := h133_0
                                clear h133_0
                                refine lv_ior hx hb dX10_soonest_133 ?_
                                refine lv_topi (fun x133 e133 => ?_)
                                refine lv_istore (lv' := [(8, .int x133), (0, .ref (am 0)), (1, .int x), (2, .int y), (3, .int step), (4, .int r2), (5, .int r9), (6, .int on), (7, .int n), (9, .int k), (10, .int way), (11, .int r113)]) hx hb dX10_soonest_134 hl (by decide) rfl (fun ls hl => ?_)
                                obtain ⟨x136, e136⟩ : ∃ y : Int32, y = way + 1 := ⟨_, rfl⟩
                                refine lv_iinc (v := x136) (lv' := [(10, .int x136), (8, .int x133), (0, .ref (am 0)), (1, .int x), (2, .int y), (3, .int step), (4, .int r2), (5, .int r9), (6, .int on), (7, .int n), (9, .int k), (11, .int r113)]) hx hb dX10_soonest_136 hl (k := 10) rfl (by rw [e136]; rfl) (by decide) rfl (fun ls hl => ?_)
                                have t136 := i_add e136 (by omega)
                                refine lv_goto (tgt := 86) hx hb dX10_soonest_139 (by decide) ?_
                                exact ih86 x133 x136 ls (by omega) (by omega) (rwp_m hx86_0 hy99 (by omega) t136 (by rw [← ht112]; exact h113.1) hx133_0 e133) (by omega) (lv_sub hl [2, 3, 4, 5, 6, 7, 8, 9, 1, 10, 0] rfl)
                              refine lv_if_ge (tgt := 129) hx hb dX10_soonest_122 (by decide) (fun c122 => ?_) (fun c122 => ?_)
                              · have c122_ := i_le c122
                                have hnn122 : ¬ r113.toInt < 0 := by omega
                                refine lv_iconst (v := 1) hx hb dX10_soonest_129 (by decide) ?_
                                refine lv_iload hx hb dX10_soonest_130 (lv_at hl 0 rfl) ?_
                                refine lv_ishl hx hb dX10_soonest_132 ?_
                                refine lv_topi (fun x132 e132 => ?_)
                                exact K133 x132 ls (by first | exact Or.inl ⟨hng122, rfl⟩ | exact Or.inr ⟨hnn122, e132⟩) (lv_sub hl [1, 2, 3, 4, 5, 6, 7, 8, 9, 10, 11, 0] rfl)
                              · have c122_ := i_nle c122
                                have hng122 : r113.toInt < 0 := by omega
                                refine lv_iconst (v := 0) hx hb dX10_soonest_125 (by decide) ?_
                                refine lv_goto (tgt := 133) hx hb dX10_soonest_126 (by decide) ?_
                                exact K133 0 ls (by first | exact Or.inl ⟨hng122, rfl⟩ | exact Or.inr ⟨hnn122, e132⟩) (lv_sub hl [1, 2, 3, 4, 5, 6, 7, 8, 9, 10, 11, 0] rfl)
                      exact K86 _ th 1 ls (Nat.lt_succ_self _) (by omega) (rwp_in hx74_0 n_1) (by rw [n_1]; omega) (lv_sub hl [1, 2, 3, 4, 5, 6, 7, 8, 9, 10, 0] rfl)
                exact K74 _ on 0 ls (Nat.lt_succ_self _) (by omega) rfl (by rw [n_0]; omega) (lv_sub hl [2, 3, 4, 5, 6, 7, 8, 9, 1, 0] rfl)
              · have c61_ := i_ne c61
                replace h58 := b_y h58 c61_
                clear c61_
                have hy61 : hasB on r9 := hf58.mp (by omega)
                refine lv_iload hx hb dX10_soonest_64 (lv_at hl 7 rfl) ?_
                subst hQ
                exact W.iret (v := n) hx hb hr (fun t ht hW => ⟨n, rfl, ⟨trivial, (Or.inr ⟨by rw [← hf2, ← hf9]; omega, Or.inr ⟨by omega, by rw [← hf2, ← hf9]; exact nx_at (P := fun j => hasB (mOnN vm r2 step j) r9) hx47_1 (by omega) (by omega) (by show hasB (mOnN vm r2 step n.toNatClampNeg) r9; rw [← hx47_0]; exact hy61)⟩⟩)⟩, ht⟩) (fun q h => absurd h List.not_mem_nil) dX10_soonest_66
        exact K47 _ x41 0 ls (Nat.lt_succ_self _) (by omega) e41 (fun j hj => absurd hj (by rw [n_0]; omega)) (lv_sub hl [4, 5, 6, 7, 3, 2, 1, 0] rfl)
      · have c32_ := i_eq c32
        replace h29 := or_n h29 c32_
        refine lv_ldc hx hb hown lk1 dX10_soonest_35 ?_
        subst hQ
        exact W.iret (v := (-1000000002)) hx hb hr (fun t ht hW => ⟨(-1000000002), rfl, ⟨trivial, (Or.inr ⟨by rw [← hf2, ← hf9]; omega, Or.inl ⟨by omega, by omega⟩⟩)⟩, ht⟩) (fun q h => absurd h List.not_mem_nil) dX10_soonest_37
    · have c21_ := i_nle c21
      refine lv_ldcw hx hb hown lk0 dX10_soonest_24 ?_
      subst hQ
      exact W.iret (v := (-1000000001)) hx hb hr (fun t ht hW => ⟨(-1000000001), rfl, ⟨trivial, (Or.inl ⟨by omega, by rw [← hf2, ← hf9]; omega⟩)⟩, ht⟩) (fun q h => absurd h List.not_mem_nil) dX10_soonest_27
def rm_X10_whoseAt : Room := { frames := 3, cells := 0, slots := 0, locals := 69 }
set_option maxHeartbeats 4000000 in
set_option maxRecDepth 100000 in
theorem c_X10_whoseAt (l : Launch) (E : Ev) (A : Nat → Prop) (am : Nat → Nat) (vm : Vf) (h : Int32) (step : Int32) (hH : MdH vm) (hh : 0 ≤ h.toInt ∧ h.toInt ≤ 3) (hstep : 0 ≤ step.toInt ∧ step.toInt ≤ 2000000) : Met l yX10_whoseAt wsX10_whoseAt rm_X10_whoseAt (RdP E A [.ref (am 0), .int h, .int step] (mdL E am vm)) (vp_Si (fun r => (True) ∧ (r = mWh vm h step))) 0 0 (fun _ => False) := by
  refine Met.ofW (cc := cX10_whoseAt) (maxL := 5) (ret := (some .int)) (by decide) rfl ?_
  intro p e s m args below meth c s₁ B hml hv
  obtain ⟨rfl, hE, hP⟩ := hv
  have hx := B.exec
  have hb := B.bytes
  have hr := B.returns
  have hts := atoms_spec (ws := wsX10_whoseAt) B.pre
  have hown : s.vm.findClass RX10 = some m.cls := findClass_of_methodNamed B.named
  have hlocks := B.notSynchronized
  have hK := hE.1
  have in_X10 : ∀ w ∈ u_ws RX10 TX10 79, w ∈ wsX10_whoseAt := fun w h => List.mem_cons_of_mem _ (List.mem_append_right _ h)
  have lk0 := hts (.fieldLink RX10 49 "TidedGroundModel" "deedLow" "[I") (List.mem_of_getElem? (i := 1) rfl)
  have lk1 := hts (.fieldLink RX10 52 "TidedGroundModel" "deedHigh" "[I") (List.mem_of_getElem? (i := 2) rfl)
  have n_0 : (0 : Int32).toInt = 0 := by decide
  have n_1 : (1 : Int32).toInt = 1 := by decide
  have hl := lv_entry ([.ref (am 0), .int h, .int step]) (n := 5) (Nat.le_of_ble_eq_true rfl)
  rw [lg_entry_eq]
  generalize (lg_sl ([.ref (am 0), .int h, .int step]) ++ List.replicate (5 - (lg_sl ([.ref (am 0), .int h, .int step])).length) Slot.unset).toArray = ls at hl ⊢
  have hl : lv_has ls 5 [(0, .ref (am 0)), (1, .int h), (2, .int step)] := hl
  refine W_abs (fun Q hQ => ?_)
  obtain ⟨hmG, hmC, hmZ, hmM, hmA, hmS, hmT⟩ := id hH
  obtain ⟨hG1, hG2, hG3⟩ := id hmG
  obtain ⟨hC1, hC2, hC3, hC4, hC5, hC6⟩ := id hmC
  obtain ⟨hM1, hM2, hM3, hM4⟩ := id hmM
  obtain ⟨hA1, hA2, hA3, hA4, hA5⟩ := id hmA
  obtain ⟨hS1, hS2, hS3, hS4, hS5, hS6⟩ := id hmS
  obtain ⟨hT1, hT2, hT3, hT4, hT5⟩ := id hmT
  have hnn0 := Int.mul_nonneg hG1.1 hG2.1
  refine lv_iconst (v := 0) hx hb dX10_whoseAt_0 (by decide) ?_
  refine lv_istore_n (lv' := [(3, .int 0), (0, .ref (am 0)), (1, .int h), (2, .int step)]) hx hb dX10_whoseAt_1 rfl hl (by decide) rfl (fun ls hl => ?_)
  refine lv_iconst (v := 0) hx hb dX10_whoseAt_2 (by decide) ?_
  refine lv_istore (lv' := [(4, .int 0), (3, .int 0), (0, .ref (am 0)), (1, .int h), (2, .int step)]) hx hb dX10_whoseAt_3 hl (by decide) rfl (fun ls hl => ?_)
  have K5 : ∀ (μ : Nat) (set : Int32) (k : Int32) (ls : Array Slot), (24 - k.toInt).toNat < μ → (0 ≤ k.toInt ∧ k.toInt ≤ 24) → (set = mWhN vm h step k.toNatClampNeg) → (k.toInt ≤ (vm 0 0).toInt * (vm 1 0).toInt) → lv_has ls 5 [(0, .ref (am 0)), (1, .int h), (2, .int step), (3, .int set), (4, .int k)] → W p l e (headSpec wsX10_whoseAt rm_X10_whoseAt).room s m ([.ref (am 0), .int h, .int step] : List Value).toArray below meth c s.heap [] 0 0 Q (F0 m 5 ls []) := by
    intro μ
    induction μ with
    | zero =>
      intro set k ls hμ5
      exact absurd hμ5 (Nat.not_lt_zero _)
    | succ μ ih5 =>
      intro set k ls hμ5 h5_0 h5_1 h5_2 hl
      have hx5_0 := h5_1
      clear h5_1
      have hx5_1 := h5_2
      clear h5_2
      refine lv_iload hx hb dX10_whoseAt_5 (lv_at hl 4 rfl) ?_
      refine lv_aload_n hx hb dX10_whoseAt_7 rfl (lv_at hl 0 rfl) ?_
      refine rd_V (As := []) (rest := [.int k]) (C := RX10) (ci := 10) ⟨hx, hb, hml, hown, hts⟩ (c_X10_cells l E A am vm hH) (cwV 0 hts gX10_whoseAt_X10_cells rfl rfl rfl (by decide +kernel) ⟨Nat.le_of_ble_eq_true rfl, Nat.le_of_ble_eq_true rfl⟩) hE (hP.sub (ws' := mdL E am vm) [0, 1, 2, 3, 4, 5, 6, 7, 8, 9, 10, 11, 12, 13, 14, 15, 16, 17, 18, 19, 20, 21, 22, 23, 24, 25, 26, 27, 28, 29, 30, 31, 32, 33, 34, 35, 36, 37, 38, 39, 40, 41, 42, 43, 44, 45] rfl) rfl rfl rfl rfl hl.1 rfl (Nat.le_of_ble_eq_true rfl) dX10_whoseAt_8 ⟨Nat.zero_le _, Nat.zero_le _⟩ (fun r8 h8 => ?_)
      refine lv_icmp_ge (tgt := 59) hx hb dX10_whoseAt_11 (by decide) (fun c11 => ?_) (fun c11 => ?_)
      · have c11_ := i_le c11
        refine lv_iload_n hx hb dX10_whoseAt_59 rfl (lv_at hl 3 rfl) ?_
        subst hQ
        exact W.iret (v := set) hx hb hr (fun t ht hW => ⟨set, rfl, ⟨trivial, (by have ek : k.toNatClampNeg = ((vm 0 0).toInt * (vm 1 0).toInt).toNat := (by show k.toInt.toNat = _; omega); show set = mWhN vm h step ((vm 0 0).toInt * (vm 1 0).toInt).toNat; rw [← ek]; exact hx5_0)⟩, ht⟩) (fun q h => absurd h List.not_mem_nil) dX10_whoseAt_60
      · have c11_ := i_nle c11
        have hw : 1 ≤ (vm 0 0).toInt := wd_pos (d := (vm 1 0).toInt) hG1.1 (by omega)
        refine lv_iload_n hx hb dX10_whoseAt_14 rfl (lv_at hl 3 rfl) ?_
        refine lv_aload_n hx hb dX10_whoseAt_15 rfl (lv_at hl 0 rfl) ?_
        refine lv_iload hx hb dX10_whoseAt_16 (lv_at hl 4 rfl) ?_
        refine lv_iload_n hx hb dX10_whoseAt_18 rfl (lv_at hl 2 rfl) ?_
        refine rd_V (As := [.int k, .int step]) (rest := [.int set]) (C := RX10) (ci := 10) ⟨hx, hb, hml, hown, hts⟩ (c_X10_heightAt l E A am vm k step hH (by omega) (by omega) (by omega)) (cwV 2 hts gX10_whoseAt_X10_heightAt rfl rfl rfl (by decide +kernel) ⟨Nat.le_of_ble_eq_true rfl, Nat.le_of_ble_eq_true rfl⟩) hE (hP.sub (ws' := mdL E am vm) [0, 1, 2, 3, 4, 5, 6, 7, 8, 9, 10, 11, 12, 13, 14, 15, 16, 17, 18, 19, 20, 21, 22, 23, 24, 25, 26, 27, 28, 29, 30, 31, 32, 33, 34, 35, 36, 37, 38, 39, 40, 41, 42, 43, 44, 45] rfl) rfl rfl rfl rfl hl.1 rfl (Nat.le_of_ble_eq_true rfl) dX10_whoseAt_19 ⟨Nat.zero_le _, Nat.zero_le _⟩ (fun r19 h19 => ?_)
        refine lv_i2l hx hb dX10_whoseAt_22 rfl ?_
        refine lv_aload_n hx hb dX10_whoseAt_23 rfl (lv_at hl 0 rfl) ?_
        refine va_get (D := eD E) (ci := 10) (v := .ref (am 20)) (C := RX10) (T := TX10) (N := 79) hx hb hts in_X10 hown hK hP 0 rfl rfl 20 (by decide) lk0 (fun _ h9 => h9) rfl dX10_whoseAt_24 ?_
        refine lv_iload_n hx hb dX10_whoseAt_27 rfl (lv_at hl 1 rfl) ?_
        refine va_iald hx hb hK hP 14 0 rfl rfl (n := 4) (f := (vm 20)) (i_in (by omega) (by omega)) dX10_whoseAt_28 ?_
        refine lv_topi (fun x28 e28 => ?_)
        refine lv_i2l hx hb dX10_whoseAt_29 rfl ?_
        refine lv_aload_n hx hb dX10_whoseAt_30 rfl (lv_at hl 0 rfl) ?_
        refine va_get (D := eD E) (ci := 10) (v := .ref (am 21)) (C := RX10) (T := TX10) (N := 79) hx hb hts in_X10 hown hK hP 0 rfl rfl 21 (by decide) lk1 (fun _ h9 => h9) rfl dX10_whoseAt_31 ?_
        refine lv_iload_n hx hb dX10_whoseAt_34 rfl (lv_at hl 1 rfl) ?_
        refine va_iald hx hb hK hP 15 0 rfl rfl (n := 4) (f := (vm 21)) (i_in (by omega) (by omega)) dX10_whoseAt_35 ?_
        refine lv_topi (fun x35 e35 => ?_)
        refine lv_i2l hx hb dX10_whoseAt_36 rfl ?_
        have lt37_0 : (r19.toInt64).toInt = r19.toInt := Int32.toInt_toInt64 _
        have lt37_1 : (x28.toInt64).toInt = x28.toInt := Int32.toInt_toInt64 _
        have lt37_2 : (x35.toInt64).toInt = x35.toInt := Int32.toInt_toInt64 _
        refine rd_S (As := [.long r19.toInt64, .long x28.toInt64, .long x35.toInt64]) (rest := [.int set]) ⟨hx, hb, hml, hown, hts⟩ (c_X10_in l E A r19.toInt64 x28.toInt64 x35.toInt64) (va_cwS 3 hts gX10_whoseAt_X10_in rfl rfl rfl (by decide +kernel) ⟨Nat.le_of_ble_eq_true rfl, Nat.le_of_ble_eq_true rfl⟩) hE (hP.sub (ws' := []) [] rfl) rfl hl.1 rfl (Nat.le_of_ble_eq_true rfl) dX10_whoseAt_37 ⟨Nat.zero_le _, Nat.zero_le _⟩ (fun r37 h37 => ?_)
        have K51 : ∀  (sb : Int32) (ls : Array Slot), ((((vm 20 h.toNatClampNeg).toInt ≤ (mH vm k step).toInt ∧ (mH vm k step).toInt ≤ (vm 21 h.toNatClampNeg).toInt) ∧ sb = (1 : Int32) <<< (k &&& 31)) ∨ (¬ ((vm 20 h.toNatClampNeg).toInt ≤ (mH vm k step).toInt ∧ (mH vm k step).toInt ≤ (vm 21 h.toNatClampNeg).toInt) ∧ sb = 0)) → lv_has ls 5 [(0, .ref (am 0)), (1, .int h), (2, .int step), (3, .int set), (4, .int k)] → W p l e (headSpec wsX10_whoseAt rm_X10_whoseAt).room s m ([.ref (am 0), .int h, .int step] : List Value).toArray below meth c s.heap [] 0 0 Q (F0 m 51 ls [.int sb, .int set]) := by
          intro sb ls h51_0 hl
          have hx51_0 := h51_0
          clear h51_0
          refine lv_ior hx hb dX10_whoseAt_51 ?_
          refine lv_topi (fun x51 e51 => ?_)
          refine lv_istore_n (lv' := [(3, .int x51), (0, .ref (am 0)), (1, .int h), (2, .int step), (4, .int k)]) hx hb dX10_whoseAt_52 rfl hl (by decide) rfl (fun ls hl => ?_)
          obtain ⟨x53, e53⟩ : ∃ y : Int32, y = k + 1 := ⟨_, rfl⟩
          refine lv_iinc (v := x53) (lv' := [(4, .int x53), (3, .int x51), (0, .ref (am 0)), (1, .int h), (2, .int step)]) hx hb dX10_whoseAt_53 hl (k := 4) rfl (by rw [e53]; rfl) (by decide) rfl (fun ls hl => ?_)
          have t53 := i_add e53 (by omega)
          refine lv_goto (tgt := 5) hx hb dX10_whoseAt_56 (by decide) ?_
          exact ih5 x51 x53 ls (by omega) (by omega) (wh_next hx5_0 (by omega) t53 (hx51_0.imp (fun q => ⟨q.1, by rw [e51, q.2]⟩) (fun q => ⟨q.1, by rw [e51, q.2, Int32.or_zero]⟩))) (by omega) (lv_sub hl [2, 3, 4, 1, 0] rfl)
        refine lv_if_eq (tgt := 50) hx hb dX10_whoseAt_40 (by decide) (fun c40 => ?_) (fun c40 => ?_)
        · have c40_ := i_eq c40
          replace h37 := or_n h37 c40_
          have hno40 : ¬ ((vm 20 h.toNatClampNeg).toInt ≤ (mH vm k step).toInt ∧ (mH vm k step).toInt ≤ (vm 21 h.toNatClampNeg).toInt) := by rw [← e28, ← e35, ← h19.1]; omega
          refine lv_iconst (v := 0) hx hb dX10_whoseAt_50 (by decide) ?_
          exact K51 0 ls (by first | exact Or.inl ⟨hyes40, e46⟩ | exact Or.inr ⟨hno40, rfl⟩) (lv_sub hl [0, 1, 2, 3, 4] rfl)
        · have c40_ := i_ne c40
          replace h37 := or_y h37 c40_
          clear c40_
          have hyes40 : (vm 20 h.toNatClampNeg).toInt ≤ (mH vm k step).toInt ∧ (mH vm k step).toInt ≤ (vm 21 h.toNatClampNeg).toInt := by rw [← e28, ← e35, ← h19.1]; omega
          refine lv_iconst (v := 1) hx hb dX10_whoseAt_43 (by decide) ?_
          refine lv_iload hx hb dX10_whoseAt_44 (lv_at hl 4 rfl) ?_
          refine lv_ishl hx hb dX10_whoseAt_46 ?_
          refine lv_topi (fun x46 e46 => ?_)
          refine lv_goto (tgt := 51) hx hb dX10_whoseAt_47 (by decide) ?_
          exact K51 x46 ls (by first | exact Or.inl ⟨hyes40, e46⟩ | exact Or.inr ⟨hno40, rfl⟩) (lv_sub hl [0, 1, 2, 3, 4] rfl)
  exact K5 _ 0 0 ls (Nat.lt_succ_self _) (by omega) rfl (by rw [n_0]; omega) (lv_sub hl [2, 3, 4, 1, 0] rfl)
def rm_X10_whose : Room := { frames := 4, cells := 0, slots := 0, locals := 93 }
set_option maxHeartbeats 4000000 in
set_option maxRecDepth 100000 in
theorem c_X10_whose (l : Launch) (E : Ev) (A : Nat → Prop) (am : Nat → Nat) (vm : Vf) (h : Int32) (step : Int32) (hH : MdH vm) : Met l yX10_whose wsX10_whose rm_X10_whose (RdP E A [.ref (am 0), .int h, .int step] (mdL E am vm)) (vp_Si (fun r => (True) ∧ (UnkP (0 ≤ h.toInt ∧ h.toInt < (vm 19 0).toInt) r (OutP (0 ≤ step.toInt ∧ step.toInt ≤ 900000) r (r = mWh vm h step))))) 0 0 (fun _ => False) := by
  refine Met.ofW (cc := cX10_whose) (maxL := 3) (ret := (some .int)) (by decide) rfl ?_
  intro p e s m args below meth c s₁ B hml hv
  obtain ⟨rfl, hE, hP⟩ := hv
  have hx := B.exec
  have hb := B.bytes
  have hr := B.returns
  have hts := atoms_spec (ws := wsX10_whose) B.pre
  have hown : s.vm.findClass RX10 = some m.cls := findClass_of_methodNamed B.named
  have hlocks := B.notSynchronized
  have hK := hE.1
  have in_X10 : ∀ w ∈ u_ws RX10 TX10 79, w ∈ wsX10_whose := fun w h => List.mem_cons_of_mem _ (List.mem_append_right _ h)
  have lk0 := hts (.fieldLink RX10 279 "TidedGroundModel" "deeds" "I") (List.mem_of_getElem? (i := 1) rfl)
  have lk1 := hts (.constant RX10 175 (-1000000002)) (List.mem_of_getElem? (i := 3) rfl)
  have lk2 := hts (.constant RX10 329 (-1000000001)) (List.mem_of_getElem? (i := 2) rfl)
  have n_m1000000002 : ((-1000000002) : Int32).toInt = -1000000002 := by decide
  have n_m1000000001 : ((-1000000001) : Int32).toInt = -1000000001 := by decide
  have n_0 : (0 : Int32).toInt = 0 := by decide
  have n_1 : (1 : Int32).toInt = 1 := by decide
  have hl := lv_entry ([.ref (am 0), .int h, .int step]) (n := 3) (Nat.le_of_ble_eq_true rfl)
  rw [lg_entry_eq]
  generalize (lg_sl ([.ref (am 0), .int h, .int step]) ++ List.replicate (3 - (lg_sl ([.ref (am 0), .int h, .int step])).length) Slot.unset).toArray = ls at hl ⊢
  have hl : lv_has ls 3 [(0, .ref (am 0)), (1, .int h), (2, .int step)] := hl
  refine W_abs (fun Q hQ => ?_)
  obtain ⟨hmG, hmC, hmZ, hmM, hmA, hmS, hmT⟩ := id hH
  obtain ⟨hG1, hG2, hG3⟩ := id hmG
  obtain ⟨hC1, hC2, hC3, hC4, hC5, hC6⟩ := id hmC
  obtain ⟨hM1, hM2, hM3, hM4⟩ := id hmM
  obtain ⟨hA1, hA2, hA3, hA4, hA5⟩ := id hmA
  obtain ⟨hS1, hS2, hS3, hS4, hS5, hS6⟩ := id hmS
  obtain ⟨hT1, hT2, hT3, hT4, hT5⟩ := id hmT
  refine lv_iload_n hx hb dX10_whose_0 rfl (lv_at hl 1 rfl) ?_
  refine lv_i2l hx hb dX10_whose_1 rfl ?_
  refine lv_lconst (v := 0) hx hb dX10_whose_2 (by decide) ?_
  refine lv_aload_n hx hb dX10_whose_3 rfl (lv_at hl 0 rfl) ?_
  refine va_get (D := eD E) (ci := 10) (v := .int (vm 19 0)) (C := RX10) (T := TX10) (N := 79) hx hb hts in_X10 hown hK hP 0 rfl rfl 19 (by decide) lk0 (fun _ h9 => h9) rfl dX10_whose_4 ?_
  refine lv_iconst (v := 1) hx hb dX10_whose_7 (by decide) ?_
  refine lv_isub hx hb dX10_whose_8 ?_
  refine lv_topi (fun x8 e8 => ?_)
  have t8 := i_sub e8 (by omega)
  refine lv_i2l hx hb dX10_whose_9 rfl ?_
  have lt10_0 : (h.toInt64).toInt = h.toInt := Int32.toInt_toInt64 _
  have lt10_1 : (0 : Int64).toInt = 0 := by decide
  have lt10_2 : (x8.toInt64).toInt = x8.toInt := Int32.toInt_toInt64 _
  refine rd_S (As := [.long h.toInt64, .long 0, .long x8.toInt64]) (rest := []) ⟨hx, hb, hml, hown, hts⟩ (c_X10_in l E A h.toInt64 0 x8.toInt64) (va_cwS 3 hts gX10_whose_X10_in rfl rfl rfl (by decide +kernel) ⟨Nat.le_of_ble_eq_true rfl, Nat.le_of_ble_eq_true rfl⟩) hE (hP.sub (ws' := []) [] rfl) rfl hl.1 rfl (Nat.le_of_ble_eq_true rfl) dX10_whose_10 ⟨Nat.zero_le _, Nat.zero_le _⟩ (fun r10 h10 => ?_)
  refine lv_if_ne (tgt := 20) hx hb dX10_whose_13 (by decide) (fun c13 => ?_) (fun c13 => ?_)
  · have c13_ := i_ne c13
    replace h10 := or_y h10 c13_
    clear c13_
    refine lv_iload_n hx hb dX10_whose_20 rfl (lv_at hl 2 rfl) ?_
    refine rd_S (As := [.int step]) (rest := []) ⟨hx, hb, hml, hown, hts⟩ (c_X10_isStep l E A step) (va_cwS 1 hts gX10_whose_X10_isStep rfl rfl rfl (by decide +kernel) ⟨Nat.le_of_ble_eq_true rfl, Nat.le_of_ble_eq_true rfl⟩) hE (hP.sub (ws' := []) [] rfl) rfl hl.1 rfl (Nat.le_of_ble_eq_true rfl) dX10_whose_21 ⟨Nat.zero_le _, Nat.zero_le _⟩ (fun r21 h21 => ?_)
    refine lv_if_eq (tgt := 36) hx hb dX10_whose_24 (by decide) (fun c24 => ?_) (fun c24 => ?_)
    · have c24_ := i_eq c24
      replace h21 := or_n h21 c24_
      refine lv_ldc hx hb hown lk1 dX10_whose_36 ?_
      subst hQ
      exact W.iret (v := (-1000000002)) hx hb hr (fun t ht hW => ⟨(-1000000002), rfl, ⟨trivial, (by first | (have zz := hf30; exact Or.inr ⟨by omega, Or.inr ⟨by omega, zz⟩⟩) | exact Or.inr ⟨by omega, Or.inl ⟨by omega, by omega⟩⟩)⟩, ht⟩) (fun q h => absurd h List.not_mem_nil) dX10_whose_38
    · have c24_ := i_ne c24
      replace h21 := or_y h21 c24_
      clear c24_
      refine lv_aload_n hx hb dX10_whose_27 rfl (lv_at hl 0 rfl) ?_
      refine lv_iload_n hx hb dX10_whose_28 rfl (lv_at hl 1 rfl) ?_
      refine lv_iload_n hx hb dX10_whose_29 rfl (lv_at hl 2 rfl) ?_
      refine rd_V (As := [.int h, .int step]) (rest := []) (C := RX10) (ci := 10) ⟨hx, hb, hml, hown, hts⟩ (c_X10_whoseAt l E A am vm h step hH (by omega) (by omega)) (cwV 2 hts gX10_whose_X10_whoseAt rfl rfl rfl (by decide +kernel) ⟨Nat.le_of_ble_eq_true rfl, Nat.le_of_ble_eq_true rfl⟩) hE (hP.sub (ws' := mdL E am vm) [0, 1, 2, 3, 4, 5, 6, 7, 8, 9, 10, 11, 12, 13, 14, 15, 16, 17, 18, 19, 20, 21, 22, 23, 24, 25, 26, 27, 28, 29, 30, 31, 32, 33, 34, 35, 36, 37, 38, 39, 40, 41, 42, 43, 44, 45] rfl) rfl rfl rfl rfl hl.1 rfl (Nat.le_of_ble_eq_true rfl) dX10_whose_30 ⟨Nat.zero_le _, Nat.zero_le _⟩ (fun r30 h30 => ?_)
      have hf30 := h30.2
      replace h30 := h30.1
      refine lv_goto (tgt := 38) hx hb dX10_whose_33 (by decide) ?_
      subst hQ
      exact W.iret (v := r30) hx hb hr (fun t ht hW => ⟨r30, rfl, ⟨trivial, (by first | (have zz := hf30; exact Or.inr ⟨by omega, Or.inr ⟨by omega, zz⟩⟩) | exact Or.inr ⟨by omega, Or.inl ⟨by omega, by omega⟩⟩)⟩, ht⟩) (fun q h => absurd h List.not_mem_nil) dX10_whose_38
  · have c13_ := i_eq c13
    replace h10 := or_n h10 c13_
    refine lv_ldcw hx hb hown lk2 dX10_whose_16 ?_
    subst hQ
    exact W.iret (v := (-1000000001)) hx hb hr (fun t ht hW => ⟨(-1000000001), rfl, ⟨trivial, (Or.inl ⟨by omega, by omega⟩)⟩, ht⟩) (fun q h => absurd h List.not_mem_nil) dX10_whose_19
def rm_X10_stays : Room := { frames := 4, cells := 0, slots := 0, locals := 93 }
set_option maxHeartbeats 4000000 in
set_option maxRecDepth 100000 in
theorem c_X10_stays (l : Launch) (E : Ev) (A : Nat → Prop) (am : Nat → Nat) (vm : Vf) (h : Int32) (hH : MdH vm) : Met l yX10_stays wsX10_stays rm_X10_stays (RdP E A [.ref (am 0), .int h] (mdL E am vm)) (vp_Si (fun r => (True) ∧ (UnkP (0 ≤ h.toInt ∧ h.toInt < (vm 19 0).toInt) r (r = mSt vm h)))) 0 0 (fun _ => False) := by
  refine Met.ofW (cc := cX10_stays) (maxL := 4) (ret := (some .int)) (by decide) rfl ?_
  intro p e s m args below meth c s₁ B hml hv
  obtain ⟨rfl, hE, hP⟩ := hv
  have hx := B.exec
  have hb := B.bytes
  have hr := B.returns
  have hts := atoms_spec (ws := wsX10_stays) B.pre
  have hown : s.vm.findClass RX10 = some m.cls := findClass_of_methodNamed B.named
  have hlocks := B.notSynchronized
  have hK := hE.1
  have in_X10 : ∀ w ∈ u_ws RX10 TX10 79, w ∈ wsX10_stays := fun w h => List.mem_cons_of_mem _ (List.mem_append_right _ h)
  have lk0 := hts (.fieldLink RX10 279 "TidedGroundModel" "deeds" "I") (List.mem_of_getElem? (i := 1) rfl)
  have lk1 := hts (.fieldLink RX10 55 "TidedGroundModel" "period" "I") (List.mem_of_getElem? (i := 3) rfl)
  have lk2 := hts (.constant RX10 329 (-1000000001)) (List.mem_of_getElem? (i := 2) rfl)
  have n_m1000000001 : ((-1000000001) : Int32).toInt = -1000000001 := by decide
  have n_0 : (0 : Int32).toInt = 0 := by decide
  have n_1 : (1 : Int32).toInt = 1 := by decide
  have hl := lv_entry ([.ref (am 0), .int h]) (n := 4) (Nat.le_of_ble_eq_true rfl)
  rw [lg_entry_eq]
  generalize (lg_sl ([.ref (am 0), .int h]) ++ List.replicate (4 - (lg_sl ([.ref (am 0), .int h])).length) Slot.unset).toArray = ls at hl ⊢
  have hl : lv_has ls 4 [(0, .ref (am 0)), (1, .int h)] := hl
  refine W_abs (fun Q hQ => ?_)
  obtain ⟨hmG, hmC, hmZ, hmM, hmA, hmS, hmT⟩ := id hH
  obtain ⟨hG1, hG2, hG3⟩ := id hmG
  obtain ⟨hC1, hC2, hC3, hC4, hC5, hC6⟩ := id hmC
  obtain ⟨hM1, hM2, hM3, hM4⟩ := id hmM
  obtain ⟨hA1, hA2, hA3, hA4, hA5⟩ := id hmA
  obtain ⟨hS1, hS2, hS3, hS4, hS5, hS6⟩ := id hmS
  obtain ⟨hT1, hT2, hT3, hT4, hT5⟩ := id hmT
  refine lv_iload_n hx hb dX10_stays_0 rfl (lv_at hl 1 rfl) ?_
  refine lv_i2l hx hb dX10_stays_1 rfl ?_
  refine lv_lconst (v := 0) hx hb dX10_stays_2 (by decide) ?_
  refine lv_aload_n hx hb dX10_stays_3 rfl (lv_at hl 0 rfl) ?_
  refine va_get (D := eD E) (ci := 10) (v := .int (vm 19 0)) (C := RX10) (T := TX10) (N := 79) hx hb hts in_X10 hown hK hP 0 rfl rfl 19 (by decide) lk0 (fun _ h9 => h9) rfl dX10_stays_4 ?_
  refine lv_iconst (v := 1) hx hb dX10_stays_7 (by decide) ?_
  refine lv_isub hx hb dX10_stays_8 ?_
  refine lv_topi (fun x8 e8 => ?_)
  have t8 := i_sub e8 (by omega)
  refine lv_i2l hx hb dX10_stays_9 rfl ?_
  have lt10_0 : (h.toInt64).toInt = h.toInt := Int32.toInt_toInt64 _
  have lt10_1 : (0 : Int64).toInt = 0 := by decide
  have lt10_2 : (x8.toInt64).toInt = x8.toInt := Int32.toInt_toInt64 _
  refine rd_S (As := [.long h.toInt64, .long 0, .long x8.toInt64]) (rest := []) ⟨hx, hb, hml, hown, hts⟩ (c_X10_in l E A h.toInt64 0 x8.toInt64) (va_cwS 3 hts gX10_stays_X10_in rfl rfl rfl (by decide +kernel) ⟨Nat.le_of_ble_eq_true rfl, Nat.le_of_ble_eq_true rfl⟩) hE (hP.sub (ws' := []) [] rfl) rfl hl.1 rfl (Nat.le_of_ble_eq_true rfl) dX10_stays_10 ⟨Nat.zero_le _, Nat.zero_le _⟩ (fun r10 h10 => ?_)
  refine lv_if_ne (tgt := 20) hx hb dX10_stays_13 (by decide) (fun c13 => ?_) (fun c13 => ?_)
  · have c13_ := i_ne c13
    replace h10 := or_y h10 c13_
    clear c13_
    have sv20_h : 0 ≤ h.toInt ∧ h.toInt ≤ 3 := by omega
    refine lv_iconst (v := 1) hx hb dX10_stays_20 (by decide) ?_
    refine lv_aload_n hx hb dX10_stays_21 rfl (lv_at hl 0 rfl) ?_
    refine rd_V (As := []) (rest := [.int 1]) (C := RX10) (ci := 10) ⟨hx, hb, hml, hown, hts⟩ (c_X10_cells l E A am vm hH) (cwV 0 hts gX10_stays_X10_cells rfl rfl rfl (by decide +kernel) ⟨Nat.le_of_ble_eq_true rfl, Nat.le_of_ble_eq_true rfl⟩) hE (hP.sub (ws' := mdL E am vm) [0, 1, 2, 3, 4, 5, 6, 7, 8, 9, 10, 11, 12, 13, 14, 15, 16, 17, 18, 19, 20, 21, 22, 23, 24, 25, 26, 27, 28, 29, 30, 31, 32, 33, 34, 35, 36, 37, 38, 39, 40, 41, 42, 43, 44, 45] rfl) rfl rfl rfl rfl hl.1 rfl (Nat.le_of_ble_eq_true rfl) dX10_stays_22 ⟨Nat.zero_le _, Nat.zero_le _⟩ (fun r22 h22 => ?_)
    refine lv_ishl hx hb dX10_stays_25 ?_
    refine lv_topi (fun x25 e25 => ?_)
    refine lv_iconst (v := 1) hx hb dX10_stays_26 (by decide) ?_
    refine lv_isub hx hb dX10_stays_27 ?_
    refine lv_topi (fun x27 e27 => ?_)
    refine lv_istore_n (lv' := [(2, .int x27), (0, .ref (am 0)), (1, .int h)]) hx hb dX10_stays_28 rfl hl (by decide) rfl (fun ls hl => ?_)
    refine lv_iconst (v := 0) hx hb dX10_stays_29 (by decide) ?_
    refine lv_istore_n (lv' := [(3, .int 0), (2, .int x27), (0, .ref (am 0)), (1, .int h)]) hx hb dX10_stays_30 rfl hl (by decide) rfl (fun ls hl => ?_)
    have K31 : ∀ (μ : Nat) (set : Int32) (t : Int32) (ls : Array Slot), (729 - t.toInt).toNat < μ → (0 ≤ t.toInt ∧ t.toInt ≤ 729) → (set = mStN vm h t.toNatClampNeg) → (t.toInt ≤ (vm 22 0).toInt) → lv_has ls 4 [(0, .ref (am 0)), (1, .int h), (2, .int set), (3, .int t)] → W p l e (headSpec wsX10_stays rm_X10_stays).room s m ([.ref (am 0), .int h] : List Value).toArray below meth c s.heap [] 0 0 Q (F0 m 31 ls []) := by
      intro μ
      induction μ with
      | zero =>
        intro set t ls hμ31
        exact absurd hμ31 (Nat.not_lt_zero _)
      | succ μ ih31 =>
        intro set t ls hμ31 h31_0 h31_1 h31_2 hl
        have hx31_0 := h31_1
        clear h31_1
        have hx31_1 := h31_2
        clear h31_2
        refine lv_iload_n hx hb dX10_stays_31 rfl (lv_at hl 3 rfl) ?_
        refine lv_aload_n hx hb dX10_stays_32 rfl (lv_at hl 0 rfl) ?_
        refine va_get (D := eD E) (ci := 10) (v := .int (vm 22 0)) (C := RX10) (T := TX10) (N := 79) hx hb hts in_X10 hown hK hP 0 rfl rfl 22 (by decide) lk1 (fun _ h9 => h9) rfl dX10_stays_33 ?_
        refine lv_icmp_ge (tgt := 54) hx hb dX10_stays_36 (by decide) (fun c36 => ?_) (fun c36 => ?_)
        · have c36_ := i_le c36
          refine lv_iload_n hx hb dX10_stays_54 rfl (lv_at hl 2 rfl) ?_
          subst hQ
          exact W.iret (v := set) hx hb hr (fun t ht hW => ⟨set, rfl, ⟨trivial, (Or.inr ⟨by omega, by show set = mStN vm h (vm 22 0).toNatClampNeg; exact hx31_0.trans (congrArg (mStN vm h) (congrArg Int32.toNatClampNeg (i_eqr (by omega))))⟩)⟩, ht⟩) (fun q h => absurd h List.not_mem_nil) dX10_stays_55
        · have c36_ := i_nle c36
          refine lv_iload_n hx hb dX10_stays_39 rfl (lv_at hl 2 rfl) ?_
          refine lv_aload_n hx hb dX10_stays_40 rfl (lv_at hl 0 rfl) ?_
          refine lv_iload_n hx hb dX10_stays_41 rfl (lv_at hl 1 rfl) ?_
          refine lv_iload_n hx hb dX10_stays_42 rfl (lv_at hl 3 rfl) ?_
          refine rd_V (As := [.int h, .int t]) (rest := [.int set]) (C := RX10) (ci := 10) ⟨hx, hb, hml, hown, hts⟩ (c_X10_whoseAt l E A am vm h t hH (by omega) (by omega)) (cwV 2 hts gX10_stays_X10_whoseAt rfl rfl rfl (by decide +kernel) ⟨Nat.le_of_ble_eq_true rfl, Nat.le_of_ble_eq_true rfl⟩) hE (hP.sub (ws' := mdL E am vm) [0, 1, 2, 3, 4, 5, 6, 7, 8, 9, 10, 11, 12, 13, 14, 15, 16, 17, 18, 19, 20, 21, 22, 23, 24, 25, 26, 27, 28, 29, 30, 31, 32, 33, 34, 35, 36, 37, 38, 39, 40, 41, 42, 43, 44, 45] rfl) rfl rfl rfl rfl hl.1 rfl (Nat.le_of_ble_eq_true rfl) dX10_stays_43 ⟨Nat.zero_le _, Nat.zero_le _⟩ (fun r43 h43 => ?_)
          have hf43 := h43.2
          replace h43 := h43.1
          refine lv_iand hx hb dX10_stays_46 ?_
          refine lv_topi (fun x46 e46 => ?_)
          refine lv_istore_n (lv' := [(2, .int x46), (0, .ref (am 0)), (1, .int h), (3, .int t)]) hx hb dX10_stays_47 rfl hl (by decide) rfl (fun ls hl => ?_)
          obtain ⟨x48, e48⟩ : ∃ y : Int32, y = t + 1 := ⟨_, rfl⟩
          refine lv_iinc (v := x48) (lv' := [(3, .int x48), (2, .int x46), (0, .ref (am 0)), (1, .int h)]) hx hb dX10_stays_48 hl (k := 3) rfl (by rw [e48]; rfl) (by decide) rfl (fun ls hl => ?_)
          have t48 := i_add e48 (by omega)
          refine lv_goto (tgt := 31) hx hb dX10_stays_51 (by decide) ?_
          exact ih31 x46 x48 ls (by omega) (by omega) (st_next hx31_0 (by omega) t48 (by rw [e46, hf43])) (by omega) (lv_sub hl [2, 3, 1, 0] rfl)
    exact K31 _ x27 0 ls (Nat.lt_succ_self _) (by omega) (by rw [e27, e25, cel_eq h22.1 hG1 hG2]; rfl) (by rw [n_0]; omega) (lv_sub hl [2, 3, 1, 0] rfl)
  · have c13_ := i_eq c13
    replace h10 := or_n h10 c13_
    refine lv_ldcw hx hb hown lk2 dX10_stays_16 ?_
    subst hQ
    exact W.iret (v := (-1000000001)) hx hb hr (fun t ht hW => ⟨(-1000000001), rfl, ⟨trivial, (Or.inl ⟨by omega, by omega⟩)⟩, ht⟩) (fun q h => absurd h List.not_mem_nil) dX10_stays_19
def rm_X10_judge : Room := { frames := 5, cells := 0, slots := 0, locals := 122 }
set_option maxHeartbeats 4000000 in
set_option maxRecDepth 100000 in
theorem c_X10_judge (l : Launch) (E : Ev) (A : Nat → Prop) (am : Nat → Nat) (vm : Vf) (what : Int32) (hH : MdH vm) : Met l yX10_judge wsX10_judge rm_X10_judge (RdP E A [.ref (am 0), .int what] (mdL E am vm)) (vp_Si (fun r => (True) ∧ (OutP (0 ≤ what.toInt ∧ what.toInt ≤ 1) r (NotP ((vm 0 0).toInt ≠ 0) r (JdR vm what r))))) 0 0 (fun _ => False) := by
  refine Met.ofW (cc := cX10_judge) (maxL := 6) (ret := (some .int)) (by decide) rfl ?_
  intro p e s m args below meth c s₁ B hml hv
  obtain ⟨rfl, hE, hP⟩ := hv
  have hx := B.exec
  have hb := B.bytes
  have hr := B.returns
  have hts := atoms_spec (ws := wsX10_judge) B.pre
  have hown : s.vm.findClass RX10 = some m.cls := findClass_of_methodNamed B.named
  have hlocks := B.notSynchronized
  have hK := hE.1
  have in_X10 : ∀ w ∈ u_ws RX10 TX10 79, w ∈ wsX10_judge := fun w h => List.mem_cons_of_mem _ (List.mem_append_right _ h)
  have lk0 := hts (.fieldLink RX10 159 "TidedGroundModel" "wide" "I") (List.mem_of_getElem? (i := 2) rfl)
  have lk1 := hts (.fieldLink RX10 294 "TidedGroundModel" "cart" "I") (List.mem_of_getElem? (i := 4) rfl)
  have lk2 := hts (.fieldLink RX10 303 "TidedGroundModel" "booked" "I") (List.mem_of_getElem? (i := 5) rfl)
  have lk3 := hts (.fieldLink RX10 149 "TidedGroundModel" "book" "[I") (List.mem_of_getElem? (i := 6) rfl)
  have lk4 := hts (.fieldLink RX10 291 "TidedGroundModel" "step" "I") (List.mem_of_getElem? (i := 7) rfl)
  have lk5 := hts (.constant RX10 366 (-1000000003)) (List.mem_of_getElem? (i := 3) rfl)
  have lk6 := hts (.constant RX10 175 (-1000000002)) (List.mem_of_getElem? (i := 1) rfl)
  have n_m1000000003 : ((-1000000003) : Int32).toInt = -1000000003 := by decide
  have n_m1000000002 : ((-1000000002) : Int32).toInt = -1000000002 := by decide
  have n_m1 : ((-1) : Int32).toInt = -1 := by decide
  have n_0 : (0 : Int32).toInt = 0 := by decide
  have n_1 : (1 : Int32).toInt = 1 := by decide
  have hl := lv_entry ([.ref (am 0), .int what]) (n := 6) (Nat.le_of_ble_eq_true rfl)
  rw [lg_entry_eq]
  generalize (lg_sl ([.ref (am 0), .int what]) ++ List.replicate (6 - (lg_sl ([.ref (am 0), .int what])).length) Slot.unset).toArray = ls at hl ⊢
  have hl : lv_has ls 6 [(0, .ref (am 0)), (1, .int what)] := hl
  refine W_abs (fun Q hQ => ?_)
  obtain ⟨hmG, hmC, hmZ, hmM, hmA, hmS, hmT⟩ := id hH
  obtain ⟨hG1, hG2, hG3⟩ := id hmG
  obtain ⟨hC1, hC2, hC3, hC4, hC5, hC6⟩ := id hmC
  obtain ⟨hM1, hM2, hM3, hM4⟩ := id hmM
  obtain ⟨hA1, hA2, hA3, hA4, hA5⟩ := id hmA
  obtain ⟨hS1, hS2, hS3, hS4, hS5, hS6⟩ := id hmS
  obtain ⟨hT1, hT2, hT3, hT4, hT5⟩ := id hmT
  refine lv_iload_n hx hb dX10_judge_0 rfl (lv_at hl 1 rfl) ?_
  refine lv_i2l hx hb dX10_judge_1 rfl ?_
  refine lv_lconst (v := 0) hx hb dX10_judge_2 (by decide) ?_
  refine lv_lconst (v := 1) hx hb dX10_judge_3 (by decide) ?_
  have lt4_0 : (what.toInt64).toInt = what.toInt := Int32.toInt_toInt64 _
  have lt4_1 : (0 : Int64).toInt = 0 := by decide
  have lt4_2 : (1 : Int64).toInt = 1 := by decide
  refine rd_S (As := [.long what.toInt64, .long 0, .long 1]) (rest := []) ⟨hx, hb, hml, hown, hts⟩ (c_X10_in l E A what.toInt64 0 1) (va_cwS 3 hts gX10_judge_X10_in rfl rfl rfl (by decide +kernel) ⟨Nat.le_of_ble_eq_true rfl, Nat.le_of_ble_eq_true rfl⟩) hE (hP.sub (ws' := []) [] rfl) rfl hl.1 rfl (Nat.le_of_ble_eq_true rfl) dX10_judge_4 ⟨Nat.zero_le _, Nat.zero_le _⟩ (fun r4 h4 => ?_)
  refine lv_if_ne (tgt := 13) hx hb dX10_judge_7 (by decide) (fun c7 => ?_) (fun c7 => ?_)
  · have c7_ := i_ne c7
    replace h4 := or_y h4 c7_
    clear c7_
    refine lv_aload_n hx hb dX10_judge_13 rfl (lv_at hl 0 rfl) ?_
    refine va_get (D := eD E) (ci := 10) (v := .int (vm 0 0)) (C := RX10) (T := TX10) (N := 79) hx hb hts in_X10 hown hK hP 0 rfl rfl 0 (by decide) lk0 (fun _ h9 => h9) rfl dX10_judge_14 ?_
    refine lv_if_ne (tgt := 24) hx hb dX10_judge_17 (by decide) (fun c17 => ?_) (fun c17 => ?_)
    · have c17_ := i_ne c17
      have hw : 1 ≤ (vm 0 0).toInt := (by omega)
      refine lv_aload_n hx hb dX10_judge_24 rfl (lv_at hl 0 rfl) ?_
      refine va_get (D := eD E) (ci := 10) (v := .int (vm 27 0)) (C := RX10) (T := TX10) (N := 79) hx hb hts in_X10 hown hK hP 0 rfl rfl 27 (by decide) lk1 (fun _ h9 => h9) rfl dX10_judge_25 ?_
      refine lv_istore_n (lv' := [(2, .int (vm 27 0)), (0, .ref (am 0)), (1, .int what)]) hx hb dX10_judge_28 rfl hl (by decide) rfl (fun ls hl => ?_)
      refine lv_iconst (v := 0) hx hb dX10_judge_29 (by decide) ?_
      refine lv_istore_n (lv' := [(3, .int 0), (2, .int (vm 27 0)), (0, .ref (am 0)), (1, .int what)]) hx hb dX10_judge_30 rfl hl (by decide) rfl (fun ls hl => ?_)
      refine lv_iconst (v := 0) hx hb dX10_judge_31 (by decide) ?_
      refine lv_istore (lv' := [(4, .int 0), (3, .int 0), (2, .int (vm 27 0)), (0, .ref (am 0)), (1, .int what)]) hx hb dX10_judge_32 hl (by decide) rfl (fun ls hl => ?_)
      have K34 : ∀ (μ : Nat) (k : Int32) (sm : Int32) (i : Int32) (ls : Array Slot), (30 - i.toInt).toNat < μ → (0 ≤ k.toInt ∧ k.toInt ≤ 23) → (0 ≤ i.toInt ∧ i.toInt ≤ 30) → (k = jdC vm i.toNatClampNeg) → (sm = jdP vm i.toNatClampNeg) → (JdO vm i.toInt) → (i.toInt ≤ (vm 75 0).toInt) → lv_has ls 6 [(0, .ref (am 0)), (1, .int what), (2, .int k), (3, .int sm), (4, .int i)] → W p l e (headSpec wsX10_judge rm_X10_judge).room s m ([.ref (am 0), .int what] : List Value).toArray below meth c s.heap [] 0 0 Q (F0 m 34 ls []) := by
        intro μ
        induction μ with
        | zero =>
          intro k sm i ls hμ34
          exact absurd hμ34 (Nat.not_lt_zero _)
        | succ μ ih34 =>
          intro k sm i ls hμ34 h34_0 h34_1 h34_2 h34_3 h34_4 h34_5 hl
          have hx34_0 := h34_2
          clear h34_2
          have hx34_1 := h34_3
          clear h34_3
          have hx34_2 := h34_4
          clear h34_4
          have hx34_3 := h34_5
          clear h34_5
          refine lv_iload hx hb dX10_judge_34 (lv_at hl 4 rfl) ?_
          refine lv_aload_n hx hb dX10_judge_36 rfl (lv_at hl 0 rfl) ?_
          refine va_get (D := eD E) (ci := 10) (v := .int (vm 75 0)) (C := RX10) (T := TX10) (N := 79) hx hb hts in_X10 hown hK hP 0 rfl rfl 75 (by decide) lk2 (fun _ h9 => h9) rfl dX10_judge_37 ?_
          refine lv_icmp_ge (tgt := 110) hx hb dX10_judge_40 (by decide) (fun c40 => ?_) (fun c40 => ?_)
          · have c40_ := i_le c40
            refine lv_iload_n hx hb dX10_judge_110 rfl (lv_at hl 1 rfl) ?_
            refine lv_if_ne (tgt := 118) hx hb dX10_judge_111 (by decide) (fun c111 => ?_) (fun c111 => ?_)
            · have c111_ := i_ne c111
              have hv111 : what.toInt = 1 := by omega
              refine lv_iload_n hx hb dX10_judge_118 rfl (lv_at hl 3 rfl) ?_
              subst hQ
              exact W.iret (v := sm) hx hb hr (fun t ht hW => ⟨sm, rfl, ⟨trivial, (Or.inr ⟨by omega, Or.inr ⟨by omega, jd_end hx34_2 hx34_1 (i_eqr (by omega)) (by first | exact Or.inr ⟨hv111, rfl⟩ | exact Or.inl ⟨hw111, n_m1⟩)⟩⟩)⟩, ht⟩) (fun q h => absurd h List.not_mem_nil) dX10_judge_119
            · have c111_ := i_eq c111
              have hw111 : what.toInt = 0 := by omega
              refine lv_iconst (v := (-1)) hx hb dX10_judge_114 (by decide) ?_
              refine lv_goto (tgt := 119) hx hb dX10_judge_115 (by decide) ?_
              subst hQ
              exact W.iret (v := (-1)) hx hb hr (fun t ht hW => ⟨(-1), rfl, ⟨trivial, (Or.inr ⟨by omega, Or.inr ⟨by omega, jd_end hx34_2 hx34_1 (i_eqr (by omega)) (by first | exact Or.inr ⟨hv111, rfl⟩ | exact Or.inl ⟨hw111, n_m1⟩)⟩⟩)⟩, ht⟩) (fun q h => absurd h List.not_mem_nil) dX10_judge_119
          · have c40_ := i_nle c40
            refine lv_aload_n hx hb dX10_judge_43 rfl (lv_at hl 0 rfl) ?_
            refine lv_iload_n hx hb dX10_judge_44 rfl (lv_at hl 2 rfl) ?_
            refine lv_aload_n hx hb dX10_judge_45 rfl (lv_at hl 0 rfl) ?_
            refine va_get (D := eD E) (ci := 10) (v := .ref (am 76)) (C := RX10) (T := TX10) (N := 79) hx hb hts in_X10 hown hK hP 0 rfl rfl 76 (by decide) lk3 (fun _ h9 => h9) rfl dX10_judge_46 ?_
            refine lv_iload hx hb dX10_judge_49 (lv_at hl 4 rfl) ?_
            refine va_iald hx hb hK hP 43 0 rfl rfl (n := 30) (f := (vm 76)) (i_in (by omega) (by omega)) dX10_judge_51 ?_
            refine lv_topi (fun x51 e51 => ?_)
            refine lv_aload_n hx hb dX10_judge_52 rfl (lv_at hl 0 rfl) ?_
            refine va_get (D := eD E) (ci := 10) (v := .int (vm 23 0)) (C := RX10) (T := TX10) (N := 79) hx hb hts in_X10 hown hK hP 0 rfl rfl 23 (by decide) lk4 (fun _ h9 => h9) rfl dX10_judge_53 ?_
            refine lv_iload hx hb dX10_judge_56 (lv_at hl 4 rfl) ?_
            refine lv_iadd hx hb dX10_judge_58 ?_
            refine lv_topi (fun x58 e58 => ?_)
            have t58 := i_add e58 (by omega)
            refine lv_iconst (v := 1) hx hb dX10_judge_59 (by decide) ?_
            refine lv_iadd hx hb dX10_judge_60 ?_
            refine lv_topi (fun x60 e60 => ?_)
            have t60 := i_add e60 (by omega)
            refine rd_V (As := [.int k, .int x51, .int x60]) (rest := []) (C := RX10) (ci := 10) ⟨hx, hb, hml, hown, hts⟩ (c_X10_goes l E A am vm k x51 x60 hH (by omega) (by omega) (by omega)) (cwV 3 hts gX10_judge_X10_goes rfl rfl rfl (by decide +kernel) ⟨Nat.le_of_ble_eq_true rfl, Nat.le_of_ble_eq_true rfl⟩) hE (hP.sub (ws' := mdL E am vm) [0, 1, 2, 3, 4, 5, 6, 7, 8, 9, 10, 11, 12, 13, 14, 15, 16, 17, 18, 19, 20, 21, 22, 23, 24, 25, 26, 27, 28, 29, 30, 31, 32, 33, 34, 35, 36, 37, 38, 39, 40, 41, 42, 43, 44, 45] rfl) rfl rfl rfl rfl hl.1 rfl (Nat.le_of_ble_eq_true rfl) dX10_judge_61 ⟨Nat.zero_le _, Nat.zero_le _⟩ (fun r61 h61 => ?_)
            refine lv_istore (lv' := [(5, .int r61), (0, .ref (am 0)), (1, .int what), (2, .int k), (3, .int sm), (4, .int i)]) hx hb dX10_judge_64 hl (by decide) rfl (fun ls hl => ?_)
            refine lv_iload hx hb dX10_judge_66 (lv_at hl 0 rfl) ?_
            refine lv_if_ge (tgt := 82) hx hb dX10_judge_68 (by decide) (fun c68 => ?_) (fun c68 => ?_)
            · have c68_ := i_le c68
              have hc68 : ∀ i2 : Int32, i2.toInt = i.toInt + 1 → r61 = jdC vm i2.toNatClampNeg := fun i2 h2 => jd_c hx34_0 (by omega) h2 e51 (by rw [e60, e58]) h61.1
              refine lv_iload_n hx hb dX10_judge_82 rfl (lv_at hl 4 rfl) ?_
              refine lv_aload_n hx hb dX10_judge_83 rfl (lv_at hl 1 rfl) ?_
              refine lv_iload_n hx hb dX10_judge_84 rfl (lv_at hl 3 rfl) ?_
              refine lv_iload hx hb dX10_judge_85 (lv_at hl 0 rfl) ?_
              refine lv_aload_n hx hb dX10_judge_87 rfl (lv_at hl 1 rfl) ?_
              refine va_get (D := eD E) (ci := 10) (v := .int (vm 23 0)) (C := RX10) (T := TX10) (N := 79) hx hb hts in_X10 hown hK hP 0 rfl rfl 23 (by decide) lk4 (fun _ h9 => h9) rfl dX10_judge_88 ?_
              refine lv_iload hx hb dX10_judge_91 (lv_at hl 5 rfl) ?_
              refine lv_iadd hx hb dX10_judge_93 ?_
              refine lv_topi (fun x93 e93 => ?_)
              have t93 := i_add e93 (by omega)
              refine lv_iconst (v := 1) hx hb dX10_judge_94 (by decide) ?_
              refine lv_iadd hx hb dX10_judge_95 ?_
              refine lv_topi (fun x95 e95 => ?_)
              have t95 := i_add e95 (by omega)
              refine rd_V (As := [.int k, .int r61, .int x95]) (rest := [.int sm]) (C := RX10) (ci := 10) ⟨hx, hb, hml, hown, hts⟩ (c_X10_costOf l E A am vm k r61 x95 hH (by omega) (by omega) (by omega) (by omega)) (cwV 3 hts gX10_judge_X10_costOf rfl rfl rfl (by decide +kernel) ⟨Nat.le_of_ble_eq_true rfl, Nat.le_of_ble_eq_true rfl⟩) hE (hP.sub (ws' := mdL E am vm) [0, 1, 2, 3, 4, 5, 6, 7, 8, 9, 10, 11, 12, 13, 14, 15, 16, 17, 18, 19, 20, 21, 22, 23, 24, 25, 26, 27, 28, 29, 30, 31, 32, 33, 34, 35, 36, 37, 38, 39, 40, 41, 42, 43, 44, 45] rfl) rfl rfl rfl rfl hl.1 rfl (Nat.le_of_ble_eq_true rfl) dX10_judge_96 ⟨Nat.zero_le _, Nat.zero_le _⟩ (fun r96 h96 => ?_)
              refine lv_iadd hx hb dX10_judge_99 ?_
              refine lv_topi (fun x99 e99 => ?_)
              refine lv_istore_n (lv' := [(3, .int x99), (5, .int r61), (0, .ref (am 0)), (1, .int what), (2, .int k), (4, .int i)]) hx hb dX10_judge_100 rfl hl (by decide) rfl (fun ls hl => ?_)
              refine lv_iload hx hb dX10_judge_101 (lv_at hl 1 rfl) ?_
              refine lv_istore_n (lv' := [(2, .int r61), (3, .int x99), (5, .int r61), (0, .ref (am 0)), (1, .int what), (4, .int i)]) hx hb dX10_judge_103 rfl hl (by decide) rfl (fun ls hl => ?_)
              obtain ⟨x104, e104⟩ : ∃ y : Int32, y = i + 1 := ⟨_, rfl⟩
              refine lv_iinc (v := x104) (lv' := [(4, .int x104), (2, .int r61), (3, .int x99), (5, .int r61), (0, .ref (am 0)), (1, .int what)]) hx hb dX10_judge_104 hl (k := 5) rfl (by rw [e104]; rfl) (by decide) rfl (fun ls hl => ?_)
              have t104 := i_add e104 (by omega)
              refine lv_goto (tgt := 34) hx hb dX10_judge_107 (by decide) ?_
              exact ih34 r61 x99 x104 ls (by omega) (by omega) (by omega) (hc68 _ t104) (jd_p hx34_0 hx34_1 (by omega) t104 (by rw [e95, e93]) (hc68 _ t104) h96.1 e99) (jd_o hx34_2 (by omega) t104 (hc68 _ t104) (by omega)) (by omega) (lv_sub hl [4, 5, 1, 2, 0] rfl)
            · have c68_ := i_nle c68
              have hs68 : (jdC vm (i.toNatClampNeg + 1)).toInt < 0 := jd_stop (t := x60) hx34_0 (by omega) e51 (by rw [e60, e58]) (by rw [← h61.1]; omega)
              refine lv_iload_n hx hb dX10_judge_71 rfl (lv_at hl 2 rfl) ?_
              refine lv_if_ne (tgt := 80) hx hb dX10_judge_72 (by decide) (fun c72 => ?_) (fun c72 => ?_)
              · have c72_ := i_ne c72
                have hv72 : what.toInt = 1 := by omega
                refine lv_iload_n hx hb dX10_judge_80 rfl (lv_at hl 4 rfl) ?_
                subst hQ
                exact W.iret (v := sm) hx hb hr (fun t ht hW => ⟨sm, rfl, ⟨trivial, (Or.inr ⟨by omega, Or.inr ⟨by omega, jd_at hx34_2 hx34_1 (by omega) (by omega) hs68 (by first | exact Or.inl ⟨hw72, rfl⟩ | exact Or.inr ⟨hv72, rfl⟩)⟩⟩)⟩, ht⟩) (fun q h => absurd h List.not_mem_nil) dX10_judge_81
              · have c72_ := i_eq c72
                have hw72 : what.toInt = 0 := by omega
                refine lv_iload hx hb dX10_judge_75 (lv_at hl 5 rfl) ?_
                refine lv_goto (tgt := 81) hx hb dX10_judge_77 (by decide) ?_
                subst hQ
                exact W.iret (v := i) hx hb hr (fun t ht hW => ⟨i, rfl, ⟨trivial, (Or.inr ⟨by omega, Or.inr ⟨by omega, jd_at hx34_2 hx34_1 (by omega) (by omega) hs68 (by first | exact Or.inl ⟨hw72, rfl⟩ | exact Or.inr ⟨hv72, rfl⟩)⟩⟩)⟩, ht⟩) (fun q h => absurd h List.not_mem_nil) dX10_judge_81
      exact K34 _ (vm 27 0) 0 0 ls (Nat.lt_succ_self _) (by omega) (by omega) rfl rfl (fun j hj => absurd hj (by rw [n_0]; omega)) (by rw [n_0]; omega) (lv_sub hl [3, 4, 2, 1, 0] rfl)
    · have c17_ := i_eq c17
      refine lv_ldcw hx hb hown lk5 dX10_judge_20 ?_
      subst hQ
      exact W.iret (v := (-1000000003)) hx hb hr (fun t ht hW => ⟨(-1000000003), rfl, ⟨trivial, (Or.inr ⟨by omega, Or.inl ⟨by omega, fun z => z (by omega)⟩⟩)⟩, ht⟩) (fun q h => absurd h List.not_mem_nil) dX10_judge_23
  · have c7_ := i_eq c7
    replace h4 := or_n h4 c7_
    refine lv_ldc hx hb hown lk6 dX10_judge_10 ?_
    subst hQ
    exact W.iret (v := (-1000000002)) hx hb hr (fun t ht hW => ⟨(-1000000002), rfl, ⟨trivial, (Or.inl ⟨by omega, by omega⟩)⟩, ht⟩) (fun q h => absurd h List.not_mem_nil) dX10_judge_12
def rm_X10_isAsSeen : Room := { frames := 3, cells := 0, slots := 0, locals := 69 }
set_option maxHeartbeats 4000000 in
set_option maxRecDepth 100000 in
theorem c_X10_isAsSeen (l : Launch) (E : Ev) (A : Nat → Prop) (am : Nat → Nat) (vm : Vf) (hH : MdH vm) : Met l yX10_isAsSeen wsX10_isAsSeen rm_X10_isAsSeen (RdP E A [.ref (am 0)] (mdL E am vm)) (vp_Si (fun r => (r.toInt = 0 ∨ r.toInt = 1))) 0 0 (fun _ => False) := by
  refine Met.ofW (cc := cX10_isAsSeen) (maxL := 3) (ret := (some .boolean)) (by decide) rfl ?_
  intro p e s m args below meth c s₁ B hml hv
  obtain ⟨rfl, hE, hP⟩ := hv
  have hx := B.exec
  have hb := B.bytes
  have hr := B.returns
  have hts := atoms_spec (ws := wsX10_isAsSeen) B.pre
  have hown : s.vm.findClass RX10 = some m.cls := findClass_of_methodNamed B.named
  have hlocks := B.notSynchronized
  have hK := hE.1
  have in_X10 : ∀ w ∈ u_ws RX10 TX10 79, w ∈ wsX10_isAsSeen := fun w h => List.mem_cons_of_mem _ (List.mem_append_right _ h)
  have lk0 := hts (.fieldLink RX10 300 "TidedGroundModel" "sights" "I") (List.mem_of_getElem? (i := 1) rfl)
  have lk1 := hts (.fieldLink RX10 131 "TidedGroundModel" "seenAt" "[I") (List.mem_of_getElem? (i := 2) rfl)
  have lk2 := hts (.fieldLink RX10 134 "TidedGroundModel" "seenStep" "[I") (List.mem_of_getElem? (i := 3) rfl)
  have lk3 := hts (.fieldLink RX10 137 "TidedGroundModel" "seenHeight" "[I") (List.mem_of_getElem? (i := 4) rfl)
  have n_0 : (0 : Int32).toInt = 0 := by decide
  have n_1 : (1 : Int32).toInt = 1 := by decide
  have hl := lv_entry ([.ref (am 0)]) (n := 3) (Nat.le_of_ble_eq_true rfl)
  rw [lg_entry_eq]
  generalize (lg_sl ([.ref (am 0)]) ++ List.replicate (3 - (lg_sl ([.ref (am 0)])).length) Slot.unset).toArray = ls at hl ⊢
  have hl : lv_has ls 3 [(0, .ref (am 0))] := hl
  refine W_abs (fun Q hQ => ?_)
  obtain ⟨hmG, hmC, hmZ, hmM, hmA, hmS, hmT⟩ := id hH
  obtain ⟨hG1, hG2, hG3⟩ := id hmG
  obtain ⟨hC1, hC2, hC3, hC4, hC5, hC6⟩ := id hmC
  obtain ⟨hM1, hM2, hM3, hM4⟩ := id hmM
  obtain ⟨hA1, hA2, hA3, hA4, hA5⟩ := id hmA
  obtain ⟨hS1, hS2, hS3, hS4, hS5, hS6⟩ := id hmS
  obtain ⟨hT1, hT2, hT3, hT4, hT5⟩ := id hmT
  refine lv_iconst (v := 1) hx hb dX10_isAsSeen_0 (by decide) ?_
  refine lv_istore_n (lv' := [(1, .int 1), (0, .ref (am 0))]) hx hb dX10_isAsSeen_1 rfl hl (by decide) rfl (fun ls hl => ?_)
  refine lv_iconst (v := 0) hx hb dX10_isAsSeen_2 (by decide) ?_
  refine lv_istore_n (lv' := [(2, .int 0), (1, .int 1), (0, .ref (am 0))]) hx hb dX10_isAsSeen_3 rfl hl (by decide) rfl (fun ls hl => ?_)
  have K4 : ∀ (μ : Nat) (is1 : Int32) (i : Int32) (ls : Array Slot), (12 - i.toInt).toNat < μ → (0 ≤ i.toInt ∧ i.toInt ≤ 12) → (is1.toInt = 0 ∨ is1.toInt = 1) → lv_has ls 3 [(0, .ref (am 0)), (1, .int is1), (2, .int i)] → W p l e (headSpec wsX10_isAsSeen rm_X10_isAsSeen).room s m ([.ref (am 0)] : List Value).toArray below meth c s.heap [] 0 0 Q (F0 m 4 ls []) := by
    intro μ
    induction μ with
    | zero =>
      intro is1 i ls hμ4
      exact absurd hμ4 (Nat.not_lt_zero _)
    | succ μ ih4 =>
      intro is1 i ls hμ4 h4_0 h4_1 hl
      refine lv_iload_n hx hb dX10_isAsSeen_4 rfl (lv_at hl 2 rfl) ?_
      refine lv_aload_n hx hb dX10_isAsSeen_5 rfl (lv_at hl 0 rfl) ?_
      refine va_get (D := eD E) (ci := 10) (v := .int (vm 67 0)) (C := RX10) (T := TX10) (N := 79) hx hb hts in_X10 hown hK hP 0 rfl rfl 67 (by decide) lk0 (fun _ h9 => h9) rfl dX10_isAsSeen_6 ?_
      refine lv_icmp_ge (tgt := 53) hx hb dX10_isAsSeen_9 (by decide) (fun c9 => ?_) (fun c9 => ?_)
      · have c9_ := i_le c9
        refine lv_iload_n hx hb dX10_isAsSeen_53 rfl (lv_at hl 1 rfl) ?_
        subst hQ
        exact W.zret (v := is1) hx hb hr (nar_b (by omega)) (fun t ht hW => ⟨is1, rfl, (by omega), ht⟩) (fun q h => absurd h List.not_mem_nil) dX10_isAsSeen_54
      · have c9_ := i_nle c9
        have hw : 1 ≤ (vm 0 0).toInt := (by rcases hmZ with q | q <;> omega)
        refine lv_iload_n hx hb dX10_isAsSeen_12 rfl (lv_at hl 1 rfl) ?_
        refine lv_if_eq (tgt := 53) hx hb dX10_isAsSeen_13 (by decide) (fun c13 => ?_) (fun c13 => ?_)
        · have c13_ := i_eq c13
          refine lv_iload_n hx hb dX10_isAsSeen_53 rfl (lv_at hl 1 rfl) ?_
          subst hQ
          exact W.zret (v := is1) hx hb hr (nar_b (by omega)) (fun t ht hW => ⟨is1, rfl, (by omega), ht⟩) (fun q h => absurd h List.not_mem_nil) dX10_isAsSeen_54
        · have c13_ := i_ne c13
          refine lv_aload_n hx hb dX10_isAsSeen_16 rfl (lv_at hl 0 rfl) ?_
          refine lv_aload_n hx hb dX10_isAsSeen_17 rfl (lv_at hl 0 rfl) ?_
          refine va_get (D := eD E) (ci := 10) (v := .ref (am 68)) (C := RX10) (T := TX10) (N := 79) hx hb hts in_X10 hown hK hP 0 rfl rfl 68 (by decide) lk1 (fun _ h9 => h9) rfl dX10_isAsSeen_18 ?_
          refine lv_iload_n hx hb dX10_isAsSeen_21 rfl (lv_at hl 2 rfl) ?_
          refine va_iald hx hb hK hP 37 0 rfl rfl (n := 12) (f := (vm 68)) (i_in (by omega) (by omega)) dX10_isAsSeen_22 ?_
          refine lv_topi (fun x22 e22 => ?_)
          have b22 := hT3 i.toNatClampNeg (i_natlt (by omega) (by decide))
          rw [← e22] at b22
          refine lv_aload_n hx hb dX10_isAsSeen_23 rfl (lv_at hl 0 rfl) ?_
          refine va_get (D := eD E) (ci := 10) (v := .ref (am 69)) (C := RX10) (T := TX10) (N := 79) hx hb hts in_X10 hown hK hP 0 rfl rfl 69 (by decide) lk2 (fun _ h9 => h9) rfl dX10_isAsSeen_24 ?_
          refine lv_iload_n hx hb dX10_isAsSeen_27 rfl (lv_at hl 2 rfl) ?_
          refine va_iald hx hb hK hP 38 0 rfl rfl (n := 12) (f := (vm 69)) (i_in (by omega) (by omega)) dX10_isAsSeen_28 ?_
          refine lv_topi (fun x28 e28 => ?_)
          have b28 := hT4 i.toNatClampNeg (i_natlt (by omega) (by decide))
          rw [← e28] at b28
          refine rd_V (As := [.int x22, .int x28]) (rest := []) (C := RX10) (ci := 10) ⟨hx, hb, hml, hown, hts⟩ (c_X10_heightAt l E A am vm x22 x28 hH (by omega) (by omega) (by omega)) (cwV 2 hts gX10_isAsSeen_X10_heightAt rfl rfl rfl (by decide +kernel) ⟨Nat.le_of_ble_eq_true rfl, Nat.le_of_ble_eq_true rfl⟩) hE (hP.sub (ws' := mdL E am vm) [0, 1, 2, 3, 4, 5, 6, 7, 8, 9, 10, 11, 12, 13, 14, 15, 16, 17, 18, 19, 20, 21, 22, 23, 24, 25, 26, 27, 28, 29, 30, 31, 32, 33, 34, 35, 36, 37, 38, 39, 40, 41, 42, 43, 44, 45] rfl) rfl rfl rfl rfl hl.1 rfl (Nat.le_of_ble_eq_true rfl) dX10_isAsSeen_29 ⟨Nat.zero_le _, Nat.zero_le _⟩ (fun r29 h29 => ?_)
          refine lv_aload_n hx hb dX10_isAsSeen_32 rfl (lv_at hl 0 rfl) ?_
          refine va_get (D := eD E) (ci := 10) (v := .ref (am 70)) (C := RX10) (T := TX10) (N := 79) hx hb hts in_X10 hown hK hP 0 rfl rfl 70 (by decide) lk3 (fun _ h9 => h9) rfl dX10_isAsSeen_33 ?_
          refine lv_iload_n hx hb dX10_isAsSeen_36 rfl (lv_at hl 2 rfl) ?_
          refine va_iald hx hb hK hP 39 0 rfl rfl (n := 12) (f := (vm 70)) (i_in (by omega) (by omega)) dX10_isAsSeen_37 ?_
          refine lv_topi (fun x37 e37 => ?_)
          refine lv_icmp_ne (tgt := 45) hx hb dX10_isAsSeen_38 (by decide) (fun c38 => ?_) (fun c38 => ?_)
          · have c38_ := i_ne c38
            refine lv_iconst (v := 0) hx hb dX10_isAsSeen_45 (by decide) ?_
            refine lv_istore_n (lv' := [(1, .int 0), (0, .ref (am 0)), (2, .int i)]) hx hb dX10_isAsSeen_46 rfl hl (by decide) rfl (fun ls hl => ?_)
            obtain ⟨x47, e47⟩ : ∃ y : Int32, y = i + 1 := ⟨_, rfl⟩
            refine lv_iinc (v := x47) (lv' := [(2, .int x47), (1, .int 0), (0, .ref (am 0))]) hx hb dX10_isAsSeen_47 hl (k := 2) rfl (by rw [e47]; rfl) (by decide) rfl (fun ls hl => ?_)
            have t47 := i_add e47 (by omega)
            refine lv_goto (tgt := 4) hx hb dX10_isAsSeen_50 (by decide) ?_
            exact ih4 0 x47 ls (by omega) (by omega) (Or.inl (by decide)) (lv_sub hl [2, 1, 0] rfl)
          · have c38_ := i_eq c38
            refine lv_iconst (v := 1) hx hb dX10_isAsSeen_41 (by decide) ?_
            refine lv_goto (tgt := 46) hx hb dX10_isAsSeen_42 (by decide) ?_
            refine lv_istore_n (lv' := [(1, .int 1), (0, .ref (am 0)), (2, .int i)]) hx hb dX10_isAsSeen_46 rfl hl (by decide) rfl (fun ls hl => ?_)
            obtain ⟨x47, e47⟩ : ∃ y : Int32, y = i + 1 := ⟨_, rfl⟩
            refine lv_iinc (v := x47) (lv' := [(2, .int x47), (1, .int 1), (0, .ref (am 0))]) hx hb dX10_isAsSeen_47 hl (k := 2) rfl (by rw [e47]; rfl) (by decide) rfl (fun ls hl => ?_)
            have t47 := i_add e47 (by omega)
            refine lv_goto (tgt := 4) hx hb dX10_isAsSeen_50 (by decide) ?_
            exact ih4 1 x47 ls (by omega) (by omega) (Or.inr (by decide)) (lv_sub hl [2, 1, 0] rfl)
  exact K4 _ 1 0 ls (Nat.lt_succ_self _) (by omega) (Or.inr (by decide)) (lv_sub hl [2, 1, 0] rfl)
def rm_X10_codes : Room := { frames := 0, cells := 0, slots := 0, locals := 0 }
set_option maxHeartbeats 4000000 in
set_option maxRecDepth 100000 in
theorem c_X10_codes (l : Launch) (E : Ev) (A : Nat → Prop) (am : Nat → Nat) (vm : Vf) (hH : MdH vm) : Met l yX10_codes wsX10_codes rm_X10_codes (RdP E A [.ref (am 0)] (mdL E am vm)) (vp_Si (fun r => 0 ≤ r.toInt ∧ r.toInt ≤ 729)) 0 0 (fun _ => False) := by
  refine Met.ofW (cc := cX10_codes) (maxL := 1) (ret := (some .int)) (by decide) rfl ?_
  intro p e s m args below meth c s₁ B hml hv
  obtain ⟨rfl, hE, hP⟩ := hv
  have hx := B.exec
  have hb := B.bytes
  have hr := B.returns
  have hts := atoms_spec (ws := wsX10_codes) B.pre
  have hown : s.vm.findClass RX10 = some m.cls := findClass_of_methodNamed B.named
  have hlocks := B.notSynchronized
  have hK := hE.1
  have in_X10 : ∀ w ∈ u_ws RX10 TX10 79, w ∈ wsX10_codes := fun w h => List.mem_cons_of_mem _ (List.mem_append_right _ h)
  have lk0 := hts (.fieldLink RX10 16 "TidedGroundModel" "many" "[I") (List.mem_of_getElem? (i := 1) rfl)
  have n_0 : (0 : Int32).toInt = 0 := by decide
  have n_1 : (1 : Int32).toInt = 1 := by decide
  have n_2 : (2 : Int32).toInt = 2 := by decide
  have hl := lv_entry ([.ref (am 0)]) (n := 1) (Nat.le_of_ble_eq_true rfl)
  rw [lg_entry_eq]
  generalize (lg_sl ([.ref (am 0)]) ++ List.replicate (1 - (lg_sl ([.ref (am 0)])).length) Slot.unset).toArray = ls at hl ⊢
  have hl : lv_has ls 1 [(0, .ref (am 0))] := hl
  refine W_abs (fun Q hQ => ?_)
  obtain ⟨hmG, hmC, hmZ, hmM, hmA, hmS, hmT⟩ := id hH
  obtain ⟨hG1, hG2, hG3⟩ := id hmG
  obtain ⟨hC1, hC2, hC3, hC4, hC5, hC6⟩ := id hmC
  obtain ⟨hM1, hM2, hM3, hM4⟩ := id hmM
  obtain ⟨hA1, hA2, hA3, hA4, hA5⟩ := id hmA
  obtain ⟨hS1, hS2, hS3, hS4, hS5, hS6⟩ := id hmS
  obtain ⟨hT1, hT2, hT3, hT4, hT5⟩ := id hmT
  refine lv_aload_n hx hb dX10_codes_0 rfl (lv_at hl 0 rfl) ?_
  refine va_get (D := eD E) (ci := 10) (v := .ref (am 5)) (C := RX10) (T := TX10) (N := 79) hx hb hts in_X10 hown hK hP 0 rfl rfl 5 (by decide) lk0 (fun _ h9 => h9) rfl dX10_codes_1 ?_
  refine lv_iconst (v := 0) hx hb dX10_codes_4 (by decide) ?_
  refine va_iald hx hb hK hP 3 0 rfl rfl (n := 3) (f := (vm 5)) (i_in (by omega) (by omega)) dX10_codes_5 ?_
  refine lv_topi (fun x5 e5 => ?_)
  have e5 : x5 = (vm 5) 0 := e5
  have b5 := hM1 0 (by decide)
  rw [← e5] at b5
  refine lv_aload_n hx hb dX10_codes_6 rfl (lv_at hl 0 rfl) ?_
  refine va_get (D := eD E) (ci := 10) (v := .ref (am 5)) (C := RX10) (T := TX10) (N := 79) hx hb hts in_X10 hown hK hP 0 rfl rfl 5 (by decide) lk0 (fun _ h9 => h9) rfl dX10_codes_7 ?_
  refine lv_iconst (v := 1) hx hb dX10_codes_10 (by decide) ?_
  refine va_iald hx hb hK hP 3 0 rfl rfl (n := 3) (f := (vm 5)) (i_in (by omega) (by omega)) dX10_codes_11 ?_
  refine lv_topi (fun x11 e11 => ?_)
  have e11 : x11 = (vm 5) 1 := e11
  have b11 := hM1 1 (by decide)
  rw [← e11] at b11
  refine lv_imul hx hb dX10_codes_12 ?_
  refine lv_topi (fun x12 e12 => ?_)
  have t12 := i_mulc 9 e12 (by omega) (by omega) (by omega) (by omega) (by omega)
  refine lv_aload_n hx hb dX10_codes_13 rfl (lv_at hl 0 rfl) ?_
  refine va_get (D := eD E) (ci := 10) (v := .ref (am 5)) (C := RX10) (T := TX10) (N := 79) hx hb hts in_X10 hown hK hP 0 rfl rfl 5 (by decide) lk0 (fun _ h9 => h9) rfl dX10_codes_14 ?_
  refine lv_iconst (v := 2) hx hb dX10_codes_17 (by decide) ?_
  refine va_iald hx hb hK hP 3 0 rfl rfl (n := 3) (f := (vm 5)) (i_in (by omega) (by omega)) dX10_codes_18 ?_
  refine lv_topi (fun x18 e18 => ?_)
  have e18 : x18 = (vm 5) 2 := e18
  have b18 := hM1 2 (by decide)
  rw [← e18] at b18
  refine lv_imul hx hb dX10_codes_19 ?_
  refine lv_topi (fun x19 e19 => ?_)
  have t19 := i_mulc 9 e19 (by omega) (by omega) (by omega) (by omega) (by omega)
  subst hQ
  exact W.iret (v := x19) hx hb hr (fun t ht hW => ⟨x19, rfl, (by omega), ht⟩) (fun q h => absurd h List.not_mem_nil) dX10_codes_20
def rm_X10_floorOf : Room := { frames := 3, cells := 0, slots := 0, locals := 69 }
set_option maxHeartbeats 4000000 in
set_option maxRecDepth 100000 in
theorem c_X10_floorOf (l : Launch) (E : Ev) (A : Nat → Prop) (am : Nat → Nat) (vm : Vf) (h : Int32) (step : Int32) (hH : MdH vm) (hw : 1 ≤ (vm 0 0).toInt) (hq : 0 ≤ h.toInt ∧ h.toInt < (vm 16 0).toInt) (hstep : 0 ≤ step.toInt ∧ step.toInt ≤ 2000000) : Met l yX10_floorOf wsX10_floorOf rm_X10_floorOf (RdP E A [.ref (am 0), .int h, .int step] (mdL E am vm)) (vp_Si (fun r => r = mFl vm h step ∧ -342 ≤ r.toInt ∧ r.toInt ≤ 342)) 0 0 (fun _ => False) := by
  refine Met.ofW (cc := cX10_floorOf) (maxL := 3) (ret := (some .int)) (by decide) rfl ?_
  intro p e s m args below meth c s₁ B hml hv
  obtain ⟨rfl, hE, hP⟩ := hv
  have hx := B.exec
  have hb := B.bytes
  have hr := B.returns
  have hts := atoms_spec (ws := wsX10_floorOf) B.pre
  have hown : s.vm.findClass RX10 = some m.cls := findClass_of_methodNamed B.named
  have hlocks := B.notSynchronized
  have hK := hE.1
  have in_X10 : ∀ w ∈ u_ws RX10 TX10 79, w ∈ wsX10_floorOf := fun w h => List.mem_cons_of_mem _ (List.mem_append_right _ h)
  have lk0 := hts (.fieldLink RX10 43 "TidedGroundModel" "wellAt" "[I") (List.mem_of_getElem? (i := 1) rfl)
  have lk1 := hts (.fieldLink RX10 46 "TidedGroundModel" "wellDeep" "[I") (List.mem_of_getElem? (i := 2) rfl)
  have hl := lv_entry ([.ref (am 0), .int h, .int step]) (n := 3) (Nat.le_of_ble_eq_true rfl)
  rw [lg_entry_eq]
  generalize (lg_sl ([.ref (am 0), .int h, .int step]) ++ List.replicate (3 - (lg_sl ([.ref (am 0), .int h, .int step])).length) Slot.unset).toArray = ls at hl ⊢
  have hl : lv_has ls 3 [(0, .ref (am 0)), (1, .int h), (2, .int step)] := hl
  refine W_abs (fun Q hQ => ?_)
  obtain ⟨hmG, hmC, hmZ, hmM, hmA, hmS, hmT⟩ := id hH
  obtain ⟨hG1, hG2, hG3⟩ := id hmG
  obtain ⟨hC1, hC2, hC3, hC4, hC5, hC6⟩ := id hmC
  obtain ⟨hM1, hM2, hM3, hM4⟩ := id hmM
  obtain ⟨hA1, hA2, hA3, hA4, hA5⟩ := id hmA
  obtain ⟨hS1, hS2, hS3, hS4, hS5, hS6⟩ := id hmS
  obtain ⟨hT1, hT2, hT3, hT4, hT5⟩ := id hmT
  refine lv_aload_n hx hb dX10_floorOf_0 rfl (lv_at hl 0 rfl) ?_
  refine lv_aload_n hx hb dX10_floorOf_1 rfl (lv_at hl 0 rfl) ?_
  refine va_get (D := eD E) (ci := 10) (v := .ref (am 17)) (C := RX10) (T := TX10) (N := 79) hx hb hts in_X10 hown hK hP 0 rfl rfl 17 (by decide) lk0 (fun _ h9 => h9) rfl dX10_floorOf_2 ?_
  refine lv_iload_n hx hb dX10_floorOf_5 rfl (lv_at hl 1 rfl) ?_
  refine va_iald hx hb hK hP 12 0 rfl rfl (n := 5) (f := (vm 17)) (i_in (by omega) (by omega)) dX10_floorOf_6 ?_
  refine lv_topi (fun x6 e6 => ?_)
  have b6 := hA3 h.toNatClampNeg (i_natlt (by omega) (by decide))
  rw [← e6] at b6
  refine lv_iload_n hx hb dX10_floorOf_7 rfl (lv_at hl 2 rfl) ?_
  refine rd_V (As := [.int x6, .int step]) (rest := []) (C := RX10) (ci := 10) ⟨hx, hb, hml, hown, hts⟩ (c_X10_heightAt l E A am vm x6 step hH (by omega) (by omega) (by omega)) (cwV 2 hts gX10_floorOf_X10_heightAt rfl rfl rfl (by decide +kernel) ⟨Nat.le_of_ble_eq_true rfl, Nat.le_of_ble_eq_true rfl⟩) hE (hP.sub (ws' := mdL E am vm) [0, 1, 2, 3, 4, 5, 6, 7, 8, 9, 10, 11, 12, 13, 14, 15, 16, 17, 18, 19, 20, 21, 22, 23, 24, 25, 26, 27, 28, 29, 30, 31, 32, 33, 34, 35, 36, 37, 38, 39, 40, 41, 42, 43, 44, 45] rfl) rfl rfl rfl rfl hl.1 rfl (Nat.le_of_ble_eq_true rfl) dX10_floorOf_8 ⟨Nat.zero_le _, Nat.zero_le _⟩ (fun r8 h8 => ?_)
  refine lv_aload_n hx hb dX10_floorOf_11 rfl (lv_at hl 0 rfl) ?_
  refine va_get (D := eD E) (ci := 10) (v := .ref (am 18)) (C := RX10) (T := TX10) (N := 79) hx hb hts in_X10 hown hK hP 0 rfl rfl 18 (by decide) lk1 (fun _ h9 => h9) rfl dX10_floorOf_12 ?_
  refine lv_iload_n hx hb dX10_floorOf_15 rfl (lv_at hl 1 rfl) ?_
  refine va_iald hx hb hK hP 13 0 rfl rfl (n := 5) (f := (vm 18)) (i_in (by omega) (by omega)) dX10_floorOf_16 ?_
  refine lv_topi (fun x16 e16 => ?_)
  have b16 := hA5 h.toNatClampNeg (by rw [i_nat (by omega)]; omega)
  rw [← e16] at b16
  have sv17_x16 : 0 ≤ x16.toInt ∧ x16.toInt ≤ 99 := by omega
  refine lv_isub hx hb dX10_floorOf_17 ?_
  refine lv_topi (fun x17 e17 => ?_)
  have t17 := i_sub e17 (by omega)
  subst hQ
  exact W.iret (v := x17) hx hb hr (fun t ht hW => ⟨x17, rfl, ⟨(by unfold mFl; rw [e17, e16, h8.1, e6]), by omega, by omega⟩, ht⟩) (fun q h => absurd h List.not_mem_nil) dX10_floorOf_18
def rm_X10_restBy : Room := { frames := 5, cells := 0, slots := 0, locals := 122 }
set_option maxHeartbeats 4000000 in
set_option maxRecDepth 100000 in
theorem c_X10_restBy (l : Launch) (E : Ev) (A : Nat → Prop) (am : Nat → Nat) (vm : Vf) (k : Int32) (cell : Int32) (way : Int32) (step : Int32) (hH : MdH vm) (hw : 1 ≤ (vm 0 0).toInt) (hk : 0 ≤ k.toInt ∧ k.toInt ≤ 39) (hcell : 0 ≤ cell.toInt ∧ cell.toInt ≤ 23) (hstep : 0 ≤ step.toInt ∧ step.toInt ≤ 900000) : Met l yX10_restBy wsX10_restBy rm_X10_restBy (RdP E A [.ref (am 0), .int k, .int cell, .int way, .int step] (mdL E am vm)) (vp_Si (fun r => r = mRB vm k cell way step)) 0 0 (fun _ => False) := by
  refine Met.ofW (cc := cX10_restBy) (maxL := 6) (ret := (some .int)) (by decide) rfl ?_
  intro p e s m args below meth c s₁ B hml hv
  obtain ⟨rfl, hE, hP⟩ := hv
  have hx := B.exec
  have hb := B.bytes
  have hr := B.returns
  have hts := atoms_spec (ws := wsX10_restBy) B.pre
  have hown : s.vm.findClass RX10 = some m.cls := findClass_of_methodNamed B.named
  have hlocks := B.notSynchronized
  have hK := hE.1
  have in_X10 : ∀ w ∈ u_ws RX10 TX10 79, w ∈ wsX10_restBy := fun w h => List.mem_cons_of_mem _ (List.mem_append_right _ h)
  have lk0 := hts (.constant RX10 392 1000000000) (List.mem_of_getElem? (i := 2) rfl)
  have lk1 := hts (.fieldLink RX10 128 "TidedGroundModel" "rest" "[I") (List.mem_of_getElem? (i := 1) rfl)
  have n_0 : (0 : Int32).toInt = 0 := by decide
  have n_1 : (1 : Int32).toInt = 1 := by decide
  have n_24 : (24 : Int32).toInt = 24 := by decide
  have n_1000000000 : (1000000000 : Int32).toInt = 1000000000 := by decide
  have hl := lv_entry ([.ref (am 0), .int k, .int cell, .int way, .int step]) (n := 6) (Nat.le_of_ble_eq_true rfl)
  rw [lg_entry_eq]
  generalize (lg_sl ([.ref (am 0), .int k, .int cell, .int way, .int step]) ++ List.replicate (6 - (lg_sl ([.ref (am 0), .int k, .int cell, .int way, .int step])).length) Slot.unset).toArray = ls at hl ⊢
  have hl : lv_has ls 6 [(0, .ref (am 0)), (1, .int k), (2, .int cell), (3, .int way), (4, .int step)] := hl
  refine W_abs (fun Q hQ => ?_)
  obtain ⟨hmG, hmC, hmZ, hmM, hmA, hmS, hmT⟩ := id hH
  obtain ⟨hG1, hG2, hG3⟩ := id hmG
  obtain ⟨hC1, hC2, hC3, hC4, hC5, hC6⟩ := id hmC
  obtain ⟨hM1, hM2, hM3, hM4⟩ := id hmM
  obtain ⟨hA1, hA2, hA3, hA4, hA5⟩ := id hmA
  obtain ⟨hS1, hS2, hS3, hS4, hS5, hS6⟩ := id hmS
  obtain ⟨hT1, hT2, hT3, hT4, hT5⟩ := id hmT
  refine lv_aload_n hx hb dX10_restBy_0 rfl (lv_at hl 0 rfl) ?_
  refine lv_iload_n hx hb dX10_restBy_1 rfl (lv_at hl 2 rfl) ?_
  refine lv_iload_n hx hb dX10_restBy_2 rfl (lv_at hl 3 rfl) ?_
  refine lv_iload hx hb dX10_restBy_3 (lv_at hl 4 rfl) ?_
  refine lv_iload_n hx hb dX10_restBy_5 rfl (lv_at hl 1 rfl) ?_
  refine lv_iadd hx hb dX10_restBy_6 ?_
  refine lv_topi (fun x6 e6 => ?_)
  have t6 := i_add e6 (by omega)
  refine lv_iconst (v := 1) hx hb dX10_restBy_7 (by decide) ?_
  refine lv_iadd hx hb dX10_restBy_8 ?_
  refine lv_topi (fun x8 e8 => ?_)
  have t8 := i_add e8 (by omega)
  refine rd_V (As := [.int cell, .int way, .int x8]) (rest := []) (C := RX10) (ci := 10) ⟨hx, hb, hml, hown, hts⟩ (c_X10_goes l E A am vm cell way x8 hH (by omega) (by omega) (by omega)) (cwV 3 hts gX10_restBy_X10_goes rfl rfl rfl (by decide +kernel) ⟨Nat.le_of_ble_eq_true rfl, Nat.le_of_ble_eq_true rfl⟩) hE (hP.sub (ws' := mdL E am vm) [0, 1, 2, 3, 4, 5, 6, 7, 8, 9, 10, 11, 12, 13, 14, 15, 16, 17, 18, 19, 20, 21, 22, 23, 24, 25, 26, 27, 28, 29, 30, 31, 32, 33, 34, 35, 36, 37, 38, 39, 40, 41, 42, 43, 44, 45] rfl) rfl rfl rfl rfl hl.1 rfl (Nat.le_of_ble_eq_true rfl) dX10_restBy_9 ⟨Nat.zero_le _, Nat.zero_le _⟩ (fun r9 h9 => ?_)
  refine lv_istore (lv' := [(5, .int r9), (0, .ref (am 0)), (1, .int k), (2, .int cell), (3, .int way), (4, .int step)]) hx hb dX10_restBy_12 hl (by decide) rfl (fun ls hl => ?_)
  refine lv_iload hx hb dX10_restBy_14 (lv_at hl 0 rfl) ?_
  refine lv_if_lt (tgt := 39) hx hb dX10_restBy_16 (by decide) (fun c16 => ?_) (fun c16 => ?_)
  · have c16_ := i_lt c16
    refine lv_ldcw hx hb hown lk0 dX10_restBy_39 ?_
    subst hQ
    exact W.iret (v := 1000000000) hx hb hr (fun t ht hW => ⟨1000000000, rfl, (by have q8 : x8 = (step + k) + 1 := (by rw [e8, e6]); unfold mRB; rw [← q8, ← h9.1]; first | rw [if_pos c16] | (rw [if_neg c16]; have q31 : x31 = 24 * (k + 1) + r9 := (by rw [e31, e28, e27]); rw [← q31, ← e32]; first | (rw [if_pos c36]; have q56 : x56 = x32 := (by rw [e56, e55, e52, e51, e32, e31, e28, e27]); have q66 : x66 = x8 := (by rw [e66, e64, e8, e6]); rw [e70, h67.1, q56, q66]) | rw [if_neg c36])), ht⟩) (fun q h => absurd h List.not_mem_nil) dX10_restBy_42
  · have c16_ := i_nlt c16
    have sv19_r9 : 0 ≤ r9.toInt ∧ r9.toInt ≤ 23 := by omega
    refine lv_aload_n hx hb dX10_restBy_19 rfl (lv_at hl 1 rfl) ?_
    refine va_get (D := eD E) (ci := 10) (v := .ref (am 63)) (C := RX10) (T := TX10) (N := 79) hx hb hts in_X10 hown hK hP 0 rfl rfl 63 (by decide) lk1 (fun _ h9 => h9) rfl dX10_restBy_20 ?_
    refine lv_bipush (v := 24) hx hb dX10_restBy_23 (by decide) ?_
    refine lv_iload_n hx hb dX10_restBy_25 rfl (lv_at hl 2 rfl) ?_
    refine lv_iconst (v := 1) hx hb dX10_restBy_26 (by decide) ?_
    refine lv_iadd hx hb dX10_restBy_27 ?_
    refine lv_topi (fun x27 e27 => ?_)
    have t27 := i_add e27 (by omega)
    refine lv_imul hx hb dX10_restBy_28 ?_
    refine lv_topi (fun x28 e28 => ?_)
    have t28 := i_mul e28 (by rw [n_24]; omega)
    rw [n_24] at t28
    refine lv_iload hx hb dX10_restBy_29 (lv_at hl 0 rfl) ?_
    refine lv_iadd hx hb dX10_restBy_31 ?_
    refine lv_topi (fun x31 e31 => ?_)
    have t31 := i_add e31 (by omega)
    refine va_iald hx hb hK hP 36 0 rfl rfl (n := 984) (f := (vm 63)) (i_in (by omega) (by omega)) dX10_restBy_32 ?_
    refine lv_topi (fun x32 e32 => ?_)
    refine lv_ldcw hx hb hown lk0 dX10_restBy_33 ?_
    refine lv_icmp_lt (tgt := 43) hx hb dX10_restBy_36 (by decide) (fun c36 => ?_) (fun c36 => ?_)
    · have c36_ := i_lt c36
      refine lv_aload_n hx hb dX10_restBy_43 rfl (lv_at hl 1 rfl) ?_
      refine va_get (D := eD E) (ci := 10) (v := .ref (am 63)) (C := RX10) (T := TX10) (N := 79) hx hb hts in_X10 hown hK hP 0 rfl rfl 63 (by decide) lk1 (fun _ h9 => h9) rfl dX10_restBy_44 ?_
      refine lv_bipush (v := 24) hx hb dX10_restBy_47 (by decide) ?_
      refine lv_iload_n hx hb dX10_restBy_49 rfl (lv_at hl 2 rfl) ?_
      refine lv_iconst (v := 1) hx hb dX10_restBy_50 (by decide) ?_
      refine lv_iadd hx hb dX10_restBy_51 ?_
      refine lv_topi (fun x51 e51 => ?_)
      have t51 := i_add e51 (by omega)
      refine lv_imul hx hb dX10_restBy_52 ?_
      refine lv_topi (fun x52 e52 => ?_)
      have t52 := i_mul e52 (by rw [n_24]; omega)
      rw [n_24] at t52
      refine lv_iload hx hb dX10_restBy_53 (lv_at hl 0 rfl) ?_
      refine lv_iadd hx hb dX10_restBy_55 ?_
      refine lv_topi (fun x55 e55 => ?_)
      have t55 := i_add e55 (by omega)
      refine va_iald hx hb hK hP 36 0 rfl rfl (n := 984) (f := (vm 63)) (i_in (by omega) (by omega)) dX10_restBy_56 ?_
      refine lv_topi (fun x56 e56 => ?_)
      refine lv_aload_n hx hb dX10_restBy_57 rfl (lv_at hl 1 rfl) ?_
      refine lv_iload_n hx hb dX10_restBy_58 rfl (lv_at hl 3 rfl) ?_
      refine lv_iload hx hb dX10_restBy_59 (lv_at hl 0 rfl) ?_
      refine lv_iload hx hb dX10_restBy_61 (lv_at hl 5 rfl) ?_
      refine lv_iload_n hx hb dX10_restBy_63 rfl (lv_at hl 2 rfl) ?_
      refine lv_iadd hx hb dX10_restBy_64 ?_
      refine lv_topi (fun x64 e64 => ?_)
      have t64 := i_add e64 (by omega)
      refine lv_iconst (v := 1) hx hb dX10_restBy_65 (by decide) ?_
      refine lv_iadd hx hb dX10_restBy_66 ?_
      refine lv_topi (fun x66 e66 => ?_)
      have t66 := i_add e66 (by omega)
      refine rd_V (As := [.int cell, .int r9, .int x66]) (rest := [.int x56]) (C := RX10) (ci := 10) ⟨hx, hb, hml, hown, hts⟩ (c_X10_costOf l E A am vm cell r9 x66 hH (by omega) (by omega) (by omega) (by omega)) (cwV 3 hts gX10_restBy_X10_costOf rfl rfl rfl (by decide +kernel) ⟨Nat.le_of_ble_eq_true rfl, Nat.le_of_ble_eq_true rfl⟩) hE (hP.sub (ws' := mdL E am vm) [0, 1, 2, 3, 4, 5, 6, 7, 8, 9, 10, 11, 12, 13, 14, 15, 16, 17, 18, 19, 20, 21, 22, 23, 24, 25, 26, 27, 28, 29, 30, 31, 32, 33, 34, 35, 36, 37, 38, 39, 40, 41, 42, 43, 44, 45] rfl) rfl rfl rfl rfl hl.1 rfl (Nat.le_of_ble_eq_true rfl) dX10_restBy_67 ⟨Nat.zero_le _, Nat.zero_le _⟩ (fun r67 h67 => ?_)
      refine lv_iadd hx hb dX10_restBy_70 ?_
      refine lv_topi (fun x70 e70 => ?_)
      subst hQ
      exact W.iret (v := x70) hx hb hr (fun t ht hW => ⟨x70, rfl, (by have q8 : x8 = (step + k) + 1 := (by rw [e8, e6]); unfold mRB; rw [← q8, ← h9.1]; first | rw [if_pos c16] | (rw [if_neg c16]; have q31 : x31 = 24 * (k + 1) + r9 := (by rw [e31, e28, e27]); rw [← q31, ← e32]; first | (rw [if_pos c36]; have q56 : x56 = x32 := (by rw [e56, e55, e52, e51, e32, e31, e28, e27]); have q66 : x66 = x8 := (by rw [e66, e64, e8, e6]); rw [e70, h67.1, q56, q66]) | rw [if_neg c36])), ht⟩) (fun q h => absurd h List.not_mem_nil) dX10_restBy_71
    · have c36_ := i_nlt c36
      refine lv_ldcw hx hb hown lk0 dX10_restBy_39 ?_
      subst hQ
      exact W.iret (v := 1000000000) hx hb hr (fun t ht hW => ⟨1000000000, rfl, (by have q8 : x8 = (step + k) + 1 := (by rw [e8, e6]); unfold mRB; rw [← q8, ← h9.1]; first | rw [if_pos c16] | (rw [if_neg c16]; have q31 : x31 = 24 * (k + 1) + r9 := (by rw [e31, e28, e27]); rw [← q31, ← e32]; first | (rw [if_pos c36]; have q56 : x56 = x32 := (by rw [e56, e55, e52, e51, e32, e31, e28, e27]); have q66 : x66 = x8 := (by rw [e66, e64, e8, e6]); rw [e70, h67.1, q56, q66]) | rw [if_neg c36])), ht⟩) (fun q h => absurd h List.not_mem_nil) dX10_restBy_42
