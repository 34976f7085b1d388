def rm_X10_keep : Room := { frames := 1, cells := 0, slots := 0, locals := 25 }
set_option maxHeartbeats 4000000 in
set_option maxRecDepth 100000 in
theorem c_X10_keep (l : Launch) (E : Ev) (sz : Nat) (am : Nat → Nat) (vm : Vf) (i : Int32) (hMI : MdI vm) : Met l yX10_keep wsX10_keep rm_X10_keep (MtP E sz [.ref (am 0), .int i] (mdL E am vm)) (va_Qi (fun (r : Int32) (u : Vf) => ((MdI u ∧ ((r.toInt = -1000000001 ∧ (i.toInt < 0 ∨ 1 < i.toInt)) ∨ (r.toInt = 1 ∧ 0 ≤ i.toInt ∧ i.toInt ≤ 1))) ∧ fr [77, 78] vm u) ∧ (KeepM i vm u)) (MtB E (va_A (mdL E am vm) sz) (fun u => mdL E am u)) (va_A (mdL E am vm) sz)) 0 0 (va_A (mdL E am vm) sz) := by
  refine Met.ofW (cc := cX10_keep) (maxL := 4) (ret := (some .int)) (by decide) rfl ?_
  intro p e s m args below meth c s₁ B hml hv
  obtain ⟨rfl, hsz, hE, hP, hD0⟩ := hv
  subst hsz
  have hD := hD0.self (sz := s.heap.size)
  generalize hAe : va_A (mdL E am vm) s.heap.size = A at hD hE ⊢
  have hA : ∀ q : Nat, s.heap.size ≤ q → A q := fun q h => by rw [← hAe]; exact Or.inr h
  have hS : va_S A s.heap s.heap [] := va_S.rf
  have hx := B.exec
  have hb := B.bytes
  have hr := B.returns
  have hts := atoms_spec (ws := wsX10_keep) B.pre
  have hown : s.vm.findClass RX10 = some m.cls := findClass_of_methodNamed B.named
  have hlocks := B.notSynchronized
  have hK := hE.1
  have in_X10 : ∀ w ∈ u_ws RX10 TX10 79, w ∈ wsX10_keep := fun w h => List.mem_cons_of_mem _ (List.mem_append_right _ h)
  have lk0 := hts (.fieldLink RX10 152 "TidedGroundModel" "images" "[I") (List.mem_of_getElem? (i := 2) rfl)
  have lk1 := hts (.fieldLink RX10 291 "TidedGroundModel" "step" "I") (List.mem_of_getElem? (i := 6) rfl)
  have lk2 := hts (.fieldLink RX10 294 "TidedGroundModel" "cart" "I") (List.mem_of_getElem? (i := 7) rfl)
  have lk3 := hts (.fieldLink RX10 297 "TidedGroundModel" "pushed" "I") (List.mem_of_getElem? (i := 8) rfl)
  have lk4 := hts (.fieldLink RX10 68 "TidedGroundModel" "steep" "I") (List.mem_of_getElem? (i := 9) rfl)
  have lk5 := hts (.fieldLink RX10 376 "TidedGroundModel" "seed" "I") (List.mem_of_getElem? (i := 10) rfl)
  have lk6 := hts (.fieldLink RX10 155 "TidedGroundModel" "isKept" "[Z") (List.mem_of_getElem? (i := 11) rfl)
  have lk7 := hts (.fieldLink RX10 59 "TidedGroundModel" "shift" "[I") (List.mem_of_getElem? (i := 5) rfl)
  have lk8 := hts (.fieldLink RX10 65 "TidedGroundModel" "props" "[I") (List.mem_of_getElem? (i := 4) rfl)
  have lk9 := hts (.fieldLink RX10 62 "TidedGroundModel" "load" "[I") (List.mem_of_getElem? (i := 3) rfl)
  have lk10 := hts (.constant RX10 329 (-1000000001)) (List.mem_of_getElem? (i := 1) rfl)
  have n_m1000000001 : ((-1000000001) : Int32).toInt = -1000000001 := by decide
  have n_0 : (0 : Int32).toInt = 0 := by decide
  have n_1 : (1 : Int32).toInt = 1 := by decide
  have n_3 : (3 : Int32).toInt = 3 := by decide
  have n_6 : (6 : Int32).toInt = 6 := by decide
  have n_24 : (24 : Int32).toInt = 24 := by decide
  have n_30 : (30 : Int32).toInt = 30 := by decide
  have n_33 : (33 : Int32).toInt = 33 := by decide
  have n_34 : (34 : Int32).toInt = 34 := by decide
  have n_35 : (35 : Int32).toInt = 35 := by decide
  have n_36 : (36 : Int32).toInt = 36 := by decide
  have n_37 : (37 : Int32).toInt = 37 := by decide
  have n_40 : (40 : Int32).toInt = 40 := by decide
  have n_64 : (64 : Int32).toInt = 64 := by decide
  have n_70 : (70 : Int32).toInt = 70 := by decide
  have n_73 : (73 : Int32).toInt = 73 := by decide
  have n_74 : (74 : Int32).toInt = 74 := by decide
  have n_75 : (75 : Int32).toInt = 75 := by decide
  have n_76 : (76 : Int32).toInt = 76 := by decide
  have n_77 : (77 : Int32).toInt = 77 := by decide
  have hl := lv_entry ([.ref (am 0), .int i]) (n := 4) (Nat.le_of_ble_eq_true rfl)
  rw [lg_entry_eq]
  generalize (lg_sl ([.ref (am 0), .int i]) ++ List.replicate (4 - (lg_sl ([.ref (am 0), .int i])).length) Slot.unset).toArray = ls at hl ⊢
  have hl : lv_has ls 4 [(0, .ref (am 0)), (1, .int i)] := hl
  refine W_abs (fun Q hQ => ?_)
  have hH := hMI.1
  obtain ⟨hmG, hmC, hmZ, hmM, hmA, hmS, hmT⟩ := id hH
  obtain ⟨hG1, hG2, hG3⟩ := id hmG
  obtain ⟨hC1, hC2, hC3, hC4, hC5, hC6⟩ := id hmC
  obtain ⟨hM1, hM2, hM3, hM4⟩ := id hmM
  obtain ⟨hA1, hA2, hA3, hA4, hA5⟩ := id hmA
  obtain ⟨hS1, hS2, hS3, hS4, hS5, hS6⟩ := id hmS
  obtain ⟨hT1, hT2, hT3, hT4, hT5⟩ := id hmT
  have hFz : fr [77, 78] vm vm := fr.rf
  refine lv_iload_n hx hb dX10_keep_0 rfl (lv_at hl 1 rfl) ?_
  refine lv_i2l hx hb dX10_keep_1 rfl ?_
  refine lv_lconst (v := 0) hx hb dX10_keep_2 (by decide) ?_
  refine lv_lconst (v := 1) hx hb dX10_keep_3 (by decide) ?_
  have lt4_0 : (i.toInt64).toInt = i.toInt := Int32.toInt_toInt64 _
  have lt4_1 : (0 : Int64).toInt = 0 := by decide
  have lt4_2 : (1 : Int64).toInt = 1 := by decide
  refine rd_S (As := [.long i.toInt64, .long 0, .long 1]) (rest := []) ⟨hx, hb, hml, hown, hts⟩ (c_X10_in l E A i.toInt64 0 1) (va_cwS 3 hts gX10_keep_X10_in rfl rfl rfl (by decide +kernel) ⟨Nat.le_of_ble_eq_true rfl, Nat.le_of_ble_eq_true rfl⟩) (hE.kept hS.2.1) (hP.sub (ws' := []) [] rfl) rfl hl.1 rfl (Nat.le_of_ble_eq_true rfl) dX10_keep_4 ⟨Nat.zero_le _, Nat.zero_le _⟩ (fun r4 h4 => ?_)
  refine lv_if_ne (tgt := 14) hx hb dX10_keep_7 (by decide) (fun c7 => ?_) (fun c7 => ?_)
  · have c7_ := i_ne c7
    replace h4 := or_y h4 c7_
    clear c7_
    rcases (show i = 0 ∨ i = 1 from i_c2 (by omega) (by omega)) with rfl | rfl
    · refine lv_bipush (v := 40) hx hb dX10_keep_14 (by decide) ?_
      refine lv_iload_n hx hb dX10_keep_16 rfl (lv_at hl 1 rfl) ?_
      refine lv_imul hx hb dX10_keep_17 ?_
      refine W.eq (g2 := F0 m 18 ls [.int 0]) rfl ?_
      refine lv_istore_n (lv' := [(2, .int 0), (0, .ref (am 0)), (1, .int 0)]) hx hb dX10_keep_18 rfl hl (by decide) rfl (fun ls hl => ?_)
      refine lv_iconst (v := 0) hx hb dX10_keep_19 (by decide) ?_
      refine lv_istore_n (lv' := [(3, .int 0), (2, .int 0), (0, .ref (am 0)), (1, .int 0)]) hx hb dX10_keep_20 rfl hl (by decide) rfl (fun ls hl => ?_)
      have K21 : ∀ (μ : Nat) (q0 : Int32) (va : Vf) (H : Heap) (locs : List Loc) (ls : Array Slot), (24 - q0.toInt).toNat < μ → va_P (eD E) vwCl (mdL E am va) H → va_D A (mdL E am va) → va_S A s.heap H locs → (0 ≤ q0.toInt ∧ q0.toInt ≤ 24) → (MdI va) → (fr [77, 78] vm va) → (∀ j : Nat, (j : Int) < q0.toInt → va 77 (0 + j) = vm 25 j) → (imO 0 (vm 77) (va 77)) → (va 78 = vm 78) → lv_has ls 4 [(0, .ref (am 0)), (1, .int 0), (2, .int 0), (3, .int q0)] → W p l e (headSpec wsX10_keep rm_X10_keep).room s m ([.ref (am 0), .int (0 : Int32)] : List Value).toArray below meth c H locs 0 0 Q (F0 m 21 ls []) := by
        intro μ
        induction μ with
        | zero =>
          intro q0 va H locs ls hμ21
          exact absurd hμ21 (Nat.not_lt_zero _)
        | succ μ ih21 =>
          intro q0 va H locs ls hμ21 hP hD hS h21_0 h21_1 h21_2 h21_3 h21_4 h21_5 hl
          have hx21_0 := h21_3
          clear h21_3
          have hx21_1 := h21_4
          clear h21_4
          have hx21_2 := h21_5
          clear h21_5
          have hMI := h21_1
          try clear hmZ
          try clear hM2
          try clear hA4
          have hH := hMI.1
          obtain ⟨hmG, hmC, hmZ, hmM, hmA, hmS, hmT⟩ := id hH
          obtain ⟨hG1, hG2, hG3⟩ := id hmG
          obtain ⟨hC1, hC2, hC3, hC4, hC5, hC6⟩ := id hmC
          obtain ⟨hM1, hM2, hM3, hM4⟩ := id hmM
          obtain ⟨hA1, hA2, hA3, hA4, hA5⟩ := id hmA
          obtain ⟨hS1, hS2, hS3, hS4, hS5, hS6⟩ := id hmS
          obtain ⟨hT1, hT2, hT3, hT4, hT5⟩ := id hmT
          have hFz := h21_2
          have hFz0 := hFz
          refine lv_iload_n hx hb dX10_keep_21 rfl (lv_at hl 3 rfl) ?_
          refine lv_bipush (v := 24) hx hb dX10_keep_22 (by decide) ?_
          refine lv_icmp_ge (tgt := 47) hx hb dX10_keep_24 (by decide) (fun c24 => ?_) (fun c24 => ?_)
          · have c24_ := i_le c24
            refine lv_iconst (v := 0) hx hb dX10_keep_47 (by decide) ?_
            refine lv_istore_n (lv' := [(3, .int 0), (0, .ref (am 0)), (1, .int 0), (2, .int 0)]) hx hb dX10_keep_48 rfl hl (by decide) rfl (fun ls hl => ?_)
            have K49 : ∀ (μ : Nat) (h : Int32) (vb : Vf) (H : Heap) (locs : List Loc) (ls : Array Slot), (6 - h.toInt).toNat < μ → va_P (eD E) vwCl (mdL E am vb) H → va_D A (mdL E am vb) → va_S A s.heap H locs → (0 ≤ h.toInt ∧ h.toInt ≤ 6) → (MdI vb) → (fr [77, 78] vm vb) → (∀ j : Nat, (j : Int) < h.toInt → vb 77 (24 + j) = vm 26 j) → (∀ j, j < 24 → vb 77 (0 + j) = vm 25 j) → (imO 0 (vm 77) (vb 77)) → (vb 78 = vm 78) → lv_has ls 4 [(0, .ref (am 0)), (1, .int 0), (2, .int 0), (3, .int h)] → W p l e (headSpec wsX10_keep rm_X10_keep).room s m ([.ref (am 0), .int (0 : Int32)] : List Value).toArray below meth c H locs 0 0 Q (F0 m 49 ls []) := by
              intro μ
              induction μ with
              | zero =>
                intro h vb H locs ls hμ49
                exact absurd hμ49 (Nat.not_lt_zero _)
              | succ μ ih49 =>
                intro h vb H locs ls hμ49 hP hD hS h49_0 h49_1 h49_2 h49_3 h49_4 h49_5 h49_6 hl
                have hx49_0 := h49_3
                clear h49_3
                have hx49_1 := h49_4
                clear h49_4
                have hx49_2 := h49_5
                clear h49_5
                have hx49_3 := h49_6
                clear h49_6
                have hMI := h49_1
                try clear hmZ
                try clear hM2
                try clear hA4
                have hH := hMI.1
                obtain ⟨hmG, hmC, hmZ, hmM, hmA, hmS, hmT⟩ := id hH
                obtain ⟨hG1, hG2, hG3⟩ := id hmG
                obtain ⟨hC1, hC2, hC3, hC4, hC5, hC6⟩ := id hmC
                obtain ⟨hM1, hM2, hM3, hM4⟩ := id hmM
                obtain ⟨hA1, hA2, hA3, hA4, hA5⟩ := id hmA
                obtain ⟨hS1, hS2, hS3, hS4, hS5, hS6⟩ := id hmS
                obtain ⟨hT1, hT2, hT3, hT4, hT5⟩ := id hmT
                have hFz := h49_2
                have hFz0 := hFz
                refine lv_iload_n hx hb dX10_keep_49 rfl (lv_at hl 3 rfl) ?_
                refine lv_bipush (v := 6) hx hb dX10_keep_50 (by decide) ?_
                refine lv_icmp_ge (tgt := 78) hx hb dX10_keep_52 (by decide) (fun c52 => ?_) (fun c52 => ?_)
                · have c52_ := i_le c52
                  refine lv_iconst (v := 0) hx hb dX10_keep_78 (by decide) ?_
                  refine lv_istore_n (lv' := [(3, .int 0), (0, .ref (am 0)), (1, .int 0), (2, .int 0)]) hx hb dX10_keep_79 rfl hl (by decide) rfl (fun ls hl => ?_)
                  have K80 : ∀ (μ : Nat) (k : Int32) (vc : Vf) (H : Heap) (locs : List Loc) (ls : Array Slot), (3 - k.toInt).toNat < μ → va_P (eD E) vwCl (mdL E am vc) H → va_D A (mdL E am vc) → va_S A s.heap H locs → (0 ≤ k.toInt ∧ k.toInt ≤ 3) → (MdI vc) → (fr [77, 78] vm vc) → (∀ j, j < 24 → vc 77 (0 + j) = vm 25 j) → (∀ j, j < 6 → vc 77 (24 + j) = vm 26 j) → (∀ j : Nat, (j : Int) < k.toInt → vc 77 (30 + j) = vm 24 j) → (imO 0 (vm 77) (vc 77)) → (vc 78 = vm 78) → lv_has ls 4 [(0, .ref (am 0)), (1, .int 0), (2, .int 0), (3, .int k)] → W p l e (headSpec wsX10_keep rm_X10_keep).room s m ([.ref (am 0), .int (0 : Int32)] : List Value).toArray below meth c H locs 0 0 Q (F0 m 80 ls []) := by
                    intro μ
                    induction μ with
                    | zero =>
                      intro k vc H locs ls hμ80
                      exact absurd hμ80 (Nat.not_lt_zero _)
                    | succ μ ih80 =>
                      intro k vc H locs ls hμ80 hP hD hS h80_0 h80_1 h80_2 h80_3 h80_4 h80_5 h80_6 h80_7 hl
                      have hx80_0 := h80_3
                      clear h80_3
                      have hx80_1 := h80_4
                      clear h80_4
                      have hx80_2 := h80_5
                      clear h80_5
                      have hx80_3 := h80_6
                      clear h80_6
                      have hx80_4 := h80_7
                      clear h80_7
                      have hMI := h80_1
                      try clear hmZ
                      try clear hM2
                      try clear hA4
                      have hH := hMI.1
                      obtain ⟨hmG, hmC, hmZ, hmM, hmA, hmS, hmT⟩ := id hH
                      obtain ⟨hG1, hG2, hG3⟩ := id hmG
                      obtain ⟨hC1, hC2, hC3, hC4, hC5, hC6⟩ := id hmC
                      obtain ⟨hM1, hM2, hM3, hM4⟩ := id hmM
                      obtain ⟨hA1, hA2, hA3, hA4, hA5⟩ := id hmA
                      obtain ⟨hS1, hS2, hS3, hS4, hS5, hS6⟩ := id hmS
                      obtain ⟨hT1, hT2, hT3, hT4, hT5⟩ := id hmT
                      have hFz := h80_2
                      have hFz0 := hFz
                      refine lv_iload_n hx hb dX10_keep_80 rfl (lv_at hl 3 rfl) ?_
                      refine lv_iconst (v := 3) hx hb dX10_keep_81 (by decide) ?_
                      refine lv_icmp_ge (tgt := 108) hx hb dX10_keep_82 (by decide) (fun c82 => ?_) (fun c82 => ?_)
                      · have c82_ := i_le c82
                        have hw23 : vc 23 0 = vm 23 0 := by rw [hFz 23 (by decide)]
                        have hw27 : vc 27 0 = vm 27 0 := by rw [hFz 27 (by decide)]
                        have hw28 : vc 28 0 = vm 28 0 := by rw [hFz 28 (by decide)]
                        have hw29 : vc 29 0 = vm 29 0 := by rw [hFz 29 (by decide)]
                        have hw30 : vc 30 0 = vm 30 0 := by rw [hFz 30 (by decide)]
                        have hF80 := hx80_4
                        refine lv_aload_n hx hb dX10_keep_108 rfl (lv_at hl 0 rfl) ?_
                        refine va_get (D := eD E) (ci := 10) (v := .ref (am 77)) (C := RX10) (T := TX10) (N := 79) hx hb hts in_X10 hown hK hP 0 rfl rfl 77 (by decide) lk0 (fun _ h9 => h9) rfl dX10_keep_109 ?_
                        refine lv_iload_n hx hb dX10_keep_112 rfl (lv_at hl 2 rfl) ?_
                        refine lv_bipush (v := 33) hx hb dX10_keep_113 (by decide) ?_
                        refine lv_iadd hx hb dX10_keep_115 ?_
                        refine W.eq (g2 := F0 m 116 ls [.int 33, .ref (am 77)]) rfl ?_
                        refine lv_aload_n hx hb dX10_keep_116 rfl (lv_at hl 0 rfl) ?_
                        refine va_get (D := eD E) (ci := 10) (v := .int (vc 23 0)) (C := RX10) (T := TX10) (N := 79) hx hb hts in_X10 hown hK hP 0 rfl rfl 23 (by decide) lk1 (fun _ h9 => h9) rfl dX10_keep_117 ?_
                        refine va_iast hx hb hK hP hD hS 44 0 rfl rfl (n := 80) (f := (vc 77)) (i_in (by omega) (by omega)) dX10_keep_120 (fun H locs hP hD hS => ?_)
                        replace hP : va_P (eD E) vwCl (mdL E am (up2 vc 77 33 (vc 23 0))) H := hP
                        replace hD : va_D A (mdL E am (up2 vc 77 33 (vc 23 0))) := hD
                        generalize hv120 : up2 vc 77 33 (vc 23 0) = vm_120 at hP hD
                        have hFz : fr [77, 78] vm vm_120 := by first | exact hFz | (rw [← hv120]; exact hFz.up (by decide))
                        have hMI : MdI vm_120 := by rw [← hv120]; exact md_im hMI (im_upd hMI.2.2.1 (fun c hc q => by omega) (fun c hc q => by omega) (fun q => by omega) (fun q => by omega) (fun q => by omega) (fun q => by omega)) (im_upd hMI.2.2.2.1 (fun c hc q => by omega) (fun c hc q => by omega) (fun q => by omega) (fun q => by omega) (fun q => by omega) (fun q => by omega))
                        try clear hmZ
                        try clear hM2
                        try clear hA4
                        have hH := hMI.1
                        obtain ⟨hmG, hmC, hmZ, hmM, hmA, hmS, hmT⟩ := id hH
                        obtain ⟨hG1, hG2, hG3⟩ := id hmG
                        obtain ⟨hC1, hC2, hC3, hC4, hC5, hC6⟩ := id hmC
                        obtain ⟨hM1, hM2, hM3, hM4⟩ := id hmM
                        obtain ⟨hA1, hA2, hA3, hA4, hA5⟩ := id hmA
                        obtain ⟨hS1, hS2, hS3, hS4, hS5, hS6⟩ := id hmS
                        obtain ⟨hT1, hT2, hT3, hT4, hT5⟩ := id hmT
                        refine lv_aload_n hx hb dX10_keep_121 rfl (lv_at hl 0 rfl) ?_
                        refine va_get (D := eD E) (ci := 10) (v := .ref (am 77)) (C := RX10) (T := TX10) (N := 79) hx hb hts in_X10 hown hK hP 0 rfl rfl 77 (by decide) lk0 (fun _ h9 => h9) rfl dX10_keep_122 ?_
                        refine lv_iload_n hx hb dX10_keep_125 rfl (lv_at hl 2 rfl) ?_
                        refine lv_bipush (v := 34) hx hb dX10_keep_126 (by decide) ?_
                        refine lv_iadd hx hb dX10_keep_128 ?_
                        refine W.eq (g2 := F0 m 129 ls [.int 34, .ref (am 77)]) rfl ?_
                        refine lv_aload_n hx hb dX10_keep_129 rfl (lv_at hl 0 rfl) ?_
                        refine va_get (D := eD E) (ci := 10) (v := .int (vm_120 27 0)) (C := RX10) (T := TX10) (N := 79) hx hb hts in_X10 hown hK hP 0 rfl rfl 27 (by decide) lk2 (fun _ h9 => h9) rfl dX10_keep_130 ?_
                        refine va_iast hx hb hK hP hD hS 44 0 rfl rfl (n := 80) (f := (vm_120 77)) (i_in (by omega) (by omega)) dX10_keep_133 (fun H locs hP hD hS => ?_)
                        replace hP : va_P (eD E) vwCl (mdL E am (up2 vm_120 77 34 (vm_120 27 0))) H := hP
                        replace hD : va_D A (mdL E am (up2 vm_120 77 34 (vm_120 27 0))) := hD
                        generalize hv133 : up2 vm_120 77 34 (vm_120 27 0) = vm_133 at hP hD
                        have hFz : fr [77, 78] vm vm_133 := by first | exact hFz | (rw [← hv133]; exact hFz.up (by decide))
                        have hMI : MdI vm_133 := by rw [← hv133]; exact md_im hMI (im_upd hMI.2.2.1 (fun c hc q => by omega) (fun c hc q => by omega) (fun q => by omega) (fun q => by omega) (fun q => by omega) (fun q => by omega)) (im_upd hMI.2.2.2.1 (fun c hc q => by omega) (fun c hc q => by omega) (fun q => by omega) (fun q => by omega) (fun q => by omega) (fun q => by omega))
                        try clear hmZ
                        try clear hM2
                        try clear hA4
                        have hH := hMI.1
                        obtain ⟨hmG, hmC, hmZ, hmM, hmA, hmS, hmT⟩ := id hH
                        obtain ⟨hG1, hG2, hG3⟩ := id hmG
                        obtain ⟨hC1, hC2, hC3, hC4, hC5, hC6⟩ := id hmC
                        obtain ⟨hM1, hM2, hM3, hM4⟩ := id hmM
                        obtain ⟨hA1, hA2, hA3, hA4, hA5⟩ := id hmA
                        obtain ⟨hS1, hS2, hS3, hS4, hS5, hS6⟩ := id hmS
                        obtain ⟨hT1, hT2, hT3, hT4, hT5⟩ := id hmT
                        refine lv_aload_n hx hb dX10_keep_134 rfl (lv_at hl 0 rfl) ?_
                        refine va_get (D := eD E) (ci := 10) (v := .ref (am 77)) (C := RX10) (T := TX10) (N := 79) hx hb hts in_X10 hown hK hP 0 rfl rfl 77 (by decide) lk0 (fun _ h9 => h9) rfl dX10_keep_135 ?_
                        refine lv_iload_n hx hb dX10_keep_138 rfl (lv_at hl 2 rfl) ?_
                        refine lv_bipush (v := 35) hx hb dX10_keep_139 (by decide) ?_
                        refine lv_iadd hx hb dX10_keep_141 ?_
                        refine W.eq (g2 := F0 m 142 ls [.int 35, .ref (am 77)]) rfl ?_
                        refine lv_aload_n hx hb dX10_keep_142 rfl (lv_at hl 0 rfl) ?_
                        refine va_get (D := eD E) (ci := 10) (v := .int (vm_133 28 0)) (C := RX10) (T := TX10) (N := 79) hx hb hts in_X10 hown hK hP 0 rfl rfl 28 (by decide) lk3 (fun _ h9 => h9) rfl dX10_keep_143 ?_
                        refine va_iast hx hb hK hP hD hS 44 0 rfl rfl (n := 80) (f := (vm_133 77)) (i_in (by omega) (by omega)) dX10_keep_146 (fun H locs hP hD hS => ?_)
                        replace hP : va_P (eD E) vwCl (mdL E am (up2 vm_133 77 35 (vm_133 28 0))) H := hP
                        replace hD : va_D A (mdL E am (up2 vm_133 77 35 (vm_133 28 0))) := hD
                        generalize hv146 : up2 vm_133 77 35 (vm_133 28 0) = vm_146 at hP hD
                        have hFz : fr [77, 78] vm vm_146 := by first | exact hFz | (rw [← hv146]; exact hFz.up (by decide))
                        have hMI : MdI vm_146 := by rw [← hv146]; exact md_im hMI (im_upd hMI.2.2.1 (fun c hc q => by omega) (fun c hc q => by omega) (fun q => by omega) (fun q => by omega) (fun q => by omega) (fun q => by omega)) (im_upd hMI.2.2.2.1 (fun c hc q => by omega) (fun c hc q => by omega) (fun q => by omega) (fun q => by omega) (fun q => by omega) (fun q => by omega))
                        try clear hmZ
                        try clear hM2
                        try clear hA4
                        have hH := hMI.1
                        obtain ⟨hmG, hmC, hmZ, hmM, hmA, hmS, hmT⟩ := id hH
                        obtain ⟨hG1, hG2, hG3⟩ := id hmG
                        obtain ⟨hC1, hC2, hC3, hC4, hC5, hC6⟩ := id hmC
                        obtain ⟨hM1, hM2, hM3, hM4⟩ := id hmM
                        obtain ⟨hA1, hA2, hA3, hA4, hA5⟩ := id hmA
                        obtain ⟨hS1, hS2, hS3, hS4, hS5, hS6⟩ := id hmS
                        obtain ⟨hT1, hT2, hT3, hT4, hT5⟩ := id hmT
                        refine lv_aload_n hx hb dX10_keep_147 rfl (lv_at hl 0 rfl) ?_
                        refine va_get (D := eD E) (ci := 10) (v := .ref (am 77)) (C := RX10) (T := TX10) (N := 79) hx hb hts in_X10 hown hK hP 0 rfl rfl 77 (by decide) lk0 (fun _ h9 => h9) rfl dX10_keep_148 ?_
                        refine lv_iload_n hx hb dX10_keep_151 rfl (lv_at hl 2 rfl) ?_
                        refine lv_bipush (v := 36) hx hb dX10_keep_152 (by decide) ?_
                        refine lv_iadd hx hb dX10_keep_154 ?_
                        refine W.eq (g2 := F0 m 155 ls [.int 36, .ref (am 77)]) rfl ?_
                        refine lv_aload_n hx hb dX10_keep_155 rfl (lv_at hl 0 rfl) ?_
                        refine va_get (D := eD E) (ci := 10) (v := .int (vm_146 29 0)) (C := RX10) (T := TX10) (N := 79) hx hb hts in_X10 hown hK hP 0 rfl rfl 29 (by decide) lk4 (fun _ h9 => h9) rfl dX10_keep_156 ?_
                        refine va_iast hx hb hK hP hD hS 44 0 rfl rfl (n := 80) (f := (vm_146 77)) (i_in (by omega) (by omega)) dX10_keep_159 (fun H locs hP hD hS => ?_)
                        replace hP : va_P (eD E) vwCl (mdL E am (up2 vm_146 77 36 (vm_146 29 0))) H := hP
                        replace hD : va_D A (mdL E am (up2 vm_146 77 36 (vm_146 29 0))) := hD
                        generalize hv159 : up2 vm_146 77 36 (vm_146 29 0) = vm_159 at hP hD
                        have hFz : fr [77, 78] vm vm_159 := by first | exact hFz | (rw [← hv159]; exact hFz.up (by decide))
                        have hMI : MdI vm_159 := by rw [← hv159]; exact md_im hMI (im_upd hMI.2.2.1 (fun c hc q => by omega) (fun c hc q => by omega) (fun q => by omega) (fun q => by omega) (fun q => by omega) (fun q => by omega)) (im_upd hMI.2.2.2.1 (fun c hc q => by omega) (fun c hc q => by omega) (fun q => by omega) (fun q => by omega) (fun q => by omega) (fun q => by omega))
                        try clear hmZ
                        try clear hM2
                        try clear hA4
                        have hH := hMI.1
                        obtain ⟨hmG, hmC, hmZ, hmM, hmA, hmS, hmT⟩ := id hH
                        obtain ⟨hG1, hG2, hG3⟩ := id hmG
                        obtain ⟨hC1, hC2, hC3, hC4, hC5, hC6⟩ := id hmC
                        obtain ⟨hM1, hM2, hM3, hM4⟩ := id hmM
                        obtain ⟨hA1, hA2, hA3, hA4, hA5⟩ := id hmA
                        obtain ⟨hS1, hS2, hS3, hS4, hS5, hS6⟩ := id hmS
                        obtain ⟨hT1, hT2, hT3, hT4, hT5⟩ := id hmT
                        refine lv_aload_n hx hb dX10_keep_160 rfl (lv_at hl 0 rfl) ?_
                        refine va_get (D := eD E) (ci := 10) (v := .ref (am 77)) (C := RX10) (T := TX10) (N := 79) hx hb hts in_X10 hown hK hP 0 rfl rfl 77 (by decide) lk0 (fun _ h9 => h9) rfl dX10_keep_161 ?_
                        refine lv_iload_n hx hb dX10_keep_164 rfl (lv_at hl 2 rfl) ?_
                        refine lv_bipush (v := 37) hx hb dX10_keep_165 (by decide) ?_
                        refine lv_iadd hx hb dX10_keep_167 ?_
                        refine W.eq (g2 := F0 m 168 ls [.int 37, .ref (am 77)]) rfl ?_
                        refine lv_aload_n hx hb dX10_keep_168 rfl (lv_at hl 0 rfl) ?_
                        refine va_get (D := eD E) (ci := 10) (v := .int (vm_159 30 0)) (C := RX10) (T := TX10) (N := 79) hx hb hts in_X10 hown hK hP 0 rfl rfl 30 (by decide) lk5 (fun _ h9 => h9) rfl dX10_keep_169 ?_
                        refine va_iast hx hb hK hP hD hS 44 0 rfl rfl (n := 80) (f := (vm_159 77)) (i_in (by omega) (by omega)) dX10_keep_172 (fun H locs hP hD hS => ?_)
                        replace hP : va_P (eD E) vwCl (mdL E am (up2 vm_159 77 37 (vm_159 30 0))) H := hP
                        replace hD : va_D A (mdL E am (up2 vm_159 77 37 (vm_159 30 0))) := hD
                        generalize hv172 : up2 vm_159 77 37 (vm_159 30 0) = vm_172 at hP hD
                        have hFz : fr [77, 78] vm vm_172 := by first | exact hFz | (rw [← hv172]; exact hFz.up (by decide))
                        have hMI : MdI vm_172 := by rw [← hv172]; exact md_im hMI (im_upd hMI.2.2.1 (fun c hc q => by omega) (fun c hc q => by omega) (fun q => by omega) (fun q => by omega) (fun q => by omega) (fun q => by omega)) (im_upd hMI.2.2.2.1 (fun c hc q => by omega) (fun c hc q => by omega) (fun q => by omega) (fun q => by omega) (fun q => by omega) (fun q => by omega))
                        try clear hmZ
                        try clear hM2
                        try clear hA4
                        have hH := hMI.1
                        obtain ⟨hmG, hmC, hmZ, hmM, hmA, hmS, hmT⟩ := id hH
                        obtain ⟨hG1, hG2, hG3⟩ := id hmG
                        obtain ⟨hC1, hC2, hC3, hC4, hC5, hC6⟩ := id hmC
                        obtain ⟨hM1, hM2, hM3, hM4⟩ := id hmM
                        obtain ⟨hA1, hA2, hA3, hA4, hA5⟩ := id hmA
                        obtain ⟨hS1, hS2, hS3, hS4, hS5, hS6⟩ := id hmS
                        obtain ⟨hT1, hT2, hT3, hT4, hT5⟩ := id hmT
                        have hC172 : imC (vm_172 77) 0 vm := by rw [← hv172, ← hv159, ← hv146, ← hv133, ← hv120]; exact ⟨(im_f (im_f (im_f (im_f (im_f hx80_0 (by decide)) (by decide)) (by decide)) (by decide)) (by decide)), (im_f (im_f (im_f (im_f (im_f hx80_1 (by decide)) (by decide)) (by decide)) (by decide)) (by decide)), (im_f (im_f (im_f (im_f (im_f (fun j hj => hx80_2 j (by omega)) (by decide)) (by decide)) (by decide)) (by decide)) (by decide)), hw23, hw27, hw28, hw29, hw30⟩
                        have hO172 : imO 0 (vm 77) (vm_172 77) := by rw [← hv172, ← hv159, ← hv146, ← hv133, ← hv120]; exact im_o (im_o (im_o (im_o (im_o hx80_3 (by decide)) (by decide)) (by decide)) (by decide)) (by decide)
                        have hK172 : vm_172 78 = vm 78 := by rw [← hv172, ← hv159, ← hv146, ← hv133, ← hv120]; exact hF80
                        refine lv_aload_n hx hb dX10_keep_173 rfl (lv_at hl 0 rfl) ?_
                        refine va_get (D := eD E) (ci := 10) (v := .ref (am 78)) (C := RX10) (T := TX10) (N := 79) hx hb hts in_X10 hown hK hP 0 rfl rfl 78 (by decide) lk6 (fun _ h9 => h9) rfl dX10_keep_174 ?_
                        refine lv_iload_n hx hb dX10_keep_177 rfl (lv_at hl 1 rfl) ?_
                        refine lv_iconst (v := 1) hx hb dX10_keep_178 (by decide) ?_
                        refine va_zast hx hb hK hP hD hS 45 1 rfl rfl (n := 2) (f := (vm_172 78)) (i_in (by omega) (by omega)) dX10_keep_179 (fun H locs hP hD hS => ?_)
                        replace hP : va_P (eD E) vwCl (mdL E am (up2 vm_172 78 0 1)) H := hP
                        replace hD : va_D A (mdL E am (up2 vm_172 78 0 1)) := hD
                        generalize hv179 : up2 vm_172 78 0 1 = vm_179 at hP hD
                        have hFz : fr [77, 78] vm vm_179 := by first | exact hFz | (rw [← hv179]; exact hFz.up (by decide))
                        refine lv_iconst (v := 1) hx hb dX10_keep_180 (by decide) ?_
                        subst hQ
                        exact W.iret (v := 1) hx hb hr (fun t ht hW => ⟨⟨1, (vm_179), rfl, (show ((MdI vm_179 ∧ (((1 : Int32).toInt = -1000000001 ∧ ((0 : Int32).toInt < 0 ∨ 1 < (0 : Int32).toInt)) ∨ ((1 : Int32).toInt = 1 ∧ 0 ≤ (0 : Int32).toInt ∧ (0 : Int32).toInt ≤ 1))) ∧ fr [77, 78] vm vm_179) ∧ (KeepM (0 : Int32) vm vm_179) from ⟨⟨⟨(by rw [← hv179]; exact hMI), by omega⟩, hFz⟩, (by first | exact Or.inr (Or.inl ⟨by decide, (by rw [← hv179]; exact hC172), (by rw [← hv179]; exact hO172), (by rw [← hv179, ← hK172]; rfl)⟩) | exact Or.inr (Or.inr ⟨by decide, (by rw [← hv179]; exact hC172), (by rw [← hv179]; exact hO172), (by rw [← hv179, ← hK172]; rfl)⟩))⟩), by rw [ht]; exact hP, hD⟩, hS.F ht⟩) hS.2.2 dX10_keep_181
                      · have c82_ := i_nle c82
                        refine lv_aload_n hx hb dX10_keep_85 rfl (lv_at hl 0 rfl) ?_
                        refine va_get (D := eD E) (ci := 10) (v := .ref (am 77)) (C := RX10) (T := TX10) (N := 79) hx hb hts in_X10 hown hK hP 0 rfl rfl 77 (by decide) lk0 (fun _ h9 => h9) rfl dX10_keep_86 ?_
                        refine lv_iload_n hx hb dX10_keep_89 rfl (lv_at hl 2 rfl) ?_
                        refine lv_bipush (v := 30) hx hb dX10_keep_90 (by decide) ?_
                        refine lv_iadd hx hb dX10_keep_92 ?_
                        refine W.eq (g2 := F0 m 93 ls [.int 30, .ref (am 77)]) rfl ?_
                        refine lv_iload_n hx hb dX10_keep_93 rfl (lv_at hl 3 rfl) ?_
                        refine lv_iadd hx hb dX10_keep_94 ?_
                        refine lv_topi (fun x94 e94 => ?_)
                        have t94 := i_add e94 (by omega)
                        refine lv_aload_n hx hb dX10_keep_95 rfl (lv_at hl 0 rfl) ?_
                        refine va_get (D := eD E) (ci := 10) (v := .ref (am 24)) (C := RX10) (T := TX10) (N := 79) hx hb hts in_X10 hown hK hP 0 rfl rfl 24 (by decide) lk7 (fun _ h9 => h9) rfl dX10_keep_96 ?_
                        refine lv_iload_n hx hb dX10_keep_99 rfl (lv_at hl 3 rfl) ?_
                        refine va_iald hx hb hK hP 16 0 rfl rfl (n := 3) (f := (vc 24)) (i_in (by omega) (by omega)) dX10_keep_100 ?_
                        refine lv_topi (fun x100 e100 => ?_)
                        have b100 := hS2 k.toNatClampNeg (i_natlt (by omega) (by decide))
                        rw [← e100] at b100
                        refine va_iast hx hb hK hP hD hS 44 0 rfl rfl (n := 80) (f := (vc 77)) (i_in (by omega) (by omega)) dX10_keep_101 (fun H locs hP hD hS => ?_)
                        replace hP : va_P (eD E) vwCl (mdL E am (up2 vc 77 x94.toNatClampNeg x100)) H := hP
                        replace hD : va_D A (mdL E am (up2 vc 77 x94.toNatClampNeg x100)) := hD
                        generalize hv101 : up2 vc 77 x94.toNatClampNeg x100 = vm_101 at hP hD
                        have hFz : fr [77, 78] vm vm_101 := by first | exact hFz | (rw [← hv101]; exact hFz.up (by decide))
                        have kn101 := i_nat (x := x94) (by omega)
                        have hMI : MdI vm_101 := by rw [← hv101]; exact md_im hMI (im_upd hMI.2.2.1 (fun c hc q => by omega) (fun c hc q => by omega) (fun q => by omega) (fun q => by omega) (fun q => by omega) (fun q => by omega)) (im_upd hMI.2.2.2.1 (fun c hc q => by omega) (fun c hc q => by omega) (fun q => by omega) (fun q => by omega) (fun q => by omega) (fun q => by omega))
                        try clear hmZ
                        try clear hM2
                        try clear hA4
                        have hH := hMI.1
                        obtain ⟨hmG, hmC, hmZ, hmM, hmA, hmS, hmT⟩ := id hH
                        obtain ⟨hG1, hG2, hG3⟩ := id hmG
                        obtain ⟨hC1, hC2, hC3, hC4, hC5, hC6⟩ := id hmC
                        obtain ⟨hM1, hM2, hM3, hM4⟩ := id hmM
                        obtain ⟨hA1, hA2, hA3, hA4, hA5⟩ := id hmA
                        obtain ⟨hS1, hS2, hS3, hS4, hS5, hS6⟩ := id hmS
                        obtain ⟨hT1, hT2, hT3, hT4, hT5⟩ := id hmT
                        have kq101 : x94.toNatClampNeg = 30 + k.toNatClampNeg := by show x94.toInt.toNat = 30 + k.toInt.toNat; omega
                        obtain ⟨x102, e102⟩ : ∃ y : Int32, y = k + 1 := ⟨_, rfl⟩
                        refine lv_iinc (v := x102) (lv' := [(3, .int x102), (0, .ref (am 0)), (1, .int 0), (2, .int 0)]) hx hb dX10_keep_102 hl (k := 3) rfl (by rw [e102]; rfl) (by decide) rfl (fun ls hl => ?_)
                        have t102 := i_add e102 (by omega)
                        refine lv_goto (tgt := 80) hx hb dX10_keep_105 (by decide) ?_
                        exact ih80 x102 vm_101 _ _ ls (by omega) hP hD hS (by omega) hMI hFz (by rw [← hv101]; exact im_f hx80_0 (by omega)) (by rw [← hv101]; exact im_f hx80_1 (by omega)) (by rw [← hv101]; exact im_w hx80_2 (by omega) (by omega) kq101 (by rw [e100, hFz0 24 (by decide)])) (by rw [← hv101]; exact im_o hx80_3 (by omega)) (by rw [← hv101]; exact hx80_4) (lv_sub hl [1, 2, 3, 0] rfl)
                  exact K80 _ 0 vb _ _ ls (Nat.lt_succ_self _) hP hD hS (by omega) h49_1 hFz hx49_1 (fun j h => hx49_0 j (by omega)) (fun j h => absurd h (by omega)) hx49_2 hx49_3 (lv_sub hl [1, 2, 3, 0] rfl)
                · have c52_ := i_nle c52
                  refine lv_aload_n hx hb dX10_keep_55 rfl (lv_at hl 0 rfl) ?_
                  refine va_get (D := eD E) (ci := 10) (v := .ref (am 77)) (C := RX10) (T := TX10) (N := 79) hx hb hts in_X10 hown hK hP 0 rfl rfl 77 (by decide) lk0 (fun _ h9 => h9) rfl dX10_keep_56 ?_
                  refine lv_iload_n hx hb dX10_keep_59 rfl (lv_at hl 2 rfl) ?_
                  refine lv_bipush (v := 24) hx hb dX10_keep_60 (by decide) ?_
                  refine lv_iadd hx hb dX10_keep_62 ?_
                  refine W.eq (g2 := F0 m 63 ls [.int 24, .ref (am 77)]) rfl ?_
                  refine lv_iload_n hx hb dX10_keep_63 rfl (lv_at hl 3 rfl) ?_
                  refine lv_iadd hx hb dX10_keep_64 ?_
                  refine lv_topi (fun x64 e64 => ?_)
                  have t64 := i_add e64 (by omega)
                  refine lv_aload_n hx hb dX10_keep_65 rfl (lv_at hl 0 rfl) ?_
                  refine va_get (D := eD E) (ci := 10) (v := .ref (am 26)) (C := RX10) (T := TX10) (N := 79) hx hb hts in_X10 hown hK hP 0 rfl rfl 26 (by decide) lk8 (fun _ h9 => h9) rfl dX10_keep_66 ?_
                  refine lv_iload_n hx hb dX10_keep_69 rfl (lv_at hl 3 rfl) ?_
                  refine va_iald hx hb hK hP 18 0 rfl rfl (n := 6) (f := (vb 26)) (i_in (by omega) (by omega)) dX10_keep_70 ?_
                  refine lv_topi (fun x70 e70 => ?_)
                  refine va_iast hx hb hK hP hD hS 44 0 rfl rfl (n := 80) (f := (vb 77)) (i_in (by omega) (by omega)) dX10_keep_71 (fun H locs hP hD hS => ?_)
                  replace hP : va_P (eD E) vwCl (mdL E am (up2 vb 77 x64.toNatClampNeg x70)) H := hP
                  replace hD : va_D A (mdL E am (up2 vb 77 x64.toNatClampNeg x70)) := hD
                  generalize hv71 : up2 vb 77 x64.toNatClampNeg x70 = vm_71 at hP hD
                  have hFz : fr [77, 78] vm vm_71 := by first | exact hFz | (rw [← hv71]; exact hFz.up (by decide))
                  have kn71 := i_nat (x := x64) (by omega)
                  have hMI : MdI vm_71 := by rw [← hv71]; exact md_im hMI (im_upd hMI.2.2.1 (fun c hc q => by omega) (fun c hc q => by omega) (fun q => by omega) (fun q => by omega) (fun q => by omega) (fun q => by omega)) (im_upd hMI.2.2.2.1 (fun c hc q => by omega) (fun c hc q => by omega) (fun q => by omega) (fun q => by omega) (fun q => by omega) (fun q => by omega))
                  try clear hmZ
                  try clear hM2
                  try clear hA4
                  have hH := hMI.1
                  obtain ⟨hmG, hmC, hmZ, hmM, hmA, hmS, hmT⟩ := id hH
                  obtain ⟨hG1, hG2, hG3⟩ := id hmG
                  obtain ⟨hC1, hC2, hC3, hC4, hC5, hC6⟩ := id hmC
                  obtain ⟨hM1, hM2, hM3, hM4⟩ := id hmM
                  obtain ⟨hA1, hA2, hA3, hA4, hA5⟩ := id hmA
                  obtain ⟨hS1, hS2, hS3, hS4, hS5, hS6⟩ := id hmS
                  obtain ⟨hT1, hT2, hT3, hT4, hT5⟩ := id hmT
                  have kq71 : x64.toNatClampNeg = 24 + h.toNatClampNeg := by show x64.toInt.toNat = 24 + h.toInt.toNat; omega
                  obtain ⟨x72, e72⟩ : ∃ y : Int32, y = h + 1 := ⟨_, rfl⟩
                  refine lv_iinc (v := x72) (lv' := [(3, .int x72), (0, .ref (am 0)), (1, .int 0), (2, .int 0)]) hx hb dX10_keep_72 hl (k := 3) rfl (by rw [e72]; rfl) (by decide) rfl (fun ls hl => ?_)
                  have t72 := i_add e72 (by omega)
                  refine lv_goto (tgt := 49) hx hb dX10_keep_75 (by decide) ?_
                  exact ih49 x72 vm_71 _ _ ls (by omega) hP hD hS (by omega) hMI hFz (by rw [← hv71]; exact im_w hx49_0 (by omega) (by omega) kq71 (by rw [e70, hFz0 26 (by decide)])) (by rw [← hv71]; exact im_f hx49_1 (by omega)) (by rw [← hv71]; exact im_o hx49_2 (by omega)) (by rw [← hv71]; exact hx49_3) (lv_sub hl [1, 2, 3, 0] rfl)
            exact K49 _ 0 va _ _ ls (Nat.lt_succ_self _) hP hD hS (by omega) h21_1 hFz (fun j h => absurd h (by omega)) (fun j h => hx21_0 j (by omega)) hx21_1 hx21_2 (lv_sub hl [1, 2, 3, 0] rfl)
          · have c24_ := i_nle c24
            refine lv_aload_n hx hb dX10_keep_27 rfl (lv_at hl 0 rfl) ?_
            refine va_get (D := eD E) (ci := 10) (v := .ref (am 77)) (C := RX10) (T := TX10) (N := 79) hx hb hts in_X10 hown hK hP 0 rfl rfl 77 (by decide) lk0 (fun _ h9 => h9) rfl dX10_keep_28 ?_
            refine lv_iload_n hx hb dX10_keep_31 rfl (lv_at hl 2 rfl) ?_
            refine lv_iload_n hx hb dX10_keep_32 rfl (lv_at hl 3 rfl) ?_
            refine lv_iadd hx hb dX10_keep_33 ?_
            refine lv_topi (fun x33 e33 => ?_)
            have t33 := i_add e33 (by omega)
            refine lv_aload_n hx hb dX10_keep_34 rfl (lv_at hl 0 rfl) ?_
            refine va_get (D := eD E) (ci := 10) (v := .ref (am 25)) (C := RX10) (T := TX10) (N := 79) hx hb hts in_X10 hown hK hP 0 rfl rfl 25 (by decide) lk9 (fun _ h9 => h9) rfl dX10_keep_35 ?_
            refine lv_iload_n hx hb dX10_keep_38 rfl (lv_at hl 3 rfl) ?_
            refine va_iald hx hb hK hP 17 0 rfl rfl (n := 24) (f := (va 25)) (i_in (by omega) (by omega)) dX10_keep_39 ?_
            refine lv_topi (fun x39 e39 => ?_)
            have b39 := hS3 q0.toNatClampNeg (i_natlt (by omega) (by decide))
            rw [← e39] at b39
            refine va_iast hx hb hK hP hD hS 44 0 rfl rfl (n := 80) (f := (va 77)) (i_in (by omega) (by omega)) dX10_keep_40 (fun H locs hP hD hS => ?_)
            replace hP : va_P (eD E) vwCl (mdL E am (up2 va 77 x33.toNatClampNeg x39)) H := hP
            replace hD : va_D A (mdL E am (up2 va 77 x33.toNatClampNeg x39)) := hD
            generalize hv40 : up2 va 77 x33.toNatClampNeg x39 = vm_40 at hP hD
            have hFz : fr [77, 78] vm vm_40 := by first | exact hFz | (rw [← hv40]; exact hFz.up (by decide))
            have kn40 := i_nat (x := x33) (by omega)
            have hMI : MdI vm_40 := by rw [← hv40]; exact md_im hMI (im_upd hMI.2.2.1 (fun c hc q => by omega) (fun c hc q => by omega) (fun q => by omega) (fun q => by omega) (fun q => by omega) (fun q => by omega)) (im_upd hMI.2.2.2.1 (fun c hc q => by omega) (fun c hc q => by omega) (fun q => by omega) (fun q => by omega) (fun q => by omega) (fun q => by omega))
            try clear hmZ
            try clear hM2
            try clear hA4
            have hH := hMI.1
            obtain ⟨hmG, hmC, hmZ, hmM, hmA, hmS, hmT⟩ := id hH
            obtain ⟨hG1, hG2, hG3⟩ := id hmG
            obtain ⟨hC1, hC2, hC3, hC4, hC5, hC6⟩ := id hmC
            obtain ⟨hM1, hM2, hM3, hM4⟩ := id hmM
            obtain ⟨hA1, hA2, hA3, hA4, hA5⟩ := id hmA
            obtain ⟨hS1, hS2, hS3, hS4, hS5, hS6⟩ := id hmS
            obtain ⟨hT1, hT2, hT3, hT4, hT5⟩ := id hmT
            have kq40 : x33.toNatClampNeg = 0 + q0.toNatClampNeg := by show x33.toInt.toNat = 0 + q0.toInt.toNat; omega
            obtain ⟨x41, e41⟩ : ∃ y : Int32, y = q0 + 1 := ⟨_, rfl⟩
            refine lv_iinc (v := x41) (lv' := [(3, .int x41), (0, .ref (am 0)), (1, .int 0), (2, .int 0)]) hx hb dX10_keep_41 hl (k := 3) rfl (by rw [e41]; rfl) (by decide) rfl (fun ls hl => ?_)
            have t41 := i_add e41 (by omega)
            refine lv_goto (tgt := 21) hx hb dX10_keep_44 (by decide) ?_
            exact ih21 x41 vm_40 _ _ ls (by omega) hP hD hS (by omega) hMI hFz (by rw [← hv40]; exact im_w hx21_0 (by omega) (by omega) kq40 (by rw [e39, hFz0 25 (by decide)])) (by rw [← hv40]; exact im_o hx21_1 (by omega)) (by rw [← hv40]; exact hx21_2) (lv_sub hl [1, 2, 3, 0] rfl)
      exact K21 _ 0 vm _ _ ls (Nat.lt_succ_self _) hP hD hS (by omega) hMI hFz (fun j h => absurd h (by omega)) imO.rf rfl (lv_sub hl [2, 3, 1, 0] rfl)
    · refine lv_bipush (v := 40) hx hb dX10_keep_14 (by decide) ?_
      refine lv_iload_n hx hb dX10_keep_16 rfl (lv_at hl 1 rfl) ?_
      refine lv_imul hx hb dX10_keep_17 ?_
      refine W.eq (g2 := F0 m 18 ls [.int 40]) rfl ?_
      refine lv_istore_n (lv' := [(2, .int 40), (0, .ref (am 0)), (1, .int 1)]) hx hb dX10_keep_18 rfl hl (by decide) rfl (fun ls hl => ?_)
      refine lv_iconst (v := 0) hx hb dX10_keep_19 (by decide) ?_
      refine lv_istore_n (lv' := [(3, .int 0), (2, .int 40), (0, .ref (am 0)), (1, .int 1)]) hx hb dX10_keep_20 rfl hl (by decide) rfl (fun ls hl => ?_)
      have K21 : ∀ (μ : Nat) (q0 : Int32) (va : Vf) (H : Heap) (locs : List Loc) (ls : Array Slot), (24 - q0.toInt).toNat < μ → va_P (eD E) vwCl (mdL E am va) H → va_D A (mdL E am va) → va_S A s.heap H locs → (0 ≤ q0.toInt ∧ q0.toInt ≤ 24) → (MdI va) → (fr [77, 78] vm va) → (∀ j : Nat, (j : Int) < q0.toInt → va 77 (40 + j) = vm 25 j) → (imO 40 (vm 77) (va 77)) → (va 78 = vm 78) → lv_has ls 4 [(0, .ref (am 0)), (1, .int 1), (2, .int 40), (3, .int q0)] → W p l e (headSpec wsX10_keep rm_X10_keep).room s m ([.ref (am 0), .int (1 : Int32)] : List Value).toArray below meth c H locs 0 0 Q (F0 m 21 ls []) := by
        intro μ
        induction μ with
        | zero =>
          intro q0 va H locs ls hμ21
          exact absurd hμ21 (Nat.not_lt_zero _)
        | succ μ ih21 =>
          intro q0 va H locs ls hμ21 hP hD hS h21_0 h21_1 h21_2 h21_3 h21_4 h21_5 hl
          have hx21_0 := h21_3
          clear h21_3
          have hx21_1 := h21_4
          clear h21_4
          have hx21_2 := h21_5
          clear h21_5
          have hMI := h21_1
          try clear hmZ
          try clear hM2
          try clear hA4
          have hH := hMI.1
          obtain ⟨hmG, hmC, hmZ, hmM, hmA, hmS, hmT⟩ := id hH
          obtain ⟨hG1, hG2, hG3⟩ := id hmG
          obtain ⟨hC1, hC2, hC3, hC4, hC5, hC6⟩ := id hmC
          obtain ⟨hM1, hM2, hM3, hM4⟩ := id hmM
          obtain ⟨hA1, hA2, hA3, hA4, hA5⟩ := id hmA
          obtain ⟨hS1, hS2, hS3, hS4, hS5, hS6⟩ := id hmS
          obtain ⟨hT1, hT2, hT3, hT4, hT5⟩ := id hmT
          have hFz := h21_2
          have hFz0 := hFz
          refine lv_iload_n hx hb dX10_keep_21 rfl (lv_at hl 3 rfl) ?_
          refine lv_bipush (v := 24) hx hb dX10_keep_22 (by decide) ?_
          refine lv_icmp_ge (tgt := 47) hx hb dX10_keep_24 (by decide) (fun c24 => ?_) (fun c24 => ?_)
          · have c24_ := i_le c24
            refine lv_iconst (v := 0) hx hb dX10_keep_47 (by decide) ?_
            refine lv_istore_n (lv' := [(3, .int 0), (0, .ref (am 0)), (1, .int 1), (2, .int 40)]) hx hb dX10_keep_48 rfl hl (by decide) rfl (fun ls hl => ?_)
            have K49 : ∀ (μ : Nat) (h : Int32) (vb : Vf) (H : Heap) (locs : List Loc) (ls : Array Slot), (6 - h.toInt).toNat < μ → va_P (eD E) vwCl (mdL E am vb) H → va_D A (mdL E am vb) → va_S A s.heap H locs → (0 ≤ h.toInt ∧ h.toInt ≤ 6) → (MdI vb) → (fr [77, 78] vm vb) → (∀ j : Nat, (j : Int) < h.toInt → vb 77 (64 + j) = vm 26 j) → (∀ j, j < 24 → vb 77 (40 + j) = vm 25 j) → (imO 40 (vm 77) (vb 77)) → (vb 78 = vm 78) → lv_has ls 4 [(0, .ref (am 0)), (1, .int 1), (2, .int 40), (3, .int h)] → W p l e (headSpec wsX10_keep rm_X10_keep).room s m ([.ref (am 0), .int (1 : Int32)] : List Value).toArray below meth c H locs 0 0 Q (F0 m 49 ls []) := by
              intro μ
              induction μ with
              | zero =>
                intro h vb H locs ls hμ49
                exact absurd hμ49 (Nat.not_lt_zero _)
              | succ μ ih49 =>
                intro h vb H locs ls hμ49 hP hD hS h49_0 h49_1 h49_2 h49_3 h49_4 h49_5 h49_6 hl
                have hx49_0 := h49_3
                clear h49_3
                have hx49_1 := h49_4
                clear h49_4
                have hx49_2 := h49_5
                clear h49_5
                have hx49_3 := h49_6
                clear h49_6
                have hMI := h49_1
                try clear hmZ
                try clear hM2
                try clear hA4
                have hH := hMI.1
                obtain ⟨hmG, hmC, hmZ, hmM, hmA, hmS, hmT⟩ := id hH
                obtain ⟨hG1, hG2, hG3⟩ := id hmG
                obtain ⟨hC1, hC2, hC3, hC4, hC5, hC6⟩ := id hmC
                obtain ⟨hM1, hM2, hM3, hM4⟩ := id hmM
                obtain ⟨hA1, hA2, hA3, hA4, hA5⟩ := id hmA
                obtain ⟨hS1, hS2, hS3, hS4, hS5, hS6⟩ := id hmS
                obtain ⟨hT1, hT2, hT3, hT4, hT5⟩ := id hmT
                have hFz := h49_2
                have hFz0 := hFz
                refine lv_iload_n hx hb dX10_keep_49 rfl (lv_at hl 3 rfl) ?_
                refine lv_bipush (v := 6) hx hb dX10_keep_50 (by decide) ?_
                refine lv_icmp_ge (tgt := 78) hx hb dX10_keep_52 (by decide) (fun c52 => ?_) (fun c52 => ?_)
                · have c52_ := i_le c52
                  refine lv_iconst (v := 0) hx hb dX10_keep_78 (by decide) ?_
                  refine lv_istore_n (lv' := [(3, .int 0), (0, .ref (am 0)), (1, .int 1), (2, .int 40)]) hx hb dX10_keep_79 rfl hl (by decide) rfl (fun ls hl => ?_)
                  have K80 : ∀ (μ : Nat) (k : Int32) (vc : Vf) (H : Heap) (locs : List Loc) (ls : Array Slot), (3 - k.toInt).toNat < μ → va_P (eD E) vwCl (mdL E am vc) H → va_D A (mdL E am vc) → va_S A s.heap H locs → (0 ≤ k.toInt ∧ k.toInt ≤ 3) → (MdI vc) → (fr [77, 78] vm vc) → (∀ j, j < 24 → vc 77 (40 + j) = vm 25 j) → (∀ j, j < 6 → vc 77 (64 + j) = vm 26 j) → (∀ j : Nat, (j : Int) < k.toInt → vc 77 (70 + j) = vm 24 j) → (imO 40 (vm 77) (vc 77)) → (vc 78 = vm 78) → lv_has ls 4 [(0, .ref (am 0)), (1, .int 1), (2, .int 40), (3, .int k)] → W p l e (headSpec wsX10_keep rm_X10_keep).room s m ([.ref (am 0), .int (1 : Int32)] : List Value).toArray below meth c H locs 0 0 Q (F0 m 80 ls []) := by
                    intro μ
                    induction μ with
                    | zero =>
                      intro k vc H locs ls hμ80
                      exact absurd hμ80 (Nat.not_lt_zero _)
                    | succ μ ih80 =>
                      intro k vc H locs ls hμ80 hP hD hS h80_0 h80_1 h80_2 h80_3 h80_4 h80_5 h80_6 h80_7 hl
                      have hx80_0 := h80_3
                      clear h80_3
                      have hx80_1 := h80_4
                      clear h80_4
                      have hx80_2 := h80_5
                      clear h80_5
                      have hx80_3 := h80_6
                      clear h80_6
                      have hx80_4 := h80_7
                      clear h80_7
                      have hMI := h80_1
                      try clear hmZ
                      try clear hM2
                      try clear hA4
                      have hH := hMI.1
                      obtain ⟨hmG, hmC, hmZ, hmM, hmA, hmS, hmT⟩ := id hH
                      obtain ⟨hG1, hG2, hG3⟩ := id hmG
                      obtain ⟨hC1, hC2, hC3, hC4, hC5, hC6⟩ := id hmC
                      obtain ⟨hM1, hM2, hM3, hM4⟩ := id hmM
                      obtain ⟨hA1, hA2, hA3, hA4, hA5⟩ := id hmA
                      obtain ⟨hS1, hS2, hS3, hS4, hS5, hS6⟩ := id hmS
                      obtain ⟨hT1, hT2, hT3, hT4, hT5⟩ := id hmT
                      have hFz := h80_2
                      have hFz0 := hFz
                      refine lv_iload_n hx hb dX10_keep_80 rfl (lv_at hl 3 rfl) ?_
                      refine lv_iconst (v := 3) hx hb dX10_keep_81 (by decide) ?_
                      refine lv_icmp_ge (tgt := 108) hx hb dX10_keep_82 (by decide) (fun c82 => ?_) (fun c82 => ?_)
                      · have c82_ := i_le c82
                        have hw23 : vc 23 0 = vm 23 0 := by rw [hFz 23 (by decide)]
                        have hw27 : vc 27 0 = vm 27 0 := by rw [hFz 27 (by decide)]
                        have hw28 : vc 28 0 = vm 28 0 := by rw [hFz 28 (by decide)]
                        have hw29 : vc 29 0 = vm 29 0 := by rw [hFz 29 (by decide)]
                        have hw30 : vc 30 0 = vm 30 0 := by rw [hFz 30 (by decide)]
                        have hF80 := hx80_4
                        refine lv_aload_n hx hb dX10_keep_108 rfl (lv_at hl 0 rfl) ?_
                        refine va_get (D := eD E) (ci := 10) (v := .ref (am 77)) (C := RX10) (T := TX10) (N := 79) hx hb hts in_X10 hown hK hP 0 rfl rfl 77 (by decide) lk0 (fun _ h9 => h9) rfl dX10_keep_109 ?_
                        refine lv_iload_n hx hb dX10_keep_112 rfl (lv_at hl 2 rfl) ?_
                        refine lv_bipush (v := 33) hx hb dX10_keep_113 (by decide) ?_
                        refine lv_iadd hx hb dX10_keep_115 ?_
                        refine W.eq (g2 := F0 m 116 ls [.int 73, .ref (am 77)]) rfl ?_
                        refine lv_aload_n hx hb dX10_keep_116 rfl (lv_at hl 0 rfl) ?_
                        refine va_get (D := eD E) (ci := 10) (v := .int (vc 23 0)) (C := RX10) (T := TX10) (N := 79) hx hb hts in_X10 hown hK hP 0 rfl rfl 23 (by decide) lk1 (fun _ h9 => h9) rfl dX10_keep_117 ?_
                        refine va_iast hx hb hK hP hD hS 44 0 rfl rfl (n := 80) (f := (vc 77)) (i_in (by omega) (by omega)) dX10_keep_120 (fun H locs hP hD hS => ?_)
                        replace hP : va_P (eD E) vwCl (mdL E am (up2 vc 77 73 (vc 23 0))) H := hP
                        replace hD : va_D A (mdL E am (up2 vc 77 73 (vc 23 0))) := hD
                        generalize hv120 : up2 vc 77 73 (vc 23 0) = vm_120 at hP hD
                        have hFz : fr [77, 78] vm vm_120 := by first | exact hFz | (rw [← hv120]; exact hFz.up (by decide))
                        have hMI : MdI vm_120 := by rw [← hv120]; exact md_im hMI (im_upd hMI.2.2.1 (fun c hc q => by omega) (fun c hc q => by omega) (fun q => by omega) (fun q => by omega) (fun q => by omega) (fun q => by omega)) (im_upd hMI.2.2.2.1 (fun c hc q => by omega) (fun c hc q => by omega) (fun q => by omega) (fun q => by omega) (fun q => by omega) (fun q => by omega))
                        try clear hmZ
                        try clear hM2
                        try clear hA4
                        have hH := hMI.1
                        obtain ⟨hmG, hmC, hmZ, hmM, hmA, hmS, hmT⟩ := id hH
                        obtain ⟨hG1, hG2, hG3⟩ := id hmG
                        obtain ⟨hC1, hC2, hC3, hC4, hC5, hC6⟩ := id hmC
                        obtain ⟨hM1, hM2, hM3, hM4⟩ := id hmM
                        obtain ⟨hA1, hA2, hA3, hA4, hA5⟩ := id hmA
                        obtain ⟨hS1, hS2, hS3, hS4, hS5, hS6⟩ := id hmS
                        obtain ⟨hT1, hT2, hT3, hT4, hT5⟩ := id hmT
                        refine lv_aload_n hx hb dX10_keep_121 rfl (lv_at hl 0 rfl) ?_
                        refine va_get (D := eD E) (ci := 10) (v := .ref (am 77)) (C := RX10) (T := TX10) (N := 79) hx hb hts in_X10 hown hK hP 0 rfl rfl 77 (by decide) lk0 (fun _ h9 => h9) rfl dX10_keep_122 ?_
                        refine lv_iload_n hx hb dX10_keep_125 rfl (lv_at hl 2 rfl) ?_
                        refine lv_bipush (v := 34) hx hb dX10_keep_126 (by decide) ?_
                        refine lv_iadd hx hb dX10_keep_128 ?_
                        refine W.eq (g2 := F0 m 129 ls [.int 74, .ref (am 77)]) rfl ?_
                        refine lv_aload_n hx hb dX10_keep_129 rfl (lv_at hl 0 rfl) ?_
                        refine va_get (D := eD E) (ci := 10) (v := .int (vm_120 27 0)) (C := RX10) (T := TX10) (N := 79) hx hb hts in_X10 hown hK hP 0 rfl rfl 27 (by decide) lk2 (fun _ h9 => h9) rfl dX10_keep_130 ?_
                        refine va_iast hx hb hK hP hD hS 44 0 rfl rfl (n := 80) (f := (vm_120 77)) (i_in (by omega) (by omega)) dX10_keep_133 (fun H locs hP hD hS => ?_)
                        replace hP : va_P (eD E) vwCl (mdL E am (up2 vm_120 77 74 (vm_120 27 0))) H := hP
                        replace hD : va_D A (mdL E am (up2 vm_120 77 74 (vm_120 27 0))) := hD
                        generalize hv133 : up2 vm_120 77 74 (vm_120 27 0) = vm_133 at hP hD
                        have hFz : fr [77, 78] vm vm_133 := by first | exact hFz | (rw [← hv133]; exact hFz.up (by decide))
                        have hMI : MdI vm_133 := by rw [← hv133]; exact md_im hMI (im_upd hMI.2.2.1 (fun c hc q => by omega) (fun c hc q => by omega) (fun q => by omega) (fun q => by omega) (fun q => by omega) (fun q => by omega)) (im_upd hMI.2.2.2.1 (fun c hc q => by omega) (fun c hc q => by omega) (fun q => by omega) (fun q => by omega) (fun q => by omega) (fun q => by omega))
                        try clear hmZ
                        try clear hM2
                        try clear hA4
                        have hH := hMI.1
                        obtain ⟨hmG, hmC, hmZ, hmM, hmA, hmS, hmT⟩ := id hH
                        obtain ⟨hG1, hG2, hG3⟩ := id hmG
                        obtain ⟨hC1, hC2, hC3, hC4, hC5, hC6⟩ := id hmC
                        obtain ⟨hM1, hM2, hM3, hM4⟩ := id hmM
                        obtain ⟨hA1, hA2, hA3, hA4, hA5⟩ := id hmA
                        obtain ⟨hS1, hS2, hS3, hS4, hS5, hS6⟩ := id hmS
                        obtain ⟨hT1, hT2, hT3, hT4, hT5⟩ := id hmT
                        refine lv_aload_n hx hb dX10_keep_134 rfl (lv_at hl 0 rfl) ?_
                        refine va_get (D := eD E) (ci := 10) (v := .ref (am 77)) (C := RX10) (T := TX10) (N := 79) hx hb hts in_X10 hown hK hP 0 rfl rfl 77 (by decide) lk0 (fun _ h9 => h9) rfl dX10_keep_135 ?_
                        refine lv_iload_n hx hb dX10_keep_138 rfl (lv_at hl 2 rfl) ?_
                        refine lv_bipush (v := 35) hx hb dX10_keep_139 (by decide) ?_
                        refine lv_iadd hx hb dX10_keep_141 ?_
                        refine W.eq (g2 := F0 m 142 ls [.int 75, .ref (am 77)]) rfl ?_
                        refine lv_aload_n hx hb dX10_keep_142 rfl (lv_at hl 0 rfl) ?_
                        refine va_get (D := eD E) (ci := 10) (v := .int (vm_133 28 0)) (C := RX10) (T := TX10) (N := 79) hx hb hts in_X10 hown hK hP 0 rfl rfl 28 (by decide) lk3 (fun _ h9 => h9) rfl dX10_keep_143 ?_
                        refine va_iast hx hb hK hP hD hS 44 0 rfl rfl (n := 80) (f := (vm_133 77)) (i_in (by omega) (by omega)) dX10_keep_146 (fun H locs hP hD hS => ?_)
                        replace hP : va_P (eD E) vwCl (mdL E am (up2 vm_133 77 75 (vm_133 28 0))) H := hP
                        replace hD : va_D A (mdL E am (up2 vm_133 77 75 (vm_133 28 0))) := hD
                        generalize hv146 : up2 vm_133 77 75 (vm_133 28 0) = vm_146 at hP hD
                        have hFz : fr [77, 78] vm vm_146 := by first | exact hFz | (rw [← hv146]; exact hFz.up (by decide))
                        have hMI : MdI vm_146 := by rw [← hv146]; exact md_im hMI (im_upd hMI.2.2.1 (fun c hc q => by omega) (fun c hc q => by omega) (fun q => by omega) (fun q => by omega) (fun q => by omega) (fun q => by omega)) (im_upd hMI.2.2.2.1 (fun c hc q => by omega) (fun c hc q => by omega) (fun q => by omega) (fun q => by omega) (fun q => by omega) (fun q => by omega))
                        try clear hmZ
                        try clear hM2
                        try clear hA4
                        have hH := hMI.1
                        obtain ⟨hmG, hmC, hmZ, hmM, hmA, hmS, hmT⟩ := id hH
                        obtain ⟨hG1, hG2, hG3⟩ := id hmG
                        obtain ⟨hC1, hC2, hC3, hC4, hC5, hC6⟩ := id hmC
                        obtain ⟨hM1, hM2, hM3, hM4⟩ := id hmM
                        obtain ⟨hA1, hA2, hA3, hA4, hA5⟩ := id hmA
                        obtain ⟨hS1, hS2, hS3, hS4, hS5, hS6⟩ := id hmS
                        obtain ⟨hT1, hT2, hT3, hT4, hT5⟩ := id hmT
                        refine lv_aload_n hx hb dX10_keep_147 rfl (lv_at hl 0 rfl) ?_
                        refine va_get (D := eD E) (ci := 10) (v := .ref (am 77)) (C := RX10) (T := TX10) (N := 79) hx hb hts in_X10 hown hK hP 0 rfl rfl 77 (by decide) lk0 (fun _ h9 => h9) rfl dX10_keep_148 ?_
                        refine lv_iload_n hx hb dX10_keep_151 rfl (lv_at hl 2 rfl) ?_
                        refine lv_bipush (v := 36) hx hb dX10_keep_152 (by decide) ?_
                        refine lv_iadd hx hb dX10_keep_154 ?_
                        refine W.eq (g2 := F0 m 155 ls [.int 76, .ref (am 77)]) rfl ?_
                        refine lv_aload_n hx hb dX10_keep_155 rfl (lv_at hl 0 rfl) ?_
                        refine va_get (D := eD E) (ci := 10) (v := .int (vm_146 29 0)) (C := RX10) (T := TX10) (N := 79) hx hb hts in_X10 hown hK hP 0 rfl rfl 29 (by decide) lk4 (fun _ h9 => h9) rfl dX10_keep_156 ?_
                        refine va_iast hx hb hK hP hD hS 44 0 rfl rfl (n := 80) (f := (vm_146 77)) (i_in (by omega) (by omega)) dX10_keep_159 (fun H locs hP hD hS => ?_)
                        replace hP : va_P (eD E) vwCl (mdL E am (up2 vm_146 77 76 (vm_146 29 0))) H := hP
                        replace hD : va_D A (mdL E am (up2 vm_146 77 76 (vm_146 29 0))) := hD
                        generalize hv159 : up2 vm_146 77 76 (vm_146 29 0) = vm_159 at hP hD
                        have hFz : fr [77, 78] vm vm_159 := by first | exact hFz | (rw [← hv159]; exact hFz.up (by decide))
                        have hMI : MdI vm_159 := by rw [← hv159]; exact md_im hMI (im_upd hMI.2.2.1 (fun c hc q => by omega) (fun c hc q => by omega) (fun q => by omega) (fun q => by omega) (fun q => by omega) (fun q => by omega)) (im_upd hMI.2.2.2.1 (fun c hc q => by omega) (fun c hc q => by omega) (fun q => by omega) (fun q => by omega) (fun q => by omega) (fun q => by omega))
                        try clear hmZ
                        try clear hM2
                        try clear hA4
                        have hH := hMI.1
                        obtain ⟨hmG, hmC, hmZ, hmM, hmA, hmS, hmT⟩ := id hH
                        obtain ⟨hG1, hG2, hG3⟩ := id hmG
                        obtain ⟨hC1, hC2, hC3, hC4, hC5, hC6⟩ := id hmC
                        obtain ⟨hM1, hM2, hM3, hM4⟩ := id hmM
                        obtain ⟨hA1, hA2, hA3, hA4, hA5⟩ := id hmA
                        obtain ⟨hS1, hS2, hS3, hS4, hS5, hS6⟩ := id hmS
                        obtain ⟨hT1, hT2, hT3, hT4, hT5⟩ := id hmT
                        refine lv_aload_n hx hb dX10_keep_160 rfl (lv_at hl 0 rfl) ?_
                        refine va_get (D := eD E) (ci := 10) (v := .ref (am 77)) (C := RX10) (T := TX10) (N := 79) hx hb hts in_X10 hown hK hP 0 rfl rfl 77 (by decide) lk0 (fun _ h9 => h9) rfl dX10_keep_161 ?_
                        refine lv_iload_n hx hb dX10_keep_164 rfl (lv_at hl 2 rfl) ?_
                        refine lv_bipush (v := 37) hx hb dX10_keep_165 (by decide) ?_
                        refine lv_iadd hx hb dX10_keep_167 ?_
                        refine W.eq (g2 := F0 m 168 ls [.int 77, .ref (am 77)]) rfl ?_
                        refine lv_aload_n hx hb dX10_keep_168 rfl (lv_at hl 0 rfl) ?_
                        refine va_get (D := eD E) (ci := 10) (v := .int (vm_159 30 0)) (C := RX10) (T := TX10) (N := 79) hx hb hts in_X10 hown hK hP 0 rfl rfl 30 (by decide) lk5 (fun _ h9 => h9) rfl dX10_keep_169 ?_
                        refine va_iast hx hb hK hP hD hS 44 0 rfl rfl (n := 80) (f := (vm_159 77)) (i_in (by omega) (by omega)) dX10_keep_172 (fun H locs hP hD hS => ?_)
                        replace hP : va_P (eD E) vwCl (mdL E am (up2 vm_159 77 77 (vm_159 30 0))) H := hP
                        replace hD : va_D A (mdL E am (up2 vm_159 77 77 (vm_159 30 0))) := hD
                        generalize hv172 : up2 vm_159 77 77 (vm_159 30 0) = vm_172 at hP hD
                        have hFz : fr [77, 78] vm vm_172 := by first | exact hFz | (rw [← hv172]; exact hFz.up (by decide))
                        have hMI : MdI vm_172 := by rw [← hv172]; exact md_im hMI (im_upd hMI.2.2.1 (fun c hc q => by omega) (fun c hc q => by omega) (fun q => by omega) (fun q => by omega) (fun q => by omega) (fun q => by omega)) (im_upd hMI.2.2.2.1 (fun c hc q => by omega) (fun c hc q => by omega) (fun q => by omega) (fun q => by omega) (fun q => by omega) (fun q => by omega))
                        try clear hmZ
                        try clear hM2
                        try clear hA4
                        have hH := hMI.1
                        obtain ⟨hmG, hmC, hmZ, hmM, hmA, hmS, hmT⟩ := id hH
                        obtain ⟨hG1, hG2, hG3⟩ := id hmG
                        obtain ⟨hC1, hC2, hC3, hC4, hC5, hC6⟩ := id hmC
                        obtain ⟨hM1, hM2, hM3, hM4⟩ := id hmM
                        obtain ⟨hA1, hA2, hA3, hA4, hA5⟩ := id hmA
                        obtain ⟨hS1, hS2, hS3, hS4, hS5, hS6⟩ := id hmS
                        obtain ⟨hT1, hT2, hT3, hT4, hT5⟩ := id hmT
                        have hC172 : imC (vm_172 77) 40 vm := by rw [← hv172, ← hv159, ← hv146, ← hv133, ← hv120]; exact ⟨(im_f (im_f (im_f (im_f (im_f hx80_0 (by decide)) (by decide)) (by decide)) (by decide)) (by decide)), (im_f (im_f (im_f (im_f (im_f hx80_1 (by decide)) (by decide)) (by decide)) (by decide)) (by decide)), (im_f (im_f (im_f (im_f (im_f (fun j hj => hx80_2 j (by omega)) (by decide)) (by decide)) (by decide)) (by decide)) (by decide)), hw23, hw27, hw28, hw29, hw30⟩
                        have hO172 : imO 40 (vm 77) (vm_172 77) := by rw [← hv172, ← hv159, ← hv146, ← hv133, ← hv120]; exact im_o (im_o (im_o (im_o (im_o hx80_3 (by decide)) (by decide)) (by decide)) (by decide)) (by decide)
                        have hK172 : vm_172 78 = vm 78 := by rw [← hv172, ← hv159, ← hv146, ← hv133, ← hv120]; exact hF80
                        refine lv_aload_n hx hb dX10_keep_173 rfl (lv_at hl 0 rfl) ?_
                        refine va_get (D := eD E) (ci := 10) (v := .ref (am 78)) (C := RX10) (T := TX10) (N := 79) hx hb hts in_X10 hown hK hP 0 rfl rfl 78 (by decide) lk6 (fun _ h9 => h9) rfl dX10_keep_174 ?_
                        refine lv_iload_n hx hb dX10_keep_177 rfl (lv_at hl 1 rfl) ?_
                        refine lv_iconst (v := 1) hx hb dX10_keep_178 (by decide) ?_
                        refine va_zast hx hb hK hP hD hS 45 1 rfl rfl (n := 2) (f := (vm_172 78)) (i_in (by omega) (by omega)) dX10_keep_179 (fun H locs hP hD hS => ?_)
                        replace hP : va_P (eD E) vwCl (mdL E am (up2 vm_172 78 1 1)) H := hP
                        replace hD : va_D A (mdL E am (up2 vm_172 78 1 1)) := hD
                        generalize hv179 : up2 vm_172 78 1 1 = vm_179 at hP hD
                        have hFz : fr [77, 78] vm vm_179 := by first | exact hFz | (rw [← hv179]; exact hFz.up (by decide))
                        refine lv_iconst (v := 1) hx hb dX10_keep_180 (by decide) ?_
                        subst hQ
                        exact W.iret (v := 1) hx hb hr (fun t ht hW => ⟨⟨1, (vm_179), rfl, (show ((MdI vm_179 ∧ (((1 : Int32).toInt = -1000000001 ∧ ((1 : Int32).toInt < 0 ∨ 1 < (1 : Int32).toInt)) ∨ ((1 : Int32).toInt = 1 ∧ 0 ≤ (1 : Int32).toInt ∧ (1 : Int32).toInt ≤ 1))) ∧ fr [77, 78] vm vm_179) ∧ (KeepM (1 : Int32) vm vm_179) from ⟨⟨⟨(by rw [← hv179]; exact hMI), by omega⟩, hFz⟩, (by first | exact Or.inr (Or.inl ⟨by decide, (by rw [← hv179]; exact hC172), (by rw [← hv179]; exact hO172), (by rw [← hv179, ← hK172]; rfl)⟩) | exact Or.inr (Or.inr ⟨by decide, (by rw [← hv179]; exact hC172), (by rw [← hv179]; exact hO172), (by rw [← hv179, ← hK172]; rfl)⟩))⟩), by rw [ht]; exact hP, hD⟩, hS.F ht⟩) hS.2.2 dX10_keep_181
                      · have c82_ := i_nle c82
                        refine lv_aload_n hx hb dX10_keep_85 rfl (lv_at hl 0 rfl) ?_
                        refine va_get (D := eD E) (ci := 10) (v := .ref (am 77)) (C := RX10) (T := TX10) (N := 79) hx hb hts in_X10 hown hK hP 0 rfl rfl 77 (by decide) lk0 (fun _ h9 => h9) rfl dX10_keep_86 ?_
                        refine lv_iload_n hx hb dX10_keep_89 rfl (lv_at hl 2 rfl) ?_
                        refine lv_bipush (v := 30) hx hb dX10_keep_90 (by decide) ?_
                        refine lv_iadd hx hb dX10_keep_92 ?_
                        refine W.eq (g2 := F0 m 93 ls [.int 70, .ref (am 77)]) rfl ?_
                        refine lv_iload_n hx hb dX10_keep_93 rfl (lv_at hl 3 rfl) ?_
                        refine lv_iadd hx hb dX10_keep_94 ?_
                        refine lv_topi (fun x94 e94 => ?_)
                        have t94 := i_add e94 (by omega)
                        refine lv_aload_n hx hb dX10_keep_95 rfl (lv_at hl 0 rfl) ?_
                        refine va_get (D := eD E) (ci := 10) (v := .ref (am 24)) (C := RX10) (T := TX10) (N := 79) hx hb hts in_X10 hown hK hP 0 rfl rfl 24 (by decide) lk7 (fun _ h9 => h9) rfl dX10_keep_96 ?_
                        refine lv_iload_n hx hb dX10_keep_99 rfl (lv_at hl 3 rfl) ?_
                        refine va_iald hx hb hK hP 16 0 rfl rfl (n := 3) (f := (vc 24)) (i_in (by omega) (by omega)) dX10_keep_100 ?_
                        refine lv_topi (fun x100 e100 => ?_)
                        have b100 := hS2 k.toNatClampNeg (i_natlt (by omega) (by decide))
                        rw [← e100] at b100
                        refine va_iast hx hb hK hP hD hS 44 0 rfl rfl (n := 80) (f := (vc 77)) (i_in (by omega) (by omega)) dX10_keep_101 (fun H locs hP hD hS => ?_)
                        replace hP : va_P (eD E) vwCl (mdL E am (up2 vc 77 x94.toNatClampNeg x100)) H := hP
                        replace hD : va_D A (mdL E am (up2 vc 77 x94.toNatClampNeg x100)) := hD
                        generalize hv101 : up2 vc 77 x94.toNatClampNeg x100 = vm_101 at hP hD
                        have hFz : fr [77, 78] vm vm_101 := by first | exact hFz | (rw [← hv101]; exact hFz.up (by decide))
                        have kn101 := i_nat (x := x94) (by omega)
                        have hMI : MdI vm_101 := by rw [← hv101]; exact md_im hMI (im_upd hMI.2.2.1 (fun c hc q => by omega) (fun c hc q => by omega) (fun q => by omega) (fun q => by omega) (fun q => by omega) (fun q => by omega)) (im_upd hMI.2.2.2.1 (fun c hc q => by omega) (fun c hc q => by omega) (fun q => by omega) (fun q => by omega) (fun q => by omega) (fun q => by omega))
                        try clear hmZ
                        try clear hM2
                        try clear hA4
                        have hH := hMI.1
                        obtain ⟨hmG, hmC, hmZ, hmM, hmA, hmS, hmT⟩ := id hH
                        obtain ⟨hG1, hG2, hG3⟩ := id hmG
                        obtain ⟨hC1, hC2, hC3, hC4, hC5, hC6⟩ := id hmC
                        obtain ⟨hM1, hM2, hM3, hM4⟩ := id hmM
                        obtain ⟨hA1, hA2, hA3, hA4, hA5⟩ := id hmA
                        obtain ⟨hS1, hS2, hS3, hS4, hS5, hS6⟩ := id hmS
                        obtain ⟨hT1, hT2, hT3, hT4, hT5⟩ := id hmT
                        have kq101 : x94.toNatClampNeg = 70 + k.toNatClampNeg := by show x94.toInt.toNat = 70 + k.toInt.toNat; omega
                        obtain ⟨x102, e102⟩ : ∃ y : Int32, y = k + 1 := ⟨_, rfl⟩
                        refine lv_iinc (v := x102) (lv' := [(3, .int x102), (0, .ref (am 0)), (1, .int 1), (2, .int 40)]) hx hb dX10_keep_102 hl (k := 3) rfl (by rw [e102]; rfl) (by decide) rfl (fun ls hl => ?_)
                        have t102 := i_add e102 (by omega)
                        refine lv_goto (tgt := 80) hx hb dX10_keep_105 (by decide) ?_
                        exact ih80 x102 vm_101 _ _ ls (by omega) hP hD hS (by omega) hMI hFz (by rw [← hv101]; exact im_f hx80_0 (by omega)) (by rw [← hv101]; exact im_f hx80_1 (by omega)) (by rw [← hv101]; exact im_w hx80_2 (by omega) (by omega) kq101 (by rw [e100, hFz0 24 (by decide)])) (by rw [← hv101]; exact im_o hx80_3 (by omega)) (by rw [← hv101]; exact hx80_4) (lv_sub hl [1, 2, 3, 0] rfl)
                  exact K80 _ 0 vb _ _ ls (Nat.lt_succ_self _) hP hD hS (by omega) h49_1 hFz hx49_1 (fun j h => hx49_0 j (by omega)) (fun j h => absurd h (by omega)) hx49_2 hx49_3 (lv_sub hl [1, 2, 3, 0] rfl)
                · have c52_ := i_nle c52
                  refine lv_aload_n hx hb dX10_keep_55 rfl (lv_at hl 0 rfl) ?_
                  refine va_get (D := eD E) (ci := 10) (v := .ref (am 77)) (C := RX10) (T := TX10) (N := 79) hx hb hts in_X10 hown hK hP 0 rfl rfl 77 (by decide) lk0 (fun _ h9 => h9) rfl dX10_keep_56 ?_
                  refine lv_iload_n hx hb dX10_keep_59 rfl (lv_at hl 2 rfl) ?_
                  refine lv_bipush (v := 24) hx hb dX10_keep_60 (by decide) ?_
                  refine lv_iadd hx hb dX10_keep_62 ?_
                  refine W.eq (g2 := F0 m 63 ls [.int 64, .ref (am 77)]) rfl ?_
                  refine lv_iload_n hx hb dX10_keep_63 rfl (lv_at hl 3 rfl) ?_
                  refine lv_iadd hx hb dX10_keep_64 ?_
                  refine lv_topi (fun x64 e64 => ?_)
                  have t64 := i_add e64 (by omega)
                  refine lv_aload_n hx hb dX10_keep_65 rfl (lv_at hl 0 rfl) ?_
                  refine va_get (D := eD E) (ci := 10) (v := .ref (am 26)) (C := RX10) (T := TX10) (N := 79) hx hb hts in_X10 hown hK hP 0 rfl rfl 26 (by decide) lk8 (fun _ h9 => h9) rfl dX10_keep_66 ?_
                  refine lv_iload_n hx hb dX10_keep_69 rfl (lv_at hl 3 rfl) ?_
                  refine va_iald hx hb hK hP 18 0 rfl rfl (n := 6) (f := (vb 26)) (i_in (by omega) (by omega)) dX10_keep_70 ?_
                  refine lv_topi (fun x70 e70 => ?_)
                  refine va_iast hx hb hK hP hD hS 44 0 rfl rfl (n := 80) (f := (vb 77)) (i_in (by omega) (by omega)) dX10_keep_71 (fun H locs hP hD hS => ?_)
                  replace hP : va_P (eD E) vwCl (mdL E am (up2 vb 77 x64.toNatClampNeg x70)) H := hP
                  replace hD : va_D A (mdL E am (up2 vb 77 x64.toNatClampNeg x70)) := hD
                  generalize hv71 : up2 vb 77 x64.toNatClampNeg x70 = vm_71 at hP hD
                  have hFz : fr [77, 78] vm vm_71 := by first | exact hFz | (rw [← hv71]; exact hFz.up (by decide))
                  have kn71 := i_nat (x := x64) (by omega)
                  have hMI : MdI vm_71 := by rw [← hv71]; exact md_im hMI (im_upd hMI.2.2.1 (fun c hc q => by omega) (fun c hc q => by omega) (fun q => by omega) (fun q => by omega) (fun q => by omega) (fun q => by omega)) (im_upd hMI.2.2.2.1 (fun c hc q => by omega) (fun c hc q => by omega) (fun q => by omega) (fun q => by omega) (fun q => by omega) (fun q => by omega))
                  try clear hmZ
                  try clear hM2
                  try clear hA4
                  have hH := hMI.1
                  obtain ⟨hmG, hmC, hmZ, hmM, hmA, hmS, hmT⟩ := id hH
                  obtain ⟨hG1, hG2, hG3⟩ := id hmG
                  obtain ⟨hC1, hC2, hC3, hC4, hC5, hC6⟩ := id hmC
                  obtain ⟨hM1, hM2, hM3, hM4⟩ := id hmM
                  obtain ⟨hA1, hA2, hA3, hA4, hA5⟩ := id hmA
                  obtain ⟨hS1, hS2, hS3, hS4, hS5, hS6⟩ := id hmS
                  obtain ⟨hT1, hT2, hT3, hT4, hT5⟩ := id hmT
                  have kq71 : x64.toNatClampNeg = 64 + h.toNatClampNeg := by show x64.toInt.toNat = 64 + h.toInt.toNat; omega
                  obtain ⟨x72, e72⟩ : ∃ y : Int32, y = h + 1 := ⟨_, rfl⟩
                  refine lv_iinc (v := x72) (lv' := [(3, .int x72), (0, .ref (am 0)), (1, .int 1), (2, .int 40)]) hx hb dX10_keep_72 hl (k := 3) rfl (by rw [e72]; rfl) (by decide) rfl (fun ls hl => ?_)
                  have t72 := i_add e72 (by omega)
                  refine lv_goto (tgt := 49) hx hb dX10_keep_75 (by decide) ?_
                  exact ih49 x72 vm_71 _ _ ls (by omega) hP hD hS (by omega) hMI hFz (by rw [← hv71]; exact im_w hx49_0 (by omega) (by omega) kq71 (by rw [e70, hFz0 26 (by decide)])) (by rw [← hv71]; exact im_f hx49_1 (by omega)) (by rw [← hv71]; exact im_o hx49_2 (by omega)) (by rw [← hv71]; exact hx49_3) (lv_sub hl [1, 2, 3, 0] rfl)
            exact K49 _ 0 va _ _ ls (Nat.lt_succ_self _) hP hD hS (by omega) h21_1 hFz (fun j h => absurd h (by omega)) (fun j h => hx21_0 j (by omega)) hx21_1 hx21_2 (lv_sub hl [1, 2, 3, 0] rfl)
          · have c24_ := i_nle c24
            refine lv_aload_n hx hb dX10_keep_27 rfl (lv_at hl 0 rfl) ?_
            refine va_get (D := eD E) (ci := 10) (v := .ref (am 77)) (C := RX10) (T := TX10) (N := 79) hx hb hts in_X10 hown hK hP 0 rfl rfl 77 (by decide) lk0 (fun _ h9 => h9) rfl dX10_keep_28 ?_
            refine lv_iload_n hx hb dX10_keep_31 rfl (lv_at hl 2 rfl) ?_
            refine lv_iload_n hx hb dX10_keep_32 rfl (lv_at hl 3 rfl) ?_
            refine lv_iadd hx hb dX10_keep_33 ?_
            refine lv_topi (fun x33 e33 => ?_)
            have t33 := i_add e33 (by omega)
            refine lv_aload_n hx hb dX10_keep_34 rfl (lv_at hl 0 rfl) ?_
            refine va_get (D := eD E) (ci := 10) (v := .ref (am 25)) (C := RX10) (T := TX10) (N := 79) hx hb hts in_X10 hown hK hP 0 rfl rfl 25 (by decide) lk9 (fun _ h9 => h9) rfl dX10_keep_35 ?_
            refine lv_iload_n hx hb dX10_keep_38 rfl (lv_at hl 3 rfl) ?_
            refine va_iald hx hb hK hP 17 0 rfl rfl (n := 24) (f := (va 25)) (i_in (by omega) (by omega)) dX10_keep_39 ?_
            refine lv_topi (fun x39 e39 => ?_)
            have b39 := hS3 q0.toNatClampNeg (i_natlt (by omega) (by decide))
            rw [← e39] at b39
            refine va_iast hx hb hK hP hD hS 44 0 rfl rfl (n := 80) (f := (va 77)) (i_in (by omega) (by omega)) dX10_keep_40 (fun H locs hP hD hS => ?_)
            replace hP : va_P (eD E) vwCl (mdL E am (up2 va 77 x33.toNatClampNeg x39)) H := hP
            replace hD : va_D A (mdL E am (up2 va 77 x33.toNatClampNeg x39)) := hD
            generalize hv40 : up2 va 77 x33.toNatClampNeg x39 = vm_40 at hP hD
            have hFz : fr [77, 78] vm vm_40 := by first | exact hFz | (rw [← hv40]; exact hFz.up (by decide))
            have kn40 := i_nat (x := x33) (by omega)
            have hMI : MdI vm_40 := by rw [← hv40]; exact md_im hMI (im_upd hMI.2.2.1 (fun c hc q => by omega) (fun c hc q => by omega) (fun q => by omega) (fun q => by omega) (fun q => by omega) (fun q => by omega)) (im_upd hMI.2.2.2.1 (fun c hc q => by omega) (fun c hc q => by omega) (fun q => by omega) (fun q => by omega) (fun q => by omega) (fun q => by omega))
            try clear hmZ
            try clear hM2
            try clear hA4
            have hH := hMI.1
            obtain ⟨hmG, hmC, hmZ, hmM, hmA, hmS, hmT⟩ := id hH
            obtain ⟨hG1, hG2, hG3⟩ := id hmG
            obtain ⟨hC1, hC2, hC3, hC4, hC5, hC6⟩ := id hmC
            obtain ⟨hM1, hM2, hM3, hM4⟩ := id hmM
            obtain ⟨hA1, hA2, hA3, hA4, hA5⟩ := id hmA
            obtain ⟨hS1, hS2, hS3, hS4, hS5, hS6⟩ := id hmS
            obtain ⟨hT1, hT2, hT3, hT4, hT5⟩ := id hmT
            have kq40 : x33.toNatClampNeg = 40 + q0.toNatClampNeg := by show x33.toInt.toNat = 40 + q0.toInt.toNat; omega
            obtain ⟨x41, e41⟩ : ∃ y : Int32, y = q0 + 1 := ⟨_, rfl⟩
            refine lv_iinc (v := x41) (lv' := [(3, .int x41), (0, .ref (am 0)), (1, .int 1), (2, .int 40)]) hx hb dX10_keep_41 hl (k := 3) rfl (by rw [e41]; rfl) (by decide) rfl (fun ls hl => ?_)
            have t41 := i_add e41 (by omega)
            refine lv_goto (tgt := 21) hx hb dX10_keep_44 (by decide) ?_
            exact ih21 x41 vm_40 _ _ ls (by omega) hP hD hS (by omega) hMI hFz (by rw [← hv40]; exact im_w hx21_0 (by omega) (by omega) kq40 (by rw [e39, hFz0 25 (by decide)])) (by rw [← hv40]; exact im_o hx21_1 (by omega)) (by rw [← hv40]; exact hx21_2) (lv_sub hl [1, 2, 3, 0] rfl)
      exact K21 _ 0 vm _ _ ls (Nat.lt_succ_self _) hP hD hS (by omega) hMI hFz (fun j h => absurd h (by omega)) imO.rf rfl (lv_sub hl [2, 3, 1, 0] rfl)
  · have c7_ := i_eq c7
    replace h4 := or_n h4 c7_
    refine lv_ldcw hx hb hown lk10 dX10_keep_10 ?_
    subst hQ
    exact W.iret (v := (-1000000001)) hx hb hr (fun t ht hW => ⟨⟨(-1000000001), (vm), rfl, (show ((MdI vm ∧ ((((-1000000001) : Int32).toInt = -1000000001 ∧ (i.toInt < 0 ∨ 1 < i.toInt)) ∨ (((-1000000001) : Int32).toInt = 1 ∧ 0 ≤ i.toInt ∧ i.toInt ≤ 1))) ∧ fr [77, 78] vm vm) ∧ (KeepM i vm vm) from ⟨⟨⟨hMI, by omega⟩, hFz⟩, (Or.inl ⟨by omega, rfl⟩)⟩), by rw [ht]; exact hP, hD⟩, hS.F ht⟩) hS.2.2 dX10_keep_13
def rm_X10_goBack : Room := { frames := 1, cells := 0, slots := 0, locals := 25 }
set_option maxHeartbeats 4000000 in
set_option maxRecDepth 100000 in
theorem c_X10_goBack (l : Launch) (E : Ev) (sz : Nat) (am : Nat → Nat) (vm : Vf) (i : Int32) (hMI : MdI vm) : Met l yX10_goBack wsX10_goBack rm_X10_goBack (MtP E sz [.ref (am 0), .int i] (mdL E am vm)) (va_Qi (fun (r : Int32) (u : Vf) => ((MdI u) ∧ fr [23, 24, 25, 26, 27, 28, 29, 30] vm u) ∧ (GoM i vm r u)) (MtB E (va_A (mdL E am vm) sz) (fun u => mdL E am u)) (va_A (mdL E am vm) sz)) 0 0 (va_A (mdL E am vm) sz) := by
  refine Met.ofW (cc := cX10_goBack) (maxL := 4) (ret := (some .int)) (by decide) rfl ?_
  intro p e s m args below meth c s₁ B hml hv
  obtain ⟨rfl, hsz, hE, hP, hD0⟩ := hv
  subst hsz
  have hD := hD0.self (sz := s.heap.size)
  generalize hAe : va_A (mdL E am vm) s.heap.size = A at hD hE ⊢
  have hA : ∀ q : Nat, s.heap.size ≤ q → A q := fun q h => by rw [← hAe]; exact Or.inr h
  have hS : va_S A s.heap s.heap [] := va_S.rf
  have hx := B.exec
  have hb := B.bytes
  have hr := B.returns
  have hts := atoms_spec (ws := wsX10_goBack) B.pre
  have hown : s.vm.findClass RX10 = some m.cls := findClass_of_methodNamed B.named
  have hlocks := B.notSynchronized
  have hK := hE.1
  have in_X10 : ∀ w ∈ u_ws RX10 TX10 79, w ∈ wsX10_goBack := fun w h => List.mem_cons_of_mem _ (List.mem_append_right _ h)
  have lk0 := hts (.fieldLink RX10 155 "TidedGroundModel" "isKept" "[Z") (List.mem_of_getElem? (i := 2) rfl)
  have lk1 := hts (.fieldLink RX10 152 "TidedGroundModel" "images" "[I") (List.mem_of_getElem? (i := 5) rfl)
  have lk2 := hts (.fieldLink RX10 291 "TidedGroundModel" "step" "I") (List.mem_of_getElem? (i := 8) rfl)
  have lk3 := hts (.fieldLink RX10 294 "TidedGroundModel" "cart" "I") (List.mem_of_getElem? (i := 9) rfl)
  have lk4 := hts (.fieldLink RX10 297 "TidedGroundModel" "pushed" "I") (List.mem_of_getElem? (i := 10) rfl)
  have lk5 := hts (.fieldLink RX10 68 "TidedGroundModel" "steep" "I") (List.mem_of_getElem? (i := 11) rfl)
  have lk6 := hts (.fieldLink RX10 376 "TidedGroundModel" "seed" "I") (List.mem_of_getElem? (i := 12) rfl)
  have lk7 := hts (.fieldLink RX10 59 "TidedGroundModel" "shift" "[I") (List.mem_of_getElem? (i := 7) rfl)
  have lk8 := hts (.fieldLink RX10 65 "TidedGroundModel" "props" "[I") (List.mem_of_getElem? (i := 6) rfl)
  have lk9 := hts (.fieldLink RX10 62 "TidedGroundModel" "load" "[I") (List.mem_of_getElem? (i := 4) rfl)
  have lk10 := hts (.constant RX10 366 (-1000000003)) (List.mem_of_getElem? (i := 3) rfl)
  have lk11 := hts (.constant RX10 329 (-1000000001)) (List.mem_of_getElem? (i := 1) rfl)
  have n_m1000000003 : ((-1000000003) : Int32).toInt = -1000000003 := by decide
  have n_m1000000001 : ((-1000000001) : Int32).toInt = -1000000001 := by decide
  have n_0 : (0 : Int32).toInt = 0 := by decide
  have n_1 : (1 : Int32).toInt = 1 := by decide
  have n_3 : (3 : Int32).toInt = 3 := by decide
  have n_6 : (6 : Int32).toInt = 6 := by decide
  have n_24 : (24 : Int32).toInt = 24 := by decide
  have n_30 : (30 : Int32).toInt = 30 := by decide
  have n_33 : (33 : Int32).toInt = 33 := by decide
  have n_34 : (34 : Int32).toInt = 34 := by decide
  have n_35 : (35 : Int32).toInt = 35 := by decide
  have n_36 : (36 : Int32).toInt = 36 := by decide
  have n_37 : (37 : Int32).toInt = 37 := by decide
  have n_40 : (40 : Int32).toInt = 40 := by decide
  have n_64 : (64 : Int32).toInt = 64 := by decide
  have n_70 : (70 : Int32).toInt = 70 := by decide
  have n_73 : (73 : Int32).toInt = 73 := by decide
  have n_74 : (74 : Int32).toInt = 74 := by decide
  have n_75 : (75 : Int32).toInt = 75 := by decide
  have n_76 : (76 : Int32).toInt = 76 := by decide
  have n_77 : (77 : Int32).toInt = 77 := by decide
  have hl := lv_entry ([.ref (am 0), .int i]) (n := 4) (Nat.le_of_ble_eq_true rfl)
  rw [lg_entry_eq]
  generalize (lg_sl ([.ref (am 0), .int i]) ++ List.replicate (4 - (lg_sl ([.ref (am 0), .int i])).length) Slot.unset).toArray = ls at hl ⊢
  have hl : lv_has ls 4 [(0, .ref (am 0)), (1, .int i)] := hl
  refine W_abs (fun Q hQ => ?_)
  have hH := hMI.1
  obtain ⟨hmG, hmC, hmZ, hmM, hmA, hmS, hmT⟩ := id hH
  obtain ⟨hG1, hG2, hG3⟩ := id hmG
  obtain ⟨hC1, hC2, hC3, hC4, hC5, hC6⟩ := id hmC
  obtain ⟨hM1, hM2, hM3, hM4⟩ := id hmM
  obtain ⟨hA1, hA2, hA3, hA4, hA5⟩ := id hmA
  obtain ⟨hS1, hS2, hS3, hS4, hS5, hS6⟩ := id hmS
  obtain ⟨hT1, hT2, hT3, hT4, hT5⟩ := id hmT
  have hFz : fr [23, 24, 25, 26, 27, 28, 29, 30] vm vm := fr.rf
  refine lv_iload_n hx hb dX10_goBack_0 rfl (lv_at hl 1 rfl) ?_
  refine lv_i2l hx hb dX10_goBack_1 rfl ?_
  refine lv_lconst (v := 0) hx hb dX10_goBack_2 (by decide) ?_
  refine lv_lconst (v := 1) hx hb dX10_goBack_3 (by decide) ?_
  have lt4_0 : (i.toInt64).toInt = i.toInt := Int32.toInt_toInt64 _
  have lt4_1 : (0 : Int64).toInt = 0 := by decide
  have lt4_2 : (1 : Int64).toInt = 1 := by decide
  refine rd_S (As := [.long i.toInt64, .long 0, .long 1]) (rest := []) ⟨hx, hb, hml, hown, hts⟩ (c_X10_in l E A i.toInt64 0 1) (va_cwS 3 hts gX10_goBack_X10_in rfl rfl rfl (by decide +kernel) ⟨Nat.le_of_ble_eq_true rfl, Nat.le_of_ble_eq_true rfl⟩) (hE.kept hS.2.1) (hP.sub (ws' := []) [] rfl) rfl hl.1 rfl (Nat.le_of_ble_eq_true rfl) dX10_goBack_4 ⟨Nat.zero_le _, Nat.zero_le _⟩ (fun r4 h4 => ?_)
  refine lv_if_ne (tgt := 14) hx hb dX10_goBack_7 (by decide) (fun c7 => ?_) (fun c7 => ?_)
  · have c7_ := i_ne c7
    replace h4 := or_y h4 c7_
    clear c7_
    rcases (show i = 0 ∨ i = 1 from i_c2 (by omega) (by omega)) with rfl | rfl
    · refine lv_aload_n hx hb dX10_goBack_14 rfl (lv_at hl 0 rfl) ?_
      refine va_get (D := eD E) (ci := 10) (v := .ref (am 78)) (C := RX10) (T := TX10) (N := 79) hx hb hts in_X10 hown hK hP 0 rfl rfl 78 (by decide) lk0 (fun _ h9 => h9) rfl dX10_goBack_15 ?_
      refine lv_iload_n hx hb dX10_goBack_18 rfl (lv_at hl 1 rfl) ?_
      refine va_zald hx hb hK hP 45 1 rfl rfl (n := 2) (f := (vm 78)) (i_in (by omega) (by omega)) dX10_goBack_19 ?_
      refine lv_topi (fun x19 e19 => ?_)
      have e19 : x19 = (vm 78) 0 := e19
      have tz19 : x19 = vm 78 _ := e19
      refine lv_if_ne (tgt := 27) hx hb dX10_goBack_20 (by decide) (fun c20 => ?_) (fun c20 => ?_)
      · have c20_ := i_ne c20
        refine lv_bipush (v := 40) hx hb dX10_goBack_27 (by decide) ?_
        refine lv_iload_n hx hb dX10_goBack_29 rfl (lv_at hl 1 rfl) ?_
        refine lv_imul hx hb dX10_goBack_30 ?_
        refine W.eq (g2 := F0 m 31 ls [.int 0]) rfl ?_
        refine lv_istore_n (lv' := [(2, .int 0), (0, .ref (am 0)), (1, .int 0)]) hx hb dX10_goBack_31 rfl hl (by decide) rfl (fun ls hl => ?_)
        refine lv_iconst (v := 0) hx hb dX10_goBack_32 (by decide) ?_
        refine lv_istore_n (lv' := [(3, .int 0), (2, .int 0), (0, .ref (am 0)), (1, .int 0)]) hx hb dX10_goBack_33 rfl hl (by decide) rfl (fun ls hl => ?_)
        have K34 : ∀ (μ : Nat) (q0 : Int32) (va : Vf) (H : Heap) (locs : List Loc) (ls : Array Slot), (24 - q0.toInt).toNat < μ → va_P (eD E) vwCl (mdL E am va) H → va_D A (mdL E am va) → va_S A s.heap H locs → (0 ≤ q0.toInt ∧ q0.toInt ≤ 24) → (MdI va) → (fr [23, 24, 25, 26, 27, 28, 29, 30] vm va) → (∀ j : Nat, (j : Int) < q0.toInt → va 25 j = vm 77 (0 + j)) → lv_has ls 4 [(0, .ref (am 0)), (1, .int 0), (2, .int 0), (3, .int q0)] → W p l e (headSpec wsX10_goBack rm_X10_goBack).room s m ([.ref (am 0), .int (0 : Int32)] : List Value).toArray below meth c H locs 0 0 Q (F0 m 34 ls []) := by
          intro μ
          induction μ with
          | zero =>
            intro q0 va H locs ls hμ34
            exact absurd hμ34 (Nat.not_lt_zero _)
          | succ μ ih34 =>
            intro q0 va H locs ls hμ34 hP hD hS h34_0 h34_1 h34_2 h34_3 hl
            have hx34_0 := h34_3
            clear h34_3
            have hMI := h34_1
            try clear hmZ
            try clear hM2
            try clear hA4
            have hH := hMI.1
            obtain ⟨hmG, hmC, hmZ, hmM, hmA, hmS, hmT⟩ := id hH
            obtain ⟨hG1, hG2, hG3⟩ := id hmG
            obtain ⟨hC1, hC2, hC3, hC4, hC5, hC6⟩ := id hmC
            obtain ⟨hM1, hM2, hM3, hM4⟩ := id hmM
            obtain ⟨hA1, hA2, hA3, hA4, hA5⟩ := id hmA
            obtain ⟨hS1, hS2, hS3, hS4, hS5, hS6⟩ := id hmS
            obtain ⟨hT1, hT2, hT3, hT4, hT5⟩ := id hmT
            have hFz := h34_2
            refine lv_iload_n hx hb dX10_goBack_34 rfl (lv_at hl 3 rfl) ?_
            refine lv_bipush (v := 24) hx hb dX10_goBack_35 (by decide) ?_
            refine lv_icmp_ge (tgt := 60) hx hb dX10_goBack_37 (by decide) (fun c37 => ?_) (fun c37 => ?_)
            · have c37_ := i_le c37
              refine lv_iconst (v := 0) hx hb dX10_goBack_60 (by decide) ?_
              refine lv_istore_n (lv' := [(3, .int 0), (0, .ref (am 0)), (1, .int 0), (2, .int 0)]) hx hb dX10_goBack_61 rfl hl (by decide) rfl (fun ls hl => ?_)
              have K62 : ∀ (μ : Nat) (h : Int32) (vb : Vf) (H : Heap) (locs : List Loc) (ls : Array Slot), (6 - h.toInt).toNat < μ → va_P (eD E) vwCl (mdL E am vb) H → va_D A (mdL E am vb) → va_S A s.heap H locs → (0 ≤ h.toInt ∧ h.toInt ≤ 6) → (MdI vb) → (fr [23, 24, 25, 26, 27, 28, 29, 30] vm vb) → (∀ j, j < 24 → vb 25 j = vm 77 (0 + j)) → (∀ j : Nat, (j : Int) < h.toInt → vb 26 j = vm 77 (24 + j)) → lv_has ls 4 [(0, .ref (am 0)), (1, .int 0), (2, .int 0), (3, .int h)] → W p l e (headSpec wsX10_goBack rm_X10_goBack).room s m ([.ref (am 0), .int (0 : Int32)] : List Value).toArray below meth c H locs 0 0 Q (F0 m 62 ls []) := by
                intro μ
                induction μ with
                | zero =>
                  intro h vb H locs ls hμ62
                  exact absurd hμ62 (Nat.not_lt_zero _)
                | succ μ ih62 =>
                  intro h vb H locs ls hμ62 hP hD hS h62_0 h62_1 h62_2 h62_3 h62_4 hl
                  have hx62_0 := h62_3
                  clear h62_3
                  have hx62_1 := h62_4
                  clear h62_4
                  have hMI := h62_1
                  try clear hmZ
                  try clear hM2
                  try clear hA4
                  have hH := hMI.1
                  obtain ⟨hmG, hmC, hmZ, hmM, hmA, hmS, hmT⟩ := id hH
                  obtain ⟨hG1, hG2, hG3⟩ := id hmG
                  obtain ⟨hC1, hC2, hC3, hC4, hC5, hC6⟩ := id hmC
                  obtain ⟨hM1, hM2, hM3, hM4⟩ := id hmM
                  obtain ⟨hA1, hA2, hA3, hA4, hA5⟩ := id hmA
                  obtain ⟨hS1, hS2, hS3, hS4, hS5, hS6⟩ := id hmS
                  obtain ⟨hT1, hT2, hT3, hT4, hT5⟩ := id hmT
                  have hFz := h62_2
                  refine lv_iload_n hx hb dX10_goBack_62 rfl (lv_at hl 3 rfl) ?_
                  refine lv_bipush (v := 6) hx hb dX10_goBack_63 (by decide) ?_
                  refine lv_icmp_ge (tgt := 91) hx hb dX10_goBack_65 (by decide) (fun c65 => ?_) (fun c65 => ?_)
                  · have c65_ := i_le c65
                    refine lv_iconst (v := 0) hx hb dX10_goBack_91 (by decide) ?_
                    refine lv_istore_n (lv' := [(3, .int 0), (0, .ref (am 0)), (1, .int 0), (2, .int 0)]) hx hb dX10_goBack_92 rfl hl (by decide) rfl (fun ls hl => ?_)
                    have K93 : ∀ (μ : Nat) (k : Int32) (vc : Vf) (H : Heap) (locs : List Loc) (ls : Array Slot), (3 - k.toInt).toNat < μ → va_P (eD E) vwCl (mdL E am vc) H → va_D A (mdL E am vc) → va_S A s.heap H locs → (0 ≤ k.toInt ∧ k.toInt ≤ 3) → (MdI vc) → (fr [23, 24, 25, 26, 27, 28, 29, 30] vm vc) → (∀ j, j < 24 → vc 25 j = vm 77 (0 + j)) → (∀ j, j < 6 → vc 26 j = vm 77 (24 + j)) → (∀ j : Nat, (j : Int) < k.toInt → vc 24 j = vm 77 (30 + j)) → lv_has ls 4 [(0, .ref (am 0)), (1, .int 0), (2, .int 0), (3, .int k)] → W p l e (headSpec wsX10_goBack rm_X10_goBack).room s m ([.ref (am 0), .int (0 : Int32)] : List Value).toArray below meth c H locs 0 0 Q (F0 m 93 ls []) := by
                      intro μ
                      induction μ with
                      | zero =>
                        intro k vc H locs ls hμ93
                        exact absurd hμ93 (Nat.not_lt_zero _)
                      | succ μ ih93 =>
                        intro k vc H locs ls hμ93 hP hD hS h93_0 h93_1 h93_2 h93_3 h93_4 h93_5 hl
                        have hx93_0 := h93_3
                        clear h93_3
                        have hx93_1 := h93_4
                        clear h93_4
                        have hx93_2 := h93_5
                        clear h93_5
                        have hMI := h93_1
                        try clear hmZ
                        try clear hM2
                        try clear hA4
                        have hH := hMI.1
                        obtain ⟨hmG, hmC, hmZ, hmM, hmA, hmS, hmT⟩ := id hH
                        obtain ⟨hG1, hG2, hG3⟩ := id hmG
                        obtain ⟨hC1, hC2, hC3, hC4, hC5, hC6⟩ := id hmC
                        obtain ⟨hM1, hM2, hM3, hM4⟩ := id hmM
                        obtain ⟨hA1, hA2, hA3, hA4, hA5⟩ := id hmA
                        obtain ⟨hS1, hS2, hS3, hS4, hS5, hS6⟩ := id hmS
                        obtain ⟨hT1, hT2, hT3, hT4, hT5⟩ := id hmT
                        have hFz := h93_2
                        refine lv_iload_n hx hb dX10_goBack_93 rfl (lv_at hl 3 rfl) ?_
                        refine lv_iconst (v := 3) hx hb dX10_goBack_94 (by decide) ?_
                        refine lv_icmp_ge (tgt := 121) hx hb dX10_goBack_95 (by decide) (fun c95 => ?_) (fun c95 => ?_)
                        · have c95_ := i_le c95
                          refine lv_aload_n hx hb dX10_goBack_121 rfl (lv_at hl 0 rfl) ?_
                          refine lv_aload_n hx hb dX10_goBack_122 rfl (lv_at hl 0 rfl) ?_
                          refine va_get (D := eD E) (ci := 10) (v := .ref (am 77)) (C := RX10) (T := TX10) (N := 79) hx hb hts in_X10 hown hK hP 0 rfl rfl 77 (by decide) lk1 (fun _ h9 => h9) rfl dX10_goBack_123 ?_
                          refine lv_iload_n hx hb dX10_goBack_126 rfl (lv_at hl 2 rfl) ?_
                          refine lv_bipush (v := 33) hx hb dX10_goBack_127 (by decide) ?_
                          refine lv_iadd hx hb dX10_goBack_129 ?_
                          refine W.eq (g2 := F0 m 130 ls [.int 33, .ref (am 77), .ref (am 0)]) rfl ?_
                          refine va_iald hx hb hK hP 44 0 rfl rfl (n := 80) (f := (vc 77)) (i_in (by omega) (by omega)) dX10_goBack_130 ?_
                          refine lv_topi (fun x130 e130 => ?_)
                          have e130 : x130 = (vc 77) 33 := e130
                          have b130 := hMI.2.2.1.2.2.1
                          rw [← show x130 = vc 77 (0 + 33) from e130] at b130
                          have kg130 : x130 = vm 77 33 := by rw [e130, hFz 77 (by decide)]
                          refine va_put (D := eD E) (ci := 10) (v := .int x130) (ty := .int) (C := RX10) (T := TX10) (N := 79) hx hb hts in_X10 tyX10 tyX10_ok nmX10 hown hK hP hD hS 0 rfl rfl 23 (by decide) lk2 (fun _ h9 => h9) rfl (by decide +kernel) rfl rfl (Nat.le_of_ble_eq_true rfl) dX10_goBack_131 (fun H locs hP hD hS => ?_)
                          replace hP : va_P (eD E) vwCl (mdL E am (up2 vc 23 0 x130)) H := hP
                          replace hD : va_D A (mdL E am (up2 vc 23 0 x130)) := hD
                          generalize hv131 : up2 vc 23 0 x130 = vm_131 at hP hD
                          have hFz : fr [23, 24, 25, 26, 27, 28, 29, 30] vm vm_131 := by first | exact hFz | (rw [← hv131]; exact hFz.up (by decide))
                          have hMI : MdI vm_131 := by rw [← hv131]; exact md_step hMI b130
                          refine lv_aload_n hx hb dX10_goBack_134 rfl (lv_at hl 0 rfl) ?_
                          refine lv_aload_n hx hb dX10_goBack_135 rfl (lv_at hl 0 rfl) ?_
                          refine va_get (D := eD E) (ci := 10) (v := .ref (am 77)) (C := RX10) (T := TX10) (N := 79) hx hb hts in_X10 hown hK hP 0 rfl rfl 77 (by decide) lk1 (fun _ h9 => h9) rfl dX10_goBack_136 ?_
                          refine lv_iload_n hx hb dX10_goBack_139 rfl (lv_at hl 2 rfl) ?_
                          refine lv_bipush (v := 34) hx hb dX10_goBack_140 (by decide) ?_
                          refine lv_iadd hx hb dX10_goBack_142 ?_
                          refine W.eq (g2 := F0 m 143 ls [.int 34, .ref (am 77), .ref (am 0)]) rfl ?_
                          refine va_iald hx hb hK hP 44 0 rfl rfl (n := 80) (f := (vm_131 77)) (i_in (by omega) (by omega)) dX10_goBack_143 ?_
                          refine lv_topi (fun x143 e143 => ?_)
                          have e143 : x143 = (vm_131 77) 34 := e143
                          have b143 := hMI.2.2.1.2.2.2.1
                          rw [← show x143 = vm_131 77 (0 + 34) from e143] at b143
                          have kg143 : x143 = vm 77 34 := by rw [e143, hFz 77 (by decide)]
                          refine va_put (D := eD E) (ci := 10) (v := .int x143) (ty := .int) (C := RX10) (T := TX10) (N := 79) hx hb hts in_X10 tyX10 tyX10_ok nmX10 hown hK hP hD hS 0 rfl rfl 27 (by decide) lk3 (fun _ h9 => h9) rfl (by decide +kernel) rfl rfl (Nat.le_of_ble_eq_true rfl) dX10_goBack_144 (fun H locs hP hD hS => ?_)
                          replace hP : va_P (eD E) vwCl (mdL E am (up2 vm_131 27 0 x143)) H := hP
                          replace hD : va_D A (mdL E am (up2 vm_131 27 0 x143)) := hD
                          generalize hv144 : up2 vm_131 27 0 x143 = vm_144 at hP hD
                          have hFz : fr [23, 24, 25, 26, 27, 28, 29, 30] vm vm_144 := by first | exact hFz | (rw [← hv144]; exact hFz.up (by decide))
                          have hMI : MdI vm_144 := by rw [← hv144]; exact md_crt hMI b143
                          refine lv_aload_n hx hb dX10_goBack_147 rfl (lv_at hl 0 rfl) ?_
                          refine lv_aload_n hx hb dX10_goBack_148 rfl (lv_at hl 0 rfl) ?_
                          refine va_get (D := eD E) (ci := 10) (v := .ref (am 77)) (C := RX10) (T := TX10) (N := 79) hx hb hts in_X10 hown hK hP 0 rfl rfl 77 (by decide) lk1 (fun _ h9 => h9) rfl dX10_goBack_149 ?_
                          refine lv_iload_n hx hb dX10_goBack_152 rfl (lv_at hl 2 rfl) ?_
                          refine lv_bipush (v := 35) hx hb dX10_goBack_153 (by decide) ?_
                          refine lv_iadd hx hb dX10_goBack_155 ?_
                          refine W.eq (g2 := F0 m 156 ls [.int 35, .ref (am 77), .ref (am 0)]) rfl ?_
                          refine va_iald hx hb hK hP 44 0 rfl rfl (n := 80) (f := (vm_144 77)) (i_in (by omega) (by omega)) dX10_goBack_156 ?_
                          refine lv_topi (fun x156 e156 => ?_)
                          have e156 : x156 = (vm_144 77) 35 := e156
                          have kg156 : x156 = vm 77 35 := by rw [e156, hFz 77 (by decide)]
                          refine va_put (D := eD E) (ci := 10) (v := .int x156) (ty := .int) (C := RX10) (T := TX10) (N := 79) hx hb hts in_X10 tyX10 tyX10_ok nmX10 hown hK hP hD hS 0 rfl rfl 28 (by decide) lk4 (fun _ h9 => h9) rfl (by decide +kernel) rfl rfl (Nat.le_of_ble_eq_true rfl) dX10_goBack_157 (fun H locs hP hD hS => ?_)
                          replace hP : va_P (eD E) vwCl (mdL E am (up2 vm_144 28 0 x156)) H := hP
                          replace hD : va_D A (mdL E am (up2 vm_144 28 0 x156)) := hD
                          generalize hv157 : up2 vm_144 28 0 x156 = vm_157 at hP hD
                          have hFz : fr [23, 24, 25, 26, 27, 28, 29, 30] vm vm_157 := by first | exact hFz | (rw [← hv157]; exact hFz.up (by decide))
                          have hMI : MdI vm_157 := by rw [← hv157]; exact hMI
                          refine lv_aload_n hx hb dX10_goBack_160 rfl (lv_at hl 0 rfl) ?_
                          refine lv_aload_n hx hb dX10_goBack_161 rfl (lv_at hl 0 rfl) ?_
                          refine va_get (D := eD E) (ci := 10) (v := .ref (am 77)) (C := RX10) (T := TX10) (N := 79) hx hb hts in_X10 hown hK hP 0 rfl rfl 77 (by decide) lk1 (fun _ h9 => h9) rfl dX10_goBack_162 ?_
                          refine lv_iload_n hx hb dX10_goBack_165 rfl (lv_at hl 2 rfl) ?_
                          refine lv_bipush (v := 36) hx hb dX10_goBack_166 (by decide) ?_
                          refine lv_iadd hx hb dX10_goBack_168 ?_
                          refine W.eq (g2 := F0 m 169 ls [.int 36, .ref (am 77), .ref (am 0)]) rfl ?_
                          refine va_iald hx hb hK hP 44 0 rfl rfl (n := 80) (f := (vm_157 77)) (i_in (by omega) (by omega)) dX10_goBack_169 ?_
                          refine lv_topi (fun x169 e169 => ?_)
                          have e169 : x169 = (vm_157 77) 36 := e169
                          have b169 := hMI.2.2.1.2.2.2.2.1
                          rw [← show x169 = vm_157 77 (0 + 36) from e169] at b169
                          have kg169 : x169 = vm 77 36 := by rw [e169, hFz 77 (by decide)]
                          refine va_put (D := eD E) (ci := 10) (v := .int x169) (ty := .int) (C := RX10) (T := TX10) (N := 79) hx hb hts in_X10 tyX10 tyX10_ok nmX10 hown hK hP hD hS 0 rfl rfl 29 (by decide) lk5 (fun _ h9 => h9) rfl (by decide +kernel) rfl rfl (Nat.le_of_ble_eq_true rfl) dX10_goBack_170 (fun H locs hP hD hS => ?_)
                          replace hP : va_P (eD E) vwCl (mdL E am (up2 vm_157 29 0 x169)) H := hP
                          replace hD : va_D A (mdL E am (up2 vm_157 29 0 x169)) := hD
                          generalize hv170 : up2 vm_157 29 0 x169 = vm_170 at hP hD
                          have hFz : fr [23, 24, 25, 26, 27, 28, 29, 30] vm vm_170 := by first | exact hFz | (rw [← hv170]; exact hFz.up (by decide))
                          have hMI : MdI vm_170 := by rw [← hv170]; exact md_steep hMI b169
                          refine lv_aload_n hx hb dX10_goBack_173 rfl (lv_at hl 0 rfl) ?_
                          refine lv_aload_n hx hb dX10_goBack_174 rfl (lv_at hl 0 rfl) ?_
                          refine va_get (D := eD E) (ci := 10) (v := .ref (am 77)) (C := RX10) (T := TX10) (N := 79) hx hb hts in_X10 hown hK hP 0 rfl rfl 77 (by decide) lk1 (fun _ h9 => h9) rfl dX10_goBack_175 ?_
                          refine lv_iload_n hx hb dX10_goBack_178 rfl (lv_at hl 2 rfl) ?_
                          refine lv_bipush (v := 37) hx hb dX10_goBack_179 (by decide) ?_
                          refine lv_iadd hx hb dX10_goBack_181 ?_
                          refine W.eq (g2 := F0 m 182 ls [.int 37, .ref (am 77), .ref (am 0)]) rfl ?_
                          refine va_iald hx hb hK hP 44 0 rfl rfl (n := 80) (f := (vm_170 77)) (i_in (by omega) (by omega)) dX10_goBack_182 ?_
                          refine lv_topi (fun x182 e182 => ?_)
                          have e182 : x182 = (vm_170 77) 37 := e182
                          have b182 := hMI.2.2.1.2.2.2.2.2
                          rw [← show x182 = vm_170 77 (0 + 37) from e182] at b182
                          have kg182 : x182 = vm 77 37 := by rw [e182, hFz 77 (by decide)]
                          refine va_put (D := eD E) (ci := 10) (v := .int x182) (ty := .int) (C := RX10) (T := TX10) (N := 79) hx hb hts in_X10 tyX10 tyX10_ok nmX10 hown hK hP hD hS 0 rfl rfl 30 (by decide) lk6 (fun _ h9 => h9) rfl (by decide +kernel) rfl rfl (Nat.le_of_ble_eq_true rfl) dX10_goBack_183 (fun H locs hP hD hS => ?_)
                          replace hP : va_P (eD E) vwCl (mdL E am (up2 vm_170 30 0 x182)) H := hP
                          replace hD : va_D A (mdL E am (up2 vm_170 30 0 x182)) := hD
                          generalize hv183 : up2 vm_170 30 0 x182 = vm_183 at hP hD
                          have hFz : fr [23, 24, 25, 26, 27, 28, 29, 30] vm vm_183 := by first | exact hFz | (rw [← hv183]; exact hFz.up (by decide))
                          have hMI : MdI vm_183 := by rw [← hv183]; exact md_seed hMI b182
                          have hC183 : imC (vm 77) 0 vm_183 := by rw [← hv183, ← hv170, ← hv157, ← hv144, ← hv131]; exact ⟨fun j hj => (hx93_0 j hj).symm, fun j hj => (hx93_1 j hj).symm, fun j hj => (hx93_2 j (by omega)).symm, kg130.symm, kg143.symm, kg156.symm, kg169.symm, kg182.symm⟩
                          refine lv_iconst (v := 1) hx hb dX10_goBack_186 (by decide) ?_
                          subst hQ
                          exact W.iret (v := 1) hx hb hr (fun t ht hW => ⟨⟨1, (vm_183), rfl, (show ((MdI vm_183) ∧ fr [23, 24, 25, 26, 27, 28, 29, 30] vm vm_183) ∧ (GoM (0 : Int32) vm (1 : Int32) vm_183) from ⟨⟨hMI, hFz⟩, (by first | exact Or.inr (Or.inl ⟨by decide, Or.inr ⟨by rw [← e19]; omega, by omega, hC183⟩⟩) | exact Or.inr (Or.inr ⟨by decide, Or.inr ⟨by rw [← e19]; omega, by omega, hC183⟩⟩))⟩), by rw [ht]; exact hP, hD⟩, hS.F ht⟩) hS.2.2 dX10_goBack_187
                        · have c95_ := i_nle c95
                          refine lv_aload_n hx hb dX10_goBack_98 rfl (lv_at hl 0 rfl) ?_
                          refine va_get (D := eD E) (ci := 10) (v := .ref (am 24)) (C := RX10) (T := TX10) (N := 79) hx hb hts in_X10 hown hK hP 0 rfl rfl 24 (by decide) lk7 (fun _ h9 => h9) rfl dX10_goBack_99 ?_
                          refine lv_iload_n hx hb dX10_goBack_102 rfl (lv_at hl 3 rfl) ?_
                          refine lv_aload_n hx hb dX10_goBack_103 rfl (lv_at hl 0 rfl) ?_
                          refine va_get (D := eD E) (ci := 10) (v := .ref (am 77)) (C := RX10) (T := TX10) (N := 79) hx hb hts in_X10 hown hK hP 0 rfl rfl 77 (by decide) lk1 (fun _ h9 => h9) rfl dX10_goBack_104 ?_
                          refine lv_iload_n hx hb dX10_goBack_107 rfl (lv_at hl 2 rfl) ?_
                          refine lv_bipush (v := 30) hx hb dX10_goBack_108 (by decide) ?_
                          refine lv_iadd hx hb dX10_goBack_110 ?_
                          refine W.eq (g2 := F0 m 111 ls [.int 30, .ref (am 77), .int k, .ref (am 24)]) rfl ?_
                          refine lv_iload_n hx hb dX10_goBack_111 rfl (lv_at hl 3 rfl) ?_
                          refine lv_iadd hx hb dX10_goBack_112 ?_
                          refine lv_topi (fun x112 e112 => ?_)
                          have t112 := i_add e112 (by omega)
                          refine va_iald hx hb hK hP 44 0 rfl rfl (n := 80) (f := (vc 77)) (i_in (by omega) (by omega)) dX10_goBack_113 ?_
                          refine lv_topi (fun x113 e113 => ?_)
                          have kx113 : x112.toNatClampNeg = 30 + k.toNatClampNeg := by have a1 := i_nat (x := x112) (by omega); have a2 := i_nat (x := k) (by omega); omega
                          have b113 := hMI.2.2.1.2.1 k.toNatClampNeg (i_natlt (by omega) (by decide))
                          rw [← kx113, ← e113] at b113
                          have kg113 : x113 = vm 77 (30 + k.toNatClampNeg) := by rw [e113, hFz 77 (by decide), show x112.toNatClampNeg = 30 + k.toNatClampNeg by show x112.toInt.toNat = 30 + k.toInt.toNat; omega]
                          refine va_iast hx hb hK hP hD hS 16 0 rfl rfl (n := 3) (f := (vc 24)) (i_in (by omega) (by omega)) dX10_goBack_114 (fun H locs hP hD hS => ?_)
                          replace hP : va_P (eD E) vwCl (mdL E am (up2 vc 24 k.toNatClampNeg x113)) H := hP
                          replace hD : va_D A (mdL E am (up2 vc 24 k.toNatClampNeg x113)) := hD
                          generalize hv114 : up2 vc 24 k.toNatClampNeg x113 = vm_114 at hP hD
                          have hFz : fr [23, 24, 25, 26, 27, 28, 29, 30] vm vm_114 := by first | exact hFz | (rw [← hv114]; exact hFz.up (by decide))
                          have hMI : MdI vm_114 := by rw [← hv114]; exact md_shift hMI b113
                          obtain ⟨x115, e115⟩ : ∃ y : Int32, y = k + 1 := ⟨_, rfl⟩
                          refine lv_iinc (v := x115) (lv' := [(3, .int x115), (0, .ref (am 0)), (1, .int 0), (2, .int 0)]) hx hb dX10_goBack_115 hl (k := 3) rfl (by rw [e115]; rfl) (by decide) rfl (fun ls hl => ?_)
                          have t115 := i_add e115 (by omega)
                          refine lv_goto (tgt := 93) hx hb dX10_goBack_118 (by decide) ?_
                          exact ih93 x115 vm_114 _ _ ls (by omega) hP hD hS (by omega) hMI hFz (by rw [← hv114]; exact hx93_0) (by rw [← hv114]; exact hx93_1) (by rw [← hv114]; exact upc_next hx93_2 (by omega) (by omega) kg113) (lv_sub hl [1, 2, 3, 0] rfl)
                    exact K93 _ 0 vb _ _ ls (Nat.lt_succ_self _) hP hD hS (by omega) h62_1 hFz hx62_0 (fun j h => hx62_1 j (by omega)) (fun j h => absurd h (by omega)) (lv_sub hl [1, 2, 3, 0] rfl)
                  · have c65_ := i_nle c65
                    refine lv_aload_n hx hb dX10_goBack_68 rfl (lv_at hl 0 rfl) ?_
                    refine va_get (D := eD E) (ci := 10) (v := .ref (am 26)) (C := RX10) (T := TX10) (N := 79) hx hb hts in_X10 hown hK hP 0 rfl rfl 26 (by decide) lk8 (fun _ h9 => h9) rfl dX10_goBack_69 ?_
                    refine lv_iload_n hx hb dX10_goBack_72 rfl (lv_at hl 3 rfl) ?_
                    refine lv_aload_n hx hb dX10_goBack_73 rfl (lv_at hl 0 rfl) ?_
                    refine va_get (D := eD E) (ci := 10) (v := .ref (am 77)) (C := RX10) (T := TX10) (N := 79) hx hb hts in_X10 hown hK hP 0 rfl rfl 77 (by decide) lk1 (fun _ h9 => h9) rfl dX10_goBack_74 ?_
                    refine lv_iload_n hx hb dX10_goBack_77 rfl (lv_at hl 2 rfl) ?_
                    refine lv_bipush (v := 24) hx hb dX10_goBack_78 (by decide) ?_
                    refine lv_iadd hx hb dX10_goBack_80 ?_
                    refine W.eq (g2 := F0 m 81 ls [.int 24, .ref (am 77), .int h, .ref (am 26)]) rfl ?_
                    refine lv_iload_n hx hb dX10_goBack_81 rfl (lv_at hl 3 rfl) ?_
                    refine lv_iadd hx hb dX10_goBack_82 ?_
                    refine lv_topi (fun x82 e82 => ?_)
                    have t82 := i_add e82 (by omega)
                    refine va_iald hx hb hK hP 44 0 rfl rfl (n := 80) (f := (vb 77)) (i_in (by omega) (by omega)) dX10_goBack_83 ?_
                    refine lv_topi (fun x83 e83 => ?_)
                    have kg83 : x83 = vm 77 (24 + h.toNatClampNeg) := by rw [e83, hFz 77 (by decide), show x82.toNatClampNeg = 24 + h.toNatClampNeg by show x82.toInt.toNat = 24 + h.toInt.toNat; omega]
                    refine va_iast hx hb hK hP hD hS 18 0 rfl rfl (n := 6) (f := (vb 26)) (i_in (by omega) (by omega)) dX10_goBack_84 (fun H locs hP hD hS => ?_)
                    replace hP : va_P (eD E) vwCl (mdL E am (up2 vb 26 h.toNatClampNeg x83)) H := hP
                    replace hD : va_D A (mdL E am (up2 vb 26 h.toNatClampNeg x83)) := hD
                    generalize hv84 : up2 vb 26 h.toNatClampNeg x83 = vm_84 at hP hD
                    have hFz : fr [23, 24, 25, 26, 27, 28, 29, 30] vm vm_84 := by first | exact hFz | (rw [← hv84]; exact hFz.up (by decide))
                    have hMI : MdI vm_84 := by rw [← hv84]; exact hMI
                    obtain ⟨x85, e85⟩ : ∃ y : Int32, y = h + 1 := ⟨_, rfl⟩
                    refine lv_iinc (v := x85) (lv' := [(3, .int x85), (0, .ref (am 0)), (1, .int 0), (2, .int 0)]) hx hb dX10_goBack_85 hl (k := 3) rfl (by rw [e85]; rfl) (by decide) rfl (fun ls hl => ?_)
                    have t85 := i_add e85 (by omega)
                    refine lv_goto (tgt := 62) hx hb dX10_goBack_88 (by decide) ?_
                    exact ih62 x85 vm_84 _ _ ls (by omega) hP hD hS (by omega) hMI hFz (by rw [← hv84]; exact hx62_0) (by rw [← hv84]; exact upc_next hx62_1 (by omega) (by omega) kg83) (lv_sub hl [1, 2, 3, 0] rfl)
              exact K62 _ 0 va _ _ ls (Nat.lt_succ_self _) hP hD hS (by omega) h34_1 hFz (fun j h => hx34_0 j (by omega)) (fun j h => absurd h (by omega)) (lv_sub hl [1, 2, 3, 0] rfl)
            · have c37_ := i_nle c37
              refine lv_aload_n hx hb dX10_goBack_40 rfl (lv_at hl 0 rfl) ?_
              refine va_get (D := eD E) (ci := 10) (v := .ref (am 25)) (C := RX10) (T := TX10) (N := 79) hx hb hts in_X10 hown hK hP 0 rfl rfl 25 (by decide) lk9 (fun _ h9 => h9) rfl dX10_goBack_41 ?_
              refine lv_iload_n hx hb dX10_goBack_44 rfl (lv_at hl 3 rfl) ?_
              refine lv_aload_n hx hb dX10_goBack_45 rfl (lv_at hl 0 rfl) ?_
              refine va_get (D := eD E) (ci := 10) (v := .ref (am 77)) (C := RX10) (T := TX10) (N := 79) hx hb hts in_X10 hown hK hP 0 rfl rfl 77 (by decide) lk1 (fun _ h9 => h9) rfl dX10_goBack_46 ?_
              refine lv_iload_n hx hb dX10_goBack_49 rfl (lv_at hl 2 rfl) ?_
              refine lv_iload_n hx hb dX10_goBack_50 rfl (lv_at hl 3 rfl) ?_
              refine lv_iadd hx hb dX10_goBack_51 ?_
              refine lv_topi (fun x51 e51 => ?_)
              have t51 := i_add e51 (by omega)
              refine va_iald hx hb hK hP 44 0 rfl rfl (n := 80) (f := (va 77)) (i_in (by omega) (by omega)) dX10_goBack_52 ?_
              refine lv_topi (fun x52 e52 => ?_)
              have kx52 : x51.toNatClampNeg = 0 + q0.toNatClampNeg := by have a1 := i_nat (x := x51) (by omega); have a2 := i_nat (x := q0) (by omega); omega
              have b52 := hMI.2.2.1.1 q0.toNatClampNeg (i_natlt (by omega) (by decide))
              rw [← kx52, ← e52] at b52
              have kg52 : x52 = vm 77 (0 + q0.toNatClampNeg) := by rw [e52, hFz 77 (by decide), show x51.toNatClampNeg = 0 + q0.toNatClampNeg by show x51.toInt.toNat = 0 + q0.toInt.toNat; omega]
              refine va_iast hx hb hK hP hD hS 17 0 rfl rfl (n := 24) (f := (va 25)) (i_in (by omega) (by omega)) dX10_goBack_53 (fun H locs hP hD hS => ?_)
              replace hP : va_P (eD E) vwCl (mdL E am (up2 va 25 q0.toNatClampNeg x52)) H := hP
              replace hD : va_D A (mdL E am (up2 va 25 q0.toNatClampNeg x52)) := hD
              generalize hv53 : up2 va 25 q0.toNatClampNeg x52 = vm_53 at hP hD
              have hFz : fr [23, 24, 25, 26, 27, 28, 29, 30] vm vm_53 := by first | exact hFz | (rw [← hv53]; exact hFz.up (by decide))
              have hMI : MdI vm_53 := by rw [← hv53]; exact md_load hMI b52
              obtain ⟨x54, e54⟩ : ∃ y : Int32, y = q0 + 1 := ⟨_, rfl⟩
              refine lv_iinc (v := x54) (lv' := [(3, .int x54), (0, .ref (am 0)), (1, .int 0), (2, .int 0)]) hx hb dX10_goBack_54 hl (k := 3) rfl (by rw [e54]; rfl) (by decide) rfl (fun ls hl => ?_)
              have t54 := i_add e54 (by omega)
              refine lv_goto (tgt := 34) hx hb dX10_goBack_57 (by decide) ?_
              exact ih34 x54 vm_53 _ _ ls (by omega) hP hD hS (by omega) hMI hFz (by rw [← hv53]; exact upc_next hx34_0 (by omega) (by omega) kg52) (lv_sub hl [1, 2, 3, 0] rfl)
        exact K34 _ 0 vm _ _ ls (Nat.lt_succ_self _) hP hD hS (by omega) hMI hFz (fun j h => absurd h (by omega)) (lv_sub hl [2, 3, 1, 0] rfl)
      · have c20_ := i_eq c20
        refine lv_ldcw hx hb hown lk10 dX10_goBack_23 ?_
        subst hQ
        exact W.iret (v := (-1000000003)) hx hb hr (fun t ht hW => ⟨⟨(-1000000003), (vm), rfl, (show ((MdI vm) ∧ fr [23, 24, 25, 26, 27, 28, 29, 30] vm vm) ∧ (GoM (0 : Int32) vm ((-1000000003) : Int32) vm) from ⟨⟨hMI, hFz⟩, (by first | exact Or.inr (Or.inl ⟨by decide, Or.inl ⟨by rw [← e19]; omega, by omega, rfl⟩⟩) | exact Or.inr (Or.inr ⟨by decide, Or.inl ⟨by rw [← e19]; omega, by omega, rfl⟩⟩))⟩), by rw [ht]; exact hP, hD⟩, hS.F ht⟩) hS.2.2 dX10_goBack_26
    · refine lv_aload_n hx hb dX10_goBack_14 rfl (lv_at hl 0 rfl) ?_
      refine va_get (D := eD E) (ci := 10) (v := .ref (am 78)) (C := RX10) (T := TX10) (N := 79) hx hb hts in_X10 hown hK hP 0 rfl rfl 78 (by decide) lk0 (fun _ h9 => h9) rfl dX10_goBack_15 ?_
      refine lv_iload_n hx hb dX10_goBack_18 rfl (lv_at hl 1 rfl) ?_
      refine va_zald hx hb hK hP 45 1 rfl rfl (n := 2) (f := (vm 78)) (i_in (by omega) (by omega)) dX10_goBack_19 ?_
      refine lv_topi (fun x19 e19 => ?_)
      have e19 : x19 = (vm 78) 1 := e19
      have tz19 : x19 = vm 78 _ := e19
      refine lv_if_ne (tgt := 27) hx hb dX10_goBack_20 (by decide) (fun c20 => ?_) (fun c20 => ?_)
      · have c20_ := i_ne c20
        refine lv_bipush (v := 40) hx hb dX10_goBack_27 (by decide) ?_
        refine lv_iload_n hx hb dX10_goBack_29 rfl (lv_at hl 1 rfl) ?_
        refine lv_imul hx hb dX10_goBack_30 ?_
        refine W.eq (g2 := F0 m 31 ls [.int 40]) rfl ?_
        refine lv_istore_n (lv' := [(2, .int 40), (0, .ref (am 0)), (1, .int 1)]) hx hb dX10_goBack_31 rfl hl (by decide) rfl (fun ls hl => ?_)
        refine lv_iconst (v := 0) hx hb dX10_goBack_32 (by decide) ?_
        refine lv_istore_n (lv' := [(3, .int 0), (2, .int 40), (0, .ref (am 0)), (1, .int 1)]) hx hb dX10_goBack_33 rfl hl (by decide) rfl (fun ls hl => ?_)
        have K34 : ∀ (μ : Nat) (q0 : Int32) (va : Vf) (H : Heap) (locs : List Loc) (ls : Array Slot), (24 - q0.toInt).toNat < μ → va_P (eD E) vwCl (mdL E am va) H → va_D A (mdL E am va) → va_S A s.heap H locs → (0 ≤ q0.toInt ∧ q0.toInt ≤ 24) → (MdI va) → (fr [23, 24, 25, 26, 27, 28, 29, 30] vm va) → (∀ j : Nat, (j : Int) < q0.toInt → va 25 j = vm 77 (40 + j)) → lv_has ls 4 [(0, .ref (am 0)), (1, .int 1), (2, .int 40), (3, .int q0)] → W p l e (headSpec wsX10_goBack rm_X10_goBack).room s m ([.ref (am 0), .int (1 : Int32)] : List Value).toArray below meth c H locs 0 0 Q (F0 m 34 ls []) := by
          intro μ
          induction μ with
          | zero =>
            intro q0 va H locs ls hμ34
            exact absurd hμ34 (Nat.not_lt_zero _)
          | succ μ ih34 =>
            intro q0 va H locs ls hμ34 hP hD hS h34_0 h34_1 h34_2 h34_3 hl
            have hx34_0 := h34_3
            clear h34_3
            have hMI := h34_1
            try clear hmZ
            try clear hM2
            try clear hA4
            have hH := hMI.1
            obtain ⟨hmG, hmC, hmZ, hmM, hmA, hmS, hmT⟩ := id hH
            obtain ⟨hG1, hG2, hG3⟩ := id hmG
            obtain ⟨hC1, hC2, hC3, hC4, hC5, hC6⟩ := id hmC
            obtain ⟨hM1, hM2, hM3, hM4⟩ := id hmM
            obtain ⟨hA1, hA2, hA3, hA4, hA5⟩ := id hmA
            obtain ⟨hS1, hS2, hS3, hS4, hS5, hS6⟩ := id hmS
            obtain ⟨hT1, hT2, hT3, hT4, hT5⟩ := id hmT
            have hFz := h34_2
            refine lv_iload_n hx hb dX10_goBack_34 rfl (lv_at hl 3 rfl) ?_
            refine lv_bipush (v := 24) hx hb dX10_goBack_35 (by decide) ?_
            refine lv_icmp_ge (tgt := 60) hx hb dX10_goBack_37 (by decide) (fun c37 => ?_) (fun c37 => ?_)
            · have c37_ := i_le c37
              refine lv_iconst (v := 0) hx hb dX10_goBack_60 (by decide) ?_
              refine lv_istore_n (lv' := [(3, .int 0), (0, .ref (am 0)), (1, .int 1), (2, .int 40)]) hx hb dX10_goBack_61 rfl hl (by decide) rfl (fun ls hl => ?_)
              have K62 : ∀ (μ : Nat) (h : Int32) (vb : Vf) (H : Heap) (locs : List Loc) (ls : Array Slot), (6 - h.toInt).toNat < μ → va_P (eD E) vwCl (mdL E am vb) H → va_D A (mdL E am vb) → va_S A s.heap H locs → (0 ≤ h.toInt ∧ h.toInt ≤ 6) → (MdI vb) → (fr [23, 24, 25, 26, 27, 28, 29, 30] vm vb) → (∀ j, j < 24 → vb 25 j = vm 77 (40 + j)) → (∀ j : Nat, (j : Int) < h.toInt → vb 26 j = vm 77 (64 + j)) → lv_has ls 4 [(0, .ref (am 0)), (1, .int 1), (2, .int 40), (3, .int h)] → W p l e (headSpec wsX10_goBack rm_X10_goBack).room s m ([.ref (am 0), .int (1 : Int32)] : List Value).toArray below meth c H locs 0 0 Q (F0 m 62 ls []) := by
                intro μ
                induction μ with
                | zero =>
                  intro h vb H locs ls hμ62
                  exact absurd hμ62 (Nat.not_lt_zero _)
                | succ μ ih62 =>
                  intro h vb H locs ls hμ62 hP hD hS h62_0 h62_1 h62_2 h62_3 h62_4 hl
                  have hx62_0 := h62_3
                  clear h62_3
                  have hx62_1 := h62_4
                  clear h62_4
                  have hMI := h62_1
                  try clear hmZ
                  try clear hM2
                  try clear hA4
                  have hH := hMI.1
                  obtain ⟨hmG, hmC, hmZ, hmM, hmA, hmS, hmT⟩ := id hH
                  obtain ⟨hG1, hG2, hG3⟩ := id hmG
                  obtain ⟨hC1, hC2, hC3, hC4, hC5, hC6⟩ := id hmC
                  obtain ⟨hM1, hM2, hM3, hM4⟩ := id hmM
                  obtain ⟨hA1, hA2, hA3, hA4, hA5⟩ := id hmA
                  obtain ⟨hS1, hS2, hS3, hS4, hS5, hS6⟩ := id hmS
                  obtain ⟨hT1, hT2, hT3, hT4, hT5⟩ := id hmT
                  have hFz := h62_2
                  refine lv_iload_n hx hb dX10_goBack_62 rfl (lv_at hl 3 rfl) ?_
                  refine lv_bipush (v := 6) hx hb dX10_goBack_63 (by decide) ?_
                  refine lv_icmp_ge (tgt := 91) hx hb dX10_goBack_65 (by decide) (fun c65 => ?_) (fun c65 => ?_)
                  · have c65_ := i_le c65
                    refine lv_iconst (v := 0) hx hb dX10_goBack_91 (by decide) ?_
                    refine lv_istore_n (lv' := [(3, .int 0), (0, .ref (am 0)), (1, .int 1), (2, .int 40)]) hx hb dX10_goBack_92 rfl hl (by decide) rfl (fun ls hl => ?_)
                    have K93 : ∀ (μ : Nat) (k : Int32) (vc : Vf) (H : Heap) (locs : List Loc) (ls : Array Slot), (3 - k.toInt).toNat < μ → va_P (eD E) vwCl (mdL E am vc) H → va_D A (mdL E am vc) → va_S A s.heap H locs → (0 ≤ k.toInt ∧ k.toInt ≤ 3) → (MdI vc) → (fr [23, 24, 25, 26, 27, 28, 29, 30] vm vc) → (∀ j, j < 24 → vc 25 j = vm 77 (40 + j)) → (∀ j, j < 6 → vc 26 j = vm 77 (64 + j)) → (∀ j : Nat, (j : Int) < k.toInt → vc 24 j = vm 77 (70 + j)) → lv_has ls 4 [(0, .ref (am 0)), (1, .int 1), (2, .int 40), (3, .int k)] → W p l e (headSpec wsX10_goBack rm_X10_goBack).room s m ([.ref (am 0), .int (1 : Int32)] : List Value).toArray below meth c H locs 0 0 Q (F0 m 93 ls []) := by
                      intro μ
                      induction μ with
                      | zero =>
                        intro k vc H locs ls hμ93
                        exact absurd hμ93 (Nat.not_lt_zero _)
                      | succ μ ih93 =>
                        intro k vc H locs ls hμ93 hP hD hS h93_0 h93_1 h93_2 h93_3 h93_4 h93_5 hl
                        have hx93_0 := h93_3
                        clear h93_3
                        have hx93_1 := h93_4
                        clear h93_4
                        have hx93_2 := h93_5
                        clear h93_5
                        have hMI := h93_1
                        try clear hmZ
                        try clear hM2
                        try clear hA4
                        have hH := hMI.1
                        obtain ⟨hmG, hmC, hmZ, hmM, hmA, hmS, hmT⟩ := id hH
                        obtain ⟨hG1, hG2, hG3⟩ := id hmG
                        obtain ⟨hC1, hC2, hC3, hC4, hC5, hC6⟩ := id hmC
                        obtain ⟨hM1, hM2, hM3, hM4⟩ := id hmM
                        obtain ⟨hA1, hA2, hA3, hA4, hA5⟩ := id hmA
                        obtain ⟨hS1, hS2, hS3, hS4, hS5, hS6⟩ := id hmS
                        obtain ⟨hT1, hT2, hT3, hT4, hT5⟩ := id hmT
                        have hFz := h93_2
                        refine lv_iload_n hx hb dX10_goBack_93 rfl (lv_at hl 3 rfl) ?_
                        refine lv_iconst (v := 3) hx hb dX10_goBack_94 (by decide) ?_
                        refine lv_icmp_ge (tgt := 121) hx hb dX10_goBack_95 (by decide) (fun c95 => ?_) (fun c95 => ?_)
                        · have c95_ := i_le c95
                          refine lv_aload_n hx hb dX10_goBack_121 rfl (lv_at hl 0 rfl) ?_
                          refine lv_aload_n hx hb dX10_goBack_122 rfl (lv_at hl 0 rfl) ?_
                          refine va_get (D := eD E) (ci := 10) (v := .ref (am 77)) (C := RX10) (T := TX10) (N := 79) hx hb hts in_X10 hown hK hP 0 rfl rfl 77 (by decide) lk1 (fun _ h9 => h9) rfl dX10_goBack_123 ?_
                          refine lv_iload_n hx hb dX10_goBack_126 rfl (lv_at hl 2 rfl) ?_
                          refine lv_bipush (v := 33) hx hb dX10_goBack_127 (by decide) ?_
                          refine lv_iadd hx hb dX10_goBack_129 ?_
                          refine W.eq (g2 := F0 m 130 ls [.int 73, .ref (am 77), .ref (am 0)]) rfl ?_
                          refine va_iald hx hb hK hP 44 0 rfl rfl (n := 80) (f := (vc 77)) (i_in (by omega) (by omega)) dX10_goBack_130 ?_
                          refine lv_topi (fun x130 e130 => ?_)
                          have e130 : x130 = (vc 77) 73 := e130
                          have b130 := hMI.2.2.2.1.2.2.1
                          rw [← show x130 = vc 77 (40 + 33) from e130] at b130
                          have kg130 : x130 = vm 77 73 := by rw [e130, hFz 77 (by decide)]
                          refine va_put (D := eD E) (ci := 10) (v := .int x130) (ty := .int) (C := RX10) (T := TX10) (N := 79) hx hb hts in_X10 tyX10 tyX10_ok nmX10 hown hK hP hD hS 0 rfl rfl 23 (by decide) lk2 (fun _ h9 => h9) rfl (by decide +kernel) rfl rfl (Nat.le_of_ble_eq_true rfl) dX10_goBack_131 (fun H locs hP hD hS => ?_)
                          replace hP : va_P (eD E) vwCl (mdL E am (up2 vc 23 0 x130)) H := hP
                          replace hD : va_D A (mdL E am (up2 vc 23 0 x130)) := hD
                          generalize hv131 : up2 vc 23 0 x130 = vm_131 at hP hD
                          have hFz : fr [23, 24, 25, 26, 27, 28, 29, 30] vm vm_131 := by first | exact hFz | (rw [← hv131]; exact hFz.up (by decide))
                          have hMI : MdI vm_131 := by rw [← hv131]; exact md_step hMI b130
                          refine lv_aload_n hx hb dX10_goBack_134 rfl (lv_at hl 0 rfl) ?_
                          refine lv_aload_n hx hb dX10_goBack_135 rfl (lv_at hl 0 rfl) ?_
                          refine va_get (D := eD E) (ci := 10) (v := .ref (am 77)) (C := RX10) (T := TX10) (N := 79) hx hb hts in_X10 hown hK hP 0 rfl rfl 77 (by decide) lk1 (fun _ h9 => h9) rfl dX10_goBack_136 ?_
                          refine lv_iload_n hx hb dX10_goBack_139 rfl (lv_at hl 2 rfl) ?_
                          refine lv_bipush (v := 34) hx hb dX10_goBack_140 (by decide) ?_
                          refine lv_iadd hx hb dX10_goBack_142 ?_
                          refine W.eq (g2 := F0 m 143 ls [.int 74, .ref (am 77), .ref (am 0)]) rfl ?_
                          refine va_iald hx hb hK hP 44 0 rfl rfl (n := 80) (f := (vm_131 77)) (i_in (by omega) (by omega)) dX10_goBack_143 ?_
                          refine lv_topi (fun x143 e143 => ?_)
                          have e143 : x143 = (vm_131 77) 74 := e143
                          have b143 := hMI.2.2.2.1.2.2.2.1
                          rw [← show x143 = vm_131 77 (40 + 34) from e143] at b143
                          have kg143 : x143 = vm 77 74 := by rw [e143, hFz 77 (by decide)]
                          refine va_put (D := eD E) (ci := 10) (v := .int x143) (ty := .int) (C := RX10) (T := TX10) (N := 79) hx hb hts in_X10 tyX10 tyX10_ok nmX10 hown hK hP hD hS 0 rfl rfl 27 (by decide) lk3 (fun _ h9 => h9) rfl (by decide +kernel) rfl rfl (Nat.le_of_ble_eq_true rfl) dX10_goBack_144 (fun H locs hP hD hS => ?_)
                          replace hP : va_P (eD E) vwCl (mdL E am (up2 vm_131 27 0 x143)) H := hP
                          replace hD : va_D A (mdL E am (up2 vm_131 27 0 x143)) := hD
                          generalize hv144 : up2 vm_131 27 0 x143 = vm_144 at hP hD
                          have hFz : fr [23, 24, 25, 26, 27, 28, 29, 30] vm vm_144 := by first | exact hFz | (rw [← hv144]; exact hFz.up (by decide))
                          have hMI : MdI vm_144 := by rw [← hv144]; exact md_crt hMI b143
                          refine lv_aload_n hx hb dX10_goBack_147 rfl (lv_at hl 0 rfl) ?_
                          refine lv_aload_n hx hb dX10_goBack_148 rfl (lv_at hl 0 rfl) ?_
                          refine va_get (D := eD E) (ci := 10) (v := .ref (am 77)) (C := RX10) (T := TX10) (N := 79) hx hb hts in_X10 hown hK hP 0 rfl rfl 77 (by decide) lk1 (fun _ h9 => h9) rfl dX10_goBack_149 ?_
                          refine lv_iload_n hx hb dX10_goBack_152 rfl (lv_at hl 2 rfl) ?_
                          refine lv_bipush (v := 35) hx hb dX10_goBack_153 (by decide) ?_
                          refine lv_iadd hx hb dX10_goBack_155 ?_
                          refine W.eq (g2 := F0 m 156 ls [.int 75, .ref (am 77), .ref (am 0)]) rfl ?_
                          refine va_iald hx hb hK hP 44 0 rfl rfl (n := 80) (f := (vm_144 77)) (i_in (by omega) (by omega)) dX10_goBack_156 ?_
                          refine lv_topi (fun x156 e156 => ?_)
                          have e156 : x156 = (vm_144 77) 75 := e156
                          have kg156 : x156 = vm 77 75 := by rw [e156, hFz 77 (by decide)]
                          refine va_put (D := eD E) (ci := 10) (v := .int x156) (ty := .int) (C := RX10) (T := TX10) (N := 79) hx hb hts in_X10 tyX10 tyX10_ok nmX10 hown hK hP hD hS 0 rfl rfl 28 (by decide) lk4 (fun _ h9 => h9) rfl (by decide +kernel) rfl rfl (Nat.le_of_ble_eq_true rfl) dX10_goBack_157 (fun H locs hP hD hS => ?_)
                          replace hP : va_P (eD E) vwCl (mdL E am (up2 vm_144 28 0 x156)) H := hP
                          replace hD : va_D A (mdL E am (up2 vm_144 28 0 x156)) := hD
                          generalize hv157 : up2 vm_144 28 0 x156 = vm_157 at hP hD
                          have hFz : fr [23, 24, 25, 26, 27, 28, 29, 30] vm vm_157 := by first | exact hFz | (rw [← hv157]; exact hFz.up (by decide))
                          have hMI : MdI vm_157 := by rw [← hv157]; exact hMI
                          refine lv_aload_n hx hb dX10_goBack_160 rfl (lv_at hl 0 rfl) ?_
                          refine lv_aload_n hx hb dX10_goBack_161 rfl (lv_at hl 0 rfl) ?_
                          refine va_get (D := eD E) (ci := 10) (v := .ref (am 77)) (C := RX10) (T := TX10) (N := 79) hx hb hts in_X10 hown hK hP 0 rfl rfl 77 (by decide) lk1 (fun _ h9 => h9) rfl dX10_goBack_162 ?_
                          refine lv_iload_n hx hb dX10_goBack_165 rfl (lv_at hl 2 rfl) ?_
                          refine lv_bipush (v := 36) hx hb dX10_goBack_166 (by decide) ?_
                          refine lv_iadd hx hb dX10_goBack_168 ?_
                          refine W.eq (g2 := F0 m 169 ls [.int 76, .ref (am 77), .ref (am 0)]) rfl ?_
                          refine va_iald hx hb hK hP 44 0 rfl rfl (n := 80) (f := (vm_157 77)) (i_in (by omega) (by omega)) dX10_goBack_169 ?_
                          refine lv_topi (fun x169 e169 => ?_)
                          have e169 : x169 = (vm_157 77) 76 := e169
                          have b169 := hMI.2.2.2.1.2.2.2.2.1
                          rw [← show x169 = vm_157 77 (40 + 36) from e169] at b169
                          have kg169 : x169 = vm 77 76 := by rw [e169, hFz 77 (by decide)]
                          refine va_put (D := eD E) (ci := 10) (v := .int x169) (ty := .int) (C := RX10) (T := TX10) (N := 79) hx hb hts in_X10 tyX10 tyX10_ok nmX10 hown hK hP hD hS 0 rfl rfl 29 (by decide) lk5 (fun _ h9 => h9) rfl (by decide +kernel) rfl rfl (Nat.le_of_ble_eq_true rfl) dX10_goBack_170 (fun H locs hP hD hS => ?_)
                          replace hP : va_P (eD E) vwCl (mdL E am (up2 vm_157 29 0 x169)) H := hP
                          replace hD : va_D A (mdL E am (up2 vm_157 29 0 x169)) := hD
                          generalize hv170 : up2 vm_157 29 0 x169 = vm_170 at hP hD
                          have hFz : fr [23, 24, 25, 26, 27, 28, 29, 30] vm vm_170 := by first | exact hFz | (rw [← hv170]; exact hFz.up (by decide))
                          have hMI : MdI vm_170 := by rw [← hv170]; exact md_steep hMI b169
                          refine lv_aload_n hx hb dX10_goBack_173 rfl (lv_at hl 0 rfl) ?_
                          refine lv_aload_n hx hb dX10_goBack_174 rfl (lv_at hl 0 rfl) ?_
                          refine va_get (D := eD E) (ci := 10) (v := .ref (am 77)) (C := RX10) (T := TX10) (N := 79) hx hb hts in_X10 hown hK hP 0 rfl rfl 77 (by decide) lk1 (fun _ h9 => h9) rfl dX10_goBack_175 ?_
                          refine lv_iload_n hx hb dX10_goBack_178 rfl (lv_at hl 2 rfl) ?_
                          refine lv_bipush (v := 37) hx hb dX10_goBack_179 (by decide) ?_
                          refine lv_iadd hx hb dX10_goBack_181 ?_
                          refine W.eq (g2 := F0 m 182 ls [.int 77, .ref (am 77), .ref (am 0)]) rfl ?_
                          refine va_iald hx hb hK hP 44 0 rfl rfl (n := 80) (f := (vm_170 77)) (i_in (by omega) (by omega)) dX10_goBack_182 ?_
                          refine lv_topi (fun x182 e182 => ?_)
                          have e182 : x182 = (vm_170 77) 77 := e182
                          have b182 := hMI.2.2.2.1.2.2.2.2.2
                          rw [← show x182 = vm_170 77 (40 + 37) from e182] at b182
                          have kg182 : x182 = vm 77 77 := by rw [e182, hFz 77 (by decide)]
                          refine va_put (D := eD E) (ci := 10) (v := .int x182) (ty := .int) (C := RX10) (T := TX10) (N := 79) hx hb hts in_X10 tyX10 tyX10_ok nmX10 hown hK hP hD hS 0 rfl rfl 30 (by decide) lk6 (fun _ h9 => h9) rfl (by decide +kernel) rfl rfl (Nat.le_of_ble_eq_true rfl) dX10_goBack_183 (fun H locs hP hD hS => ?_)
                          replace hP : va_P (eD E) vwCl (mdL E am (up2 vm_170 30 0 x182)) H := hP
                          replace hD : va_D A (mdL E am (up2 vm_170 30 0 x182)) := hD
                          generalize hv183 : up2 vm_170 30 0 x182 = vm_183 at hP hD
                          have hFz : fr [23, 24, 25, 26, 27, 28, 29, 30] vm vm_183 := by first | exact hFz | (rw [← hv183]; exact hFz.up (by decide))
                          have hMI : MdI vm_183 := by rw [← hv183]; exact md_seed hMI b182
                          have hC183 : imC (vm 77) 40 vm_183 := by rw [← hv183, ← hv170, ← hv157, ← hv144, ← hv131]; exact ⟨fun j hj => (hx93_0 j hj).symm, fun j hj => (hx93_1 j hj).symm, fun j hj => (hx93_2 j (by omega)).symm, kg130.symm, kg143.symm, kg156.symm, kg169.symm, kg182.symm⟩
                          refine lv_iconst (v := 1) hx hb dX10_goBack_186 (by decide) ?_
                          subst hQ
                          exact W.iret (v := 1) hx hb hr (fun t ht hW => ⟨⟨1, (vm_183), rfl, (show ((MdI vm_183) ∧ fr [23, 24, 25, 26, 27, 28, 29, 30] vm vm_183) ∧ (GoM (1 : Int32) vm (1 : Int32) vm_183) from ⟨⟨hMI, hFz⟩, (by first | exact Or.inr (Or.inl ⟨by decide, Or.inr ⟨by rw [← e19]; omega, by omega, hC183⟩⟩) | exact Or.inr (Or.inr ⟨by decide, Or.inr ⟨by rw [← e19]; omega, by omega, hC183⟩⟩))⟩), by rw [ht]; exact hP, hD⟩, hS.F ht⟩) hS.2.2 dX10_goBack_187
                        · have c95_ := i_nle c95
                          refine lv_aload_n hx hb dX10_goBack_98 rfl (lv_at hl 0 rfl) ?_
                          refine va_get (D := eD E) (ci := 10) (v := .ref (am 24)) (C := RX10) (T := TX10) (N := 79) hx hb hts in_X10 hown hK hP 0 rfl rfl 24 (by decide) lk7 (fun _ h9 => h9) rfl dX10_goBack_99 ?_
                          refine lv_iload_n hx hb dX10_goBack_102 rfl (lv_at hl 3 rfl) ?_
                          refine lv_aload_n hx hb dX10_goBack_103 rfl (lv_at hl 0 rfl) ?_
                          refine va_get (D := eD E) (ci := 10) (v := .ref (am 77)) (C := RX10) (T := TX10) (N := 79) hx hb hts in_X10 hown hK hP 0 rfl rfl 77 (by decide) lk1 (fun _ h9 => h9) rfl dX10_goBack_104 ?_
                          refine lv_iload_n hx hb dX10_goBack_107 rfl (lv_at hl 2 rfl) ?_
                          refine lv_bipush (v := 30) hx hb dX10_goBack_108 (by decide) ?_
                          refine lv_iadd hx hb dX10_goBack_110 ?_
                          refine W.eq (g2 := F0 m 111 ls [.int 70, .ref (am 77), .int k, .ref (am 24)]) rfl ?_
                          refine lv_iload_n hx hb dX10_goBack_111 rfl (lv_at hl 3 rfl) ?_
                          refine lv_iadd hx hb dX10_goBack_112 ?_
                          refine lv_topi (fun x112 e112 => ?_)
                          have t112 := i_add e112 (by omega)
                          refine va_iald hx hb hK hP 44 0 rfl rfl (n := 80) (f := (vc 77)) (i_in (by omega) (by omega)) dX10_goBack_113 ?_
                          refine lv_topi (fun x113 e113 => ?_)
                          have kx113 : x112.toNatClampNeg = 70 + k.toNatClampNeg := by have a1 := i_nat (x := x112) (by omega); have a2 := i_nat (x := k) (by omega); omega
                          have b113 := hMI.2.2.2.1.2.1 k.toNatClampNeg (i_natlt (by omega) (by decide))
                          rw [← kx113, ← e113] at b113
                          have kg113 : x113 = vm 77 (70 + k.toNatClampNeg) := by rw [e113, hFz 77 (by decide), show x112.toNatClampNeg = 70 + k.toNatClampNeg by show x112.toInt.toNat = 70 + k.toInt.toNat; omega]
                          refine va_iast hx hb hK hP hD hS 16 0 rfl rfl (n := 3) (f := (vc 24)) (i_in (by omega) (by omega)) dX10_goBack_114 (fun H locs hP hD hS => ?_)
                          replace hP : va_P (eD E) vwCl (mdL E am (up2 vc 24 k.toNatClampNeg x113)) H := hP
                          replace hD : va_D A (mdL E am (up2 vc 24 k.toNatClampNeg x113)) := hD
                          generalize hv114 : up2 vc 24 k.toNatClampNeg x113 = vm_114 at hP hD
                          have hFz : fr [23, 24, 25, 26, 27, 28, 29, 30] vm vm_114 := by first | exact hFz | (rw [← hv114]; exact hFz.up (by decide))
                          have hMI : MdI vm_114 := by rw [← hv114]; exact md_shift hMI b113
                          obtain ⟨x115, e115⟩ : ∃ y : Int32, y = k + 1 := ⟨_, rfl⟩
                          refine lv_iinc (v := x115) (lv' := [(3, .int x115), (0, .ref (am 0)), (1, .int 1), (2, .int 40)]) hx hb dX10_goBack_115 hl (k := 3) rfl (by rw [e115]; rfl) (by decide) rfl (fun ls hl => ?_)
                          have t115 := i_add e115 (by omega)
                          refine lv_goto (tgt := 93) hx hb dX10_goBack_118 (by decide) ?_
                          exact ih93 x115 vm_114 _ _ ls (by omega) hP hD hS (by omega) hMI hFz (by rw [← hv114]; exact hx93_0) (by rw [← hv114]; exact hx93_1) (by rw [← hv114]; exact upc_next hx93_2 (by omega) (by omega) kg113) (lv_sub hl [1, 2, 3, 0] rfl)
                    exact K93 _ 0 vb _ _ ls (Nat.lt_succ_self _) hP hD hS (by omega) h62_1 hFz hx62_0 (fun j h => hx62_1 j (by omega)) (fun j h => absurd h (by omega)) (lv_sub hl [1, 2, 3, 0] rfl)
                  · have c65_ := i_nle c65
                    refine lv_aload_n hx hb dX10_goBack_68 rfl (lv_at hl 0 rfl) ?_
                    refine va_get (D := eD E) (ci := 10) (v := .ref (am 26)) (C := RX10) (T := TX10) (N := 79) hx hb hts in_X10 hown hK hP 0 rfl rfl 26 (by decide) lk8 (fun _ h9 => h9) rfl dX10_goBack_69 ?_
                    refine lv_iload_n hx hb dX10_goBack_72 rfl (lv_at hl 3 rfl) ?_
                    refine lv_aload_n hx hb dX10_goBack_73 rfl (lv_at hl 0 rfl) ?_
                    refine va_get (D := eD E) (ci := 10) (v := .ref (am 77)) (C := RX10) (T := TX10) (N := 79) hx hb hts in_X10 hown hK hP 0 rfl rfl 77 (by decide) lk1 (fun _ h9 => h9) rfl dX10_goBack_74 ?_
                    refine lv_iload_n hx hb dX10_goBack_77 rfl (lv_at hl 2 rfl) ?_
                    refine lv_bipush (v := 24) hx hb dX10_goBack_78 (by decide) ?_
                    refine lv_iadd hx hb dX10_goBack_80 ?_
                    refine W.eq (g2 := F0 m 81 ls [.int 64, .ref (am 77), .int h, .ref (am 26)]) rfl ?_
                    refine lv_iload_n hx hb dX10_goBack_81 rfl (lv_at hl 3 rfl) ?_
                    refine lv_iadd hx hb dX10_goBack_82 ?_
                    refine lv_topi (fun x82 e82 => ?_)
                    have t82 := i_add e82 (by omega)
                    refine va_iald hx hb hK hP 44 0 rfl rfl (n := 80) (f := (vb 77)) (i_in (by omega) (by omega)) dX10_goBack_83 ?_
                    refine lv_topi (fun x83 e83 => ?_)
                    have kg83 : x83 = vm 77 (64 + h.toNatClampNeg) := by rw [e83, hFz 77 (by decide), show x82.toNatClampNeg = 64 + h.toNatClampNeg by show x82.toInt.toNat = 64 + h.toInt.toNat; omega]
                    refine va_iast hx hb hK hP hD hS 18 0 rfl rfl (n := 6) (f := (vb 26)) (i_in (by omega) (by omega)) dX10_goBack_84 (fun H locs hP hD hS => ?_)
                    replace hP : va_P (eD E) vwCl (mdL E am (up2 vb 26 h.toNatClampNeg x83)) H := hP
                    replace hD : va_D A (mdL E am (up2 vb 26 h.toNatClampNeg x83)) := hD
                    generalize hv84 : up2 vb 26 h.toNatClampNeg x83 = vm_84 at hP hD
                    have hFz : fr [23, 24, 25, 26, 27, 28, 29, 30] vm vm_84 := by first | exact hFz | (rw [← hv84]; exact hFz.up (by decide))
                    have hMI : MdI vm_84 := by rw [← hv84]; exact hMI
                    obtain ⟨x85, e85⟩ : ∃ y : Int32, y = h + 1 := ⟨_, rfl⟩
                    refine lv_iinc (v := x85) (lv' := [(3, .int x85), (0, .ref (am 0)), (1, .int 1), (2, .int 40)]) hx hb dX10_goBack_85 hl (k := 3) rfl (by rw [e85]; rfl) (by decide) rfl (fun ls hl => ?_)
                    have t85 := i_add e85 (by omega)
                    refine lv_goto (tgt := 62) hx hb dX10_goBack_88 (by decide) ?_
                    exact ih62 x85 vm_84 _ _ ls (by omega) hP hD hS (by omega) hMI hFz (by rw [← hv84]; exact hx62_0) (by rw [← hv84]; exact upc_next hx62_1 (by omega) (by omega) kg83) (lv_sub hl [1, 2, 3, 0] rfl)
              exact K62 _ 0 va _ _ ls (Nat.lt_succ_self _) hP hD hS (by omega) h34_1 hFz (fun j h => hx34_0 j (by omega)) (fun j h => absurd h (by omega)) (lv_sub hl [1, 2, 3, 0] rfl)
            · have c37_ := i_nle c37
              refine lv_aload_n hx hb dX10_goBack_40 rfl (lv_at hl 0 rfl) ?_
              refine va_get (D := eD E) (ci := 10) (v := .ref (am 25)) (C := RX10) (T := TX10) (N := 79) hx hb hts in_X10 hown hK hP 0 rfl rfl 25 (by decide) lk9 (fun _ h9 => h9) rfl dX10_goBack_41 ?_
              refine lv_iload_n hx hb dX10_goBack_44 rfl (lv_at hl 3 rfl) ?_
              refine lv_aload_n hx hb dX10_goBack_45 rfl (lv_at hl 0 rfl) ?_
              refine va_get (D := eD E) (ci := 10) (v := .ref (am 77)) (C := RX10) (T := TX10) (N := 79) hx hb hts in_X10 hown hK hP 0 rfl rfl 77 (by decide) lk1 (fun _ h9 => h9) rfl dX10_goBack_46 ?_
              refine lv_iload_n hx hb dX10_goBack_49 rfl (lv_at hl 2 rfl) ?_
              refine lv_iload_n hx hb dX10_goBack_50 rfl (lv_at hl 3 rfl) ?_
              refine lv_iadd hx hb dX10_goBack_51 ?_
              refine lv_topi (fun x51 e51 => ?_)
              have t51 := i_add e51 (by omega)
              refine va_iald hx hb hK hP 44 0 rfl rfl (n := 80) (f := (va 77)) (i_in (by omega) (by omega)) dX10_goBack_52 ?_
              refine lv_topi (fun x52 e52 => ?_)
              have kx52 : x51.toNatClampNeg = 40 + q0.toNatClampNeg := by have a1 := i_nat (x := x51) (by omega); have a2 := i_nat (x := q0) (by omega); omega
              have b52 := hMI.2.2.2.1.1 q0.toNatClampNeg (i_natlt (by omega) (by decide))
              rw [← kx52, ← e52] at b52
              have kg52 : x52 = vm 77 (40 + q0.toNatClampNeg) := by rw [e52, hFz 77 (by decide), show x51.toNatClampNeg = 40 + q0.toNatClampNeg by show x51.toInt.toNat = 40 + q0.toInt.toNat; omega]
              refine va_iast hx hb hK hP hD hS 17 0 rfl rfl (n := 24) (f := (va 25)) (i_in (by omega) (by omega)) dX10_goBack_53 (fun H locs hP hD hS => ?_)
              replace hP : va_P (eD E) vwCl (mdL E am (up2 va 25 q0.toNatClampNeg x52)) H := hP
              replace hD : va_D A (mdL E am (up2 va 25 q0.toNatClampNeg x52)) := hD
              generalize hv53 : up2 va 25 q0.toNatClampNeg x52 = vm_53 at hP hD
              have hFz : fr [23, 24, 25, 26, 27, 28, 29, 30] vm vm_53 := by first | exact hFz | (rw [← hv53]; exact hFz.up (by decide))
              have hMI : MdI vm_53 := by rw [← hv53]; exact md_load hMI b52
              obtain ⟨x54, e54⟩ : ∃ y : Int32, y = q0 + 1 := ⟨_, rfl⟩
              refine lv_iinc (v := x54) (lv' := [(3, .int x54), (0, .ref (am 0)), (1, .int 1), (2, .int 40)]) hx hb dX10_goBack_54 hl (k := 3) rfl (by rw [e54]; rfl) (by decide) rfl (fun ls hl => ?_)
              have t54 := i_add e54 (by omega)
              refine lv_goto (tgt := 34) hx hb dX10_goBack_57 (by decide) ?_
              exact ih34 x54 vm_53 _ _ ls (by omega) hP hD hS (by omega) hMI hFz (by rw [← hv53]; exact upc_next hx34_0 (by omega) (by omega) kg52) (lv_sub hl [1, 2, 3, 0] rfl)
        exact K34 _ 0 vm _ _ ls (Nat.lt_succ_self _) hP hD hS (by omega) hMI hFz (fun j h => absurd h (by omega)) (lv_sub hl [2, 3, 1, 0] rfl)
      · have c20_ := i_eq c20
        refine lv_ldcw hx hb hown lk10 dX10_goBack_23 ?_
        subst hQ
        exact W.iret (v := (-1000000003)) hx hb hr (fun t ht hW => ⟨⟨(-1000000003), (vm), rfl, (show ((MdI vm) ∧ fr [23, 24, 25, 26, 27, 28, 29, 30] vm vm) ∧ (GoM (1 : Int32) vm ((-1000000003) : Int32) vm) from ⟨⟨hMI, hFz⟩, (by first | exact Or.inr (Or.inl ⟨by decide, Or.inl ⟨by rw [← e19]; omega, by omega, rfl⟩⟩) | exact Or.inr (Or.inr ⟨by decide, Or.inl ⟨by rw [← e19]; omega, by omega, rfl⟩⟩))⟩), by rw [ht]; exact hP, hD⟩, hS.F ht⟩) hS.2.2 dX10_goBack_26
  · have c7_ := i_eq c7
    replace h4 := or_n h4 c7_
    refine lv_ldcw hx hb hown lk11 dX10_goBack_10 ?_
    subst hQ
    exact W.iret (v := (-1000000001)) hx hb hr (fun t ht hW => ⟨⟨(-1000000001), (vm), rfl, (show ((MdI vm) ∧ fr [23, 24, 25, 26, 27, 28, 29, 30] vm vm) ∧ (GoM i vm ((-1000000001) : Int32) vm) from ⟨⟨hMI, hFz⟩, (Or.inl ⟨by omega, by omega, rfl⟩)⟩), by rw [ht]; exact hP, hD⟩, hS.F ht⟩) hS.2.2 dX10_goBack_13
