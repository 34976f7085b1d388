def rm_X10_takeRead : Room := { frames := 1, cells := 0, slots := 0, locals := 24 }
set_option maxHeartbeats 4000000 in
set_option maxRecDepth 100000 in
theorem c_X10_takeRead (l : Launch) (E : Ev) (sz : Nat) (am : Nat → Nat) (vm : Vf) (hMI : MdI vm) (hRd : RdM vm) : Met l yX10_takeRead wsX10_takeRead rm_X10_takeRead (MtP E sz [.ref (am 0)] (mdL E am vm)) (va_Qv (fun (u : Vf) => ((TR vm u 24 3 27 6 5 ∧ (1 ≤ (u 22 0).toInt ∧ (u 22 0).toInt ≤ 729)) ∧ fr [0, 1, 2, 3, 4, 5, 6, 7, 8, 9, 10, 11, 12, 13, 14, 15, 16, 17, 18, 19, 20, 21, 22, 24, 25, 26] vm u) ∧ ((∀ j, j < 3 → u 24 j = 0) ∧ (∀ j, j < 24 → u 25 j = 0) ∧ (∀ j, j < 6 → u 26 j = 0))) (MtB E (va_A (mdL E am vm) sz) (fun u => mdL E am u)) (va_A (mdL E am vm) sz)) 0 0 (va_A (mdL E am vm) sz) := by
  refine Met.ofW (cc := cX10_takeRead) (maxL := 2) (ret := none) (by decide) rfl ?_
  intro p e s m args below meth c s₁ B hml hv
  obtain ⟨rfl, hsz, hE, hP, hD0⟩ := hv
  subst hsz
  have hD := hD0.self (sz := s.heap.size)
  generalize hAe : va_A (mdL E am vm) s.heap.size = A at hD hE ⊢
  have hA : ∀ q : Nat, s.heap.size ≤ q → A q := fun q h => by rw [← hAe]; exact Or.inr h
  have hS : va_S A s.heap s.heap [] := va_S.rf
  have hx := B.exec
  have hb := B.bytes
  have hr := B.returns
  have hts := atoms_spec (ws := wsX10_takeRead) B.pre
  have hown : s.vm.findClass RX10 = some m.cls := findClass_of_methodNamed B.named
  have hlocks := B.notSynchronized
  have hK := hE.1
  have in_X10 : ∀ w ∈ u_ws RX10 TX10 79, w ∈ wsX10_takeRead := fun w h => List.mem_cons_of_mem _ (List.mem_append_right _ h)
  have lk0 := hts (.fieldLink RX10 49 "TidedGroundModel" "deedLow" "[I") (by decide +kernel)
  have lk1 := hts (.fieldLink RX10 119 "TidedGroundModel" "readDeedLow" "[I") (by decide +kernel)
  have lk2 := hts (.fieldLink RX10 52 "TidedGroundModel" "deedHigh" "[I") (by decide +kernel)
  have lk3 := hts (.fieldLink RX10 122 "TidedGroundModel" "readDeedHigh" "[I") (by decide +kernel)
  have lk4 := hts (.fieldLink RX10 43 "TidedGroundModel" "wellAt" "[I") (by decide +kernel)
  have lk5 := hts (.fieldLink RX10 113 "TidedGroundModel" "readWellAt" "[I") (by decide +kernel)
  have lk6 := hts (.fieldLink RX10 46 "TidedGroundModel" "wellDeep" "[I") (by decide +kernel)
  have lk7 := hts (.fieldLink RX10 116 "TidedGroundModel" "readWellDeep" "[I") (by decide +kernel)
  have lk8 := hts (.fieldLink RX10 28 "TidedGroundModel" "houseAt" "[I") (by decide +kernel)
  have lk9 := hts (.fieldLink RX10 98 "TidedGroundModel" "readHouseAt" "[I") (by decide +kernel)
  have lk10 := hts (.fieldLink RX10 31 "TidedGroundModel" "hinge" "[I") (by decide +kernel)
  have lk11 := hts (.fieldLink RX10 101 "TidedGroundModel" "readHinge" "[I") (by decide +kernel)
  have lk12 := hts (.fieldLink RX10 65 "TidedGroundModel" "props" "[I") (by decide +kernel)
  have lk13 := hts (.fieldLink RX10 34 "TidedGroundModel" "crackAt" "[I") (by decide +kernel)
  have lk14 := hts (.fieldLink RX10 104 "TidedGroundModel" "readCrackAt" "[I") (by decide +kernel)
  have lk15 := hts (.fieldLink RX10 37 "TidedGroundModel" "crackWay" "[I") (by decide +kernel)
  have lk16 := hts (.fieldLink RX10 107 "TidedGroundModel" "readCrackWay" "[I") (by decide +kernel)
  have lk17 := hts (.fieldLink RX10 40 "TidedGroundModel" "crackOpen" "[I") (by decide +kernel)
  have lk18 := hts (.fieldLink RX10 110 "TidedGroundModel" "readCrackOpen" "[I") (by decide +kernel)
  have lk19 := hts (.fieldLink RX10 25 "TidedGroundModel" "parts" "[I") (by decide +kernel)
  have lk20 := hts (.fieldLink RX10 95 "TidedGroundModel" "readParts" "[I") (by decide +kernel)
  have lk21 := hts (.fieldLink RX10 16 "TidedGroundModel" "many" "[I") (by decide +kernel)
  have lk22 := hts (.fieldLink RX10 267 "TidedGroundModel" "moons" "I") (by decide +kernel)
  have lk23 := hts (.fieldLink RX10 19 "TidedGroundModel" "lateX" "[I") (by decide +kernel)
  have lk24 := hts (.fieldLink RX10 89 "TidedGroundModel" "readLateX" "[I") (by decide +kernel)
  have lk25 := hts (.fieldLink RX10 22 "TidedGroundModel" "lateY" "[I") (by decide +kernel)
  have lk26 := hts (.fieldLink RX10 92 "TidedGroundModel" "readLateY" "[I") (by decide +kernel)
  have lk27 := hts (.fieldLink RX10 59 "TidedGroundModel" "shift" "[I") (by decide +kernel)
  have lk28 := hts (.fieldLink RX10 55 "TidedGroundModel" "period" "I") (by decide +kernel)
  have lk29 := hts (.fieldLink RX10 86 "TidedGroundModel" "readMany" "[I") (by decide +kernel)
  have lk30 := hts (.fieldLink RX10 204 "TidedGroundModel" "readWide" "I") (by decide +kernel)
  have lk31 := hts (.fieldLink RX10 159 "TidedGroundModel" "wide" "I") (by decide +kernel)
  have lk32 := hts (.fieldLink RX10 207 "TidedGroundModel" "readDeep" "I") (by decide +kernel)
  have lk33 := hts (.fieldLink RX10 162 "TidedGroundModel" "deep" "I") (by decide +kernel)
  have lk34 := hts (.fieldLink RX10 231 "TidedGroundModel" "readMoons" "I") (by decide +kernel)
  have lk35 := hts (.fieldLink RX10 234 "TidedGroundModel" "readHouses" "I") (by decide +kernel)
  have lk36 := hts (.fieldLink RX10 270 "TidedGroundModel" "houses" "I") (by decide +kernel)
  have lk37 := hts (.fieldLink RX10 237 "TidedGroundModel" "readCracks" "I") (by decide +kernel)
  have lk38 := hts (.fieldLink RX10 273 "TidedGroundModel" "cracks" "I") (by decide +kernel)
  have lk39 := hts (.fieldLink RX10 240 "TidedGroundModel" "readWells" "I") (by decide +kernel)
  have lk40 := hts (.fieldLink RX10 276 "TidedGroundModel" "wells" "I") (by decide +kernel)
  have lk41 := hts (.fieldLink RX10 243 "TidedGroundModel" "readDeeds" "I") (by decide +kernel)
  have lk42 := hts (.fieldLink RX10 279 "TidedGroundModel" "deeds" "I") (by decide +kernel)
  have lk43 := hts (.fieldLink RX10 7 "TidedGroundModel" "base" "[I") (by decide +kernel)
  have lk44 := hts (.fieldLink RX10 77 "TidedGroundModel" "readBase" "[I") (by decide +kernel)
  have lk45 := hts (.fieldLink RX10 13 "TidedGroundModel" "soft" "[I") (by decide +kernel)
  have lk46 := hts (.fieldLink RX10 80 "TidedGroundModel" "readSoft" "[I") (by decide +kernel)
  have lk47 := hts (.fieldLink RX10 62 "TidedGroundModel" "load" "[I") (by decide +kernel)
  have n_0 : (0 : Int32).toInt = 0 := by decide
  have n_1 : (1 : Int32).toInt = 1 := by decide
  have n_3 : (3 : Int32).toInt = 3 := by decide
  have n_4 : (4 : Int32).toInt = 4 := by decide
  have n_5 : (5 : Int32).toInt = 5 := by decide
  have n_6 : (6 : Int32).toInt = 6 := by decide
  have n_24 : (24 : Int32).toInt = 24 := by decide
  have n_27 : (27 : Int32).toInt = 27 := by decide
  have n_30 : (30 : Int32).toInt = 30 := by decide
  have n_100 : (100 : Int32).toInt = 100 := by decide
  have hl := lv_entry ([.ref (am 0)]) (n := 2) (Nat.le_of_ble_eq_true rfl)
  rw [lg_entry_eq]
  generalize (lg_sl ([.ref (am 0)]) ++ List.replicate (2 - (lg_sl ([.ref (am 0)])).length) Slot.unset).toArray = ls at hl ⊢
  have hl : lv_has ls 2 [(0, .ref (am 0))] := hl
  refine W_abs (fun Q hQ => ?_)
  have hH := hMI.1
  obtain ⟨hrG, hrC, hrZ, hrMo, hrB, hrD⟩ := id hRd
  obtain ⟨hrc1, hrc2, hrc3, hrc4, hrc5, hrc6⟩ := id hrC
  have hFz : fr [0, 1, 2, 3, 4, 5, 6, 7, 8, 9, 10, 11, 12, 13, 14, 15, 16, 17, 18, 19, 20, 21, 22, 24, 25, 26] vm vm := fr.rf
  have K352 : ∀ (μ : Nat) (i : Int32) (vg : Vf) (H : Heap) (locs : List Loc) (ls : Array Slot), (4 - i.toInt).toNat < μ → va_P (eD E) vwCl (mdL E am vg) H → va_D A (mdL E am vg) → va_S A s.heap H locs → (0 ≤ i.toInt ∧ i.toInt ≤ 4) → (TR vm vg 24 3 27 6 5) → (1 ≤ (vg 22 0).toInt ∧ (vg 22 0).toInt ≤ 729) → (fr [0, 1, 2, 3, 4, 5, 6, 7, 8, 9, 10, 11, 12, 13, 14, 15, 16, 17, 18, 19, 20, 21, 22, 24, 25, 26] vm vg) → (∀ j, j < 24 → vg 25 j = 0) → (∀ j, j < 3 → vg 24 j = 0) → (∀ j, j < 6 → vg 26 j = 0) → lv_has ls 2 [(0, .ref (am 0)), (1, .int i)] → W p l e (headSpec wsX10_takeRead rm_X10_takeRead).room s m ([.ref (am 0)] : List Value).toArray below meth c H locs 0 0 Q (F0 m 352 ls []) := by
    intro μ
    induction μ with
    | zero =>
      intro i vg H locs ls hμ352
      exact absurd hμ352 (Nat.not_lt_zero _)
    | succ μ ih352 =>
      intro i vg H locs ls hμ352 hP hD hS h352_0 h352_1 h352_2 h352_3 h352_4 h352_5 h352_6 hl
      have hx352_0 := h352_4
      clear h352_4
      have hx352_1 := h352_5
      clear h352_5
      have hx352_2 := h352_6
      clear h352_6
      have hFz := h352_3
      refine lv_iload_n hx hb dX10_takeRead_352 rfl (lv_at hl 1 rfl) ?_
      refine lv_iconst (v := 4) hx hb dX10_takeRead_353 (by decide) ?_
      refine lv_icmp_ge (tgt := 393) hx hb dX10_takeRead_354 (by decide) (fun c354 => ?_) (fun c354 => ?_)
      · have c354_ := i_le c354
        subst hQ
        exact W.vret hx hb hr (fun t ht hW => ⟨⟨(vg), rfl, (show ((TR vm vg 24 3 27 6 5 ∧ (1 ≤ (vg 22 0).toInt ∧ (vg 22 0).toInt ≤ 729)) ∧ fr [0, 1, 2, 3, 4, 5, 6, 7, 8, 9, 10, 11, 12, 13, 14, 15, 16, 17, 18, 19, 20, 21, 22, 24, 25, 26] vm vg) ∧ ((∀ j, j < 3 → vg 24 j = 0) ∧ (∀ j, j < 24 → vg 25 j = 0) ∧ (∀ j, j < 6 → vg 26 j = 0)) from ⟨⟨⟨h352_1, h352_2⟩, hFz⟩, ⟨hx352_1, hx352_0, hx352_2⟩⟩), by rw [ht]; exact hP, hD⟩, hS.F ht⟩) hS.2.2 dX10_takeRead_393
      · have c354_ := i_nle c354
        refine lv_aload_n hx hb dX10_takeRead_357 rfl (lv_at hl 0 rfl) ?_
        refine va_get (D := eD E) (ci := 10) (v := .ref (am 20)) (C := RX10) (T := TX10) (N := 79) hx hb hts in_X10 hown hK hP 0 rfl rfl 20 (by decide) lk0 (fun _ h9 => h9) rfl dX10_takeRead_358 ?_
        refine lv_iload_n hx hb dX10_takeRead_361 rfl (lv_at hl 1 rfl) ?_
        refine lv_aload_n hx hb dX10_takeRead_362 rfl (lv_at hl 0 rfl) ?_
        refine va_get (D := eD E) (ci := 10) (v := .ref (am 59)) (C := RX10) (T := TX10) (N := 79) hx hb hts in_X10 hown hK hP 0 rfl rfl 59 (by decide) lk1 (fun _ h9 => h9) rfl dX10_takeRead_363 ?_
        refine lv_iload_n hx hb dX10_takeRead_366 rfl (lv_at hl 1 rfl) ?_
        refine va_iald hx hb hK hP 34 0 rfl rfl (n := 4) (f := (vg 59)) (i_in (by omega) (by omega)) dX10_takeRead_367 ?_
        refine lv_topi (fun x367 e367 => ?_)
        refine lv_bipush (v := 100) hx hb dX10_takeRead_368 (by decide) ?_
        refine lv_isub hx hb dX10_takeRead_370 ?_
        refine lv_topi (fun x370 e370 => ?_)
        refine va_iast hx hb hK hP hD hS 14 0 rfl rfl (n := 4) (f := (vg 20)) (i_in (by omega) (by omega)) dX10_takeRead_371 (fun H locs hP hD hS => ?_)
        replace hP : va_P (eD E) vwCl (mdL E am (up2 vg 20 i.toNatClampNeg x370)) H := hP
        replace hD : va_D A (mdL E am (up2 vg 20 i.toNatClampNeg x370)) := hD
        generalize hv371 : up2 vg 20 i.toNatClampNeg x370 = vm_371 at hP hD
        have hFz : fr [0, 1, 2, 3, 4, 5, 6, 7, 8, 9, 10, 11, 12, 13, 14, 15, 16, 17, 18, 19, 20, 21, 22, 24, 25, 26] vm vm_371 := by first | exact hFz | (rw [← hv371]; exact hFz.up (by decide))
        refine lv_aload_n hx hb dX10_takeRead_372 rfl (lv_at hl 0 rfl) ?_
        refine va_get (D := eD E) (ci := 10) (v := .ref (am 21)) (C := RX10) (T := TX10) (N := 79) hx hb hts in_X10 hown hK hP 0 rfl rfl 21 (by decide) lk2 (fun _ h9 => h9) rfl dX10_takeRead_373 ?_
        refine lv_iload_n hx hb dX10_takeRead_376 rfl (lv_at hl 1 rfl) ?_
        refine lv_aload_n hx hb dX10_takeRead_377 rfl (lv_at hl 0 rfl) ?_
        refine va_get (D := eD E) (ci := 10) (v := .ref (am 60)) (C := RX10) (T := TX10) (N := 79) hx hb hts in_X10 hown hK hP 0 rfl rfl 60 (by decide) lk3 (fun _ h9 => h9) rfl dX10_takeRead_378 ?_
        refine lv_iload_n hx hb dX10_takeRead_381 rfl (lv_at hl 1 rfl) ?_
        refine va_iald hx hb hK hP 35 0 rfl rfl (n := 4) (f := (vm_371 60)) (i_in (by omega) (by omega)) dX10_takeRead_382 ?_
        refine lv_topi (fun x382 e382 => ?_)
        refine lv_bipush (v := 100) hx hb dX10_takeRead_383 (by decide) ?_
        refine lv_isub hx hb dX10_takeRead_385 ?_
        refine lv_topi (fun x385 e385 => ?_)
        refine va_iast hx hb hK hP hD hS 15 0 rfl rfl (n := 4) (f := (vm_371 21)) (i_in (by omega) (by omega)) dX10_takeRead_386 (fun H locs hP hD hS => ?_)
        replace hP : va_P (eD E) vwCl (mdL E am (up2 vm_371 21 i.toNatClampNeg x385)) H := hP
        replace hD : va_D A (mdL E am (up2 vm_371 21 i.toNatClampNeg x385)) := hD
        generalize hv386 : up2 vm_371 21 i.toNatClampNeg x385 = vm_386 at hP hD
        have hFz : fr [0, 1, 2, 3, 4, 5, 6, 7, 8, 9, 10, 11, 12, 13, 14, 15, 16, 17, 18, 19, 20, 21, 22, 24, 25, 26] vm vm_386 := by first | exact hFz | (rw [← hv386]; exact hFz.up (by decide))
        obtain ⟨x387, e387⟩ : ∃ y : Int32, y = i + 1 := ⟨_, rfl⟩
        refine lv_iinc (v := x387) (lv' := [(1, .int x387), (0, .ref (am 0))]) hx hb dX10_takeRead_387 hl (k := 1) rfl (by rw [e387]; rfl) (by decide) rfl (fun ls hl => ?_)
        have t387 := i_add e387 (by omega)
        have hTR : TR vm vm_386 24 3 27 6 5 := by rw [← hv386, ← hv371]; exact h352_1.deed
        have hp386 : (vm_386 22 0).toInt = (vg 22 0).toInt := by rw [← hv386, ← hv371]; rfl
        refine lv_goto (tgt := 352) hx hb dX10_takeRead_390 (by decide) ?_
        exact ih352 x387 vm_386 _ _ ls (by omega) hP hD hS (by omega) hTR (by omega) hFz (by rw [← hv386, ← hv371]; exact hx352_0) (by rw [← hv386, ← hv371]; exact hx352_1) (by rw [← hv386, ← hv371]; exact hx352_2) (lv_sub hl [1, 0] rfl)
  have K315 : ∀ (μ : Nat) (i : Int32) (ve : Vf) (H : Heap) (locs : List Loc) (ls : Array Slot), (5 - i.toInt).toNat < μ → va_P (eD E) vwCl (mdL E am ve) H → va_D A (mdL E am ve) → va_S A s.heap H locs → (0 ≤ i.toInt ∧ i.toInt ≤ 5) → (TR vm ve 24 3 27 6 i.toNatClampNeg) → (1 ≤ (ve 22 0).toInt ∧ (ve 22 0).toInt ≤ 729) → (fr [0, 1, 2, 3, 4, 5, 6, 7, 8, 9, 10, 11, 12, 13, 14, 15, 16, 17, 18, 19, 20, 21, 22, 24, 25, 26] vm ve) → (∀ j, j < 24 → ve 25 j = 0) → (∀ j, j < 3 → ve 24 j = 0) → (∀ j, j < 6 → ve 26 j = 0) → lv_has ls 2 [(0, .ref (am 0)), (1, .int i)] → W p l e (headSpec wsX10_takeRead rm_X10_takeRead).room s m ([.ref (am 0)] : List Value).toArray below meth c H locs 0 0 Q (F0 m 315 ls []) := by
    intro μ
    induction μ with
    | zero =>
      intro i ve H locs ls hμ315
      exact absurd hμ315 (Nat.not_lt_zero _)
    | succ μ ih315 =>
      intro i ve H locs ls hμ315 hP hD hS h315_0 h315_1 h315_2 h315_3 h315_4 h315_5 h315_6 hl
      have hx315_0 := h315_4
      clear h315_4
      have hx315_1 := h315_5
      clear h315_5
      have hx315_2 := h315_6
      clear h315_6
      have hFz := h315_3
      refine lv_iload_n hx hb dX10_takeRead_315 rfl (lv_at hl 1 rfl) ?_
      refine lv_iconst (v := 5) hx hb dX10_takeRead_316 (by decide) ?_
      refine lv_icmp_ge (tgt := 350) hx hb dX10_takeRead_317 (by decide) (fun c317 => ?_) (fun c317 => ?_)
      · have c317_ := i_le c317
        have hi : i.toNatClampNeg = 5 := by have := i_nat (x := i) (by omega); omega
        have hTRe : TR vm ve 24 3 27 6 5 := by rw [← hi]; exact h315_1
        refine lv_iconst (v := 0) hx hb dX10_takeRead_350 (by decide) ?_
        refine lv_istore_n (lv' := [(1, .int 0), (0, .ref (am 0))]) hx hb dX10_takeRead_351 rfl hl (by decide) rfl (fun ls hl => ?_)
        exact K352 _ 0 ve _ _ ls (Nat.lt_succ_self _) hP hD hS (by omega) hTRe (by omega) hFz hx315_0 hx315_1 hx315_2 (lv_sub hl [1, 0] rfl)
      · have c317_ := i_nle c317
        refine lv_aload_n hx hb dX10_takeRead_320 rfl (lv_at hl 0 rfl) ?_
        refine va_get (D := eD E) (ci := 10) (v := .ref (am 17)) (C := RX10) (T := TX10) (N := 79) hx hb hts in_X10 hown hK hP 0 rfl rfl 17 (by decide) lk4 (fun _ h9 => h9) rfl dX10_takeRead_321 ?_
        refine lv_iload_n hx hb dX10_takeRead_324 rfl (lv_at hl 1 rfl) ?_
        refine lv_aload_n hx hb dX10_takeRead_325 rfl (lv_at hl 0 rfl) ?_
        refine va_get (D := eD E) (ci := 10) (v := .ref (am 56)) (C := RX10) (T := TX10) (N := 79) hx hb hts in_X10 hown hK hP 0 rfl rfl 56 (by decide) lk5 (fun _ h9 => h9) rfl dX10_takeRead_326 ?_
        refine lv_iload_n hx hb dX10_takeRead_329 rfl (lv_at hl 1 rfl) ?_
        refine va_iald hx hb hK hP 32 0 rfl rfl (n := 5) (f := (ve 56)) (i_in (by omega) (by omega)) dX10_takeRead_330 ?_
        refine lv_topi (fun x330 e330 => ?_)
        have b330 := hMI.2.2.2.2.2.2.2 i.toNatClampNeg (i_natlt (by omega) (by decide))
        rw [← h315_1.1 56 (by omega), ← e330] at b330
        refine va_iast hx hb hK hP hD hS 12 0 rfl rfl (n := 5) (f := (ve 17)) (i_in (by omega) (by omega)) dX10_takeRead_331 (fun H locs hP hD hS => ?_)
        replace hP : va_P (eD E) vwCl (mdL E am (up2 ve 17 i.toNatClampNeg x330)) H := hP
        replace hD : va_D A (mdL E am (up2 ve 17 i.toNatClampNeg x330)) := hD
        generalize hv331 : up2 ve 17 i.toNatClampNeg x330 = vm_331 at hP hD
        have hFz : fr [0, 1, 2, 3, 4, 5, 6, 7, 8, 9, 10, 11, 12, 13, 14, 15, 16, 17, 18, 19, 20, 21, 22, 24, 25, 26] vm vm_331 := by first | exact hFz | (rw [← hv331]; exact hFz.up (by decide))
        refine lv_aload_n hx hb dX10_takeRead_332 rfl (lv_at hl 0 rfl) ?_
        refine va_get (D := eD E) (ci := 10) (v := .ref (am 18)) (C := RX10) (T := TX10) (N := 79) hx hb hts in_X10 hown hK hP 0 rfl rfl 18 (by decide) lk6 (fun _ h9 => h9) rfl dX10_takeRead_333 ?_
        refine lv_iload_n hx hb dX10_takeRead_336 rfl (lv_at hl 1 rfl) ?_
        refine lv_aload_n hx hb dX10_takeRead_337 rfl (lv_at hl 0 rfl) ?_
        refine va_get (D := eD E) (ci := 10) (v := .ref (am 57)) (C := RX10) (T := TX10) (N := 79) hx hb hts in_X10 hown hK hP 0 rfl rfl 57 (by decide) lk7 (fun _ h9 => h9) rfl dX10_takeRead_338 ?_
        refine lv_iload_n hx hb dX10_takeRead_341 rfl (lv_at hl 1 rfl) ?_
        refine va_iald hx hb hK hP 33 0 rfl rfl (n := 5) (f := (vm_331 57)) (i_in (by omega) (by omega)) dX10_takeRead_342 ?_
        refine lv_topi (fun x342 e342 => ?_)
        refine va_iast hx hb hK hP hD hS 13 0 rfl rfl (n := 5) (f := (vm_331 18)) (i_in (by omega) (by omega)) dX10_takeRead_343 (fun H locs hP hD hS => ?_)
        replace hP : va_P (eD E) vwCl (mdL E am (up2 vm_331 18 i.toNatClampNeg x342)) H := hP
        replace hD : va_D A (mdL E am (up2 vm_331 18 i.toNatClampNeg x342)) := hD
        generalize hv343 : up2 vm_331 18 i.toNatClampNeg x342 = vm_343 at hP hD
        have hFz : fr [0, 1, 2, 3, 4, 5, 6, 7, 8, 9, 10, 11, 12, 13, 14, 15, 16, 17, 18, 19, 20, 21, 22, 24, 25, 26] vm vm_343 := by first | exact hFz | (rw [← hv343]; exact hFz.up (by decide))
        obtain ⟨x344, e344⟩ : ∃ y : Int32, y = i + 1 := ⟨_, rfl⟩
        refine lv_iinc (v := x344) (lv' := [(1, .int x344), (0, .ref (am 0))]) hx hb dX10_takeRead_344 hl (k := 1) rfl (by rw [e344]; rfl) (by decide) rfl (fun ls hl => ?_)
        have t344 := i_add e344 (by omega)
        have hx342 : (i.toNatClampNeg : Int) < (vm 55 0).toInt → 0 ≤ x342.toInt ∧ x342.toInt ≤ 99 := fun q => by rw [e342, ← hv331]; show 0 ≤ (ve 57 i.toNatClampNeg).toInt ∧ (ve 57 i.toNatClampNeg).toInt ≤ 99; rw [h315_1.1 57 (by omega)]; exact hrD _ q
        have hTR : TR vm vm_343 24 3 27 6 x344.toNatClampNeg := by rw [i_nat1 (x := i) (by omega) t344, ← hv343, ← hv331]; exact h315_1.well b330 hx342
        have hp343 : (vm_343 22 0).toInt = (ve 22 0).toInt := by rw [← hv343, ← hv331]; rfl
        refine lv_goto (tgt := 315) hx hb dX10_takeRead_347 (by decide) ?_
        exact ih315 x344 vm_343 _ _ ls (by omega) hP hD hS (by omega) hTR (by omega) hFz (by rw [← hv343, ← hv331]; exact hx315_0) (by rw [← hv343, ← hv331]; exact hx315_1) (by rw [← hv343, ← hv331]; exact hx315_2) (lv_sub hl [1, 0] rfl)
  have K231 : ∀ (μ : Nat) (i : Int32) (vd : Vf) (H : Heap) (locs : List Loc) (ls : Array Slot), (6 - i.toInt).toNat < μ → va_P (eD E) vwCl (mdL E am vd) H → va_D A (mdL E am vd) → va_S A s.heap H locs → (0 ≤ i.toInt ∧ i.toInt ≤ 6) → (TR vm vd 24 3 27 i.toNatClampNeg 0) → (1 ≤ (vd 22 0).toInt ∧ (vd 22 0).toInt ≤ 729) → (fr [0, 1, 2, 3, 4, 5, 6, 7, 8, 9, 10, 11, 12, 13, 14, 15, 16, 17, 18, 19, 20, 21, 22, 24, 25, 26] vm vd) → (∀ j, j < 24 → vd 25 j = 0) → (∀ j, j < 3 → vd 24 j = 0) → (∀ j : Nat, (j : Int) < i.toInt → vd 26 j = 0) → lv_has ls 2 [(0, .ref (am 0)), (1, .int i)] → W p l e (headSpec wsX10_takeRead rm_X10_takeRead).room s m ([.ref (am 0)] : List Value).toArray below meth c H locs 0 0 Q (F0 m 231 ls []) := by
    intro μ
    induction μ with
    | zero =>
      intro i vd H locs ls hμ231
      exact absurd hμ231 (Nat.not_lt_zero _)
    | succ μ ih231 =>
      intro i vd H locs ls hμ231 hP hD hS h231_0 h231_1 h231_2 h231_3 h231_4 h231_5 h231_6 hl
      have hx231_0 := h231_4
      clear h231_4
      have hx231_1 := h231_5
      clear h231_5
      have hx231_2 := h231_6
      clear h231_6
      have hFz := h231_3
      refine lv_iload_n hx hb dX10_takeRead_231 rfl (lv_at hl 1 rfl) ?_
      refine lv_bipush (v := 6) hx hb dX10_takeRead_232 (by decide) ?_
      refine lv_icmp_ge (tgt := 313) hx hb dX10_takeRead_234 (by decide) (fun c234 => ?_) (fun c234 => ?_)
      · have c234_ := i_le c234
        have hi : i.toNatClampNeg = 6 := by have := i_nat (x := i) (by omega); omega
        have hTRd : TR vm vd 24 3 27 6 0 := by rw [← hi]; exact h231_1
        refine lv_iconst (v := 0) hx hb dX10_takeRead_313 (by decide) ?_
        refine lv_istore_n (lv' := [(1, .int 0), (0, .ref (am 0))]) hx hb dX10_takeRead_314 rfl hl (by decide) rfl (fun ls hl => ?_)
        exact K315 _ 0 vd _ _ ls (Nat.lt_succ_self _) hP hD hS (by omega) hTRd (by omega) hFz hx231_0 hx231_1 (fun j h => hx231_2 j (by omega)) (lv_sub hl [1, 0] rfl)
      · have c234_ := i_nle c234
        refine lv_aload_n hx hb dX10_takeRead_237 rfl (lv_at hl 0 rfl) ?_
        refine va_get (D := eD E) (ci := 10) (v := .ref (am 10)) (C := RX10) (T := TX10) (N := 79) hx hb hts in_X10 hown hK hP 0 rfl rfl 10 (by decide) lk8 (fun _ h9 => h9) rfl dX10_takeRead_238 ?_
        refine lv_iload_n hx hb dX10_takeRead_241 rfl (lv_at hl 1 rfl) ?_
        refine lv_aload_n hx hb dX10_takeRead_242 rfl (lv_at hl 0 rfl) ?_
        refine va_get (D := eD E) (ci := 10) (v := .ref (am 49)) (C := RX10) (T := TX10) (N := 79) hx hb hts in_X10 hown hK hP 0 rfl rfl 49 (by decide) lk9 (fun _ h9 => h9) rfl dX10_takeRead_243 ?_
        refine lv_iload_n hx hb dX10_takeRead_246 rfl (lv_at hl 1 rfl) ?_
        refine va_iald hx hb hK hP 27 0 rfl rfl (n := 6) (f := (vd 49)) (i_in (by omega) (by omega)) dX10_takeRead_247 ?_
        refine lv_topi (fun x247 e247 => ?_)
        have b247 := hMI.2.2.2.2.2.1 i.toNatClampNeg (i_natlt (by omega) (by decide))
        rw [← h231_1.1 49 (by omega), ← e247] at b247
        refine va_iast hx hb hK hP hD hS 7 0 rfl rfl (n := 6) (f := (vd 10)) (i_in (by omega) (by omega)) dX10_takeRead_248 (fun H locs hP hD hS => ?_)
        replace hP : va_P (eD E) vwCl (mdL E am (up2 vd 10 i.toNatClampNeg x247)) H := hP
        replace hD : va_D A (mdL E am (up2 vd 10 i.toNatClampNeg x247)) := hD
        generalize hv248 : up2 vd 10 i.toNatClampNeg x247 = vm_248 at hP hD
        have hFz : fr [0, 1, 2, 3, 4, 5, 6, 7, 8, 9, 10, 11, 12, 13, 14, 15, 16, 17, 18, 19, 20, 21, 22, 24, 25, 26] vm vm_248 := by first | exact hFz | (rw [← hv248]; exact hFz.up (by decide))
        refine lv_aload_n hx hb dX10_takeRead_249 rfl (lv_at hl 0 rfl) ?_
        refine va_get (D := eD E) (ci := 10) (v := .ref (am 11)) (C := RX10) (T := TX10) (N := 79) hx hb hts in_X10 hown hK hP 0 rfl rfl 11 (by decide) lk10 (fun _ h9 => h9) rfl dX10_takeRead_250 ?_
        refine lv_iload_n hx hb dX10_takeRead_253 rfl (lv_at hl 1 rfl) ?_
        refine lv_aload_n hx hb dX10_takeRead_254 rfl (lv_at hl 0 rfl) ?_
        refine va_get (D := eD E) (ci := 10) (v := .ref (am 50)) (C := RX10) (T := TX10) (N := 79) hx hb hts in_X10 hown hK hP 0 rfl rfl 50 (by decide) lk11 (fun _ h9 => h9) rfl dX10_takeRead_255 ?_
        refine lv_iload_n hx hb dX10_takeRead_258 rfl (lv_at hl 1 rfl) ?_
        refine va_iald hx hb hK hP 28 0 rfl rfl (n := 6) (f := (vm_248 50)) (i_in (by omega) (by omega)) dX10_takeRead_259 ?_
        refine lv_topi (fun x259 e259 => ?_)
        refine va_iast hx hb hK hP hD hS 8 0 rfl rfl (n := 6) (f := (vm_248 11)) (i_in (by omega) (by omega)) dX10_takeRead_260 (fun H locs hP hD hS => ?_)
        replace hP : va_P (eD E) vwCl (mdL E am (up2 vm_248 11 i.toNatClampNeg x259)) H := hP
        replace hD : va_D A (mdL E am (up2 vm_248 11 i.toNatClampNeg x259)) := hD
        generalize hv260 : up2 vm_248 11 i.toNatClampNeg x259 = vm_260 at hP hD
        have hFz : fr [0, 1, 2, 3, 4, 5, 6, 7, 8, 9, 10, 11, 12, 13, 14, 15, 16, 17, 18, 19, 20, 21, 22, 24, 25, 26] vm vm_260 := by first | exact hFz | (rw [← hv260]; exact hFz.up (by decide))
        refine lv_aload_n hx hb dX10_takeRead_261 rfl (lv_at hl 0 rfl) ?_
        refine va_get (D := eD E) (ci := 10) (v := .ref (am 26)) (C := RX10) (T := TX10) (N := 79) hx hb hts in_X10 hown hK hP 0 rfl rfl 26 (by decide) lk12 (fun _ h9 => h9) rfl dX10_takeRead_262 ?_
        refine lv_iload_n hx hb dX10_takeRead_265 rfl (lv_at hl 1 rfl) ?_
        refine lv_iconst (v := 0) hx hb dX10_takeRead_266 (by decide) ?_
        refine va_iast hx hb hK hP hD hS 18 0 rfl rfl (n := 6) (f := (vm_260 26)) (i_in (by omega) (by omega)) dX10_takeRead_267 (fun H locs hP hD hS => ?_)
        replace hP : va_P (eD E) vwCl (mdL E am (up2 vm_260 26 i.toNatClampNeg 0)) H := hP
        replace hD : va_D A (mdL E am (up2 vm_260 26 i.toNatClampNeg 0)) := hD
        generalize hv267 : up2 vm_260 26 i.toNatClampNeg 0 = vm_267 at hP hD
        have hFz : fr [0, 1, 2, 3, 4, 5, 6, 7, 8, 9, 10, 11, 12, 13, 14, 15, 16, 17, 18, 19, 20, 21, 22, 24, 25, 26] vm vm_267 := by first | exact hFz | (rw [← hv267]; exact hFz.up (by decide))
        refine lv_aload_n hx hb dX10_takeRead_268 rfl (lv_at hl 0 rfl) ?_
        refine va_get (D := eD E) (ci := 10) (v := .ref (am 13)) (C := RX10) (T := TX10) (N := 79) hx hb hts in_X10 hown hK hP 0 rfl rfl 13 (by decide) lk13 (fun _ h9 => h9) rfl dX10_takeRead_269 ?_
        refine lv_iload_n hx hb dX10_takeRead_272 rfl (lv_at hl 1 rfl) ?_
        refine lv_aload_n hx hb dX10_takeRead_273 rfl (lv_at hl 0 rfl) ?_
        refine va_get (D := eD E) (ci := 10) (v := .ref (am 52)) (C := RX10) (T := TX10) (N := 79) hx hb hts in_X10 hown hK hP 0 rfl rfl 52 (by decide) lk14 (fun _ h9 => h9) rfl dX10_takeRead_274 ?_
        refine lv_iload_n hx hb dX10_takeRead_277 rfl (lv_at hl 1 rfl) ?_
        refine va_iald hx hb hK hP 29 0 rfl rfl (n := 6) (f := (vm_267 52)) (i_in (by omega) (by omega)) dX10_takeRead_278 ?_
        refine lv_topi (fun x278 e278 => ?_)
        have e278 : x278 = vm 52 i.toNatClampNeg := by rw [e278, ← hv267, ← hv260, ← hv248]; show vd 52 i.toNatClampNeg = _; rw [h231_1.1 52 (by omega)]
        have b278 := hMI.2.2.2.2.2.2.1 i.toNatClampNeg (i_natlt (by omega) (by decide))
        rw [← e278] at b278
        refine va_iast hx hb hK hP hD hS 9 0 rfl rfl (n := 6) (f := (vm_267 13)) (i_in (by omega) (by omega)) dX10_takeRead_279 (fun H locs hP hD hS => ?_)
        replace hP : va_P (eD E) vwCl (mdL E am (up2 vm_267 13 i.toNatClampNeg x278)) H := hP
        replace hD : va_D A (mdL E am (up2 vm_267 13 i.toNatClampNeg x278)) := hD
        generalize hv279 : up2 vm_267 13 i.toNatClampNeg x278 = vm_279 at hP hD
        have hFz : fr [0, 1, 2, 3, 4, 5, 6, 7, 8, 9, 10, 11, 12, 13, 14, 15, 16, 17, 18, 19, 20, 21, 22, 24, 25, 26] vm vm_279 := by first | exact hFz | (rw [← hv279]; exact hFz.up (by decide))
        refine lv_aload_n hx hb dX10_takeRead_280 rfl (lv_at hl 0 rfl) ?_
        refine va_get (D := eD E) (ci := 10) (v := .ref (am 14)) (C := RX10) (T := TX10) (N := 79) hx hb hts in_X10 hown hK hP 0 rfl rfl 14 (by decide) lk15 (fun _ h9 => h9) rfl dX10_takeRead_281 ?_
        refine lv_iload_n hx hb dX10_takeRead_284 rfl (lv_at hl 1 rfl) ?_
        refine lv_aload_n hx hb dX10_takeRead_285 rfl (lv_at hl 0 rfl) ?_
        refine va_get (D := eD E) (ci := 10) (v := .ref (am 53)) (C := RX10) (T := TX10) (N := 79) hx hb hts in_X10 hown hK hP 0 rfl rfl 53 (by decide) lk16 (fun _ h9 => h9) rfl dX10_takeRead_286 ?_
        refine lv_iload_n hx hb dX10_takeRead_289 rfl (lv_at hl 1 rfl) ?_
        refine va_iald hx hb hK hP 30 0 rfl rfl (n := 6) (f := (vm_279 53)) (i_in (by omega) (by omega)) dX10_takeRead_290 ?_
        refine lv_topi (fun x290 e290 => ?_)
        refine va_iast hx hb hK hP hD hS 10 0 rfl rfl (n := 6) (f := (vm_279 14)) (i_in (by omega) (by omega)) dX10_takeRead_291 (fun H locs hP hD hS => ?_)
        replace hP : va_P (eD E) vwCl (mdL E am (up2 vm_279 14 i.toNatClampNeg x290)) H := hP
        replace hD : va_D A (mdL E am (up2 vm_279 14 i.toNatClampNeg x290)) := hD
        generalize hv291 : up2 vm_279 14 i.toNatClampNeg x290 = vm_291 at hP hD
        have hFz : fr [0, 1, 2, 3, 4, 5, 6, 7, 8, 9, 10, 11, 12, 13, 14, 15, 16, 17, 18, 19, 20, 21, 22, 24, 25, 26] vm vm_291 := by first | exact hFz | (rw [← hv291]; exact hFz.up (by decide))
        refine lv_aload_n hx hb dX10_takeRead_292 rfl (lv_at hl 0 rfl) ?_
        refine va_get (D := eD E) (ci := 10) (v := .ref (am 15)) (C := RX10) (T := TX10) (N := 79) hx hb hts in_X10 hown hK hP 0 rfl rfl 15 (by decide) lk17 (fun _ h9 => h9) rfl dX10_takeRead_293 ?_
        refine lv_iload_n hx hb dX10_takeRead_296 rfl (lv_at hl 1 rfl) ?_
        refine lv_aload_n hx hb dX10_takeRead_297 rfl (lv_at hl 0 rfl) ?_
        refine va_get (D := eD E) (ci := 10) (v := .ref (am 54)) (C := RX10) (T := TX10) (N := 79) hx hb hts in_X10 hown hK hP 0 rfl rfl 54 (by decide) lk18 (fun _ h9 => h9) rfl dX10_takeRead_298 ?_
        refine lv_iload_n hx hb dX10_takeRead_301 rfl (lv_at hl 1 rfl) ?_
        refine va_iald hx hb hK hP 31 0 rfl rfl (n := 6) (f := (vm_291 54)) (i_in (by omega) (by omega)) dX10_takeRead_302 ?_
        refine lv_topi (fun x302 e302 => ?_)
        refine lv_bipush (v := 30) hx hb dX10_takeRead_303 (by decide) ?_
        refine lv_isub hx hb dX10_takeRead_305 ?_
        refine lv_topi (fun x305 e305 => ?_)
        refine va_iast hx hb hK hP hD hS 11 0 rfl rfl (n := 6) (f := (vm_291 15)) (i_in (by omega) (by omega)) dX10_takeRead_306 (fun H locs hP hD hS => ?_)
        replace hP : va_P (eD E) vwCl (mdL E am (up2 vm_291 15 i.toNatClampNeg x305)) H := hP
        replace hD : va_D A (mdL E am (up2 vm_291 15 i.toNatClampNeg x305)) := hD
        generalize hv306 : up2 vm_291 15 i.toNatClampNeg x305 = vm_306 at hP hD
        have hFz : fr [0, 1, 2, 3, 4, 5, 6, 7, 8, 9, 10, 11, 12, 13, 14, 15, 16, 17, 18, 19, 20, 21, 22, 24, 25, 26] vm vm_306 := by first | exact hFz | (rw [← hv306]; exact hFz.up (by decide))
        obtain ⟨x307, e307⟩ : ∃ y : Int32, y = i + 1 := ⟨_, rfl⟩
        refine lv_iinc (v := x307) (lv' := [(1, .int x307), (0, .ref (am 0))]) hx hb dX10_takeRead_307 hl (k := 1) rfl (by rw [e307]; rfl) (by decide) rfl (fun ls hl => ?_)
        have t307 := i_add e307 (by omega)
        have hTR : TR vm vm_306 24 3 27 x307.toNatClampNeg 0 := by rw [i_nat1 (x := i) (by omega) t307, ← hv306, ← hv291, ← hv279, ← hv267, ← hv260, ← hv248]; exact h231_1.site b247 b278
        have hp306 : (vm_306 22 0).toInt = (vd 22 0).toInt := by rw [← hv306, ← hv291, ← hv279, ← hv267, ← hv260, ← hv248]; rfl
        refine lv_goto (tgt := 231) hx hb dX10_takeRead_310 (by decide) ?_
        exact ih231 x307 vm_306 _ _ ls (by omega) hP hD hS (by omega) hTR (by omega) hFz (by rw [← hv306, ← hv291, ← hv279, ← hv267, ← hv260, ← hv248]; exact hx231_0) (by rw [← hv306, ← hv291, ← hv279, ← hv267, ← hv260, ← hv248]; exact hx231_1) (by rw [← hv306, ← hv291, ← hv279, ← hv267, ← hv260, ← hv248]; exact up0_next (v := up2 (up2 vd 10 i.toNatClampNeg x247) 11 i.toNatClampNeg x259) (t := 26) hx231_2 (by omega) (by omega)) (lv_sub hl [1, 0] rfl)
  have K205 : ∀ (μ : Nat) (i : Int32) (vc : Vf) (H : Heap) (locs : List Loc) (ls : Array Slot), (27 - i.toInt).toNat < μ → va_P (eD E) vwCl (mdL E am vc) H → va_D A (mdL E am vc) → va_S A s.heap H locs → (0 ≤ i.toInt ∧ i.toInt ≤ 27) → (TR vm vc 24 3 i.toNatClampNeg 0 0) → (1 ≤ (vc 22 0).toInt ∧ (vc 22 0).toInt ≤ 729) → (fr [0, 1, 2, 3, 4, 5, 6, 7, 8, 9, 10, 11, 12, 13, 14, 15, 16, 17, 18, 19, 20, 21, 22, 24, 25, 26] vm vc) → (∀ j, j < 24 → vc 25 j = 0) → (∀ j, j < 3 → vc 24 j = 0) → lv_has ls 2 [(0, .ref (am 0)), (1, .int i)] → W p l e (headSpec wsX10_takeRead rm_X10_takeRead).room s m ([.ref (am 0)] : List Value).toArray below meth c H locs 0 0 Q (F0 m 205 ls []) := by
    intro μ
    induction μ with
    | zero =>
      intro i vc H locs ls hμ205
      exact absurd hμ205 (Nat.not_lt_zero _)
    | succ μ ih205 =>
      intro i vc H locs ls hμ205 hP hD hS h205_0 h205_1 h205_2 h205_3 h205_4 h205_5 hl
      have hx205_0 := h205_4
      clear h205_4
      have hx205_1 := h205_5
      clear h205_5
      have hFz := h205_3
      refine lv_iload_n hx hb dX10_takeRead_205 rfl (lv_at hl 1 rfl) ?_
      refine lv_bipush (v := 27) hx hb dX10_takeRead_206 (by decide) ?_
      refine lv_icmp_ge (tgt := 229) hx hb dX10_takeRead_208 (by decide) (fun c208 => ?_) (fun c208 => ?_)
      · have c208_ := i_le c208
        have hi : i.toNatClampNeg = 27 := by have := i_nat (x := i) (by omega); omega
        have hTRc : TR vm vc 24 3 27 0 0 := by rw [← hi]; exact h205_1
        refine lv_iconst (v := 0) hx hb dX10_takeRead_229 (by decide) ?_
        refine lv_istore_n (lv' := [(1, .int 0), (0, .ref (am 0))]) hx hb dX10_takeRead_230 rfl hl (by decide) rfl (fun ls hl => ?_)
        exact K231 _ 0 vc _ _ ls (Nat.lt_succ_self _) hP hD hS (by omega) hTRc (by omega) hFz hx205_0 hx205_1 (fun j h => absurd h (by omega)) (lv_sub hl [1, 0] rfl)
      · have c208_ := i_nle c208
        refine lv_aload_n hx hb dX10_takeRead_211 rfl (lv_at hl 0 rfl) ?_
        refine va_get (D := eD E) (ci := 10) (v := .ref (am 8)) (C := RX10) (T := TX10) (N := 79) hx hb hts in_X10 hown hK hP 0 rfl rfl 8 (by decide) lk19 (fun _ h9 => h9) rfl dX10_takeRead_212 ?_
        refine lv_iload_n hx hb dX10_takeRead_215 rfl (lv_at hl 1 rfl) ?_
        refine lv_aload_n hx hb dX10_takeRead_216 rfl (lv_at hl 0 rfl) ?_
        refine va_get (D := eD E) (ci := 10) (v := .ref (am 47)) (C := RX10) (T := TX10) (N := 79) hx hb hts in_X10 hown hK hP 0 rfl rfl 47 (by decide) lk20 (fun _ h9 => h9) rfl dX10_takeRead_217 ?_
        refine lv_iload_n hx hb dX10_takeRead_220 rfl (lv_at hl 1 rfl) ?_
        refine va_iald hx hb hK hP 26 0 rfl rfl (n := 27) (f := (vc 47)) (i_in (by omega) (by omega)) dX10_takeRead_221 ?_
        refine lv_topi (fun x221 e221 => ?_)
        have b221 := hMI.2.2.2.2.1 i.toNatClampNeg (i_natlt (by omega) (by decide))
        rw [← h205_1.1 47 (by omega), ← e221] at b221
        refine va_iast hx hb hK hP hD hS 6 0 rfl rfl (n := 27) (f := (vc 8)) (i_in (by omega) (by omega)) dX10_takeRead_222 (fun H locs hP hD hS => ?_)
        replace hP : va_P (eD E) vwCl (mdL E am (up2 vc 8 i.toNatClampNeg x221)) H := hP
        replace hD : va_D A (mdL E am (up2 vc 8 i.toNatClampNeg x221)) := hD
        generalize hv222 : up2 vc 8 i.toNatClampNeg x221 = vm_222 at hP hD
        have hFz : fr [0, 1, 2, 3, 4, 5, 6, 7, 8, 9, 10, 11, 12, 13, 14, 15, 16, 17, 18, 19, 20, 21, 22, 24, 25, 26] vm vm_222 := by first | exact hFz | (rw [← hv222]; exact hFz.up (by decide))
        obtain ⟨x223, e223⟩ : ∃ y : Int32, y = i + 1 := ⟨_, rfl⟩
        refine lv_iinc (v := x223) (lv' := [(1, .int x223), (0, .ref (am 0))]) hx hb dX10_takeRead_223 hl (k := 1) rfl (by rw [e223]; rfl) (by decide) rfl (fun ls hl => ?_)
        have t223 := i_add e223 (by omega)
        have hTR : TR vm vm_222 24 3 x223.toNatClampNeg 0 0 := by rw [i_nat1 (x := i) (by omega) t223, ← hv222]; exact h205_1.part b221
        have hp222 : (vm_222 22 0).toInt = (vc 22 0).toInt := by rw [← hv222]; rfl
        refine lv_goto (tgt := 205) hx hb dX10_takeRead_226 (by decide) ?_
        exact ih205 x223 vm_222 _ _ ls (by omega) hP hD hS (by omega) hTR (by omega) hFz (by rw [← hv222]; exact hx205_0) (by rw [← hv222]; exact hx205_1) (lv_sub hl [1, 0] rfl)
  have K108 : ∀ (μ : Nat) (i : Int32) (vb : Vf) (H : Heap) (locs : List Loc) (ls : Array Slot), (3 - i.toInt).toNat < μ → va_P (eD E) vwCl (mdL E am vb) H → va_D A (mdL E am vb) → va_S A s.heap H locs → (0 ≤ i.toInt ∧ i.toInt ≤ 3) → (TR vm vb 24 i.toNatClampNeg 0 0 0) → ((i.toInt = 0 ∧ (vb 22 0).toInt = 1) ∨ (i.toInt = 1 ∧ 1 ≤ (vb 22 0).toInt ∧ (vb 22 0).toInt ≤ 9) ∨ (i.toInt = 2 ∧ 1 ≤ (vb 22 0).toInt ∧ (vb 22 0).toInt ≤ 81) ∨ (i.toInt = 3 ∧ 1 ≤ (vb 22 0).toInt ∧ (vb 22 0).toInt ≤ 729)) → (fr [0, 1, 2, 3, 4, 5, 6, 7, 8, 9, 10, 11, 12, 13, 14, 15, 16, 17, 18, 19, 20, 21, 22, 24, 25, 26] vm vb) → (∀ j, j < 24 → vb 25 j = 0) → (∀ j : Nat, (j : Int) < i.toInt → vb 24 j = 0) → lv_has ls 2 [(0, .ref (am 0)), (1, .int i)] → W p l e (headSpec wsX10_takeRead rm_X10_takeRead).room s m ([.ref (am 0)] : List Value).toArray below meth c H locs 0 0 Q (F0 m 108 ls []) := by
    intro μ
    induction μ with
    | zero =>
      intro i vb H locs ls hμ108
      exact absurd hμ108 (Nat.not_lt_zero _)
    | succ μ ih108 =>
      intro i vb H locs ls hμ108 hP hD hS h108_0 h108_1 h108_2 h108_3 h108_4 h108_5 hl
      have hx108_0 := h108_4
      clear h108_4
      have hx108_1 := h108_5
      clear h108_5
      have hFz := h108_3
      refine lv_iload_n hx hb dX10_takeRead_108 rfl (lv_at hl 1 rfl) ?_
      refine lv_iconst (v := 3) hx hb dX10_takeRead_109 (by decide) ?_
      refine lv_icmp_ge (tgt := 203) hx hb dX10_takeRead_110 (by decide) (fun c110 => ?_) (fun c110 => ?_)
      · have c110_ := i_le c110
        have hi : i.toNatClampNeg = 3 := by have := i_nat (x := i) (by omega); omega
        have hTRb : TR vm vb 24 3 0 0 0 := by rw [← hi]; exact h108_1
        refine lv_iconst (v := 0) hx hb dX10_takeRead_203 (by decide) ?_
        refine lv_istore_n (lv' := [(1, .int 0), (0, .ref (am 0))]) hx hb dX10_takeRead_204 rfl hl (by decide) rfl (fun ls hl => ?_)
        exact K205 _ 0 vb _ _ ls (Nat.lt_succ_self _) hP hD hS (by omega) hTRb (by omega) hFz hx108_0 (fun j h => hx108_1 j (by omega)) (lv_sub hl [1, 0] rfl)
      · have c110_ := i_nle c110
        refine lv_aload_n hx hb dX10_takeRead_113 rfl (lv_at hl 0 rfl) ?_
        refine va_get (D := eD E) (ci := 10) (v := .ref (am 5)) (C := RX10) (T := TX10) (N := 79) hx hb hts in_X10 hown hK hP 0 rfl rfl 5 (by decide) lk21 (fun _ h9 => h9) rfl dX10_takeRead_114 ?_
        refine lv_iload_n hx hb dX10_takeRead_117 rfl (lv_at hl 1 rfl) ?_
        refine lv_iload_n hx hb dX10_takeRead_118 rfl (lv_at hl 1 rfl) ?_
        refine lv_aload_n hx hb dX10_takeRead_119 rfl (lv_at hl 0 rfl) ?_
        refine va_get (D := eD E) (ci := 10) (v := .int (vb 4 0)) (C := RX10) (T := TX10) (N := 79) hx hb hts in_X10 hown hK hP 0 rfl rfl 4 (by decide) lk22 (fun _ h9 => h9) rfl dX10_takeRead_120 ?_
        have K136 : ∀  (mv : Int32) (H : Heap) (locs : List Loc) (ls : Array Slot), va_P (eD E) vwCl (mdL E am vb) H → va_D A (mdL E am vb) → va_S A s.heap H locs → (1 ≤ mv.toInt ∧ mv.toInt ≤ 9) → lv_has ls 2 [(0, .ref (am 0)), (1, .int i)] → W p l e (headSpec wsX10_takeRead rm_X10_takeRead).room s m ([.ref (am 0)] : List Value).toArray below meth c H locs 0 0 Q (F0 m 136 ls [.int mv, .int i, .ref (am 5)]) := by
          intro mv H locs ls hP hD hS h136_0 hl
          refine va_iast hx hb hK hP hD hS 3 0 rfl rfl (n := 3) (f := (vb 5)) (i_in (by omega) (by omega)) dX10_takeRead_136 (fun H locs hP hD hS => ?_)
          replace hP : va_P (eD E) vwCl (mdL E am (up2 vb 5 i.toNatClampNeg mv)) H := hP
          replace hD : va_D A (mdL E am (up2 vb 5 i.toNatClampNeg mv)) := hD
          generalize hv136 : up2 vb 5 i.toNatClampNeg mv = vm_136 at hP hD
          have hFz : fr [0, 1, 2, 3, 4, 5, 6, 7, 8, 9, 10, 11, 12, 13, 14, 15, 16, 17, 18, 19, 20, 21, 22, 24, 25, 26] vm vm_136 := by first | exact hFz | (rw [← hv136]; exact hFz.up (by decide))
          refine lv_aload_n hx hb dX10_takeRead_137 rfl (lv_at hl 0 rfl) ?_
          refine va_get (D := eD E) (ci := 10) (v := .ref (am 6)) (C := RX10) (T := TX10) (N := 79) hx hb hts in_X10 hown hK hP 0 rfl rfl 6 (by decide) lk23 (fun _ h9 => h9) rfl dX10_takeRead_138 ?_
          refine lv_iload_n hx hb dX10_takeRead_141 rfl (lv_at hl 1 rfl) ?_
          refine lv_aload_n hx hb dX10_takeRead_142 rfl (lv_at hl 0 rfl) ?_
          refine va_get (D := eD E) (ci := 10) (v := .ref (am 45)) (C := RX10) (T := TX10) (N := 79) hx hb hts in_X10 hown hK hP 0 rfl rfl 45 (by decide) lk24 (fun _ h9 => h9) rfl dX10_takeRead_143 ?_
          refine lv_iload_n hx hb dX10_takeRead_146 rfl (lv_at hl 1 rfl) ?_
          refine va_iald hx hb hK hP 24 0 rfl rfl (n := 3) (f := (vm_136 45)) (i_in (by omega) (by omega)) dX10_takeRead_147 ?_
          refine lv_topi (fun x147 e147 => ?_)
          refine va_iast hx hb hK hP hD hS 4 0 rfl rfl (n := 3) (f := (vm_136 6)) (i_in (by omega) (by omega)) dX10_takeRead_148 (fun H locs hP hD hS => ?_)
          replace hP : va_P (eD E) vwCl (mdL E am (up2 vm_136 6 i.toNatClampNeg x147)) H := hP
          replace hD : va_D A (mdL E am (up2 vm_136 6 i.toNatClampNeg x147)) := hD
          generalize hv148 : up2 vm_136 6 i.toNatClampNeg x147 = vm_148 at hP hD
          have hFz : fr [0, 1, 2, 3, 4, 5, 6, 7, 8, 9, 10, 11, 12, 13, 14, 15, 16, 17, 18, 19, 20, 21, 22, 24, 25, 26] vm vm_148 := by first | exact hFz | (rw [← hv148]; exact hFz.up (by decide))
          refine lv_aload_n hx hb dX10_takeRead_149 rfl (lv_at hl 0 rfl) ?_
          refine va_get (D := eD E) (ci := 10) (v := .ref (am 7)) (C := RX10) (T := TX10) (N := 79) hx hb hts in_X10 hown hK hP 0 rfl rfl 7 (by decide) lk25 (fun _ h9 => h9) rfl dX10_takeRead_150 ?_
          refine lv_iload_n hx hb dX10_takeRead_153 rfl (lv_at hl 1 rfl) ?_
          refine lv_aload_n hx hb dX10_takeRead_154 rfl (lv_at hl 0 rfl) ?_
          refine va_get (D := eD E) (ci := 10) (v := .ref (am 46)) (C := RX10) (T := TX10) (N := 79) hx hb hts in_X10 hown hK hP 0 rfl rfl 46 (by decide) lk26 (fun _ h9 => h9) rfl dX10_takeRead_155 ?_
          refine lv_iload_n hx hb dX10_takeRead_158 rfl (lv_at hl 1 rfl) ?_
          refine va_iald hx hb hK hP 25 0 rfl rfl (n := 3) (f := (vm_148 46)) (i_in (by omega) (by omega)) dX10_takeRead_159 ?_
          refine lv_topi (fun x159 e159 => ?_)
          refine va_iast hx hb hK hP hD hS 5 0 rfl rfl (n := 3) (f := (vm_148 7)) (i_in (by omega) (by omega)) dX10_takeRead_160 (fun H locs hP hD hS => ?_)
          replace hP : va_P (eD E) vwCl (mdL E am (up2 vm_148 7 i.toNatClampNeg x159)) H := hP
          replace hD : va_D A (mdL E am (up2 vm_148 7 i.toNatClampNeg x159)) := hD
          generalize hv160 : up2 vm_148 7 i.toNatClampNeg x159 = vm_160 at hP hD
          have hFz : fr [0, 1, 2, 3, 4, 5, 6, 7, 8, 9, 10, 11, 12, 13, 14, 15, 16, 17, 18, 19, 20, 21, 22, 24, 25, 26] vm vm_160 := by first | exact hFz | (rw [← hv160]; exact hFz.up (by decide))
          refine lv_aload_n hx hb dX10_takeRead_161 rfl (lv_at hl 0 rfl) ?_
          refine va_get (D := eD E) (ci := 10) (v := .ref (am 24)) (C := RX10) (T := TX10) (N := 79) hx hb hts in_X10 hown hK hP 0 rfl rfl 24 (by decide) lk27 (fun _ h9 => h9) rfl dX10_takeRead_162 ?_
          refine lv_iload_n hx hb dX10_takeRead_165 rfl (lv_at hl 1 rfl) ?_
          refine lv_iconst (v := 0) hx hb dX10_takeRead_166 (by decide) ?_
          refine va_iast hx hb hK hP hD hS 16 0 rfl rfl (n := 3) (f := (vm_160 24)) (i_in (by omega) (by omega)) dX10_takeRead_167 (fun H locs hP hD hS => ?_)
          replace hP : va_P (eD E) vwCl (mdL E am (up2 vm_160 24 i.toNatClampNeg 0)) H := hP
          replace hD : va_D A (mdL E am (up2 vm_160 24 i.toNatClampNeg 0)) := hD
          generalize hv167 : up2 vm_160 24 i.toNatClampNeg 0 = vm_167 at hP hD
          have hFz : fr [0, 1, 2, 3, 4, 5, 6, 7, 8, 9, 10, 11, 12, 13, 14, 15, 16, 17, 18, 19, 20, 21, 22, 24, 25, 26] vm vm_167 := by first | exact hFz | (rw [← hv167]; exact hFz.up (by decide))
          refine lv_aload_n hx hb dX10_takeRead_168 rfl (lv_at hl 0 rfl) ?_
          refine lv_aload_n hx hb dX10_takeRead_169 rfl (lv_at hl 0 rfl) ?_
          refine va_get (D := eD E) (ci := 10) (v := .int (vm_167 22 0)) (C := RX10) (T := TX10) (N := 79) hx hb hts in_X10 hown hK hP 0 rfl rfl 22 (by decide) lk28 (fun _ h9 => h9) rfl dX10_takeRead_170 ?_
          refine lv_aload_n hx hb dX10_takeRead_173 rfl (lv_at hl 0 rfl) ?_
          refine va_get (D := eD E) (ci := 10) (v := .int (vm_167 22 0)) (C := RX10) (T := TX10) (N := 79) hx hb hts in_X10 hown hK hP 0 rfl rfl 22 (by decide) lk28 (fun _ h9 => h9) rfl dX10_takeRead_174 ?_
          refine lv_aload_n hx hb dX10_takeRead_177 rfl (lv_at hl 0 rfl) ?_
          refine va_get (D := eD E) (ci := 10) (v := .ref (am 5)) (C := RX10) (T := TX10) (N := 79) hx hb hts in_X10 hown hK hP 0 rfl rfl 5 (by decide) lk21 (fun _ h9 => h9) rfl dX10_takeRead_178 ?_
          refine lv_iload_n hx hb dX10_takeRead_181 rfl (lv_at hl 1 rfl) ?_
          refine va_iald hx hb hK hP 3 0 rfl rfl (n := 3) (f := (vm_167 5)) (i_in (by omega) (by omega)) dX10_takeRead_182 ?_
          refine lv_topi (fun x182 e182 => ?_)
          have t182 : x182.toInt = mv.toInt := by rw [e182, ← hv167, ← hv160, ← hv148, ← hv136]; show (upd (vb 5) _ mv _).toInt = _; rw [upd_at]
          have hp167 : (vm_167 22 0).toInt = (vb 22 0).toInt := by rw [← hv167, ← hv160, ← hv148, ← hv136]; rfl
          refine rd_S (As := [.int (vm_167 22 0), .int x182]) (rest := [.int (vm_167 22 0), .ref (am 0)]) ⟨hx, hb, hml, hown, hts⟩ (c_X10_divisor l E A (vm_167 22 0) x182 (by omega) (by omega)) (va_cwS 2 hts gX10_takeRead_X10_divisor rfl rfl rfl (by decide +kernel) ⟨Nat.le_of_ble_eq_true rfl, Nat.le_of_ble_eq_true rfl⟩) (hE.kept hS.2.1) (hP.sub (ws' := []) [] rfl) rfl hl.1 rfl (Nat.le_of_ble_eq_true rfl) dX10_takeRead_183 ⟨Nat.zero_le _, Nat.zero_le _⟩ (fun r183 h183 => ?_)
          have g183 := gcd_le (a := (vm_167 22 0).toInt) (b := x182.toInt) (by omega)
          refine lv_idiv hx hb dX10_takeRead_186 (i_ne0 (by omega)) ?_
          refine lv_topi (fun x186 e186 => ?_)
          refine lv_aload_n hx hb dX10_takeRead_187 rfl (lv_at hl 0 rfl) ?_
          refine va_get (D := eD E) (ci := 10) (v := .ref (am 5)) (C := RX10) (T := TX10) (N := 79) hx hb hts in_X10 hown hK hP 0 rfl rfl 5 (by decide) lk21 (fun _ h9 => h9) rfl dX10_takeRead_188 ?_
          refine lv_iload_n hx hb dX10_takeRead_191 rfl (lv_at hl 1 rfl) ?_
          refine va_iald hx hb hK hP 3 0 rfl rfl (n := 3) (f := (vm_167 5)) (i_in (by omega) (by omega)) dX10_takeRead_192 ?_
          refine lv_topi (fun x192 e192 => ?_)
          have t192 : x192.toInt = x182.toInt := by rw [e192, e182]
          refine lv_imul hx hb dX10_takeRead_193 ?_
          refine lv_topi (fun x193 e193 => ?_)
          have t193 := perl e186 e193 (by omega) (by omega) (by omega)
          refine va_put (D := eD E) (ci := 10) (v := .int x193) (ty := .int) (C := RX10) (T := TX10) (N := 79) hx hb hts in_X10 tyX10 tyX10_ok nmX10 hown hK hP hD hS 0 rfl rfl 22 (by decide) lk28 (fun _ h9 => h9) rfl (by decide +kernel) rfl rfl (Nat.le_of_ble_eq_true rfl) dX10_takeRead_194 (fun H locs hP hD hS => ?_)
          replace hP : va_P (eD E) vwCl (mdL E am (up2 vm_167 22 0 x193)) H := hP
          replace hD : va_D A (mdL E am (up2 vm_167 22 0 x193)) := hD
          generalize hv194 : up2 vm_167 22 0 x193 = vm_194 at hP hD
          have hFz : fr [0, 1, 2, 3, 4, 5, 6, 7, 8, 9, 10, 11, 12, 13, 14, 15, 16, 17, 18, 19, 20, 21, 22, 24, 25, 26] vm vm_194 := by first | exact hFz | (rw [← hv194]; exact hFz.up (by decide))
          have hp194 : (vm_194 22 0).toInt = x193.toInt := by rw [← hv194]; rfl
          obtain ⟨x197, e197⟩ : ∃ y : Int32, y = i + 1 := ⟨_, rfl⟩
          refine lv_iinc (v := x197) (lv' := [(1, .int x197), (0, .ref (am 0))]) hx hb dX10_takeRead_197 hl (k := 1) rfl (by rw [e197]; rfl) (by decide) rfl (fun ls hl => ?_)
          have t197 := i_add e197 (by omega)
          have hx147 : (i.toNatClampNeg : Int) < (vm 43 0).toInt → (0 ≤ x147.toInt ∧ x147.toInt ≤ 8) ∧ (0 ≤ x159.toInt ∧ x159.toInt ≤ 8) := fun q => ⟨by rw [e147, ← hv136]; show 0 ≤ (vb 45 i.toNatClampNeg).toInt ∧ (vb 45 i.toNatClampNeg).toInt ≤ 8; rw [h108_1.1 45 (by omega)]; exact (hrMo _ q).2.1, by rw [e159, ← hv148, ← hv136]; show 0 ≤ (vb 46 i.toNatClampNeg).toInt ∧ (vb 46 i.toNatClampNeg).toInt ≤ 8; rw [h108_1.1 46 (by omega)]; exact (hrMo _ q).2.2⟩
          have hTR : TR vm vm_194 24 x197.toNatClampNeg 0 0 0 := by rw [i_nat1 (x := i) (by omega) t197, ← hv194, ← hv167, ← hv160, ← hv148, ← hv136]; exact h108_1.moon (by omega) hx147
          refine lv_goto (tgt := 108) hx hb dX10_takeRead_200 (by decide) ?_
          exact ih108 x197 vm_194 _ _ ls (by omega) hP hD hS (by omega) hTR (by omega) hFz (by rw [← hv194, ← hv167, ← hv160, ← hv148, ← hv136]; exact hx108_0) (by rw [← hv194, ← hv167, ← hv160, ← hv148, ← hv136]; exact up0_next (v := up2 (up2 (up2 vb 5 i.toNatClampNeg mv) 6 i.toNatClampNeg x147) 7 i.toNatClampNeg x159) (t := 24) hx108_1 (by omega) (by omega)) (lv_sub hl [1, 0] rfl)
        refine lv_icmp_ge (tgt := 135) hx hb dX10_takeRead_123 (by decide) (fun c123 => ?_) (fun c123 => ?_)
        · have c123_ := i_le c123
          refine lv_iconst (v := 1) hx hb dX10_takeRead_135 (by decide) ?_
          exact K136 1 _ _ ls hP hD hS (by omega) (lv_sub hl [0, 1] rfl)
        · have c123_ := i_nle c123
          refine lv_aload_n hx hb dX10_takeRead_126 rfl (lv_at hl 0 rfl) ?_
          refine va_get (D := eD E) (ci := 10) (v := .ref (am 44)) (C := RX10) (T := TX10) (N := 79) hx hb hts in_X10 hown hK hP 0 rfl rfl 44 (by decide) lk29 (fun _ h9 => h9) rfl dX10_takeRead_127 ?_
          refine lv_iload_n hx hb dX10_takeRead_130 rfl (lv_at hl 1 rfl) ?_
          refine va_iald hx hb hK hP 23 0 rfl rfl (n := 3) (f := (vb 44)) (i_in (by omega) (by omega)) dX10_takeRead_131 ?_
          refine lv_topi (fun x131 e131 => ?_)
          have hk131 : (i.toNatClampNeg : Int) < (vm 43 0).toInt := by rw [i_nat (x := i) (by omega), ← h108_1.2.1.2.2.1]; omega
          have b131 := (hrMo _ hk131).1
          rw [← h108_1.1 44 (by omega), ← e131] at b131
          refine lv_goto (tgt := 136) hx hb dX10_takeRead_132 (by decide) ?_
          exact K136 x131 _ _ ls hP hD hS (by omega) (lv_sub hl [0, 1] rfl)
  refine lv_aload_n hx hb dX10_takeRead_0 rfl (lv_at hl 0 rfl) ?_
  refine lv_aload_n hx hb dX10_takeRead_1 rfl (lv_at hl 0 rfl) ?_
  refine va_get (D := eD E) (ci := 10) (v := .int (vm 37 0)) (C := RX10) (T := TX10) (N := 79) hx hb hts in_X10 hown hK hP 0 rfl rfl 37 (by decide) lk30 (fun _ h9 => h9) rfl dX10_takeRead_2 ?_
  refine va_put (D := eD E) (ci := 10) (v := .int (vm 37 0)) (ty := .int) (C := RX10) (T := TX10) (N := 79) hx hb hts in_X10 tyX10 tyX10_ok nmX10 hown hK hP hD hS 0 rfl rfl 0 (by decide) lk31 (fun _ h9 => h9) rfl (by decide +kernel) rfl rfl (Nat.le_of_ble_eq_true rfl) dX10_takeRead_5 (fun H locs hP hD hS => ?_)
  replace hP : va_P (eD E) vwCl (mdL E am (up2 vm 0 0 (vm 37 0))) H := hP
  replace hD : va_D A (mdL E am (up2 vm 0 0 (vm 37 0))) := hD
  generalize hv5 : up2 vm 0 0 (vm 37 0) = vm_5 at hP hD
  have hFz : fr [0, 1, 2, 3, 4, 5, 6, 7, 8, 9, 10, 11, 12, 13, 14, 15, 16, 17, 18, 19, 20, 21, 22, 24, 25, 26] vm vm_5 := by first | exact hFz | (rw [← hv5]; exact hFz.up (by decide))
  refine lv_aload_n hx hb dX10_takeRead_8 rfl (lv_at hl 0 rfl) ?_
  refine lv_aload_n hx hb dX10_takeRead_9 rfl (lv_at hl 0 rfl) ?_
  refine va_get (D := eD E) (ci := 10) (v := .int (vm_5 38 0)) (C := RX10) (T := TX10) (N := 79) hx hb hts in_X10 hown hK hP 0 rfl rfl 38 (by decide) lk32 (fun _ h9 => h9) rfl dX10_takeRead_10 ?_
  refine va_put (D := eD E) (ci := 10) (v := .int (vm_5 38 0)) (ty := .int) (C := RX10) (T := TX10) (N := 79) hx hb hts in_X10 tyX10 tyX10_ok nmX10 hown hK hP hD hS 0 rfl rfl 1 (by decide) lk33 (fun _ h9 => h9) rfl (by decide +kernel) rfl rfl (Nat.le_of_ble_eq_true rfl) dX10_takeRead_13 (fun H locs hP hD hS => ?_)
  replace hP : va_P (eD E) vwCl (mdL E am (up2 vm_5 1 0 (vm_5 38 0))) H := hP
  replace hD : va_D A (mdL E am (up2 vm_5 1 0 (vm_5 38 0))) := hD
  generalize hv13 : up2 vm_5 1 0 (vm_5 38 0) = vm_13 at hP hD
  have hFz : fr [0, 1, 2, 3, 4, 5, 6, 7, 8, 9, 10, 11, 12, 13, 14, 15, 16, 17, 18, 19, 20, 21, 22, 24, 25, 26] vm vm_13 := by first | exact hFz | (rw [← hv13]; exact hFz.up (by decide))
  refine lv_aload_n hx hb dX10_takeRead_16 rfl (lv_at hl 0 rfl) ?_
  refine lv_aload_n hx hb dX10_takeRead_17 rfl (lv_at hl 0 rfl) ?_
  refine va_get (D := eD E) (ci := 10) (v := .int (vm_13 43 0)) (C := RX10) (T := TX10) (N := 79) hx hb hts in_X10 hown hK hP 0 rfl rfl 43 (by decide) lk34 (fun _ h9 => h9) rfl dX10_takeRead_18 ?_
  refine va_put (D := eD E) (ci := 10) (v := .int (vm_13 43 0)) (ty := .int) (C := RX10) (T := TX10) (N := 79) hx hb hts in_X10 tyX10 tyX10_ok nmX10 hown hK hP hD hS 0 rfl rfl 4 (by decide) lk22 (fun _ h9 => h9) rfl (by decide +kernel) rfl rfl (Nat.le_of_ble_eq_true rfl) dX10_takeRead_21 (fun H locs hP hD hS => ?_)
  replace hP : va_P (eD E) vwCl (mdL E am (up2 vm_13 4 0 (vm_13 43 0))) H := hP
  replace hD : va_D A (mdL E am (up2 vm_13 4 0 (vm_13 43 0))) := hD
  generalize hv21 : up2 vm_13 4 0 (vm_13 43 0) = vm_21 at hP hD
  have hFz : fr [0, 1, 2, 3, 4, 5, 6, 7, 8, 9, 10, 11, 12, 13, 14, 15, 16, 17, 18, 19, 20, 21, 22, 24, 25, 26] vm vm_21 := by first | exact hFz | (rw [← hv21]; exact hFz.up (by decide))
  refine lv_aload_n hx hb dX10_takeRead_24 rfl (lv_at hl 0 rfl) ?_
  refine lv_aload_n hx hb dX10_takeRead_25 rfl (lv_at hl 0 rfl) ?_
  refine va_get (D := eD E) (ci := 10) (v := .int (vm_21 48 0)) (C := RX10) (T := TX10) (N := 79) hx hb hts in_X10 hown hK hP 0 rfl rfl 48 (by decide) lk35 (fun _ h9 => h9) rfl dX10_takeRead_26 ?_
  refine va_put (D := eD E) (ci := 10) (v := .int (vm_21 48 0)) (ty := .int) (C := RX10) (T := TX10) (N := 79) hx hb hts in_X10 tyX10 tyX10_ok nmX10 hown hK hP hD hS 0 rfl rfl 9 (by decide) lk36 (fun _ h9 => h9) rfl (by decide +kernel) rfl rfl (Nat.le_of_ble_eq_true rfl) dX10_takeRead_29 (fun H locs hP hD hS => ?_)
  replace hP : va_P (eD E) vwCl (mdL E am (up2 vm_21 9 0 (vm_21 48 0))) H := hP
  replace hD : va_D A (mdL E am (up2 vm_21 9 0 (vm_21 48 0))) := hD
  generalize hv29 : up2 vm_21 9 0 (vm_21 48 0) = vm_29 at hP hD
  have hFz : fr [0, 1, 2, 3, 4, 5, 6, 7, 8, 9, 10, 11, 12, 13, 14, 15, 16, 17, 18, 19, 20, 21, 22, 24, 25, 26] vm vm_29 := by first | exact hFz | (rw [← hv29]; exact hFz.up (by decide))
  refine lv_aload_n hx hb dX10_takeRead_32 rfl (lv_at hl 0 rfl) ?_
  refine lv_aload_n hx hb dX10_takeRead_33 rfl (lv_at hl 0 rfl) ?_
  refine va_get (D := eD E) (ci := 10) (v := .int (vm_29 51 0)) (C := RX10) (T := TX10) (N := 79) hx hb hts in_X10 hown hK hP 0 rfl rfl 51 (by decide) lk37 (fun _ h9 => h9) rfl dX10_takeRead_34 ?_
  refine va_put (D := eD E) (ci := 10) (v := .int (vm_29 51 0)) (ty := .int) (C := RX10) (T := TX10) (N := 79) hx hb hts in_X10 tyX10 tyX10_ok nmX10 hown hK hP hD hS 0 rfl rfl 12 (by decide) lk38 (fun _ h9 => h9) rfl (by decide +kernel) rfl rfl (Nat.le_of_ble_eq_true rfl) dX10_takeRead_37 (fun H locs hP hD hS => ?_)
  replace hP : va_P (eD E) vwCl (mdL E am (up2 vm_29 12 0 (vm_29 51 0))) H := hP
  replace hD : va_D A (mdL E am (up2 vm_29 12 0 (vm_29 51 0))) := hD
  generalize hv37 : up2 vm_29 12 0 (vm_29 51 0) = vm_37 at hP hD
  have hFz : fr [0, 1, 2, 3, 4, 5, 6, 7, 8, 9, 10, 11, 12, 13, 14, 15, 16, 17, 18, 19, 20, 21, 22, 24, 25, 26] vm vm_37 := by first | exact hFz | (rw [← hv37]; exact hFz.up (by decide))
  refine lv_aload_n hx hb dX10_takeRead_40 rfl (lv_at hl 0 rfl) ?_
  refine lv_aload_n hx hb dX10_takeRead_41 rfl (lv_at hl 0 rfl) ?_
  refine va_get (D := eD E) (ci := 10) (v := .int (vm_37 55 0)) (C := RX10) (T := TX10) (N := 79) hx hb hts in_X10 hown hK hP 0 rfl rfl 55 (by decide) lk39 (fun _ h9 => h9) rfl dX10_takeRead_42 ?_
  refine va_put (D := eD E) (ci := 10) (v := .int (vm_37 55 0)) (ty := .int) (C := RX10) (T := TX10) (N := 79) hx hb hts in_X10 tyX10 tyX10_ok nmX10 hown hK hP hD hS 0 rfl rfl 16 (by decide) lk40 (fun _ h9 => h9) rfl (by decide +kernel) rfl rfl (Nat.le_of_ble_eq_true rfl) dX10_takeRead_45 (fun H locs hP hD hS => ?_)
  replace hP : va_P (eD E) vwCl (mdL E am (up2 vm_37 16 0 (vm_37 55 0))) H := hP
  replace hD : va_D A (mdL E am (up2 vm_37 16 0 (vm_37 55 0))) := hD
  generalize hv45 : up2 vm_37 16 0 (vm_37 55 0) = vm_45 at hP hD
  have hFz : fr [0, 1, 2, 3, 4, 5, 6, 7, 8, 9, 10, 11, 12, 13, 14, 15, 16, 17, 18, 19, 20, 21, 22, 24, 25, 26] vm vm_45 := by first | exact hFz | (rw [← hv45]; exact hFz.up (by decide))
  refine lv_aload_n hx hb dX10_takeRead_48 rfl (lv_at hl 0 rfl) ?_
  refine lv_aload_n hx hb dX10_takeRead_49 rfl (lv_at hl 0 rfl) ?_
  refine va_get (D := eD E) (ci := 10) (v := .int (vm_45 58 0)) (C := RX10) (T := TX10) (N := 79) hx hb hts in_X10 hown hK hP 0 rfl rfl 58 (by decide) lk41 (fun _ h9 => h9) rfl dX10_takeRead_50 ?_
  refine va_put (D := eD E) (ci := 10) (v := .int (vm_45 58 0)) (ty := .int) (C := RX10) (T := TX10) (N := 79) hx hb hts in_X10 tyX10 tyX10_ok nmX10 hown hK hP hD hS 0 rfl rfl 19 (by decide) lk42 (fun _ h9 => h9) rfl (by decide +kernel) rfl rfl (Nat.le_of_ble_eq_true rfl) dX10_takeRead_53 (fun H locs hP hD hS => ?_)
  replace hP : va_P (eD E) vwCl (mdL E am (up2 vm_45 19 0 (vm_45 58 0))) H := hP
  replace hD : va_D A (mdL E am (up2 vm_45 19 0 (vm_45 58 0))) := hD
  generalize hv53 : up2 vm_45 19 0 (vm_45 58 0) = vm_53 at hP hD
  have hFz : fr [0, 1, 2, 3, 4, 5, 6, 7, 8, 9, 10, 11, 12, 13, 14, 15, 16, 17, 18, 19, 20, 21, 22, 24, 25, 26] vm vm_53 := by first | exact hFz | (rw [← hv53]; exact hFz.up (by decide))
  refine lv_aload_n hx hb dX10_takeRead_56 rfl (lv_at hl 0 rfl) ?_
  refine lv_iconst (v := 1) hx hb dX10_takeRead_57 (by decide) ?_
  refine va_put (D := eD E) (ci := 10) (v := .int 1) (ty := .int) (C := RX10) (T := TX10) (N := 79) hx hb hts in_X10 tyX10 tyX10_ok nmX10 hown hK hP hD hS 0 rfl rfl 22 (by decide) lk28 (fun _ h9 => h9) rfl (by decide +kernel) rfl rfl (Nat.le_of_ble_eq_true rfl) dX10_takeRead_58 (fun H locs hP hD hS => ?_)
  replace hP : va_P (eD E) vwCl (mdL E am (up2 vm_53 22 0 1)) H := hP
  replace hD : va_D A (mdL E am (up2 vm_53 22 0 1)) := hD
  generalize hv58 : up2 vm_53 22 0 1 = vm_58 at hP hD
  have hFz : fr [0, 1, 2, 3, 4, 5, 6, 7, 8, 9, 10, 11, 12, 13, 14, 15, 16, 17, 18, 19, 20, 21, 22, 24, 25, 26] vm vm_58 := by first | exact hFz | (rw [← hv58]; exact hFz.up (by decide))
  have hTR : TR vm vm_58 0 0 0 0 0 := by rw [← hv58, ← hv53, ← hv45, ← hv37, ← hv29, ← hv21, ← hv13, ← hv5]; exact TR.zero
  have hp58 : vm_58 22 0 = 1 := by rw [← hv58]; rfl
  have hp58t : (vm_58 22 0).toInt = 1 := by rw [hp58]; decide
  refine lv_iconst (v := 0) hx hb dX10_takeRead_61 (by decide) ?_
  refine lv_istore_n (lv' := [(1, .int 0), (0, .ref (am 0))]) hx hb dX10_takeRead_62 rfl hl (by decide) rfl (fun ls hl => ?_)
  have K63 : ∀ (μ : Nat) (i : Int32) (va : Vf) (H : Heap) (locs : List Loc) (ls : Array Slot), (24 - i.toInt).toNat < μ → va_P (eD E) vwCl (mdL E am va) H → va_D A (mdL E am va) → va_S A s.heap H locs → (0 ≤ i.toInt ∧ i.toInt ≤ 24) → (TR vm va i.toNatClampNeg 0 0 0 0) → ((va 22 0).toInt = 1) → (fr [0, 1, 2, 3, 4, 5, 6, 7, 8, 9, 10, 11, 12, 13, 14, 15, 16, 17, 18, 19, 20, 21, 22, 24, 25, 26] vm va) → (∀ j : Nat, (j : Int) < i.toInt → va 25 j = 0) → lv_has ls 2 [(0, .ref (am 0)), (1, .int i)] → W p l e (headSpec wsX10_takeRead rm_X10_takeRead).room s m ([.ref (am 0)] : List Value).toArray below meth c H locs 0 0 Q (F0 m 63 ls []) := by
    intro μ
    induction μ with
    | zero =>
      intro i va H locs ls hμ63
      exact absurd hμ63 (Nat.not_lt_zero _)
    | succ μ ih63 =>
      intro i va H locs ls hμ63 hP hD hS h63_0 h63_1 h63_2 h63_3 h63_4 hl
      have hx63_0 := h63_4
      clear h63_4
      have hFz := h63_3
      refine lv_iload_n hx hb dX10_takeRead_63 rfl (lv_at hl 1 rfl) ?_
      refine lv_bipush (v := 24) hx hb dX10_takeRead_64 (by decide) ?_
      refine lv_icmp_ge (tgt := 106) hx hb dX10_takeRead_66 (by decide) (fun c66 => ?_) (fun c66 => ?_)
      · have c66_ := i_le c66
        have hi : i.toNatClampNeg = 24 := by have := i_nat (x := i) (by omega); omega
        have hTRa : TR vm va 24 0 0 0 0 := by rw [← hi]; exact h63_1
        refine lv_iconst (v := 0) hx hb dX10_takeRead_106 (by decide) ?_
        refine lv_istore_n (lv' := [(1, .int 0), (0, .ref (am 0))]) hx hb dX10_takeRead_107 rfl hl (by decide) rfl (fun ls hl => ?_)
        exact K108 _ 0 va _ _ ls (Nat.lt_succ_self _) hP hD hS (by omega) hTRa (by omega) hFz (fun j h => hx63_0 j (by omega)) (fun j h => absurd h (by omega)) (lv_sub hl [1, 0] rfl)
      · have c66_ := i_nle c66
        refine lv_aload_n hx hb dX10_takeRead_69 rfl (lv_at hl 0 rfl) ?_
        refine va_get (D := eD E) (ci := 10) (v := .ref (am 2)) (C := RX10) (T := TX10) (N := 79) hx hb hts in_X10 hown hK hP 0 rfl rfl 2 (by decide) lk43 (fun _ h9 => h9) rfl dX10_takeRead_70 ?_
        refine lv_iload_n hx hb dX10_takeRead_73 rfl (lv_at hl 1 rfl) ?_
        refine lv_aload_n hx hb dX10_takeRead_74 rfl (lv_at hl 0 rfl) ?_
        refine va_get (D := eD E) (ci := 10) (v := .ref (am 39)) (C := RX10) (T := TX10) (N := 79) hx hb hts in_X10 hown hK hP 0 rfl rfl 39 (by decide) lk44 (fun _ h9 => h9) rfl dX10_takeRead_75 ?_
        refine lv_iload_n hx hb dX10_takeRead_78 rfl (lv_at hl 1 rfl) ?_
        refine va_iald hx hb hK hP 20 0 rfl rfl (n := 24) (f := (va 39)) (i_in (by omega) (by omega)) dX10_takeRead_79 ?_
        refine lv_topi (fun x79 e79 => ?_)
        refine va_iast hx hb hK hP hD hS 1 0 rfl rfl (n := 24) (f := (va 2)) (i_in (by omega) (by omega)) dX10_takeRead_80 (fun H locs hP hD hS => ?_)
        replace hP : va_P (eD E) vwCl (mdL E am (up2 va 2 i.toNatClampNeg x79)) H := hP
        replace hD : va_D A (mdL E am (up2 va 2 i.toNatClampNeg x79)) := hD
        generalize hv80 : up2 va 2 i.toNatClampNeg x79 = vm_80 at hP hD
        have hFz : fr [0, 1, 2, 3, 4, 5, 6, 7, 8, 9, 10, 11, 12, 13, 14, 15, 16, 17, 18, 19, 20, 21, 22, 24, 25, 26] vm vm_80 := by first | exact hFz | (rw [← hv80]; exact hFz.up (by decide))
        refine lv_aload_n hx hb dX10_takeRead_81 rfl (lv_at hl 0 rfl) ?_
        refine va_get (D := eD E) (ci := 10) (v := .ref (am 3)) (C := RX10) (T := TX10) (N := 79) hx hb hts in_X10 hown hK hP 0 rfl rfl 3 (by decide) lk45 (fun _ h9 => h9) rfl dX10_takeRead_82 ?_
        refine lv_iload_n hx hb dX10_takeRead_85 rfl (lv_at hl 1 rfl) ?_
        refine lv_aload_n hx hb dX10_takeRead_86 rfl (lv_at hl 0 rfl) ?_
        refine va_get (D := eD E) (ci := 10) (v := .ref (am 40)) (C := RX10) (T := TX10) (N := 79) hx hb hts in_X10 hown hK hP 0 rfl rfl 40 (by decide) lk46 (fun _ h9 => h9) rfl dX10_takeRead_87 ?_
        refine lv_iload_n hx hb dX10_takeRead_90 rfl (lv_at hl 1 rfl) ?_
        refine va_iald hx hb hK hP 21 0 rfl rfl (n := 24) (f := (vm_80 40)) (i_in (by omega) (by omega)) dX10_takeRead_91 ?_
        refine lv_topi (fun x91 e91 => ?_)
        refine va_iast hx hb hK hP hD hS 2 0 rfl rfl (n := 24) (f := (vm_80 3)) (i_in (by omega) (by omega)) dX10_takeRead_92 (fun H locs hP hD hS => ?_)
        replace hP : va_P (eD E) vwCl (mdL E am (up2 vm_80 3 i.toNatClampNeg x91)) H := hP
        replace hD : va_D A (mdL E am (up2 vm_80 3 i.toNatClampNeg x91)) := hD
        generalize hv92 : up2 vm_80 3 i.toNatClampNeg x91 = vm_92 at hP hD
        have hFz : fr [0, 1, 2, 3, 4, 5, 6, 7, 8, 9, 10, 11, 12, 13, 14, 15, 16, 17, 18, 19, 20, 21, 22, 24, 25, 26] vm vm_92 := by first | exact hFz | (rw [← hv92]; exact hFz.up (by decide))
        refine lv_aload_n hx hb dX10_takeRead_93 rfl (lv_at hl 0 rfl) ?_
        refine va_get (D := eD E) (ci := 10) (v := .ref (am 25)) (C := RX10) (T := TX10) (N := 79) hx hb hts in_X10 hown hK hP 0 rfl rfl 25 (by decide) lk47 (fun _ h9 => h9) rfl dX10_takeRead_94 ?_
        refine lv_iload_n hx hb dX10_takeRead_97 rfl (lv_at hl 1 rfl) ?_
        refine lv_iconst (v := 0) hx hb dX10_takeRead_98 (by decide) ?_
        refine va_iast hx hb hK hP hD hS 17 0 rfl rfl (n := 24) (f := (vm_92 25)) (i_in (by omega) (by omega)) dX10_takeRead_99 (fun H locs hP hD hS => ?_)
        replace hP : va_P (eD E) vwCl (mdL E am (up2 vm_92 25 i.toNatClampNeg 0)) H := hP
        replace hD : va_D A (mdL E am (up2 vm_92 25 i.toNatClampNeg 0)) := hD
        generalize hv99 : up2 vm_92 25 i.toNatClampNeg 0 = vm_99 at hP hD
        have hFz : fr [0, 1, 2, 3, 4, 5, 6, 7, 8, 9, 10, 11, 12, 13, 14, 15, 16, 17, 18, 19, 20, 21, 22, 24, 25, 26] vm vm_99 := by first | exact hFz | (rw [← hv99]; exact hFz.up (by decide))
        obtain ⟨x100, e100⟩ : ∃ y : Int32, y = i + 1 := ⟨_, rfl⟩
        refine lv_iinc (v := x100) (lv' := [(1, .int x100), (0, .ref (am 0))]) hx hb dX10_takeRead_100 hl (k := 1) rfl (by rw [e100]; rfl) (by decide) rfl (fun ls hl => ?_)
        have t100 := i_add e100 (by omega)
        have hx79 : (vm 37 0).toInt = 0 ∨ ((0 ≤ x79.toInt ∧ x79.toInt ≤ 99) ∧ (0 ≤ x91.toInt ∧ x91.toInt ≤ 9)) := hrB.imp id (fun z => ⟨by rw [e79, h63_1.1 39 (by omega)]; exact z.1 _ (i_natlt (by omega) (by decide)), by rw [e91, ← hv80]; show 0 ≤ (va 40 i.toNatClampNeg).toInt ∧ (va 40 i.toNatClampNeg).toInt ≤ 9; rw [h63_1.1 40 (by omega)]; exact z.2 _ (i_natlt (by omega) (by decide))⟩)
        have hTR : TR vm vm_99 x100.toNatClampNeg 0 0 0 0 := by rw [i_nat1 (x := i) (by omega) t100, ← hv99, ← hv92, ← hv80]; exact h63_1.cell hx79
        have hp99 : (vm_99 22 0).toInt = (va 22 0).toInt := by rw [← hv99, ← hv92, ← hv80]; rfl
        refine lv_goto (tgt := 63) hx hb dX10_takeRead_103 (by decide) ?_
        exact ih63 x100 vm_99 _ _ ls (by omega) hP hD hS (by omega) hTR (by omega) hFz (by rw [← hv99, ← hv92, ← hv80]; exact up0_next (v := up2 (up2 va 2 i.toNatClampNeg x79) 3 i.toNatClampNeg x91) (t := 25) hx63_0 (by omega) (by omega)) (lv_sub hl [1, 0] rfl)
  exact K63 _ 0 vm_58 _ _ ls (Nat.lt_succ_self _) hP hD hS (by omega) hTR (by omega) hFz (fun j h => absurd h (by omega)) (lv_sub hl [1, 0] rfl)
