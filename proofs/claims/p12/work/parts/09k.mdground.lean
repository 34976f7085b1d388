def rm_X10_takeRead : Room := { frames := 1, cells := 0, slots := 0, locals := 24 }
set_option maxHeartbeats 4000000 in
set_option maxRecDepth 100000 in
theorem c_X10_takeRead (l : Launch) (E : Ev) (sz : Nat) (am : Nat → Nat) (vm : Vf) (hMI : MdI vm) (hRd : RdM vm) : Met l yX10_takeRead wsX10_takeRead rm_X10_takeRead (MtP E sz [.ref (am 0)] (mdL E am vm)) (va_Qv (fun (u : Vf) => ((TR vm u 24 3 27 6 5 ∧ (1 ≤ (u 22 0).toInt ∧ (u 22 0).toInt ≤ 729)) ∧ fr [0, 1, 2, 3, 4, 5, 6, 7, 8, 9, 10, 11, 12, 13, 14, 15, 16, 17, 18, 19, 20, 21, 22, 24, 25, 26] vm u) ∧ (((∀ j, j < 3 → u 24 j = 0) ∧ (∀ j, j < 24 → u 25 j = 0) ∧ (∀ j, j < 6 → u 26 j = 0)) ∧ Rd0 u vm)) (MtB E (va_A (mdL E am vm) sz) (fun u => mdL E am u)) (va_A (mdL E am vm) sz)) 0 0 (va_A (mdL E am vm) sz) := by
  refine Met.ofW (cc := cX10_takeRead) (maxL := 2) (ret := none) (by decide) rfl ?_
  intro p e s m args below meth c s₁ B hml hv
  obtain ⟨rfl, hsz, hE, hP, hD0⟩ := hv
  subst hsz
  have hD := hD0.self (sz := s.heap.size)
  generalize hAe : va_A (mdL E am vm) s.heap.size = A at hD hE ⊢
  have hA : ∀ q : Nat, s.heap.size ≤ q → A q := fun q h => by rw [← hAe]; exact Or.inr h
  have hS : va_S A s.heap s.heap [] := va_S.rf
  have hx := B.exec
  have hb := B.bytes
  have hr := B.returns
  have hts := atoms_spec (ws := wsX10_takeRead) B.pre
  have hown : s.vm.findClass RX10 = some m.cls := findClass_of_methodNamed B.named
  have hlocks := B.notSynchronized
  have hK := hE.1
  have in_X10 : ∀ w ∈ u_ws RX10 TX10 79, w ∈ wsX10_takeRead := fun w h => List.mem_cons_of_mem _ (List.mem_append_right _ h)
  have lk0 := hts (.fieldLink RX10 49 "TidedGroundModel" "deedLow" "[I") (List.mem_of_getElem? (i := 45) rfl)
  have lk1 := hts (.fieldLink RX10 119 "TidedGroundModel" "readDeedLow" "[I") (List.mem_of_getElem? (i := 46) rfl)
  have lk2 := hts (.fieldLink RX10 52 "TidedGroundModel" "deedHigh" "[I") (List.mem_of_getElem? (i := 47) rfl)
  have lk3 := hts (.fieldLink RX10 122 "TidedGroundModel" "readDeedHigh" "[I") (List.mem_of_getElem? (i := 48) rfl)
  have lk4 := hts (.fieldLink RX10 43 "TidedGroundModel" "wellAt" "[I") (List.mem_of_getElem? (i := 41) rfl)
  have lk5 := hts (.fieldLink RX10 113 "TidedGroundModel" "readWellAt" "[I") (List.mem_of_getElem? (i := 42) rfl)
  have lk6 := hts (.fieldLink RX10 46 "TidedGroundModel" "wellDeep" "[I") (List.mem_of_getElem? (i := 43) rfl)
  have lk7 := hts (.fieldLink RX10 116 "TidedGroundModel" "readWellDeep" "[I") (List.mem_of_getElem? (i := 44) rfl)
  have lk8 := hts (.fieldLink RX10 28 "TidedGroundModel" "houseAt" "[I") (List.mem_of_getElem? (i := 30) rfl)
  have lk9 := hts (.fieldLink RX10 98 "TidedGroundModel" "readHouseAt" "[I") (List.mem_of_getElem? (i := 31) rfl)
  have lk10 := hts (.fieldLink RX10 31 "TidedGroundModel" "hinge" "[I") (List.mem_of_getElem? (i := 32) rfl)
  have lk11 := hts (.fieldLink RX10 101 "TidedGroundModel" "readHinge" "[I") (List.mem_of_getElem? (i := 33) rfl)
  have lk12 := hts (.fieldLink RX10 65 "TidedGroundModel" "props" "[I") (List.mem_of_getElem? (i := 34) rfl)
  have lk13 := hts (.fieldLink RX10 34 "TidedGroundModel" "crackAt" "[I") (List.mem_of_getElem? (i := 35) rfl)
  have lk14 := hts (.fieldLink RX10 104 "TidedGroundModel" "readCrackAt" "[I") (List.mem_of_getElem? (i := 36) rfl)
  have lk15 := hts (.fieldLink RX10 37 "TidedGroundModel" "crackWay" "[I") (List.mem_of_getElem? (i := 37) rfl)
  have lk16 := hts (.fieldLink RX10 107 "TidedGroundModel" "readCrackWay" "[I") (List.mem_of_getElem? (i := 38) rfl)
  have lk17 := hts (.fieldLink RX10 40 "TidedGroundModel" "crackOpen" "[I") (List.mem_of_getElem? (i := 39) rfl)
  have lk18 := hts (.fieldLink RX10 110 "TidedGroundModel" "readCrackOpen" "[I") (List.mem_of_getElem? (i := 40) rfl)
  have lk19 := hts (.fieldLink RX10 25 "TidedGroundModel" "parts" "[I") (List.mem_of_getElem? (i := 28) rfl)
  have lk20 := hts (.fieldLink RX10 95 "TidedGroundModel" "readParts" "[I") (List.mem_of_getElem? (i := 29) rfl)
  have lk21 := hts (.fieldLink RX10 16 "TidedGroundModel" "many" "[I") (List.mem_of_getElem? (i := 21) rfl)
  have lk22 := hts (.fieldLink RX10 267 "TidedGroundModel" "moons" "I") (List.mem_of_getElem? (i := 6) rfl)
  have lk23 := hts (.fieldLink RX10 19 "TidedGroundModel" "lateX" "[I") (List.mem_of_getElem? (i := 23) rfl)
  have lk24 := hts (.fieldLink RX10 89 "TidedGroundModel" "readLateX" "[I") (List.mem_of_getElem? (i := 24) rfl)
  have lk25 := hts (.fieldLink RX10 22 "TidedGroundModel" "lateY" "[I") (List.mem_of_getElem? (i := 25) rfl)
  have lk26 := hts (.fieldLink RX10 92 "TidedGroundModel" "readLateY" "[I") (List.mem_of_getElem? (i := 26) rfl)
  have lk27 := hts (.fieldLink RX10 59 "TidedGroundModel" "shift" "[I") (List.mem_of_getElem? (i := 27) rfl)
  have lk28 := hts (.fieldLink RX10 55 "TidedGroundModel" "period" "I") (List.mem_of_getElem? (i := 15) rfl)
  have lk29 := hts (.fieldLink RX10 86 "TidedGroundModel" "readMany" "[I") (List.mem_of_getElem? (i := 22) rfl)
  have lk30 := hts (.fieldLink RX10 204 "TidedGroundModel" "readWide" "I") (List.mem_of_getElem? (i := 1) rfl)
  have lk31 := hts (.fieldLink RX10 159 "TidedGroundModel" "wide" "I") (List.mem_of_getElem? (i := 2) rfl)
  have lk32 := hts (.fieldLink RX10 207 "TidedGroundModel" "readDeep" "I") (List.mem_of_getElem? (i := 3) rfl)
  have lk33 := hts (.fieldLink RX10 162 "TidedGroundModel" "deep" "I") (List.mem_of_getElem? (i := 4) rfl)
  have lk34 := hts (.fieldLink RX10 231 "TidedGroundModel" "readMoons" "I") (List.mem_of_getElem? (i := 5) rfl)
  have lk35 := hts (.fieldLink RX10 234 "TidedGroundModel" "readHouses" "I") (List.mem_of_getElem? (i := 7) rfl)
  have lk36 := hts (.fieldLink RX10 270 "TidedGroundModel" "houses" "I") (List.mem_of_getElem? (i := 8) rfl)
  have lk37 := hts (.fieldLink RX10 237 "TidedGroundModel" "readCracks" "I") (List.mem_of_getElem? (i := 9) rfl)
  have lk38 := hts (.fieldLink RX10 273 "TidedGroundModel" "cracks" "I") (List.mem_of_getElem? (i := 10) rfl)
  have lk39 := hts (.fieldLink RX10 240 "TidedGroundModel" "readWells" "I") (List.mem_of_getElem? (i := 11) rfl)
  have lk40 := hts (.fieldLink RX10 276 "TidedGroundModel" "wells" "I") (List.mem_of_getElem? (i := 12) rfl)
  have lk41 := hts (.fieldLink RX10 243 "TidedGroundModel" "readDeeds" "I") (List.mem_of_getElem? (i := 13) rfl)
  have lk42 := hts (.fieldLink RX10 279 "TidedGroundModel" "deeds" "I") (List.mem_of_getElem? (i := 14) rfl)
  have lk43 := hts (.fieldLink RX10 7 "TidedGroundModel" "base" "[I") (List.mem_of_getElem? (i := 16) rfl)
  have lk44 := hts (.fieldLink RX10 77 "TidedGroundModel" "readBase" "[I") (List.mem_of_getElem? (i := 17) rfl)
  have lk45 := hts (.fieldLink RX10 13 "TidedGroundModel" "soft" "[I") (List.mem_of_getElem? (i := 18) rfl)
  have lk46 := hts (.fieldLink RX10 80 "TidedGroundModel" "readSoft" "[I") (List.mem_of_getElem? (i := 19) rfl)
  have lk47 := hts (.fieldLink RX10 62 "TidedGroundModel" "load" "[I") (List.mem_of_getElem? (i := 20) rfl)
  have n_0 : (0 : Int32).toInt = 0 := by decide
  have n_1 : (1 : Int32).toInt = 1 := by decide
  have n_3 : (3 : Int32).toInt = 3 := by decide
  have n_4 : (4 : Int32).toInt = 4 := by decide
  have n_5 : (5 : Int32).toInt = 5 := by decide
  have n_6 : (6 : Int32).toInt = 6 := by decide
  have n_24 : (24 : Int32).toInt = 24 := by decide
  have n_27 : (27 : Int32).toInt = 27 := by decide
  have n_30 : (30 : Int32).toInt = 30 := by decide
  have n_100 : (100 : Int32).toInt = 100 := by decide
  have hl := lv_entry ([.ref (am 0)]) (n := 2) (Nat.le_of_ble_eq_true rfl)
  rw [lg_entry_eq]
  generalize (lg_sl ([.ref (am 0)]) ++ List.replicate (2 - (lg_sl ([.ref (am 0)])).length) Slot.unset).toArray = ls at hl ⊢
  have hl : lv_has ls 2 [(0, .ref (am 0))] := hl
  refine W_abs (fun Q hQ => ?_)
  have hH := hMI.1
  obtain ⟨hrG, hrC, hrZ, hrMo, hrB, hrD⟩ := id hRd
  obtain ⟨hrc1, hrc2, hrc3, hrc4, hrc5, hrc6⟩ := id hrC
  have hFz : fr [0, 1, 2, 3, 4, 5, 6, 7, 8, 9, 10, 11, 12, 13, 14, 15, 16, 17, 18, 19, 20, 21, 22, 24, 25, 26] vm vm := fr.rf
  have K352 : ∀ (μ : Nat) (i : Int32) (vg : Vf) (H : Heap) (locs : List Loc) (ls : Array Slot), (4 - i.toInt).toNat < μ → va_P (eD E) vwCl (mdL E am vg) H → va_D A (mdL E am vg) → va_S A s.heap H locs → (0 ≤ i.toInt ∧ i.toInt ≤ 4) → (TR vm vg 24 3 27 6 5) → (1 ≤ (vg 22 0).toInt ∧ (vg 22 0).toInt ≤ 729) → (fr [0, 1, 2, 3, 4, 5, 6, 7, 8, 9, 10, 11, 12, 13, 14, 15, 16, 17, 18, 19, 20, 21, 22, 24, 25, 26] vm vg) → (∀ j, j < 24 → vg 25 j = 0) → (∀ j, j < 3 → vg 24 j = 0) → (∀ j, j < 6 → vg 26 j = 0) → (CpA vg vm 24) → (CpB vg vm 3) → ((vg 22 0).toInt = perI (fun j => (vg 5 j).toInt) 3) → (CpC vg vm 27) → (CpD vg vm 6) → (CpE vg vm 5) → (CpF vg vm i.toInt) → lv_has ls 2 [(0, .ref (am 0)), (1, .int i)] → W p l e (headSpec wsX10_takeRead rm_X10_takeRead).room s m ([.ref (am 0)] : List Value).toArray below meth c H locs 0 0 Q (F0 m 352 ls []) := by
    intro μ
    induction μ with
    | zero =>
      intro i vg H locs ls hμ352
      exact absurd hμ352 (Nat.not_lt_zero _)
    | succ μ ih352 =>
      intro i vg H locs ls hμ352 hP hD hS h352_0 h352_1 h352_2 h352_3 h352_4 h352_5 h352_6 h352_7 h352_8 h352_9 h352_10 h352_11 h352_12 h352_13 hl
      have hx352_0 := h352_4
      clear h352_4
      have hx352_1 := h352_5
      clear h352_5
      have hx352_2 := h352_6
      clear h352_6
      have hx352_3 := h352_7
      clear h352_7
      have hx352_4 := h352_8
      clear h352_8
      have hx352_5 := h352_9
      clear h352_9
      have hx352_6 := h352_10
      clear h352_10
      have hx352_7 := h352_11
      clear h352_11
      have hx352_8 := h352_12
      clear h352_12
      have hx352_9 := h352_13
      clear h352_13
      have hFz := h352_3
      refine lv_iload_n hx hb dX10_takeRead_352 rfl (lv_at hl 1 rfl) ?_
      refine lv_iconst (v := 4) hx hb dX10_takeRead_353 (by decide) ?_
      refine lv_icmp_ge (tgt := 393) hx hb dX10_takeRead_354 (by decide) (fun c354 => ?_) (fun c354 => ?_)
      · have c354_ := i_le c354
        subst hQ
        exact W.vret hx hb hr (fun t ht hW => ⟨⟨(vg), rfl, (show ((TR vm vg 24 3 27 6 5 ∧ (1 ≤ (vg 22 0).toInt ∧ (vg 22 0).toInt ≤ 729)) ∧ fr [0, 1, 2, 3, 4, 5, 6, 7, 8, 9, 10, 11, 12, 13, 14, 15, 16, 17, 18, 19, 20, 21, 22, 24, 25, 26] vm vg) ∧ (((∀ j, j < 3 → vg 24 j = 0) ∧ (∀ j, j < 24 → vg 25 j = 0) ∧ (∀ j, j < 6 → vg 26 j = 0)) ∧ Rd0 vg vm) from ⟨⟨⟨h352_1, h352_2⟩, hFz⟩, ⟨⟨hx352_1, hx352_0, hx352_2⟩, ⟨hx352_3, hx352_4, hx352_6, hx352_7, hx352_8, (fun j h => hx352_9 j (by omega)), hx352_5⟩⟩⟩), by rw [ht]; exact hP, hD⟩, hS.F ht⟩) hS.2.2 dX10_takeRead_393
      · have c354_ := i_nle c354
        refine lv_aload_n hx hb dX10_takeRead_357 rfl (lv_at hl 0 rfl) ?_
        refine va_get (D := eD E) (ci := 10) (v := .ref (am 20)) (C := RX10) (T := TX10) (N := 79) hx hb hts in_X10 hown hK hP 0 rfl rfl 20 (by decide) lk0 (fun _ h9 => h9) rfl dX10_takeRead_358 ?_
        refine lv_iload_n hx hb dX10_takeRead_361 rfl (lv_at hl 1 rfl) ?_
        refine lv_aload_n hx hb dX10_takeRead_362 rfl (lv_at hl 0 rfl) ?_
        refine va_get (D := eD E) (ci := 10) (v := .ref (am 59)) (C := RX10) (T := TX10) (N := 79) hx hb hts in_X10 hown hK hP 0 rfl rfl 59 (by decide) lk1 (fun _ h9 => h9) rfl dX10_takeRead_363 ?_
        refine lv_iload_n hx hb dX10_takeRead_366 rfl (lv_at hl 1 rfl) ?_
        refine va_iald hx hb hK hP 34 0 rfl rfl (n := 4) (f := (vg 59)) (i_in (by omega) (by omega)) dX10_takeRead_367 ?_
        refine lv_topi (fun x367 e367 => ?_)
        refine lv_bipush (v := 100) hx hb dX10_takeRead_368 (by decide) ?_
        refine lv_isub hx hb dX10_takeRead_370 ?_
        refine lv_topi (fun x370 e370 => ?_)
        refine va_iast hx hb hK hP hD hS 14 0 rfl rfl (n := 4) (f := (vg 20)) (i_in (by omega) (by omega)) dX10_takeRead_371 (fun H locs hP hD hS => ?_)
        replace hP : va_P (eD E) vwCl (mdL E am (up2 vg 20 i.toNatClampNeg x370)) H := hP
        replace hD : va_D A (mdL E am (up2 vg 20 i.toNatClampNeg x370)) := hD
        generalize hv371 : up2 vg 20 i.toNatClampNeg x370 = vm_371 at hP hD
        have hFz : fr [0, 1, 2, 3, 4, 5, 6, 7, 8, 9, 10, 11, 12, 13, 14, 15, 16, 17, 18, 19, 20, 21, 22, 24, 25, 26] vm vm_371 := by first | exact hFz | (rw [← hv371]; exact hFz.up (by decide))
        refine lv_aload_n hx hb dX10_takeRead_372 rfl (lv_at hl 0 rfl) ?_
        refine va_get (D := eD E) (ci := 10) (v := .ref (am 21)) (C := RX10) (T := TX10) (N := 79) hx hb hts in_X10 hown hK hP 0 rfl rfl 21 (by decide) lk2 (fun _ h9 => h9) rfl dX10_takeRead_373 ?_
        refine lv_iload_n hx hb dX10_takeRead_376 rfl (lv_at hl 1 rfl) ?_
        refine lv_aload_n hx hb dX10_takeRead_377 rfl (lv_at hl 0 rfl) ?_
        refine va_get (D := eD E) (ci := 10) (v := .ref (am 60)) (C := RX10) (T := TX10) (N := 79) hx hb hts in_X10 hown hK hP 0 rfl rfl 60 (by decide) lk3 (fun _ h9 => h9) rfl dX10_takeRead_378 ?_
        refine lv_iload_n hx hb dX10_takeRead_381 rfl (lv_at hl 1 rfl) ?_
        refine va_iald hx hb hK hP 35 0 rfl rfl (n := 4) (f := (vm_371 60)) (i_in (by omega) (by omega)) dX10_takeRead_382 ?_
        refine lv_topi (fun x382 e382 => ?_)
        refine lv_bipush (v := 100) hx hb dX10_takeRead_383 (by decide) ?_
        refine lv_isub hx hb dX10_takeRead_385 ?_
        refine lv_topi (fun x385 e385 => ?_)
        refine va_iast hx hb hK hP hD hS 15 0 rfl rfl (n := 4) (f := (vm_371 21)) (i_in (by omega) (by omega)) dX10_takeRead_386 (fun H locs hP hD hS => ?_)
        replace hP : va_P (eD E) vwCl (mdL E am (up2 vm_371 21 i.toNatClampNeg x385)) H := hP
        replace hD : va_D A (mdL E am (up2 vm_371 21 i.toNatClampNeg x385)) := hD
        generalize hv386 : up2 vm_371 21 i.toNatClampNeg x385 = vm_386 at hP hD
        have hFz : fr [0, 1, 2, 3, 4, 5, 6, 7, 8, 9, 10, 11, 12, 13, 14, 15, 16, 17, 18, 19, 20, 21, 22, 24, 25, 26] vm vm_386 := by first | exact hFz | (rw [← hv386]; exact hFz.up (by decide))
        obtain ⟨x387, e387⟩ : ∃ y : Int32, y = i + 1 := ⟨_, rfl⟩
        refine lv_iinc (v := x387) (lv' := [(1, .int x387), (0, .ref (am 0))]) hx hb dX10_takeRead_387 hl (k := 1) rfl (by rw [e387]; rfl) (by decide) rfl (fun ls hl => ?_)
        have t387 := i_add e387 (by omega)
        have hTR : TR vm vm_386 24 3 27 6 5 := by rw [← hv386, ← hv371]; exact h352_1.deed
        have hp386 : (vm_386 22 0).toInt = (vg 22 0).toInt := by rw [← hv386, ← hv371]; rfl
        refine lv_goto (tgt := 352) hx hb dX10_takeRead_390 (by decide) ?_
        exact ih352 x387 vm_386 _ _ ls (by omega) hP hD hS (by omega) hTR (by omega) hFz (by rw [← hv386, ← hv371]; exact hx352_0) (by rw [← hv386, ← hv371]; exact hx352_1) (by rw [← hv386, ← hv371]; exact hx352_2) (by rw [← hv386, ← hv371]; exact hx352_3) (by rw [← hv386, ← hv371]; exact hx352_4) (by rw [← hv386, ← hv371]; exact hx352_5) (by rw [← hv386, ← hv371]; exact hx352_6) (by rw [← hv386, ← hv371]; exact hx352_7) (by rw [← hv386, ← hv371]; exact hx352_8) (by rw [← hv386, ← hv371]; exact CpF.next hx352_9 (by omega) (by omega) (by rw [e370, e367, h352_1.1 59 (by omega)]) (by rw [e385, e382, ← hv371]; show vg 60 i.toNatClampNeg - 100 = _; rw [h352_1.1 60 (by omega)])) (lv_sub hl [1, 0] rfl)
  have K315 : ∀ (μ : Nat) (i : Int32) (ve : Vf) (H : Heap) (locs : List Loc) (ls : Array Slot), (5 - i.toInt).toNat < μ → va_P (eD E) vwCl (mdL E am ve) H → va_D A (mdL E am ve) → va_S A s.heap H locs → (0 ≤ i.toInt ∧ i.toInt ≤ 5) → (TR vm ve 24 3 27 6 i.toNatClampNeg) → (1 ≤ (ve 22 0).toInt ∧ (ve 22 0).toInt ≤ 729) → (fr [0, 1, 2, 3, 4, 5, 6, 7, 8, 9, 10, 11, 12, 13, 14, 15, 16, 17, 18, 19, 20, 21, 22, 24, 25, 26] vm ve) → (∀ j, j < 24 → ve 25 j = 0) → (∀ j, j < 3 → ve 24 j = 0) → (∀ j, j < 6 → ve 26 j = 0) → (CpA ve vm 24) → (CpB ve vm 3) → ((ve 22 0).toInt = perI (fun j => (ve 5 j).toInt) 3) → (CpC ve vm 27) → (CpD ve vm 6) → (CpE ve vm i.toInt) → lv_has ls 2 [(0, .ref (am 0)), (1, .int i)] → W p l e (headSpec wsX10_takeRead rm_X10_takeRead).room s m ([.ref (am 0)] : List Value).toArray below meth c H locs 0 0 Q (F0 m 315 ls []) := by
    intro μ
    induction μ with
    | zero =>
      intro i ve H locs ls hμ315
      exact absurd hμ315 (Nat.not_lt_zero _)
    | succ μ ih315 =>
      intro i ve H locs ls hμ315 hP hD hS h315_0 h315_1 h315_2 h315_3 h315_4 h315_5 h315_6 h315_7 h315_8 h315_9 h315_10 h315_11 h315_12 hl
      have hx315_0 := h315_4
      clear h315_4
      have hx315_1 := h315_5
      clear h315_5
      have hx315_2 := h315_6
      clear h315_6
      have hx315_3 := h315_7
      clear h315_7
      have hx315_4 := h315_8
      clear h315_8
      have hx315_5 := h315_9
      clear h315_9
      have hx315_6 := h315_10
      clear h315_10
      have hx315_7 := h315_11
      clear h315_11
      have hx315_8 := h315_12
      clear h315_12
      have hFz := h315_3
      refine lv_iload_n hx hb dX10_takeRead_315 rfl (lv_at hl 1 rfl) ?_
      refine lv_iconst (v := 5) hx hb dX10_takeRead_316 (by decide) ?_
      refine lv_icmp_ge (tgt := 350) hx hb dX10_takeRead_317 (by decide) (fun c317 => ?_) (fun c317 => ?_)
      · have c317_ := i_le c317
        have hi : i.toNatClampNeg = 5 := by have := i_nat (x := i) (by omega); omega
        have hTRe : TR vm ve 24 3 27 6 5 := by rw [← hi]; exact h315_1
        refine lv_iconst (v := 0) hx hb dX10_takeRead_350 (by decide) ?_
        refine lv_istore_n (lv' := [(1, .int 0), (0, .ref (am 0))]) hx hb dX10_takeRead_351 rfl hl (by decide) rfl (fun ls hl => ?_)
        exact K352 _ 0 ve _ _ ls (Nat.lt_succ_self _) hP hD hS (by omega) hTRe (by omega) hFz hx315_0 hx315_1 hx315_2 hx315_3 hx315_4 hx315_5 hx315_6 hx315_7 (fun j h => hx315_8 j (by omega)) (fun j h => absurd h (by omega)) (lv_sub hl [1, 0] rfl)
      · have c317_ := i_nle c317
        refine lv_aload_n hx hb dX10_takeRead_320 rfl (lv_at hl 0 rfl) ?_
        refine va_get (D := eD E) (ci := 10) (v := .ref (am 17)) (C := RX10) (T := TX10) (N := 79) hx hb hts in_X10 hown hK hP 0 rfl rfl 17 (by decide) lk4 (fun _ h9 => h9) rfl dX10_takeRead_321 ?_
        refine lv_iload_n hx hb dX10_takeRead_324 rfl (lv_at hl 1 rfl) ?_
        refine lv_aload_n hx hb dX10_takeRead_325 rfl (lv_at hl 0 rfl) ?_
        refine va_get (D := eD E) (ci := 10) (v := .ref (am 56)) (C := RX10) (T := TX10) (N := 79) hx hb hts in_X10 hown hK hP 0 rfl rfl 56 (by decide) lk5 (fun _ h9 => h9) rfl dX10_takeRead_326 ?_
        refine lv_iload_n hx hb dX10_takeRead_329 rfl (lv_at hl 1 rfl) ?_
        refine va_iald hx hb hK hP 32 0 rfl rfl (n := 5) (f := (ve 56)) (i_in (by omega) (by omega)) dX10_takeRead_330 ?_
        refine lv_topi (fun x330 e330 => ?_)
        have b330 := hMI.2.2.2.2.2.2.2 i.toNatClampNeg (i_natlt (by omega) (by decide))
        rw [← h315_1.1 56 (by omega), ← e330] at b330
        refine va_iast hx hb hK hP hD hS 12 0 rfl rfl (n := 5) (f := (ve 17)) (i_in (by omega) (by omega)) dX10_takeRead_331 (fun H locs hP hD hS => ?_)
        replace hP : va_P (eD E) vwCl (mdL E am (up2 ve 17 i.toNatClampNeg x330)) H := hP
        replace hD : va_D A (mdL E am (up2 ve 17 i.toNatClampNeg x330)) := hD
        generalize hv331 : up2 ve 17 i.toNatClampNeg x330 = vm_331 at hP hD
        have hFz : fr [0, 1, 2, 3, 4, 5, 6, 7, 8, 9, 10, 11, 12, 13, 14, 15, 16, 17, 18, 19, 20, 21, 22, 24, 25, 26] vm vm_331 := by first | exact hFz | (rw [← hv331]; exact hFz.up (by decide))
        refine lv_aload_n hx hb dX10_takeRead_332 rfl (lv_at hl 0 rfl) ?_
        refine va_get (D := eD E) (ci := 10) (v := .ref (am 18)) (C := RX10) (T := TX10) (N := 79) hx hb hts in_X10 hown hK hP 0 rfl rfl 18 (by decide) lk6 (fun _ h9 => h9) rfl dX10_takeRead_333 ?_
        refine lv_iload_n hx hb dX10_takeRead_336 rfl (lv_at hl 1 rfl) ?_
        refine lv_aload_n hx hb dX10_takeRead_337 rfl (lv_at hl 0 rfl) ?_
        refine va_get (D := eD E) (ci := 10) (v := .ref (am 57)) (C := RX10) (T := TX10) (N := 79) hx hb hts in_X10 hown hK hP 0 rfl rfl 57 (by decide) lk7 (fun _ h9 => h9) rfl dX10_takeRead_338 ?_
        refine lv_iload_n hx hb dX10_takeRead_341 rfl (lv_at hl 1 rfl) ?_
        refine va_iald hx hb hK hP 33 0 rfl rfl (n := 5) (f := (vm_331 57)) (i_in (by omega) (by omega)) dX10_takeRead_342 ?_
        refine lv_topi (fun x342 e342 => ?_)
        refine va_iast hx hb hK hP hD hS 13 0 rfl rfl (n := 5) (f := (vm_331 18)) (i_in (by omega) (by omega)) dX10_takeRead_343 (fun H locs hP hD hS => ?_)
        replace hP : va_P (eD E) vwCl (mdL E am (up2 vm_331 18 i.toNatClampNeg x342)) H := hP
        replace hD : va_D A (mdL E am (up2 vm_331 18 i.toNatClampNeg x342)) := hD
        generalize hv343 : up2 vm_331 18 i.toNatClampNeg x342 = vm_343 at hP hD
        have hFz : fr [0, 1, 2, 3, 4, 5, 6, 7, 8, 9, 10, 11, 12, 13, 14, 15, 16, 17, 18, 19, 20, 21, 22, 24, 25, 26] vm vm_343 := by first | exact hFz | (rw [← hv343]; exact hFz.up (by decide))
        obtain ⟨x344, e344⟩ : ∃ y : Int32, y = i + 1 := ⟨_, rfl⟩
        refine lv_iinc (v := x344) (lv' := [(1, .int x344), (0, .ref (am 0))]) hx hb dX10_takeRead_344 hl (k := 1) rfl (by rw [e344]; rfl) (by decide) rfl (fun ls hl => ?_)
        have t344 := i_add e344 (by omega)
        have hx342 : (i.toNatClampNeg : Int) < (vm 55 0).toInt → 0 ≤ x342.toInt ∧ x342.toInt ≤ 99 := fun q => by rw [e342, ← hv331]; show 0 ≤ (ve 57 i.toNatClampNeg).toInt ∧ (ve 57 i.toNatClampNeg).toInt ≤ 99; rw [h315_1.1 57 (by omega)]; exact hrD _ q
        have hTR : TR vm vm_343 24 3 27 6 x344.toNatClampNeg := by rw [i_nat1 (x := i) (by omega) t344, ← hv343, ← hv331]; exact h315_1.well b330 hx342
        have hp343 : (vm_343 22 0).toInt = (ve 22 0).toInt := by rw [← hv343, ← hv331]; rfl
        refine lv_goto (tgt := 315) hx hb dX10_takeRead_347 (by decide) ?_
        exact ih315 x344 vm_343 _ _ ls (by omega) hP hD hS (by omega) hTR (by omega) hFz (by rw [← hv343, ← hv331]; exact hx315_0) (by rw [← hv343, ← hv331]; exact hx315_1) (by rw [← hv343, ← hv331]; exact hx315_2) (by rw [← hv343, ← hv331]; exact hx315_3) (by rw [← hv343, ← hv331]; exact hx315_4) (by rw [← hv343, ← hv331]; exact hx315_5) (by rw [← hv343, ← hv331]; exact hx315_6) (by rw [← hv343, ← hv331]; exact hx315_7) (by rw [← hv343, ← hv331]; exact CpE.next hx315_8 (by omega) (by omega) (by rw [e330, h315_1.1 56 (by omega)]) (by rw [e342, ← hv331]; show ve 57 i.toNatClampNeg = _; rw [h315_1.1 57 (by omega)])) (lv_sub hl [1, 0] rfl)
  have K231 : ∀ (μ : Nat) (i : Int32) (vd : Vf) (H : Heap) (locs : List Loc) (ls : Array Slot), (6 - i.toInt).toNat < μ → va_P (eD E) vwCl (mdL E am vd) H → va_D A (mdL E am vd) → va_S A s.heap H locs → (0 ≤ i.toInt ∧ i.toInt ≤ 6) → (TR vm vd 24 3 27 i.toNatClampNeg 0) → (1 ≤ (vd 22 0).toInt ∧ (vd 22 0).toInt ≤ 729) → (fr [0, 1, 2, 3, 4, 5, 6, 7, 8, 9, 10, 11, 12, 13, 14, 15, 16, 17, 18, 19, 20, 21, 22, 24, 25, 26] vm vd) → (∀ j, j < 24 → vd 25 j = 0) → (∀ j, j < 3 → vd 24 j = 0) → (∀ j : Nat, (j : Int) < i.toInt → vd 26 j = 0) → (CpA vd vm 24) → (CpB vd vm 3) → ((vd 22 0).toInt = perI (fun j => (vd 5 j).toInt) 3) → (CpC vd vm 27) → (CpD vd vm i.toInt) → lv_has ls 2 [(0, .ref (am 0)), (1, .int i)] → W p l e (headSpec wsX10_takeRead rm_X10_takeRead).room s m ([.ref (am 0)] : List Value).toArray below meth c H locs 0 0 Q (F0 m 231 ls []) := by
    intro μ
    induction μ with
    | zero =>
      intro i vd H locs ls hμ231
      exact absurd hμ231 (Nat.not_lt_zero _)
    | succ μ ih231 =>
      intro i vd H locs ls hμ231 hP hD hS h231_0 h231_1 h231_2 h231_3 h231_4 h231_5 h231_6 h231_7 h231_8 h231_9 h231_10 h231_11 hl
      have hx231_0 := h231_4
      clear h231_4
      have hx231_1 := h231_5
      clear h231_5
      have hx231_2 := h231_6
      clear h231_6
      have hx231_3 := h231_7
      clear h231_7
      have hx231_4 := h231_8
      clear h231_8
      have hx231_5 := h231_9
      clear h231_9
      have hx231_6 := h231_10
      clear h231_10
      have hx231_7 := h231_11
      clear h231_11
      have hFz := h231_3
      refine lv_iload_n hx hb dX10_takeRead_231 rfl (lv_at hl 1 rfl) ?_
      refine lv_bipush (v := 6) hx hb dX10_takeRead_232 (by decide) ?_
      refine lv_icmp_ge (tgt := 313) hx hb dX10_takeRead_234 (by decide) (fun c234 => ?_) (fun c234 => ?_)
      · have c234_ := i_le c234
        have hi : i.toNatClampNeg = 6 := by have := i_nat (x := i) (by omega); omega
        have hTRd : TR vm vd 24 3 27 6 0 := by rw [← hi]; exact h231_1
        refine lv_iconst (v := 0) hx hb dX10_takeRead_313 (by decide) ?_
        refine lv_istore_n (lv' := [(1, .int 0), (0, .ref (am 0))]) hx hb dX10_takeRead_314 rfl hl (by decide) rfl (fun ls hl => ?_)
        exact K315 _ 0 vd _ _ ls (Nat.lt_succ_self _) hP hD hS (by omega) hTRd (by omega) hFz hx231_0 hx231_1 (fun j h => hx231_2 j (by omega)) hx231_3 hx231_4 hx231_5 hx231_6 (fun j h => hx231_7 j (by omega)) (fun j h => absurd h (by omega)) (lv_sub hl [1, 0] rfl)
      · have c234_ := i_nle c234
        refine lv_aload_n hx hb dX10_takeRead_237 rfl (lv_at hl 0 rfl) ?_
        refine va_get (D := eD E) (ci := 10) (v := .ref (am 10)) (C := RX10) (T := TX10) (N := 79) hx hb hts in_X10 hown hK hP 0 rfl rfl 10 (by decide) lk8 (fun _ h9 => h9) rfl dX10_takeRead_238 ?_
        refine lv_iload_n hx hb dX10_takeRead_241 rfl (lv_at hl 1 rfl) ?_
        refine lv_aload_n hx hb dX10_takeRead_242 rfl (lv_at hl 0 rfl) ?_
        refine va_get (D := eD E) (ci := 10) (v := .ref (am 49)) (C := RX10) (T := TX10) (N := 79) hx hb hts in_X10 hown hK hP 0 rfl rfl 49 (by decide) lk9 (fun _ h9 => h9) rfl dX10_takeRead_243 ?_
        refine lv_iload_n hx hb dX10_takeRead_246 rfl (lv_at hl 1 rfl) ?_
        refine va_iald hx hb hK hP 27 0 rfl rfl (n := 6) (f := (vd 49)) (i_in (by omega) (by omega)) dX10_takeRead_247 ?_
        refine lv_topi (fun x247 e247 => ?_)
        have b247 := hMI.2.2.2.2.2.1 i.toNatClampNeg (i_natlt (by omega) (by decide))
        rw [← h231_1.1 49 (by omega), ← e247] at b247
        refine va_iast hx hb hK hP hD hS 7 0 rfl rfl (n := 6) (f := (vd 10)) (i_in (by omega) (by omega)) dX10_takeRead_248 (fun H locs hP hD hS => ?_)
        replace hP : va_P (eD E) vwCl (mdL E am (up2 vd 10 i.toNatClampNeg x247)) H := hP
        replace hD : va_D A (mdL E am (up2 vd 10 i.toNatClampNeg x247)) := hD
        generalize hv248 : up2 vd 10 i.toNatClampNeg x247 = vm_248 at hP hD
        have hFz : fr [0, 1, 2, 3, 4, 5, 6, 7, 8, 9, 10, 11, 12, 13, 14, 15, 16, 17, 18, 19, 20, 21, 22, 24, 25, 26] vm vm_248 := by first | exact hFz | (rw [← hv248]; exact hFz.up (by decide))
        refine lv_aload_n hx hb dX10_takeRead_249 rfl (lv_at hl 0 rfl) ?_
        refine va_get (D := eD E) (ci := 10) (v := .ref (am 11)) (C := RX10) (T := TX10) (N := 79) hx hb hts in_X10 hown hK hP 0 rfl rfl 11 (by decide) lk10 (fun _ h9 => h9) rfl dX10_takeRead_250 ?_
        refine lv_iload_n hx hb dX10_takeRead_253 rfl (lv_at hl 1 rfl) ?_
        refine lv_aload_n hx hb dX10_takeRead_254 rfl (lv_at hl 0 rfl) ?_
        refine va_get (D := eD E) (ci := 10) (v := .ref (am 50)) (C := RX10) (T := TX10) (N := 79) hx hb hts in_X10 hown hK hP 0 rfl rfl 50 (by decide) lk11 (fun _ h9 => h9) rfl dX10_takeRead_255 ?_
        refine lv_iload_n hx hb dX10_takeRead_258 rfl (lv_at hl 1 rfl) ?_
        refine va_iald hx hb hK hP 28 0 rfl rfl (n := 6) (f := (vm_248 50)) (i_in (by omega) (by omega)) dX10_takeRead_259 ?_
        refine lv_topi (fun x259 e259 => ?_)
        refine va_iast hx hb hK hP hD hS 8 0 rfl rfl (n := 6) (f := (vm_248 11)) (i_in (by omega) (by omega)) dX10_takeRead_260 (fun H locs hP hD hS => ?_)
        replace hP : va_P (eD E) vwCl (mdL E am (up2 vm_248 11 i.toNatClampNeg x259)) H := hP
        replace hD : va_D A (mdL E am (up2 vm_248 11 i.toNatClampNeg x259)) := hD
        generalize hv260 : up2 vm_248 11 i.toNatClampNeg x259 = vm_260 at hP hD
        have hFz : fr [0, 1, 2, 3, 4, 5, 6, 7, 8, 9, 10, 11, 12, 13, 14, 15, 16, 17, 18, 19, 20, 21, 22, 24, 25, 26] vm vm_260 := by first | exact hFz | (rw [← hv260]; exact hFz.up (by decide))
        refine lv_aload_n hx hb dX10_takeRead_261 rfl (lv_at hl 0 rfl) ?_
        refine va_get (D := eD E) (ci := 10) (v := .ref (am 26)) (C := RX10) (T := TX10) (N := 79) hx hb hts in_X10 hown hK hP 0 rfl rfl 26 (by decide) lk12 (fun _ h9 => h9) rfl dX10_takeRead_262 ?_
        refine lv_iload_n hx hb dX10_takeRead_265 rfl (lv_at hl 1 rfl) ?_
        refine lv_iconst (v := 0) hx hb dX10_takeRead_266 (by decide) ?_
        refine va_iast hx hb hK hP hD hS 18 0 rfl rfl (n := 6) (f := (vm_260 26)) (i_in (by omega) (by omega)) dX10_takeRead_267 (fun H locs hP hD hS => ?_)
        replace hP : va_P (eD E) vwCl (mdL E am (up2 vm_260 26 i.toNatClampNeg 0)) H := hP
        replace hD : va_D A (mdL E am (up2 vm_260 26 i.toNatClampNeg 0)) := hD
        generalize hv267 : up2 vm_260 26 i.toNatClampNeg 0 = vm_267 at hP hD
        have hFz : fr [0, 1, 2, 3, 4, 5, 6, 7, 8, 9, 10, 11, 12, 13, 14, 15, 16, 17, 18, 19, 20, 21, 22, 24, 25, 26] vm vm_267 := by first | exact hFz | (rw [← hv267]; exact hFz.up (by decide))
        refine lv_aload_n hx hb dX10_takeRead_268 rfl (lv_at hl 0 rfl) ?_
        refine va_get (D := eD E) (ci := 10) (v := .ref (am 13)) (C := RX10) (T := TX10) (N := 79) hx hb hts in_X10 hown hK hP 0 rfl rfl 13 (by decide) lk13 (fun _ h9 => h9) rfl dX10_takeRead_269 ?_
        refine lv_iload_n hx hb dX10_takeRead_272 rfl (lv_at hl 1 rfl) ?_
        refine lv_aload_n hx hb dX10_takeRead_273 rfl (lv_at hl 0 rfl) ?_
        refine va_get (D := eD E) (ci := 10) (v := .ref (am 52)) (C := RX10) (T := TX10) (N := 79) hx hb hts in_X10 hown hK hP 0 rfl rfl 52 (by decide) lk14 (fun _ h9 => h9) rfl dX10_takeRead_274 ?_
        refine lv_iload_n hx hb dX10_takeRead_277 rfl (lv_at hl 1 rfl) ?_
        refine va_iald hx hb hK hP 29 0 rfl rfl (n := 6) (f := (vm_267 52)) (i_in (by omega) (by omega)) dX10_takeRead_278 ?_
        refine lv_topi (fun x278 e278 => ?_)
        have e278 : x278 = vm 52 i.toNatClampNeg := by rw [e278, ← hv267, ← hv260, ← hv248]; show vd 52 i.toNatClampNeg = _; rw [h231_1.1 52 (by omega)]
        have b278 := hMI.2.2.2.2.2.2.1 i.toNatClampNeg (i_natlt (by omega) (by decide))
        rw [← e278] at b278
        refine va_iast hx hb hK hP hD hS 9 0 rfl rfl (n := 6) (f := (vm_267 13)) (i_in (by omega) (by omega)) dX10_takeRead_279 (fun H locs hP hD hS => ?_)
        replace hP : va_P (eD E) vwCl (mdL E am (up2 vm_267 13 i.toNatClampNeg x278)) H := hP
        replace hD : va_D A (mdL E am (up2 vm_267 13 i.toNatClampNeg x278)) := hD
        generalize hv279 : up2 vm_267 13 i.toNatClampNeg x278 = vm_279 at hP hD
        have hFz : fr [0, 1, 2, 3, 4, 5, 6, 7, 8, 9, 10, 11, 12, 13, 14, 15, 16, 17, 18, 19, 20, 21, 22, 24, 25, 26] vm vm_279 := by first | exact hFz | (rw [← hv279]; exact hFz.up (by decide))
        refine lv_aload_n hx hb dX10_takeRead_280 rfl (lv_at hl 0 rfl) ?_
        refine va_get (D := eD E) (ci := 10) (v := .ref (am 14)) (C := RX10) (T := TX10) (N := 79) hx hb hts in_X10 hown hK hP 0 rfl rfl 14 (by decide) lk15 (fun _ h9 => h9) rfl dX10_takeRead_281 ?_
        refine lv_iload_n hx hb dX10_takeRead_284 rfl (lv_at hl 1 rfl) ?_
        refine lv_aload_n hx hb dX10_takeRead_285 rfl (lv_at hl 0 rfl) ?_
        refine va_get (D := eD E) (ci := 10) (v := .ref (am 53)) (C := RX10) (T := TX10) (N := 79) hx hb hts in_X10 hown hK hP 0 rfl rfl 53 (by decide) lk16 (fun _ h9 => h9) rfl dX10_takeRead_286 ?_
        refine lv_iload_n hx hb dX10_takeRead_289 rfl (lv_at hl 1 rfl) ?_
        refine va_iald hx hb hK hP 30 0 rfl rfl (n := 6) (f := (vm_279 53)) (i_in (by omega) (by omega)) dX10_takeRead_290 ?_
        refine lv_topi (fun x290 e290 => ?_)
        refine va_iast hx hb hK hP hD hS 10 0 rfl rfl (n := 6) (f := (vm_279 14)) (i_in (by omega) (by omega)) dX10_takeRead_291 (fun H locs hP hD hS => ?_)
        replace hP : va_P (eD E) vwCl (mdL E am (up2 vm_279 14 i.toNatClampNeg x290)) H := hP
        replace hD : va_D A (mdL E am (up2 vm_279 14 i.toNatClampNeg x290)) := hD
        generalize hv291 : up2 vm_279 14 i.toNatClampNeg x290 = vm_291 at hP hD
        have hFz : fr [0, 1, 2, 3, 4, 5, 6, 7, 8, 9, 10, 11, 12, 13, 14, 15, 16, 17, 18, 19, 20, 21, 22, 24, 25, 26] vm vm_291 := by first | exact hFz | (rw [← hv291]; exact hFz.up (by decide))
        refine lv_aload_n hx hb dX10_takeRead_292 rfl (lv_at hl 0 rfl) ?_
        refine va_get (D := eD E) (ci := 10) (v := .ref (am 15)) (C := RX10) (T := TX10) (N := 79) hx hb hts in_X10 hown hK hP 0 rfl rfl 15 (by decide) lk17 (fun _ h9 => h9) rfl dX10_takeRead_293 ?_
        refine lv_iload_n hx hb dX10_takeRead_296 rfl (lv_at hl 1 rfl) ?_
        refine lv_aload_n hx hb dX10_takeRead_297 rfl (lv_at hl 0 rfl) ?_
        refine va_get (D := eD E) (ci := 10) (v := .ref (am 54)) (C := RX10) (T := TX10) (N := 79) hx hb hts in_X10 hown hK hP 0 rfl rfl 54 (by decide) lk18 (fun _ h9 => h9) rfl dX10_takeRead_298 ?_
        refine lv_iload_n hx hb dX10_takeRead_301 rfl (lv_at hl 1 rfl) ?_
        refine va_iald hx hb hK hP 31 0 rfl rfl (n := 6) (f := (vm_291 54)) (i_in (by omega) (by omega)) dX10_takeRead_302 ?_
        refine lv_topi (fun x302 e302 => ?_)
        refine lv_bipush (v := 30) hx hb dX10_takeRead_303 (by decide) ?_
        refine lv_isub hx hb dX10_takeRead_305 ?_
        refine lv_topi (fun x305 e305 => ?_)
        refine va_iast hx hb hK hP hD hS 11 0 rfl rfl (n := 6) (f := (vm_291 15)) (i_in (by omega) (by omega)) dX10_takeRead_306 (fun H locs hP hD hS => ?_)
        replace hP : va_P (eD E) vwCl (mdL E am (up2 vm_291 15 i.toNatClampNeg x305)) H := hP
        replace hD : va_D A (mdL E am (up2 vm_291 15 i.toNatClampNeg x305)) := hD
        generalize hv306 : up2 vm_291 15 i.toNatClampNeg x305 = vm_306 at hP hD
        have hFz : fr [0, 1, 2, 3, 4, 5, 6, 7, 8, 9, 10, 11, 12, 13, 14, 15, 16, 17, 18, 19, 20, 21, 22, 24, 25, 26] vm vm_306 := by first | exact hFz | (rw [← hv306]; exact hFz.up (by decide))
        obtain ⟨x307, e307⟩ : ∃ y : Int32, y = i + 1 := ⟨_, rfl⟩
        refine lv_iinc (v := x307) (lv' := [(1, .int x307), (0, .ref (am 0))]) hx hb dX10_takeRead_307 hl (k := 1) rfl (by rw [e307]; rfl) (by decide) rfl (fun ls hl => ?_)
        have t307 := i_add e307 (by omega)
        have hTR : TR vm vm_306 24 3 27 x307.toNatClampNeg 0 := by rw [i_nat1 (x := i) (by omega) t307, ← hv306, ← hv291, ← hv279, ← hv267, ← hv260, ← hv248]; exact h231_1.site b247 b278
        have hp306 : (vm_306 22 0).toInt = (vd 22 0).toInt := by rw [← hv306, ← hv291, ← hv279, ← hv267, ← hv260, ← hv248]; rfl
        refine lv_goto (tgt := 231) hx hb dX10_takeRead_310 (by decide) ?_
        exact ih231 x307 vm_306 _ _ ls (by omega) hP hD hS (by omega) hTR (by omega) hFz (by rw [← hv306, ← hv291, ← hv279, ← hv267, ← hv260, ← hv248]; exact hx231_0) (by rw [← hv306, ← hv291, ← hv279, ← hv267, ← hv260, ← hv248]; exact hx231_1) (by rw [← hv306, ← hv291, ← hv279, ← hv267, ← hv260, ← hv248]; exact up0_next (v := up2 (up2 vd 10 i.toNatClampNeg x247) 11 i.toNatClampNeg x259) (t := 26) hx231_2 (by omega) (by omega)) (by rw [← hv306, ← hv291, ← hv279, ← hv267, ← hv260, ← hv248]; exact hx231_3) (by rw [← hv306, ← hv291, ← hv279, ← hv267, ← hv260, ← hv248]; exact hx231_4) (by rw [← hv306, ← hv291, ← hv279, ← hv267, ← hv260, ← hv248]; exact hx231_5) (by rw [← hv306, ← hv291, ← hv279, ← hv267, ← hv260, ← hv248]; exact hx231_6) (by rw [← hv306, ← hv291, ← hv279, ← hv267, ← hv260, ← hv248]; exact CpD.next hx231_7 (by omega) (by omega) (by rw [e247, h231_1.1 49 (by omega)]) (by rw [e259, ← hv248]; show vd 50 i.toNatClampNeg = _; rw [h231_1.1 50 (by omega)]) e278 (by rw [e290, ← hv279, ← hv267, ← hv260, ← hv248]; show vd 53 i.toNatClampNeg = _; rw [h231_1.1 53 (by omega)]) (by rw [e305, e302, ← hv291, ← hv279, ← hv267, ← hv260, ← hv248]; show vd 54 i.toNatClampNeg - 30 = _; rw [h231_1.1 54 (by omega)])) (lv_sub hl [1, 0] rfl)
  have K205 : ∀ (μ : Nat) (i : Int32) (vc : Vf) (H : Heap) (locs : List Loc) (ls : Array Slot), (27 - i.toInt).toNat < μ → va_P (eD E) vwCl (mdL E am vc) H → va_D A (mdL E am vc) → va_S A s.heap H locs → (0 ≤ i.toInt ∧ i.toInt ≤ 27) → (TR vm vc 24 3 i.toNatClampNeg 0 0) → (1 ≤ (vc 22 0).toInt ∧ (vc 22 0).toInt ≤ 729) → (fr [0, 1, 2, 3, 4, 5, 6, 7, 8, 9, 10, 11, 12, 13, 14, 15, 16, 17, 18, 19, 20, 21, 22, 24, 25, 26] vm vc) → (∀ j, j < 24 → vc 25 j = 0) → (∀ j, j < 3 → vc 24 j = 0) → (CpA vc vm 24) → (CpB vc vm 3) → ((vc 22 0).toInt = perI (fun j => (vc 5 j).toInt) 3) → (CpC vc vm i.toInt) → lv_has ls 2 [(0, .ref (am 0)), (1, .int i)] → W p l e (headSpec wsX10_takeRead rm_X10_takeRead).room s m ([.ref (am 0)] : List Value).toArray below meth c H locs 0 0 Q (F0 m 205 ls []) := by
    intro μ
    induction μ with
    | zero =>
      intro i vc H locs ls hμ205
      exact absurd hμ205 (Nat.not_lt_zero _)
    | succ μ ih205 =>
      intro i vc H locs ls hμ205 hP hD hS h205_0 h205_1 h205_2 h205_3 h205_4 h205_5 h205_6 h205_7 h205_8 h205_9 hl
      have hx205_0 := h205_4
      clear h205_4
      have hx205_1 := h205_5
      clear h205_5
      have hx205_2 := h205_6
      clear h205_6
      have hx205_3 := h205_7
      clear h205_7
      have hx205_4 := h205_8
      clear h205_8
      have hx205_5 := h205_9
      clear h205_9
      have hFz := h205_3
      refine lv_iload_n hx hb dX10_takeRead_205 rfl (lv_at hl 1 rfl) ?_
      refine lv_bipush (v := 27) hx hb dX10_takeRead_206 (by decide) ?_
      refine lv_icmp_ge (tgt := 229) hx hb dX10_takeRead_208 (by decide) (fun c208 => ?_) (fun c208 => ?_)
      · have c208_ := i_le c208
        have hi : i.toNatClampNeg = 27 := by have := i_nat (x := i) (by omega); omega
        have hTRc : TR vm vc 24 3 27 0 0 := by rw [← hi]; exact h205_1
        refine lv_iconst (v := 0) hx hb dX10_takeRead_229 (by decide) ?_
        refine lv_istore_n (lv' := [(1, .int 0), (0, .ref (am 0))]) hx hb dX10_takeRead_230 rfl hl (by decide) rfl (fun ls hl => ?_)
        exact K231 _ 0 vc _ _ ls (Nat.lt_succ_self _) hP hD hS (by omega) hTRc (by omega) hFz hx205_0 hx205_1 (fun j h => absurd h (by omega)) hx205_2 hx205_3 hx205_4 (fun j h => hx205_5 j (by omega)) (fun j h => absurd h (by omega)) (lv_sub hl [1, 0] rfl)
      · have c208_ := i_nle c208
        refine lv_aload_n hx hb dX10_takeRead_211 rfl (lv_at hl 0 rfl) ?_
        refine va_get (D := eD E) (ci := 10) (v := .ref (am 8)) (C := RX10) (T := TX10) (N := 79) hx hb hts in_X10 hown hK hP 0 rfl rfl 8 (by decide) lk19 (fun _ h9 => h9) rfl dX10_takeRead_212 ?_
        refine lv_iload_n hx hb dX10_takeRead_215 rfl (lv_at hl 1 rfl) ?_
        refine lv_aload_n hx hb dX10_takeRead_216 rfl (lv_at hl 0 rfl) ?_
        refine va_get (D := eD E) (ci := 10) (v := .ref (am 47)) (C := RX10) (T := TX10) (N := 79) hx hb hts in_X10 hown hK hP 0 rfl rfl 47 (by decide) lk20 (fun _ h9 => h9) rfl dX10_takeRead_217 ?_
        refine lv_iload_n hx hb dX10_takeRead_220 rfl (lv_at hl 1 rfl) ?_
        refine va_iald hx hb hK hP 26 0 rfl rfl (n := 27) (f := (vc 47)) (i_in (by omega) (by omega)) dX10_takeRead_221 ?_
        refine lv_topi (fun x221 e221 => ?_)
        have b221 := hMI.2.2.2.2.1 i.toNatClampNeg (i_natlt (by omega) (by decide))
        rw [← h205_1.1 47 (by omega), ← e221] at b221
        refine va_iast hx hb hK hP hD hS 6 0 rfl rfl (n := 27) (f := (vc 8)) (i_in (by omega) (by omega)) dX10_takeRead_222 (fun H locs hP hD hS => ?_)
        replace hP : va_P (eD E) vwCl (mdL E am (up2 vc 8 i.toNatClampNeg x221)) H := hP
        replace hD : va_D A (mdL E am (up2 vc 8 i.toNatClampNeg x221)) := hD
        generalize hv222 : up2 vc 8 i.toNatClampNeg x221 = vm_222 at hP hD
        have hFz : fr [0, 1, 2, 3, 4, 5, 6, 7, 8, 9, 10, 11, 12, 13, 14, 15, 16, 17, 18, 19, 20, 21, 22, 24, 25, 26] vm vm_222 := by first | exact hFz | (rw [← hv222]; exact hFz.up (by decide))
        obtain ⟨x223, e223⟩ : ∃ y : Int32, y = i + 1 := ⟨_, rfl⟩
        refine lv_iinc (v := x223) (lv' := [(1, .int x223), (0, .ref (am 0))]) hx hb dX10_takeRead_223 hl (k := 1) rfl (by rw [e223]; rfl) (by decide) rfl (fun ls hl => ?_)
        have t223 := i_add e223 (by omega)
        have hTR : TR vm vm_222 24 3 x223.toNatClampNeg 0 0 := by rw [i_nat1 (x := i) (by omega) t223, ← hv222]; exact h205_1.part b221
        have hp222 : (vm_222 22 0).toInt = (vc 22 0).toInt := by rw [← hv222]; rfl
        refine lv_goto (tgt := 205) hx hb dX10_takeRead_226 (by decide) ?_
        exact ih205 x223 vm_222 _ _ ls (by omega) hP hD hS (by omega) hTR (by omega) hFz (by rw [← hv222]; exact hx205_0) (by rw [← hv222]; exact hx205_1) (by rw [← hv222]; exact hx205_2) (by rw [← hv222]; exact hx205_3) (by rw [← hv222]; exact hx205_4) (by rw [← hv222]; exact CpC.next hx205_5 (by omega) (by omega) (by rw [e221, h205_1.1 47 (by omega)])) (lv_sub hl [1, 0] rfl)
  have K108 : ∀ (μ : Nat) (i : Int32) (vb : Vf) (H : Heap) (locs : List Loc) (ls : Array Slot), (3 - i.toInt).toNat < μ → va_P (eD E) vwCl (mdL E am vb) H → va_D A (mdL E am vb) → va_S A s.heap H locs → (0 ≤ i.toInt ∧ i.toInt ≤ 3) → (TR vm vb 24 i.toNatClampNeg 0 0 0) → ((i.toInt = 0 ∧ (vb 22 0).toInt = 1) ∨ (i.toInt = 1 ∧ 1 ≤ (vb 22 0).toInt ∧ (vb 22 0).toInt ≤ 9) ∨ (i.toInt = 2 ∧ 1 ≤ (vb 22 0).toInt ∧ (vb 22 0).toInt ≤ 81) ∨ (i.toInt = 3 ∧ 1 ≤ (vb 22 0).toInt ∧ (vb 22 0).toInt ≤ 729)) → (fr [0, 1, 2, 3, 4, 5, 6, 7, 8, 9, 10, 11, 12, 13, 14, 15, 16, 17, 18, 19, 20, 21, 22, 24, 25, 26] vm vb) → (∀ j, j < 24 → vb 25 j = 0) → (∀ j : Nat, (j : Int) < i.toInt → vb 24 j = 0) → (CpA vb vm 24) → (CpB vb vm i.toInt) → ((vb 22 0).toInt = perI (fun j => (vb 5 j).toInt) i.toNatClampNeg) → lv_has ls 2 [(0, .ref (am 0)), (1, .int i)] → W p l e (headSpec wsX10_takeRead rm_X10_takeRead).room s m ([.ref (am 0)] : List Value).toArray below meth c H locs 0 0 Q (F0 m 108 ls []) := by
    intro μ
    induction μ with
    | zero =>
      intro i vb H locs ls hμ108
      exact absurd hμ108 (Nat.not_lt_zero _)
    | succ μ ih108 =>
      intro i vb H locs ls hμ108 hP hD hS h108_0 h108_1 h108_2 h108_3 h108_4 h108_5 h108_6 h108_7 h108_8 hl
      have hx108_0 := h108_4
      clear h108_4
      have hx108_1 := h108_5
      clear h108_5
      have hx108_2 := h108_6
      clear h108_6
      have hx108_3 := h108_7
      clear h108_7
      have hx108_4 := h108_8
      clear h108_8
      have hFz := h108_3
      refine lv_iload_n hx hb dX10_takeRead_108 rfl (lv_at hl 1 rfl) ?_
      refine lv_iconst (v := 3) hx hb dX10_takeRead_109 (by decide) ?_
      refine lv_icmp_ge (tgt := 203) hx hb dX10_takeRead_110 (by decide) (fun c110 => ?_) (fun c110 => ?_)
      · have c110_ := i_le c110
        have hi : i.toNatClampNeg = 3 := by have := i_nat (x := i) (by omega); omega
        have hTRb : TR vm vb 24 3 0 0 0 := by rw [← hi]; exact h108_1
        refine lv_iconst (v := 0) hx hb dX10_takeRead_203 (by decide) ?_
        refine lv_istore_n (lv' := [(1, .int 0), (0, .ref (am 0))]) hx hb dX10_takeRead_204 rfl hl (by decide) rfl (fun ls hl => ?_)
        exact K205 _ 0 vb _ _ ls (Nat.lt_succ_self _) hP hD hS (by omega) hTRb (by omega) hFz hx108_0 (fun j h => hx108_1 j (by omega)) hx108_2 (fun j h => hx108_3 j (by omega)) (by have q := hx108_4; rw [hi] at q; exact q) (fun j h => absurd h (by omega)) (lv_sub hl [1, 0] rfl)
      · have c110_ := i_nle c110
        refine lv_aload_n hx hb dX10_takeRead_113 rfl (lv_at hl 0 rfl) ?_
        refine va_get (D := eD E) (ci := 10) (v := .ref (am 5)) (C := RX10) (T := TX10) (N := 79) hx hb hts in_X10 hown hK hP 0 rfl rfl 5 (by decide) lk21 (fun _ h9 => h9) rfl dX10_takeRead_114 ?_
        refine lv_iload_n hx hb dX10_takeRead_117 rfl (lv_at hl 1 rfl) ?_
        refine lv_iload_n hx hb dX10_takeRead_118 rfl (lv_at hl 1 rfl) ?_
        refine lv_aload_n hx hb dX10_takeRead_119 rfl (lv_at hl 0 rfl) ?_
        refine va_get (D := eD E) (ci := 10) (v := .int (vb 4 0)) (C := RX10) (T := TX10) (N := 79) hx hb hts in_X10 hown hK hP 0 rfl rfl 4 (by decide) lk22 (fun _ h9 => h9) rfl dX10_takeRead_120 ?_
        have K136 : ∀  (mv : Int32) (H : Heap) (locs : List Loc) (ls : Array Slot), va_P (eD E) vwCl (mdL E am vb) H → va_D A (mdL E am vb) → va_S A s.heap H locs → (1 ≤ mv.toInt ∧ mv.toInt ≤ 9) → (mv = if ((i.toNatClampNeg : Nat) : Int) < (vm 43 0).toInt then vm 44 i.toNatClampNeg else 1) → lv_has ls 2 [(0, .ref (am 0)), (1, .int i)] → W p l e (headSpec wsX10_takeRead rm_X10_takeRead).room s m ([.ref (am 0)] : List Value).toArray below meth c H locs 0 0 Q (F0 m 136 ls [.int mv, .int i, .ref (am 5)]) := by
          intro mv H locs ls hP hD hS h136_0 h136_1 hl
          have hx136_0 := h136_1
          clear h136_1
          refine va_iast hx hb hK hP hD hS 3 0 rfl rfl (n := 3) (f := (vb 5)) (i_in (by omega) (by omega)) dX10_takeRead_136 (fun H locs hP hD hS => ?_)
          replace hP : va_P (eD E) vwCl (mdL E am (up2 vb 5 i.toNatClampNeg mv)) H := hP
          replace hD : va_D A (mdL E am (up2 vb 5 i.toNatClampNeg mv)) := hD
          generalize hv136 : up2 vb 5 i.toNatClampNeg mv = vm_136 at hP hD
          have hFz : fr [0, 1, 2, 3, 4, 5, 6, 7, 8, 9, 10, 11, 12, 13, 14, 15, 16, 17, 18, 19, 20, 21, 22, 24, 25, 26] vm vm_136 := by first | exact hFz | (rw [← hv136]; exact hFz.up (by decide))
          refine lv_aload_n hx hb dX10_takeRead_137 rfl (lv_at hl 0 rfl) ?_
          refine va_get (D := eD E) (ci := 10) (v := .ref (am 6)) (C := RX10) (T := TX10) (N := 79) hx hb hts in_X10 hown hK hP 0 rfl rfl 6 (by decide) lk23 (fun _ h9 => h9) rfl dX10_takeRead_138 ?_
          refine lv_iload_n hx hb dX10_takeRead_141 rfl (lv_at hl 1 rfl) ?_
          refine lv_aload_n hx hb dX10_takeRead_142 rfl (lv_at hl 0 rfl) ?_
          refine va_get (D := eD E) (ci := 10) (v := .ref (am 45)) (C := RX10) (T := TX10) (N := 79) hx hb hts in_X10 hown hK hP 0 rfl rfl 45 (by decide) lk24 (fun _ h9 => h9) rfl dX10_takeRead_143 ?_
          refine lv_iload_n hx hb dX10_takeRead_146 rfl (lv_at hl 1 rfl) ?_
          refine va_iald hx hb hK hP 24 0 rfl rfl (n := 3) (f := (vm_136 45)) (i_in (by omega) (by omega)) dX10_takeRead_147 ?_
          refine lv_topi (fun x147 e147 => ?_)
          refine va_iast hx hb hK hP hD hS 4 0 rfl rfl (n := 3) (f := (vm_136 6)) (i_in (by omega) (by omega)) dX10_takeRead_148 (fun H locs hP hD hS => ?_)
          replace hP : va_P (eD E) vwCl (mdL E am (up2 vm_136 6 i.toNatClampNeg x147)) H := hP
          replace hD : va_D A (mdL E am (up2 vm_136 6 i.toNatClampNeg x147)) := hD
          generalize hv148 : up2 vm_136 6 i.toNatClampNeg x147 = vm_148 at hP hD
          have hFz : fr [0, 1, 2, 3, 4, 5, 6, 7, 8, 9, 10, 11, 12, 13, 14, 15, 16, 17, 18, 19, 20, 21, 22, 24, 25, 26] vm vm_148 := by first | exact hFz | (rw [← hv148]; exact hFz.up (by decide))
          refine lv_aload_n hx hb dX10_takeRead_149 rfl (lv_at hl 0 rfl) ?_
          refine va_get (D := eD E) (ci := 10) (v := .ref (am 7)) (C := RX10) (T := TX10) (N := 79) hx hb hts in_X10 hown hK hP 0 rfl rfl 7 (by decide) lk25 (fun _ h9 => h9) rfl dX10_takeRead_150 ?_
          refine lv_iload_n hx hb dX10_takeRead_153 rfl (lv_at hl 1 rfl) ?_
          refine lv_aload_n hx hb dX10_takeRead_154 rfl (lv_at hl 0 rfl) ?_
          refine va_get (D := eD E) (ci := 10) (v := .ref (am 46)) (C := RX10) (T := TX10) (N := 79) hx hb hts in_X10 hown hK hP 0 rfl rfl 46 (by decide) lk26 (fun _ h9 => h9) rfl dX10_takeRead_155 ?_
          refine lv_iload_n hx hb dX10_takeRead_158 rfl (lv_at hl 1 rfl) ?_
          refine va_iald hx hb hK hP 25 0 rfl rfl (n := 3) (f := (vm_148 46)) (i_in (by omega) (by omega)) dX10_takeRead_159 ?_
          refine lv_topi (fun x159 e159 => ?_)
          refine va_iast hx hb hK hP hD hS 5 0 rfl rfl (n := 3) (f := (vm_148 7)) (i_in (by omega) (by omega)) dX10_takeRead_160 (fun H locs hP hD hS => ?_)
          replace hP : va_P (eD E) vwCl (mdL E am (up2 vm_148 7 i.toNatClampNeg x159)) H := hP
          replace hD : va_D A (mdL E am (up2 vm_148 7 i.toNatClampNeg x159)) := hD
          generalize hv160 : up2 vm_148 7 i.toNatClampNeg x159 = vm_160 at hP hD
          have hFz : fr [0, 1, 2, 3, 4, 5, 6, 7, 8, 9, 10, 11, 12, 13, 14, 15, 16, 17, 18, 19, 20, 21, 22, 24, 25, 26] vm vm_160 := by first | exact hFz | (rw [← hv160]; exact hFz.up (by decide))
          refine lv_aload_n hx hb dX10_takeRead_161 rfl (lv_at hl 0 rfl) ?_
          refine va_get (D := eD E) (ci := 10) (v := .ref (am 24)) (C := RX10) (T := TX10) (N := 79) hx hb hts in_X10 hown hK hP 0 rfl rfl 24 (by decide) lk27 (fun _ h9 => h9) rfl dX10_takeRead_162 ?_
          refine lv_iload_n hx hb dX10_takeRead_165 rfl (lv_at hl 1 rfl) ?_
          refine lv_iconst (v := 0) hx hb dX10_takeRead_166 (by decide) ?_
          refine va_iast hx hb hK hP hD hS 16 0 rfl rfl (n := 3) (f := (vm_160 24)) (i_in (by omega) (by omega)) dX10_takeRead_167 (fun H locs hP hD hS => ?_)
          replace hP : va_P (eD E) vwCl (mdL E am (up2 vm_160 24 i.toNatClampNeg 0)) H := hP
          replace hD : va_D A (mdL E am (up2 vm_160 24 i.toNatClampNeg 0)) := hD
          generalize hv167 : up2 vm_160 24 i.toNatClampNeg 0 = vm_167 at hP hD
          have hFz : fr [0, 1, 2, 3, 4, 5, 6, 7, 8, 9, 10, 11, 12, 13, 14, 15, 16, 17, 18, 19, 20, 21, 22, 24, 25, 26] vm vm_167 := by first | exact hFz | (rw [← hv167]; exact hFz.up (by decide))
          refine lv_aload_n hx hb dX10_takeRead_168 rfl (lv_at hl 0 rfl) ?_
          refine lv_aload_n hx hb dX10_takeRead_169 rfl (lv_at hl 0 rfl) ?_
          refine va_get (D := eD E) (ci := 10) (v := .int (vm_167 22 0)) (C := RX10) (T := TX10) (N := 79) hx hb hts in_X10 hown hK hP 0 rfl rfl 22 (by decide) lk28 (fun _ h9 => h9) rfl dX10_takeRead_170 ?_
          refine lv_aload_n hx hb dX10_takeRead_173 rfl (lv_at hl 0 rfl) ?_
          refine va_get (D := eD E) (ci := 10) (v := .int (vm_167 22 0)) (C := RX10) (T := TX10) (N := 79) hx hb hts in_X10 hown hK hP 0 rfl rfl 22 (by decide) lk28 (fun _ h9 => h9) rfl dX10_takeRead_174 ?_
          refine lv_aload_n hx hb dX10_takeRead_177 rfl (lv_at hl 0 rfl) ?_
          refine va_get (D := eD E) (ci := 10) (v := .ref (am 5)) (C := RX10) (T := TX10) (N := 79) hx hb hts in_X10 hown hK hP 0 rfl rfl 5 (by decide) lk21 (fun _ h9 => h9) rfl dX10_takeRead_178 ?_
          refine lv_iload_n hx hb dX10_takeRead_181 rfl (lv_at hl 1 rfl) ?_
          refine va_iald hx hb hK hP 3 0 rfl rfl (n := 3) (f := (vm_167 5)) (i_in (by omega) (by omega)) dX10_takeRead_182 ?_
          refine lv_topi (fun x182 e182 => ?_)
          have t182 : x182.toInt = mv.toInt := by rw [e182, ← hv167, ← hv160, ← hv148, ← hv136]; show (upd (vb 5) _ mv _).toInt = _; rw [upd_at]
          have hp167 : (vm_167 22 0).toInt = (vb 22 0).toInt := by rw [← hv167, ← hv160, ← hv148, ← hv136]; rfl
          refine rd_S (As := [.int (vm_167 22 0), .int x182]) (rest := [.int (vm_167 22 0), .ref (am 0)]) ⟨hx, hb, hml, hown, hts⟩ (c_X10_divisor l E A (vm_167 22 0) x182 (by omega) (by omega)) (va_cwS 2 hts gX10_takeRead_X10_divisor rfl rfl rfl (by decide +kernel) ⟨Nat.le_of_ble_eq_true rfl, Nat.le_of_ble_eq_true rfl⟩) (hE.kept hS.2.1) (hP.sub (ws' := []) [] rfl) rfl hl.1 rfl (Nat.le_of_ble_eq_true rfl) dX10_takeRead_183 ⟨Nat.zero_le _, Nat.zero_le _⟩ (fun r183 h183 => ?_)
          have g183 := gcd_le (a := (vm_167 22 0).toInt) (b := x182.toInt) (by omega)
          refine lv_idiv hx hb dX10_takeRead_186 (i_ne0 (by omega)) ?_
          refine lv_topi (fun x186 e186 => ?_)
          refine lv_aload_n hx hb dX10_takeRead_187 rfl (lv_at hl 0 rfl) ?_
          refine va_get (D := eD E) (ci := 10) (v := .ref (am 5)) (C := RX10) (T := TX10) (N := 79) hx hb hts in_X10 hown hK hP 0 rfl rfl 5 (by decide) lk21 (fun _ h9 => h9) rfl dX10_takeRead_188 ?_
          refine lv_iload_n hx hb dX10_takeRead_191 rfl (lv_at hl 1 rfl) ?_
          refine va_iald hx hb hK hP 3 0 rfl rfl (n := 3) (f := (vm_167 5)) (i_in (by omega) (by omega)) dX10_takeRead_192 ?_
          refine lv_topi (fun x192 e192 => ?_)
          have t192 : x192.toInt = x182.toInt := by rw [e192, e182]
          refine lv_imul hx hb dX10_takeRead_193 ?_
          refine lv_topi (fun x193 e193 => ?_)
          have t193 := perl e186 e193 (by omega) (by omega) (by omega)
          have q192 : x192 = mv := by rw [e192, ← hv167, ← hv160, ← hv148, ← hv136]; show upd (vb 5) i.toNatClampNeg mv i.toNatClampNeg = _; rw [updA]
          have hper193 : x193.toInt = perI (fun j => (upd (vb 5) i.toNatClampNeg mv j).toInt) (i.toNatClampNeg + 1) := per_next (p := vm_167 22 0) (d := r183) (by rw [hp167]; exact hx108_4) (by rw [h183, t182]) e186 (by rw [e193, q192]) (by omega) (by omega) (by omega)
          refine va_put (D := eD E) (ci := 10) (v := .int x193) (ty := .int) (C := RX10) (T := TX10) (N := 79) hx hb hts in_X10 tyX10 tyX10_ok nmX10 hown hK hP hD hS 0 rfl rfl 22 (by decide) lk28 (fun _ h9 => h9) rfl (by decide +kernel) rfl rfl (Nat.le_of_ble_eq_true rfl) dX10_takeRead_194 (fun H locs hP hD hS => ?_)
          replace hP : va_P (eD E) vwCl (mdL E am (up2 vm_167 22 0 x193)) H := hP
          replace hD : va_D A (mdL E am (up2 vm_167 22 0 x193)) := hD
          generalize hv194 : up2 vm_167 22 0 x193 = vm_194 at hP hD
          have hFz : fr [0, 1, 2, 3, 4, 5, 6, 7, 8, 9, 10, 11, 12, 13, 14, 15, 16, 17, 18, 19, 20, 21, 22, 24, 25, 26] vm vm_194 := by first | exact hFz | (rw [← hv194]; exact hFz.up (by decide))
          have hp194 : (vm_194 22 0).toInt = x193.toInt := by rw [← hv194]; rfl
          obtain ⟨x197, e197⟩ : ∃ y : Int32, y = i + 1 := ⟨_, rfl⟩
          refine lv_iinc (v := x197) (lv' := [(1, .int x197), (0, .ref (am 0))]) hx hb dX10_takeRead_197 hl (k := 1) rfl (by rw [e197]; rfl) (by decide) rfl (fun ls hl => ?_)
          have t197 := i_add e197 (by omega)
          have hx147 : (i.toNatClampNeg : Int) < (vm 43 0).toInt → (0 ≤ x147.toInt ∧ x147.toInt ≤ 8) ∧ (0 ≤ x159.toInt ∧ x159.toInt ≤ 8) := fun q => ⟨by rw [e147, ← hv136]; show 0 ≤ (vb 45 i.toNatClampNeg).toInt ∧ (vb 45 i.toNatClampNeg).toInt ≤ 8; rw [h108_1.1 45 (by omega)]; exact (hrMo _ q).2.1, by rw [e159, ← hv148, ← hv136]; show 0 ≤ (vb 46 i.toNatClampNeg).toInt ∧ (vb 46 i.toNatClampNeg).toInt ≤ 8; rw [h108_1.1 46 (by omega)]; exact (hrMo _ q).2.2⟩
          have hTR : TR vm vm_194 24 x197.toNatClampNeg 0 0 0 := by rw [i_nat1 (x := i) (by omega) t197, ← hv194, ← hv167, ← hv160, ← hv148, ← hv136]; exact h108_1.moon (by omega) hx147
          refine lv_goto (tgt := 108) hx hb dX10_takeRead_200 (by decide) ?_
          exact ih108 x197 vm_194 _ _ ls (by omega) hP hD hS (by omega) hTR (by omega) hFz (by rw [← hv194, ← hv167, ← hv160, ← hv148, ← hv136]; exact hx108_0) (by rw [← hv194, ← hv167, ← hv160, ← hv148, ← hv136]; exact up0_next (v := up2 (up2 (up2 vb 5 i.toNatClampNeg mv) 6 i.toNatClampNeg x147) 7 i.toNatClampNeg x159) (t := 24) hx108_1 (by omega) (by omega)) (by rw [← hv194, ← hv167, ← hv160, ← hv148, ← hv136]; exact hx108_2) (by rw [← hv194, ← hv167, ← hv160, ← hv148, ← hv136]; exact CpB.next hx108_3 (by omega) (by omega) hx136_0 (by rw [e147, ← hv136]; show vb 45 i.toNatClampNeg = _; rw [h108_1.1 45 (by omega)]) (by rw [e159, ← hv148, ← hv136]; show vb 46 i.toNatClampNeg = _; rw [h108_1.1 46 (by omega)])) (by rw [← hv194, ← hv167, ← hv160, ← hv148, ← hv136]; rw [i_nat1 (x := i) (z := x197) (by omega) t197]; exact hper193) (lv_sub hl [1, 0] rfl)
        refine lv_icmp_ge (tgt := 135) hx hb dX10_takeRead_123 (by decide) (fun c123 => ?_) (fun c123 => ?_)
        · have c123_ := i_le c123
          refine lv_iconst (v := 1) hx hb dX10_takeRead_135 (by decide) ?_
          exact K136 1 _ _ ls hP hD hS (by omega) (by first | rw [if_pos hk131, e131, h108_1.1 44 (by omega)] | rw [if_neg (show ¬ ((i.toNatClampNeg : Nat) : Int) < (vm 43 0).toInt from (by rw [i_nat (x := i) (by omega), ← h108_1.2.1.2.2.1]; omega))]) (lv_sub hl [0, 1] rfl)
        · have c123_ := i_nle c123
          refine lv_aload_n hx hb dX10_takeRead_126 rfl (lv_at hl 0 rfl) ?_
          refine va_get (D := eD E) (ci := 10) (v := .ref (am 44)) (C := RX10) (T := TX10) (N := 79) hx hb hts in_X10 hown hK hP 0 rfl rfl 44 (by decide) lk29 (fun _ h9 => h9) rfl dX10_takeRead_127 ?_
          refine lv_iload_n hx hb dX10_takeRead_130 rfl (lv_at hl 1 rfl) ?_
          refine va_iald hx hb hK hP 23 0 rfl rfl (n := 3) (f := (vb 44)) (i_in (by omega) (by omega)) dX10_takeRead_131 ?_
          refine lv_topi (fun x131 e131 => ?_)
          have hk131 : (i.toNatClampNeg : Int) < (vm 43 0).toInt := by rw [i_nat (x := i) (by omega), ← h108_1.2.1.2.2.1]; omega
          have b131 := (hrMo _ hk131).1
          rw [← h108_1.1 44 (by omega), ← e131] at b131
          refine lv_goto (tgt := 136) hx hb dX10_takeRead_132 (by decide) ?_
          exact K136 x131 _ _ ls hP hD hS (by omega) (by first | rw [if_pos hk131, e131, h108_1.1 44 (by omega)] | rw [if_neg (show ¬ ((i.toNatClampNeg : Nat) : Int) < (vm 43 0).toInt from (by rw [i_nat (x := i) (by omega), ← h108_1.2.1.2.2.1]; omega))]) (lv_sub hl [0, 1] rfl)
  refine lv_aload_n hx hb dX10_takeRead_0 rfl (lv_at hl 0 rfl) ?_
  refine lv_aload_n hx hb dX10_takeRead_1 rfl (lv_at hl 0 rfl) ?_
  refine va_get (D := eD E) (ci := 10) (v := .int (vm 37 0)) (C := RX10) (T := TX10) (N := 79) hx hb hts in_X10 hown hK hP 0 rfl rfl 37 (by decide) lk30 (fun _ h9 => h9) rfl dX10_takeRead_2 ?_
  refine va_put (D := eD E) (ci := 10) (v := .int (vm 37 0)) (ty := .int) (C := RX10) (T := TX10) (N := 79) hx hb hts in_X10 tyX10 tyX10_ok nmX10 hown hK hP hD hS 0 rfl rfl 0 (by decide) lk31 (fun _ h9 => h9) rfl (by decide +kernel) rfl rfl (Nat.le_of_ble_eq_true rfl) dX10_takeRead_5 (fun H locs hP hD hS => ?_)
  replace hP : va_P (eD E) vwCl (mdL E am (up2 vm 0 0 (vm 37 0))) H := hP
  replace hD : va_D A (mdL E am (up2 vm 0 0 (vm 37 0))) := hD
  generalize hv5 : up2 vm 0 0 (vm 37 0) = vm_5 at hP hD
  have hFz : fr [0, 1, 2, 3, 4, 5, 6, 7, 8, 9, 10, 11, 12, 13, 14, 15, 16, 17, 18, 19, 20, 21, 22, 24, 25, 26] vm vm_5 := by first | exact hFz | (rw [← hv5]; exact hFz.up (by decide))
  refine lv_aload_n hx hb dX10_takeRead_8 rfl (lv_at hl 0 rfl) ?_
  refine lv_aload_n hx hb dX10_takeRead_9 rfl (lv_at hl 0 rfl) ?_
  refine va_get (D := eD E) (ci := 10) (v := .int (vm_5 38 0)) (C := RX10) (T := TX10) (N := 79) hx hb hts in_X10 hown hK hP 0 rfl rfl 38 (by decide) lk32 (fun _ h9 => h9) rfl dX10_takeRead_10 ?_
  refine va_put (D := eD E) (ci := 10) (v := .int (vm_5 38 0)) (ty := .int) (C := RX10) (T := TX10) (N := 79) hx hb hts in_X10 tyX10 tyX10_ok nmX10 hown hK hP hD hS 0 rfl rfl 1 (by decide) lk33 (fun _ h9 => h9) rfl (by decide +kernel) rfl rfl (Nat.le_of_ble_eq_true rfl) dX10_takeRead_13 (fun H locs hP hD hS => ?_)
  replace hP : va_P (eD E) vwCl (mdL E am (up2 vm_5 1 0 (vm_5 38 0))) H := hP
  replace hD : va_D A (mdL E am (up2 vm_5 1 0 (vm_5 38 0))) := hD
  generalize hv13 : up2 vm_5 1 0 (vm_5 38 0) = vm_13 at hP hD
  have hFz : fr [0, 1, 2, 3, 4, 5, 6, 7, 8, 9, 10, 11, 12, 13, 14, 15, 16, 17, 18, 19, 20, 21, 22, 24, 25, 26] vm vm_13 := by first | exact hFz | (rw [← hv13]; exact hFz.up (by decide))
  refine lv_aload_n hx hb dX10_takeRead_16 rfl (lv_at hl 0 rfl) ?_
  refine lv_aload_n hx hb dX10_takeRead_17 rfl (lv_at hl 0 rfl) ?_
  refine va_get (D := eD E) (ci := 10) (v := .int (vm_13 43 0)) (C := RX10) (T := TX10) (N := 79) hx hb hts in_X10 hown hK hP 0 rfl rfl 43 (by decide) lk34 (fun _ h9 => h9) rfl dX10_takeRead_18 ?_
  refine va_put (D := eD E) (ci := 10) (v := .int (vm_13 43 0)) (ty := .int) (C := RX10) (T := TX10) (N := 79) hx hb hts in_X10 tyX10 tyX10_ok nmX10 hown hK hP hD hS 0 rfl rfl 4 (by decide) lk22 (fun _ h9 => h9) rfl (by decide +kernel) rfl rfl (Nat.le_of_ble_eq_true rfl) dX10_takeRead_21 (fun H locs hP hD hS => ?_)
  replace hP : va_P (eD E) vwCl (mdL E am (up2 vm_13 4 0 (vm_13 43 0))) H := hP
  replace hD : va_D A (mdL E am (up2 vm_13 4 0 (vm_13 43 0))) := hD
  generalize hv21 : up2 vm_13 4 0 (vm_13 43 0) = vm_21 at hP hD
  have hFz : fr [0, 1, 2, 3, 4, 5, 6, 7, 8, 9, 10, 11, 12, 13, 14, 15, 16, 17, 18, 19, 20, 21, 22, 24, 25, 26] vm vm_21 := by first | exact hFz | (rw [← hv21]; exact hFz.up (by decide))
  refine lv_aload_n hx hb dX10_takeRead_24 rfl (lv_at hl 0 rfl) ?_
  refine lv_aload_n hx hb dX10_takeRead_25 rfl (lv_at hl 0 rfl) ?_
  refine va_get (D := eD E) (ci := 10) (v := .int (vm_21 48 0)) (C := RX10) (T := TX10) (N := 79) hx hb hts in_X10 hown hK hP 0 rfl rfl 48 (by decide) lk35 (fun _ h9 => h9) rfl dX10_takeRead_26 ?_
  refine va_put (D := eD E) (ci := 10) (v := .int (vm_21 48 0)) (ty := .int) (C := RX10) (T := TX10) (N := 79) hx hb hts in_X10 tyX10 tyX10_ok nmX10 hown hK hP hD hS 0 rfl rfl 9 (by decide) lk36 (fun _ h9 => h9) rfl (by decide +kernel) rfl rfl (Nat.le_of_ble_eq_true rfl) dX10_takeRead_29 (fun H locs hP hD hS => ?_)
  replace hP : va_P (eD E) vwCl (mdL E am (up2 vm_21 9 0 (vm_21 48 0))) H := hP
  replace hD : va_D A (mdL E am (up2 vm_21 9 0 (vm_21 48 0))) := hD
  generalize hv29 : up2 vm_21 9 0 (vm_21 48 0) = vm_29 at hP hD
  have hFz : fr [0, 1, 2, 3, 4, 5, 6, 7, 8, 9, 10, 11, 12, 13, 14, 15, 16, 17, 18, 19, 20, 21, 22, 24, 25, 26] vm vm_29 := by first | exact hFz | (rw [← hv29]; exact hFz.up (by decide))
  refine lv_aload_n hx hb dX10_takeRead_32 rfl (lv_at hl 0 rfl) ?_
  refine lv_aload_n hx hb dX10_takeRead_33 rfl (lv_at hl 0 rfl) ?_
  refine va_get (D := eD E) (ci := 10) (v := .int (vm_29 51 0)) (C := RX10) (T := TX10) (N := 79) hx hb hts in_X10 hown hK hP 0 rfl rfl 51 (by decide) lk37 (fun _ h9 => h9) rfl dX10_takeRead_34 ?_
  refine va_put (D := eD E) (ci := 10) (v := .int (vm_29 51 0)) (ty := .int) (C := RX10) (T := TX10) (N := 79) hx hb hts in_X10 tyX10 tyX10_ok nmX10 hown hK hP hD hS 0 rfl rfl 12 (by decide) lk38 (fun _ h9 => h9) rfl (by decide +kernel) rfl rfl (Nat.le_of_ble_eq_true rfl) dX10_takeRead_37 (fun H locs hP hD hS => ?_)
  replace hP : va_P (eD E) vwCl (mdL E am (up2 vm_29 12 0 (vm_29 51 0))) H := hP
  replace hD : va_D A (mdL E am (up2 vm_29 12 0 (vm_29 51 0))) := hD
  generalize hv37 : up2 vm_29 12 0 (vm_29 51 0) = vm_37 at hP hD
  have hFz : fr [0, 1, 2, 3, 4, 5, 6, 7, 8, 9, 10, 11, 12, 13, 14, 15, 16, 17, 18, 19, 20, 21, 22, 24, 25, 26] vm vm_37 := by first | exact hFz | (rw [← hv37]; exact hFz.up (by decide))
  refine lv_aload_n hx hb dX10_takeRead_40 rfl (lv_at hl 0 rfl) ?_
  refine lv_aload_n hx hb dX10_takeRead_41 rfl (lv_at hl 0 rfl) ?_
  refine va_get (D := eD E) (ci := 10) (v := .int (vm_37 55 0)) (C := RX10) (T := TX10) (N := 79) hx hb hts in_X10 hown hK hP 0 rfl rfl 55 (by decide) lk39 (fun _ h9 => h9) rfl dX10_takeRead_42 ?_
  refine va_put (D := eD E) (ci := 10) (v := .int (vm_37 55 0)) (ty := .int) (C := RX10) (T := TX10) (N := 79) hx hb hts in_X10 tyX10 tyX10_ok nmX10 hown hK hP hD hS 0 rfl rfl 16 (by decide) lk40 (fun _ h9 => h9) rfl (by decide +kernel) rfl rfl (Nat.le_of_ble_eq_true rfl) dX10_takeRead_45 (fun H locs hP hD hS => ?_)
  replace hP : va_P (eD E) vwCl (mdL E am (up2 vm_37 16 0 (vm_37 55 0))) H := hP
  replace hD : va_D A (mdL E am (up2 vm_37 16 0 (vm_37 55 0))) := hD
  generalize hv45 : up2 vm_37 16 0 (vm_37 55 0) = vm_45 at hP hD
  have hFz : fr [0, 1, 2, 3, 4, 5, 6, 7, 8, 9, 10, 11, 12, 13, 14, 15, 16, 17, 18, 19, 20, 21, 22, 24, 25, 26] vm vm_45 := by first | exact hFz | (rw [← hv45]; exact hFz.up (by decide))
  refine lv_aload_n hx hb dX10_takeRead_48 rfl (lv_at hl 0 rfl) ?_
  refine lv_aload_n hx hb dX10_takeRead_49 rfl (lv_at hl 0 rfl) ?_
  refine va_get (D := eD E) (ci := 10) (v := .int (vm_45 58 0)) (C := RX10) (T := TX10) (N := 79) hx hb hts in_X10 hown hK hP 0 rfl rfl 58 (by decide) lk41 (fun _ h9 => h9) rfl dX10_takeRead_50 ?_
  refine va_put (D := eD E) (ci := 10) (v := .int (vm_45 58 0)) (ty := .int) (C := RX10) (T := TX10) (N := 79) hx hb hts in_X10 tyX10 tyX10_ok nmX10 hown hK hP hD hS 0 rfl rfl 19 (by decide) lk42 (fun _ h9 => h9) rfl (by decide +kernel) rfl rfl (Nat.le_of_ble_eq_true rfl) dX10_takeRead_53 (fun H locs hP hD hS => ?_)
  replace hP : va_P (eD E) vwCl (mdL E am (up2 vm_45 19 0 (vm_45 58 0))) H := hP
  replace hD : va_D A (mdL E am (up2 vm_45 19 0 (vm_45 58 0))) := hD
  generalize hv53 : up2 vm_45 19 0 (vm_45 58 0) = vm_53 at hP hD
  have hFz : fr [0, 1, 2, 3, 4, 5, 6, 7, 8, 9, 10, 11, 12, 13, 14, 15, 16, 17, 18, 19, 20, 21, 22, 24, 25, 26] vm vm_53 := by first | exact hFz | (rw [← hv53]; exact hFz.up (by decide))
  refine lv_aload_n hx hb dX10_takeRead_56 rfl (lv_at hl 0 rfl) ?_
  refine lv_iconst (v := 1) hx hb dX10_takeRead_57 (by decide) ?_
  refine va_put (D := eD E) (ci := 10) (v := .int 1) (ty := .int) (C := RX10) (T := TX10) (N := 79) hx hb hts in_X10 tyX10 tyX10_ok nmX10 hown hK hP hD hS 0 rfl rfl 22 (by decide) lk28 (fun _ h9 => h9) rfl (by decide +kernel) rfl rfl (Nat.le_of_ble_eq_true rfl) dX10_takeRead_58 (fun H locs hP hD hS => ?_)
  replace hP : va_P (eD E) vwCl (mdL E am (up2 vm_53 22 0 1)) H := hP
  replace hD : va_D A (mdL E am (up2 vm_53 22 0 1)) := hD
  generalize hv58 : up2 vm_53 22 0 1 = vm_58 at hP hD
  have hFz : fr [0, 1, 2, 3, 4, 5, 6, 7, 8, 9, 10, 11, 12, 13, 14, 15, 16, 17, 18, 19, 20, 21, 22, 24, 25, 26] vm vm_58 := by first | exact hFz | (rw [← hv58]; exact hFz.up (by decide))
  have hTR : TR vm vm_58 0 0 0 0 0 := by rw [← hv58, ← hv53, ← hv45, ← hv37, ← hv29, ← hv21, ← hv13, ← hv5]; exact TR.zero
  have hp58 : vm_58 22 0 = 1 := by rw [← hv58]; rfl
  have hp58t : (vm_58 22 0).toInt = 1 := by rw [hp58]; decide
  refine lv_iconst (v := 0) hx hb dX10_takeRead_61 (by decide) ?_
  refine lv_istore_n (lv' := [(1, .int 0), (0, .ref (am 0))]) hx hb dX10_takeRead_62 rfl hl (by decide) rfl (fun ls hl => ?_)
  have K63 : ∀ (μ : Nat) (i : Int32) (va : Vf) (H : Heap) (locs : List Loc) (ls : Array Slot), (24 - i.toInt).toNat < μ → va_P (eD E) vwCl (mdL E am va) H → va_D A (mdL E am va) → va_S A s.heap H locs → (0 ≤ i.toInt ∧ i.toInt ≤ 24) → (TR vm va i.toNatClampNeg 0 0 0 0) → ((va 22 0).toInt = 1) → (fr [0, 1, 2, 3, 4, 5, 6, 7, 8, 9, 10, 11, 12, 13, 14, 15, 16, 17, 18, 19, 20, 21, 22, 24, 25, 26] vm va) → (∀ j : Nat, (j : Int) < i.toInt → va 25 j = 0) → (CpA va vm i.toInt) → lv_has ls 2 [(0, .ref (am 0)), (1, .int i)] → W p l e (headSpec wsX10_takeRead rm_X10_takeRead).room s m ([.ref (am 0)] : List Value).toArray below meth c H locs 0 0 Q (F0 m 63 ls []) := by
    intro μ
    induction μ with
    | zero =>
      intro i va H locs ls hμ63
      exact absurd hμ63 (Nat.not_lt_zero _)
    | succ μ ih63 =>
      intro i va H locs ls hμ63 hP hD hS h63_0 h63_1 h63_2 h63_3 h63_4 h63_5 hl
      have hx63_0 := h63_4
      clear h63_4
      have hx63_1 := h63_5
      clear h63_5
      have hFz := h63_3
      refine lv_iload_n hx hb dX10_takeRead_63 rfl (lv_at hl 1 rfl) ?_
      refine lv_bipush (v := 24) hx hb dX10_takeRead_64 (by decide) ?_
      refine lv_icmp_ge (tgt := 106) hx hb dX10_takeRead_66 (by decide) (fun c66 => ?_) (fun c66 => ?_)
      · have c66_ := i_le c66
        have hi : i.toNatClampNeg = 24 := by have := i_nat (x := i) (by omega); omega
        have hTRa : TR vm va 24 0 0 0 0 := by rw [← hi]; exact h63_1
        refine lv_iconst (v := 0) hx hb dX10_takeRead_106 (by decide) ?_
        refine lv_istore_n (lv' := [(1, .int 0), (0, .ref (am 0))]) hx hb dX10_takeRead_107 rfl hl (by decide) rfl (fun ls hl => ?_)
        exact K108 _ 0 va _ _ ls (Nat.lt_succ_self _) hP hD hS (by omega) hTRa (by omega) hFz (fun j h => hx63_0 j (by omega)) (fun j h => absurd h (by omega)) (fun j h => hx63_1 j (by omega)) (fun j h => absurd h (by omega)) h63_2 (lv_sub hl [1, 0] rfl)
      · have c66_ := i_nle c66
        refine lv_aload_n hx hb dX10_takeRead_69 rfl (lv_at hl 0 rfl) ?_
        refine va_get (D := eD E) (ci := 10) (v := .ref (am 2)) (C := RX10) (T := TX10) (N := 79) hx hb hts in_X10 hown hK hP 0 rfl rfl 2 (by decide) lk43 (fun _ h9 => h9) rfl dX10_takeRead_70 ?_
        refine lv_iload_n hx hb dX10_takeRead_73 rfl (lv_at hl 1 rfl) ?_
        refine lv_aload_n hx hb dX10_takeRead_74 rfl (lv_at hl 0 rfl) ?_
        refine va_get (D := eD E) (ci := 10) (v := .ref (am 39)) (C := RX10) (T := TX10) (N := 79) hx hb hts in_X10 hown hK hP 0 rfl rfl 39 (by decide) lk44 (fun _ h9 => h9) rfl dX10_takeRead_75 ?_
        refine lv_iload_n hx hb dX10_takeRead_78 rfl (lv_at hl 1 rfl) ?_
        refine va_iald hx hb hK hP 20 0 rfl rfl (n := 24) (f := (va 39)) (i_in (by omega) (by omega)) dX10_takeRead_79 ?_
        refine lv_topi (fun x79 e79 => ?_)
        refine va_iast hx hb hK hP hD hS 1 0 rfl rfl (n := 24) (f := (va 2)) (i_in (by omega) (by omega)) dX10_takeRead_80 (fun H locs hP hD hS => ?_)
        replace hP : va_P (eD E) vwCl (mdL E am (up2 va 2 i.toNatClampNeg x79)) H := hP
        replace hD : va_D A (mdL E am (up2 va 2 i.toNatClampNeg x79)) := hD
        generalize hv80 : up2 va 2 i.toNatClampNeg x79 = vm_80 at hP hD
        have hFz : fr [0, 1, 2, 3, 4, 5, 6, 7, 8, 9, 10, 11, 12, 13, 14, 15, 16, 17, 18, 19, 20, 21, 22, 24, 25, 26] vm vm_80 := by first | exact hFz | (rw [← hv80]; exact hFz.up (by decide))
        refine lv_aload_n hx hb dX10_takeRead_81 rfl (lv_at hl 0 rfl) ?_
        refine va_get (D := eD E) (ci := 10) (v := .ref (am 3)) (C := RX10) (T := TX10) (N := 79) hx hb hts in_X10 hown hK hP 0 rfl rfl 3 (by decide) lk45 (fun _ h9 => h9) rfl dX10_takeRead_82 ?_
        refine lv_iload_n hx hb dX10_takeRead_85 rfl (lv_at hl 1 rfl) ?_
        refine lv_aload_n hx hb dX10_takeRead_86 rfl (lv_at hl 0 rfl) ?_
        refine va_get (D := eD E) (ci := 10) (v := .ref (am 40)) (C := RX10) (T := TX10) (N := 79) hx hb hts in_X10 hown hK hP 0 rfl rfl 40 (by decide) lk46 (fun _ h9 => h9) rfl dX10_takeRead_87 ?_
        refine lv_iload_n hx hb dX10_takeRead_90 rfl (lv_at hl 1 rfl) ?_
        refine va_iald hx hb hK hP 21 0 rfl rfl (n := 24) (f := (vm_80 40)) (i_in (by omega) (by omega)) dX10_takeRead_91 ?_
        refine lv_topi (fun x91 e91 => ?_)
        refine va_iast hx hb hK hP hD hS 2 0 rfl rfl (n := 24) (f := (vm_80 3)) (i_in (by omega) (by omega)) dX10_takeRead_92 (fun H locs hP hD hS => ?_)
        replace hP : va_P (eD E) vwCl (mdL E am (up2 vm_80 3 i.toNatClampNeg x91)) H := hP
        replace hD : va_D A (mdL E am (up2 vm_80 3 i.toNatClampNeg x91)) := hD
        generalize hv92 : up2 vm_80 3 i.toNatClampNeg x91 = vm_92 at hP hD
        have hFz : fr [0, 1, 2, 3, 4, 5, 6, 7, 8, 9, 10, 11, 12, 13, 14, 15, 16, 17, 18, 19, 20, 21, 22, 24, 25, 26] vm vm_92 := by first | exact hFz | (rw [← hv92]; exact hFz.up (by decide))
        refine lv_aload_n hx hb dX10_takeRead_93 rfl (lv_at hl 0 rfl) ?_
        refine va_get (D := eD E) (ci := 10) (v := .ref (am 25)) (C := RX10) (T := TX10) (N := 79) hx hb hts in_X10 hown hK hP 0 rfl rfl 25 (by decide) lk47 (fun _ h9 => h9) rfl dX10_takeRead_94 ?_
        refine lv_iload_n hx hb dX10_takeRead_97 rfl (lv_at hl 1 rfl) ?_
        refine lv_iconst (v := 0) hx hb dX10_takeRead_98 (by decide) ?_
        refine va_iast hx hb hK hP hD hS 17 0 rfl rfl (n := 24) (f := (vm_92 25)) (i_in (by omega) (by omega)) dX10_takeRead_99 (fun H locs hP hD hS => ?_)
        replace hP : va_P (eD E) vwCl (mdL E am (up2 vm_92 25 i.toNatClampNeg 0)) H := hP
        replace hD : va_D A (mdL E am (up2 vm_92 25 i.toNatClampNeg 0)) := hD
        generalize hv99 : up2 vm_92 25 i.toNatClampNeg 0 = vm_99 at hP hD
        have hFz : fr [0, 1, 2, 3, 4, 5, 6, 7, 8, 9, 10, 11, 12, 13, 14, 15, 16, 17, 18, 19, 20, 21, 22, 24, 25, 26] vm vm_99 := by first | exact hFz | (rw [← hv99]; exact hFz.up (by decide))
        obtain ⟨x100, e100⟩ : ∃ y : Int32, y = i + 1 := ⟨_, rfl⟩
        refine lv_iinc (v := x100) (lv' := [(1, .int x100), (0, .ref (am 0))]) hx hb dX10_takeRead_100 hl (k := 1) rfl (by rw [e100]; rfl) (by decide) rfl (fun ls hl => ?_)
        have t100 := i_add e100 (by omega)
        have hx79 : (vm 37 0).toInt = 0 ∨ ((0 ≤ x79.toInt ∧ x79.toInt ≤ 99) ∧ (0 ≤ x91.toInt ∧ x91.toInt ≤ 9)) := hrB.imp id (fun z => ⟨by rw [e79, h63_1.1 39 (by omega)]; exact z.1 _ (i_natlt (by omega) (by decide)), by rw [e91, ← hv80]; show 0 ≤ (va 40 i.toNatClampNeg).toInt ∧ (va 40 i.toNatClampNeg).toInt ≤ 9; rw [h63_1.1 40 (by omega)]; exact z.2 _ (i_natlt (by omega) (by decide))⟩)
        have hTR : TR vm vm_99 x100.toNatClampNeg 0 0 0 0 := by rw [i_nat1 (x := i) (by omega) t100, ← hv99, ← hv92, ← hv80]; exact h63_1.cell hx79
        have hp99 : (vm_99 22 0).toInt = (va 22 0).toInt := by rw [← hv99, ← hv92, ← hv80]; rfl
        refine lv_goto (tgt := 63) hx hb dX10_takeRead_103 (by decide) ?_
        exact ih63 x100 vm_99 _ _ ls (by omega) hP hD hS (by omega) hTR (by omega) hFz (by rw [← hv99, ← hv92, ← hv80]; exact up0_next (v := up2 (up2 va 2 i.toNatClampNeg x79) 3 i.toNatClampNeg x91) (t := 25) hx63_0 (by omega) (by omega)) (by rw [← hv99, ← hv92, ← hv80]; exact CpA.next hx63_1 (by omega) (by omega) (by rw [e79, h63_1.1 39 (by omega)]) (by rw [e91, ← hv80]; show va 40 i.toNatClampNeg = _; rw [h63_1.1 40 (by omega)])) (lv_sub hl [1, 0] rfl)
  exact K63 _ 0 vm_58 _ _ ls (Nat.lt_succ_self _) hP hD hS (by omega) hTR (by omega) hFz (fun j h => absurd h (by omega)) (fun j h => absurd h (by omega)) (lv_sub hl [1, 0] rfl)
def rm_X10_ground : Room := { frames := 6, cells := 0, slots := 0, locals := 139 }
set_option maxHeartbeats 4000000 in
set_option maxRecDepth 100000 in
theorem c_X10_ground (l : Launch) (E : Ev) (sz : Nat) (am : Nat → Nat) (vm : Vf) (hMI : MdI vm) : Met l yX10_ground wsX10_ground rm_X10_ground (MtP E sz [.ref (am 0)] (mdL E am vm)) (va_Qi (fun (r : Int32) (u : Vf) => ((MdI u ∧ (u 32 0).toInt = 0) ∧ fr [0, 1, 2, 3, 4, 5, 6, 7, 8, 9, 10, 11, 12, 13, 14, 15, 16, 17, 18, 19, 20, 21, 22, 23, 24, 25, 26, 27, 28, 29, 32, 33, 34, 35, 36, 37, 38, 39, 40, 41, 42, 43, 44, 45, 46, 47, 48, 49, 50, 51, 52, 53, 54, 55, 56, 57, 58, 59, 60, 61, 67, 75, 78] vm u) ∧ (((∀ j : Nat, (j : Int) < (vm 32 0).toInt → 0 ≤ (vm 31 j).toInt) → GrM (textF (vm 31) (vm 32 0).toInt 251 0 (SI (gr0 vm))) r.toInt (u 33 0).toInt (fun S => RpMF S u)) ∧ (GrD r vm u))) (MtB E (va_A (mdL E am vm) sz) (fun u => mdL E am u)) (va_A (mdL E am vm) sz)) 0 0 (va_A (mdL E am vm) sz) := by
  refine Met.ofW (cc := cX10_ground) (maxL := 2) (ret := (some .int)) (by decide) rfl ?_
  intro p e s m args below meth c s₁ B hml hv
  obtain ⟨rfl, hsz, hE, hP, hD0⟩ := hv
  subst hsz
  have hD := hD0.self (sz := s.heap.size)
  generalize hAe : va_A (mdL E am vm) s.heap.size = A at hD hE ⊢
  have hA : ∀ q : Nat, s.heap.size ≤ q → A q := fun q h => by rw [← hAe]; exact Or.inr h
  have hS : va_S A s.heap s.heap [] := va_S.rf
  have hx := B.exec
  have hb := B.bytes
  have hr := B.returns
  have hts := atoms_spec (ws := wsX10_ground) B.pre
  have hown : s.vm.findClass RX10 = some m.cls := findClass_of_methodNamed B.named
  have hlocks := B.notSynchronized
  have hK := hE.1
  have in_X10 : ∀ w ∈ u_ws RX10 TX10 79, w ∈ wsX10_ground := fun w h => List.mem_cons_of_mem _ (List.mem_append_right _ h)
  have lk0 := hts (.fieldLink RX10 74 "TidedGroundModel" "faultPlace" "I") (List.mem_of_getElem? (i := 1) rfl)
  have lk1 := hts (.fieldLink RX10 180 "TidedGroundModel" "at0" "I") (List.mem_of_getElem? (i := 2) rfl)
  have lk2 := hts (.fieldLink RX10 204 "TidedGroundModel" "readWide" "I") (List.mem_of_getElem? (i := 3) rfl)
  have lk3 := hts (.fieldLink RX10 207 "TidedGroundModel" "readDeep" "I") (List.mem_of_getElem? (i := 4) rfl)
  have lk4 := hts (.fieldLink RX10 220 "TidedGroundModel" "readTold" "I") (List.mem_of_getElem? (i := 5) rfl)
  have lk5 := hts (.fieldLink RX10 231 "TidedGroundModel" "readMoons" "I") (List.mem_of_getElem? (i := 6) rfl)
  have lk6 := hts (.fieldLink RX10 234 "TidedGroundModel" "readHouses" "I") (List.mem_of_getElem? (i := 7) rfl)
  have lk7 := hts (.fieldLink RX10 237 "TidedGroundModel" "readCracks" "I") (List.mem_of_getElem? (i := 8) rfl)
  have lk8 := hts (.fieldLink RX10 240 "TidedGroundModel" "readWells" "I") (List.mem_of_getElem? (i := 9) rfl)
  have lk9 := hts (.fieldLink RX10 243 "TidedGroundModel" "readDeeds" "I") (List.mem_of_getElem? (i := 10) rfl)
  have lk10 := hts (.fieldLink RX10 176 "TidedGroundModel" "texted" "I") (List.mem_of_getElem? (i := 11) rfl)
  have lk11 := hts (.fieldLink RX10 291 "TidedGroundModel" "step" "I") (List.mem_of_getElem? (i := 12) rfl)
  have lk12 := hts (.fieldLink RX10 294 "TidedGroundModel" "cart" "I") (List.mem_of_getElem? (i := 13) rfl)
  have lk13 := hts (.fieldLink RX10 297 "TidedGroundModel" "pushed" "I") (List.mem_of_getElem? (i := 14) rfl)
  have lk14 := hts (.fieldLink RX10 68 "TidedGroundModel" "steep" "I") (List.mem_of_getElem? (i := 15) rfl)
  have lk15 := hts (.fieldLink RX10 300 "TidedGroundModel" "sights" "I") (List.mem_of_getElem? (i := 16) rfl)
  have lk16 := hts (.fieldLink RX10 303 "TidedGroundModel" "booked" "I") (List.mem_of_getElem? (i := 17) rfl)
  have lk17 := hts (.fieldLink RX10 155 "TidedGroundModel" "isKept" "[Z") (List.mem_of_getElem? (i := 18) rfl)
  have n_m10 : ((-10) : Int32).toInt = -10 := by decide
  have n_m1 : ((-1) : Int32).toInt = -1 := by decide
  have n_0 : (0 : Int32).toInt = 0 := by decide
  have n_1 : (1 : Int32).toInt = 1 := by decide
  have n_20 : (20 : Int32).toInt = 20 := by decide
  have hl := lv_entry ([.ref (am 0)]) (n := 2) (Nat.le_of_ble_eq_true rfl)
  rw [lg_entry_eq]
  generalize (lg_sl ([.ref (am 0)]) ++ List.replicate (2 - (lg_sl ([.ref (am 0)])).length) Slot.unset).toArray = ls at hl ⊢
  have hl : lv_has ls 2 [(0, .ref (am 0))] := hl
  refine W_abs (fun Q hQ => ?_)
  have hH := hMI.1
  have hFz : fr [0, 1, 2, 3, 4, 5, 6, 7, 8, 9, 10, 11, 12, 13, 14, 15, 16, 17, 18, 19, 20, 21, 22, 23, 24, 25, 26, 27, 28, 29, 32, 33, 34, 35, 36, 37, 38, 39, 40, 41, 42, 43, 44, 45, 46, 47, 48, 49, 50, 51, 52, 53, 54, 55, 56, 57, 58, 59, 60, 61, 67, 75, 78] vm vm := fr.rf
  refine lv_aload_n hx hb dX10_ground_0 rfl (lv_at hl 0 rfl) ?_
  refine lv_iconst (v := (-1)) hx hb dX10_ground_1 (by decide) ?_
  refine va_put (D := eD E) (ci := 10) (v := .int (-1)) (ty := .int) (C := RX10) (T := TX10) (N := 79) hx hb hts in_X10 tyX10 tyX10_ok nmX10 hown hK hP hD hS 0 rfl rfl 33 (by decide) lk0 (fun _ h9 => h9) rfl (by decide +kernel) rfl rfl (Nat.le_of_ble_eq_true rfl) dX10_ground_2 (fun H locs hP hD hS => ?_)
  replace hP : va_P (eD E) vwCl (mdL E am (up2 vm 33 0 (-1))) H := hP
  replace hD : va_D A (mdL E am (up2 vm 33 0 (-1))) := hD
  generalize hv2 : up2 vm 33 0 (-1) = vm_2 at hP hD
  have hFz : fr [0, 1, 2, 3, 4, 5, 6, 7, 8, 9, 10, 11, 12, 13, 14, 15, 16, 17, 18, 19, 20, 21, 22, 23, 24, 25, 26, 27, 28, 29, 32, 33, 34, 35, 36, 37, 38, 39, 40, 41, 42, 43, 44, 45, 46, 47, 48, 49, 50, 51, 52, 53, 54, 55, 56, 57, 58, 59, 60, 61, 67, 75, 78] vm vm_2 := by first | exact hFz | (rw [← hv2]; exact hFz.up (by decide))
  refine lv_aload_n hx hb dX10_ground_5 rfl (lv_at hl 0 rfl) ?_
  refine lv_iconst (v := 0) hx hb dX10_ground_6 (by decide) ?_
  refine va_put (D := eD E) (ci := 10) (v := .int 0) (ty := .int) (C := RX10) (T := TX10) (N := 79) hx hb hts in_X10 tyX10 tyX10_ok nmX10 hown hK hP hD hS 0 rfl rfl 34 (by decide) lk1 (fun _ h9 => h9) rfl (by decide +kernel) rfl rfl (Nat.le_of_ble_eq_true rfl) dX10_ground_7 (fun H locs hP hD hS => ?_)
  replace hP : va_P (eD E) vwCl (mdL E am (up2 vm_2 34 0 0)) H := hP
  replace hD : va_D A (mdL E am (up2 vm_2 34 0 0)) := hD
  generalize hv7 : up2 vm_2 34 0 0 = vm_7 at hP hD
  have hFz : fr [0, 1, 2, 3, 4, 5, 6, 7, 8, 9, 10, 11, 12, 13, 14, 15, 16, 17, 18, 19, 20, 21, 22, 23, 24, 25, 26, 27, 28, 29, 32, 33, 34, 35, 36, 37, 38, 39, 40, 41, 42, 43, 44, 45, 46, 47, 48, 49, 50, 51, 52, 53, 54, 55, 56, 57, 58, 59, 60, 61, 67, 75, 78] vm vm_7 := by first | exact hFz | (rw [← hv7]; exact hFz.up (by decide))
  refine lv_aload_n hx hb dX10_ground_10 rfl (lv_at hl 0 rfl) ?_
  refine lv_iconst (v := 0) hx hb dX10_ground_11 (by decide) ?_
  refine va_put (D := eD E) (ci := 10) (v := .int 0) (ty := .int) (C := RX10) (T := TX10) (N := 79) hx hb hts in_X10 tyX10 tyX10_ok nmX10 hown hK hP hD hS 0 rfl rfl 37 (by decide) lk2 (fun _ h9 => h9) rfl (by decide +kernel) rfl rfl (Nat.le_of_ble_eq_true rfl) dX10_ground_12 (fun H locs hP hD hS => ?_)
  replace hP : va_P (eD E) vwCl (mdL E am (up2 vm_7 37 0 0)) H := hP
  replace hD : va_D A (mdL E am (up2 vm_7 37 0 0)) := hD
  generalize hv12 : up2 vm_7 37 0 0 = vm_12 at hP hD
  have hFz : fr [0, 1, 2, 3, 4, 5, 6, 7, 8, 9, 10, 11, 12, 13, 14, 15, 16, 17, 18, 19, 20, 21, 22, 23, 24, 25, 26, 27, 28, 29, 32, 33, 34, 35, 36, 37, 38, 39, 40, 41, 42, 43, 44, 45, 46, 47, 48, 49, 50, 51, 52, 53, 54, 55, 56, 57, 58, 59, 60, 61, 67, 75, 78] vm vm_12 := by first | exact hFz | (rw [← hv12]; exact hFz.up (by decide))
  refine lv_aload_n hx hb dX10_ground_15 rfl (lv_at hl 0 rfl) ?_
  refine lv_iconst (v := 0) hx hb dX10_ground_16 (by decide) ?_
  refine va_put (D := eD E) (ci := 10) (v := .int 0) (ty := .int) (C := RX10) (T := TX10) (N := 79) hx hb hts in_X10 tyX10 tyX10_ok nmX10 hown hK hP hD hS 0 rfl rfl 38 (by decide) lk3 (fun _ h9 => h9) rfl (by decide +kernel) rfl rfl (Nat.le_of_ble_eq_true rfl) dX10_ground_17 (fun H locs hP hD hS => ?_)
  replace hP : va_P (eD E) vwCl (mdL E am (up2 vm_12 38 0 0)) H := hP
  replace hD : va_D A (mdL E am (up2 vm_12 38 0 0)) := hD
  generalize hv17 : up2 vm_12 38 0 0 = vm_17 at hP hD
  have hFz : fr [0, 1, 2, 3, 4, 5, 6, 7, 8, 9, 10, 11, 12, 13, 14, 15, 16, 17, 18, 19, 20, 21, 22, 23, 24, 25, 26, 27, 28, 29, 32, 33, 34, 35, 36, 37, 38, 39, 40, 41, 42, 43, 44, 45, 46, 47, 48, 49, 50, 51, 52, 53, 54, 55, 56, 57, 58, 59, 60, 61, 67, 75, 78] vm vm_17 := by first | exact hFz | (rw [← hv17]; exact hFz.up (by decide))
  refine lv_aload_n hx hb dX10_ground_20 rfl (lv_at hl 0 rfl) ?_
  refine lv_iconst (v := 0) hx hb dX10_ground_21 (by decide) ?_
  refine va_put (D := eD E) (ci := 10) (v := .int 0) (ty := .int) (C := RX10) (T := TX10) (N := 79) hx hb hts in_X10 tyX10 tyX10_ok nmX10 hown hK hP hD hS 0 rfl rfl 41 (by decide) lk4 (fun _ h9 => h9) rfl (by decide +kernel) rfl rfl (Nat.le_of_ble_eq_true rfl) dX10_ground_22 (fun H locs hP hD hS => ?_)
  replace hP : va_P (eD E) vwCl (mdL E am (up2 vm_17 41 0 0)) H := hP
  replace hD : va_D A (mdL E am (up2 vm_17 41 0 0)) := hD
  generalize hv22 : up2 vm_17 41 0 0 = vm_22 at hP hD
  have hFz : fr [0, 1, 2, 3, 4, 5, 6, 7, 8, 9, 10, 11, 12, 13, 14, 15, 16, 17, 18, 19, 20, 21, 22, 23, 24, 25, 26, 27, 28, 29, 32, 33, 34, 35, 36, 37, 38, 39, 40, 41, 42, 43, 44, 45, 46, 47, 48, 49, 50, 51, 52, 53, 54, 55, 56, 57, 58, 59, 60, 61, 67, 75, 78] vm vm_22 := by first | exact hFz | (rw [← hv22]; exact hFz.up (by decide))
  refine lv_aload_n hx hb dX10_ground_25 rfl (lv_at hl 0 rfl) ?_
  refine lv_iconst (v := 0) hx hb dX10_ground_26 (by decide) ?_
  refine va_put (D := eD E) (ci := 10) (v := .int 0) (ty := .int) (C := RX10) (T := TX10) (N := 79) hx hb hts in_X10 tyX10 tyX10_ok nmX10 hown hK hP hD hS 0 rfl rfl 43 (by decide) lk5 (fun _ h9 => h9) rfl (by decide +kernel) rfl rfl (Nat.le_of_ble_eq_true rfl) dX10_ground_27 (fun H locs hP hD hS => ?_)
  replace hP : va_P (eD E) vwCl (mdL E am (up2 vm_22 43 0 0)) H := hP
  replace hD : va_D A (mdL E am (up2 vm_22 43 0 0)) := hD
  generalize hv27 : up2 vm_22 43 0 0 = vm_27 at hP hD
  have hFz : fr [0, 1, 2, 3, 4, 5, 6, 7, 8, 9, 10, 11, 12, 13, 14, 15, 16, 17, 18, 19, 20, 21, 22, 23, 24, 25, 26, 27, 28, 29, 32, 33, 34, 35, 36, 37, 38, 39, 40, 41, 42, 43, 44, 45, 46, 47, 48, 49, 50, 51, 52, 53, 54, 55, 56, 57, 58, 59, 60, 61, 67, 75, 78] vm vm_27 := by first | exact hFz | (rw [← hv27]; exact hFz.up (by decide))
  refine lv_aload_n hx hb dX10_ground_30 rfl (lv_at hl 0 rfl) ?_
  refine lv_iconst (v := 0) hx hb dX10_ground_31 (by decide) ?_
  refine va_put (D := eD E) (ci := 10) (v := .int 0) (ty := .int) (C := RX10) (T := TX10) (N := 79) hx hb hts in_X10 tyX10 tyX10_ok nmX10 hown hK hP hD hS 0 rfl rfl 48 (by decide) lk6 (fun _ h9 => h9) rfl (by decide +kernel) rfl rfl (Nat.le_of_ble_eq_true rfl) dX10_ground_32 (fun H locs hP hD hS => ?_)
  replace hP : va_P (eD E) vwCl (mdL E am (up2 vm_27 48 0 0)) H := hP
  replace hD : va_D A (mdL E am (up2 vm_27 48 0 0)) := hD
  generalize hv32 : up2 vm_27 48 0 0 = vm_32 at hP hD
  have hFz : fr [0, 1, 2, 3, 4, 5, 6, 7, 8, 9, 10, 11, 12, 13, 14, 15, 16, 17, 18, 19, 20, 21, 22, 23, 24, 25, 26, 27, 28, 29, 32, 33, 34, 35, 36, 37, 38, 39, 40, 41, 42, 43, 44, 45, 46, 47, 48, 49, 50, 51, 52, 53, 54, 55, 56, 57, 58, 59, 60, 61, 67, 75, 78] vm vm_32 := by first | exact hFz | (rw [← hv32]; exact hFz.up (by decide))
  refine lv_aload_n hx hb dX10_ground_35 rfl (lv_at hl 0 rfl) ?_
  refine lv_iconst (v := 0) hx hb dX10_ground_36 (by decide) ?_
  refine va_put (D := eD E) (ci := 10) (v := .int 0) (ty := .int) (C := RX10) (T := TX10) (N := 79) hx hb hts in_X10 tyX10 tyX10_ok nmX10 hown hK hP hD hS 0 rfl rfl 51 (by decide) lk7 (fun _ h9 => h9) rfl (by decide +kernel) rfl rfl (Nat.le_of_ble_eq_true rfl) dX10_ground_37 (fun H locs hP hD hS => ?_)
  replace hP : va_P (eD E) vwCl (mdL E am (up2 vm_32 51 0 0)) H := hP
  replace hD : va_D A (mdL E am (up2 vm_32 51 0 0)) := hD
  generalize hv37 : up2 vm_32 51 0 0 = vm_37 at hP hD
  have hFz : fr [0, 1, 2, 3, 4, 5, 6, 7, 8, 9, 10, 11, 12, 13, 14, 15, 16, 17, 18, 19, 20, 21, 22, 23, 24, 25, 26, 27, 28, 29, 32, 33, 34, 35, 36, 37, 38, 39, 40, 41, 42, 43, 44, 45, 46, 47, 48, 49, 50, 51, 52, 53, 54, 55, 56, 57, 58, 59, 60, 61, 67, 75, 78] vm vm_37 := by first | exact hFz | (rw [← hv37]; exact hFz.up (by decide))
  refine lv_aload_n hx hb dX10_ground_40 rfl (lv_at hl 0 rfl) ?_
  refine lv_iconst (v := 0) hx hb dX10_ground_41 (by decide) ?_
  refine va_put (D := eD E) (ci := 10) (v := .int 0) (ty := .int) (C := RX10) (T := TX10) (N := 79) hx hb hts in_X10 tyX10 tyX10_ok nmX10 hown hK hP hD hS 0 rfl rfl 55 (by decide) lk8 (fun _ h9 => h9) rfl (by decide +kernel) rfl rfl (Nat.le_of_ble_eq_true rfl) dX10_ground_42 (fun H locs hP hD hS => ?_)
  replace hP : va_P (eD E) vwCl (mdL E am (up2 vm_37 55 0 0)) H := hP
  replace hD : va_D A (mdL E am (up2 vm_37 55 0 0)) := hD
  generalize hv42 : up2 vm_37 55 0 0 = vm_42 at hP hD
  have hFz : fr [0, 1, 2, 3, 4, 5, 6, 7, 8, 9, 10, 11, 12, 13, 14, 15, 16, 17, 18, 19, 20, 21, 22, 23, 24, 25, 26, 27, 28, 29, 32, 33, 34, 35, 36, 37, 38, 39, 40, 41, 42, 43, 44, 45, 46, 47, 48, 49, 50, 51, 52, 53, 54, 55, 56, 57, 58, 59, 60, 61, 67, 75, 78] vm vm_42 := by first | exact hFz | (rw [← hv42]; exact hFz.up (by decide))
  refine lv_aload_n hx hb dX10_ground_45 rfl (lv_at hl 0 rfl) ?_
  refine lv_iconst (v := 0) hx hb dX10_ground_46 (by decide) ?_
  refine va_put (D := eD E) (ci := 10) (v := .int 0) (ty := .int) (C := RX10) (T := TX10) (N := 79) hx hb hts in_X10 tyX10 tyX10_ok nmX10 hown hK hP hD hS 0 rfl rfl 58 (by decide) lk9 (fun _ h9 => h9) rfl (by decide +kernel) rfl rfl (Nat.le_of_ble_eq_true rfl) dX10_ground_47 (fun H locs hP hD hS => ?_)
  replace hP : va_P (eD E) vwCl (mdL E am (up2 vm_42 58 0 0)) H := hP
  replace hD : va_D A (mdL E am (up2 vm_42 58 0 0)) := hD
  generalize hv47 : up2 vm_42 58 0 0 = vm_47 at hP hD
  have hFz : fr [0, 1, 2, 3, 4, 5, 6, 7, 8, 9, 10, 11, 12, 13, 14, 15, 16, 17, 18, 19, 20, 21, 22, 23, 24, 25, 26, 27, 28, 29, 32, 33, 34, 35, 36, 37, 38, 39, 40, 41, 42, 43, 44, 45, 46, 47, 48, 49, 50, 51, 52, 53, 54, 55, 56, 57, 58, 59, 60, 61, 67, 75, 78] vm vm_47 := by first | exact hFz | (rw [← hv47]; exact hFz.up (by decide))
  have hMI : MdI vm_47 := by rw [← hv47, ← hv42, ← hv37, ← hv32, ← hv27, ← hv22, ← hv17, ← hv12, ← hv7, ← hv2]; exact hMI
  have hRd : RdM vm_47 := by rw [← hv47, ← hv42, ← hv37, ← hv32, ← hv27, ← hv22, ← hv17, ← hv12, ← hv7, ← hv2]; exact rd_new
  have hT := hMI.1.2.2.2.2.2.2.1
  have hq47 : (vm_47 34 0).toInt = 0 := by rw [← hv47, ← hv42, ← hv37, ← hv32, ← hv27, ← hv22, ← hv17, ← hv12, ← hv7, ← hv2]; exact (by decide : (0 : Int32).toInt = 0)
  have hat : atI vm_47 := ⟨by omega, by omega⟩
  have hg47 : vm_47 = gr0 vm := by rw [← hv47, ← hv42, ← hv37, ← hv32, ← hv27, ← hv22, ← hv17, ← hv12, ← hv7, ← hv2]; rfl
  have hSM47 : SM (SI (gr0 vm)) vm_47 := by rw [hg47]; exact SM_SI
  have hT47 : vm_47 31 = vm 31 ∧ vm_47 32 = vm 32 ∧ (vm_47 33 0).toInt = -1 := by rw [hg47]; exact ⟨rfl, rfl, (by decide : (-1 : Int32).toInt = -1)⟩
  have hN47 : (vm_47 32 0).toInt = (vm 32 0).toInt := by rw [hT47.2.1]
  refine lv_iconst (v := 0) hx hb dX10_ground_50 (by decide) ?_
  refine lv_istore_n (lv' := [(1, .int 0), (0, .ref (am 0))]) hx hb dX10_ground_51 rfl hl (by decide) rfl (fun ls hl => ?_)
  have K52 : ∀ (μ : Nat) (f : Int32) (S : St0) (ig : Nat) (vk : Vf) (H : Heap) (locs : List Loc) (ls : Array Slot), (3000 - 10 * (vk 34 0).toInt - f.toInt).toNat < μ → va_P (eD E) vwCl (mdL E am vk) H → va_D A (mdL E am vk) → va_S A s.heap H locs → (MdI vk) → (0 ≤ f.toInt ∧ f.toInt ≤ 4) → (f.toInt = 0 → atI vk ∧ RdM vk) → (0 ≤ (vk 34 0).toInt ∧ (vk 34 0).toInt ≤ 251) → (fr [0, 1, 2, 3, 4, 5, 6, 7, 8, 9, 10, 11, 12, 13, 14, 15, 16, 17, 18, 19, 20, 21, 22, 23, 24, 25, 26, 27, 28, 29, 32, 33, 34, 35, 36, 37, 38, 39, 40, 41, 42, 43, 44, 45, 46, 47, 48, 49, 50, 51, 52, 53, 54, 55, 56, 57, 58, 59, 60, 61, 67, 75, 78] vm vk) → (TxM (vm 31) (vm 32 0).toInt (SI (gr0 vm)) ig (vk 34 0).toInt f.toInt (vk 33 0).toInt S vk) → (f.toInt = 0 → vk 31 = vm 31 ∧ vk 32 = vm 32) → (f.toInt ≠ 0 ∨ (ig : Int) ≤ (vk 34 0).toInt) → (f.toInt = 0 → SM S vk) → (fr lG10 vm vk) → lv_has ls 2 [(0, .ref (am 0)), (1, .int f)] → W p l e (headSpec wsX10_ground rm_X10_ground).room s m ([.ref (am 0)] : List Value).toArray below meth c H locs 0 0 Q (F0 m 52 ls []) := by
    intro μ
    induction μ with
    | zero =>
      intro f S ig vk H locs ls hμ52
      exact absurd hμ52 (Nat.not_lt_zero _)
    | succ μ ih52 =>
      intro f S ig vk H locs ls hμ52 hP hD hS h52_0 h52_1 h52_2 h52_3 h52_4 h52_5 h52_6 h52_7 h52_8 h52_9 hl
      have hx52_0 := h52_5
      clear h52_5
      have hx52_1 := h52_6
      clear h52_6
      have hx52_2 := h52_7
      clear h52_7
      have hx52_3 := h52_8
      clear h52_8
      have hx52_4 := h52_9
      clear h52_9
      have hMI := h52_0
      have hFz := h52_4
      refine lv_iload_n hx hb dX10_ground_52 rfl (lv_at hl 1 rfl) ?_
      have K71 : ∀  (vl : Vf) (H : Heap) (locs : List Loc) (ls : Array Slot), va_P (eD E) vwCl (mdL E am vl) H → va_D A (mdL E am vl) → va_S A s.heap H locs → (MdI vl) → (0 ≤ f.toInt ∧ f.toInt ≤ 4) → (f.toInt = 0 → RdM vl) → (fr [0, 1, 2, 3, 4, 5, 6, 7, 8, 9, 10, 11, 12, 13, 14, 15, 16, 17, 18, 19, 20, 21, 22, 23, 24, 25, 26, 27, 28, 29, 32, 33, 34, 35, 36, 37, 38, 39, 40, 41, 42, 43, 44, 45, 46, 47, 48, 49, 50, 51, 52, 53, 54, 55, 56, 57, 58, 59, 60, 61, 67, 75, 78] vm vl) → ((∀ j : Nat, (j : Int) < (vm 32 0).toInt → 0 ≤ (vm 31 j).toInt) → (f.toInt ≠ 0 ∧ textF (vm 31) (vm 32 0).toInt 251 0 (SI (gr0 vm)) = .inl (f.toInt, (vl 33 0).toInt)) ∨ (f.toInt = 0 ∧ (vl 33 0).toInt = -1 ∧ textF (vm 31) (vm 32 0).toInt 251 0 (SI (gr0 vm)) = .inr S ∧ SM S vl)) → (fr lG10 vm vl) → lv_has ls 2 [(0, .ref (am 0)), (1, .int f)] → W p l e (headSpec wsX10_ground rm_X10_ground).room s m ([.ref (am 0)] : List Value).toArray below meth c H locs 0 0 Q (F0 m 71 ls []) := by
        intro vl H locs ls hP hD hS h71_0 h71_1 h71_2 h71_3 h71_4 h71_5 hl
        have hx71_0 := h71_4
        clear h71_4
        have hx71_1 := h71_5
        clear h71_5
        have hMI := h71_0
        have hFz := h71_3
        refine lv_aload_n hx hb dX10_ground_71 rfl (lv_at hl 0 rfl) ?_
        refine lv_iconst (v := 0) hx hb dX10_ground_72 (by decide) ?_
        refine va_put (D := eD E) (ci := 10) (v := .int 0) (ty := .int) (C := RX10) (T := TX10) (N := 79) hx hb hts in_X10 tyX10 tyX10_ok nmX10 hown hK hP hD hS 0 rfl rfl 32 (by decide) lk10 (fun _ h9 => h9) rfl (by decide +kernel) rfl rfl (Nat.le_of_ble_eq_true rfl) dX10_ground_73 (fun H locs hP hD hS => ?_)
        replace hP : va_P (eD E) vwCl (mdL E am (up2 vl 32 0 0)) H := hP
        replace hD : va_D A (mdL E am (up2 vl 32 0 0)) := hD
        generalize hv73 : up2 vl 32 0 0 = vm_73 at hP hD
        have hFz : fr [0, 1, 2, 3, 4, 5, 6, 7, 8, 9, 10, 11, 12, 13, 14, 15, 16, 17, 18, 19, 20, 21, 22, 23, 24, 25, 26, 27, 28, 29, 32, 33, 34, 35, 36, 37, 38, 39, 40, 41, 42, 43, 44, 45, 46, 47, 48, 49, 50, 51, 52, 53, 54, 55, 56, 57, 58, 59, 60, 61, 67, 75, 78] vm vm_73 := by first | exact hFz | (rw [← hv73]; exact hFz.up (by decide))
        have hMI : MdI vm_73 := by rw [← hv73]; exact md_txt0 hMI
        have hz73 : vm_73 32 0 = 0 := by rw [← hv73]; rfl
        refine lv_iload_n hx hb dX10_ground_76 rfl (lv_at hl 1 rfl) ?_
        refine lv_if_le (tgt := 85) hx hb dX10_ground_77 (by decide) (fun c77 => ?_) (fun c77 => ?_)
        · have c77_ := i_le c77
          have hRd : RdM vm_73 := by rw [← hv73]; exact h71_2 (by omega)
          refine lv_aload_n hx hb dX10_ground_85 rfl (lv_at hl 0 rfl) ?_
          refine mt_Vv (w1 := fun (u : Vf) => mdL E am u) (wf := fun (u : Vf) => mdL E am u) (wr := []) (As := []) (rest := []) (C := RX10) (ci := 10) ⟨hx, hb, hml, hown, hts⟩ (c_X10_takeRead l E H.size am vm_73 hMI hRd) (cwV 0 hts gX10_ground_X10_takeRead rfl rfl rfl (by decide +kernel) ⟨Nat.le_of_ble_eq_true rfl, Nat.le_of_ble_eq_true rfl⟩) hE hS hA hP hD [0, 1, 2, 3, 4, 5, 6, 7, 8, 9, 10, 11, 12, 13, 14, 15, 16, 17, 18, 19, 20, 21, 22, 23, 24, 25, 26, 27, 28, 29, 30, 31, 32, 33, 34, 35, 36, 37, 38, 39, 40, 41, 42, 43, 44, 45] [] rfl rfl (by decide) (by decide) (by decide) [0, 1, 2, 3, 4, 5, 6, 7, 8, 9, 10, 11, 12, 13, 14, 15, 16, 17, 18, 19, 20, 21, 22, 23, 24, 25, 26, 27, 28, 29, 30, 31, 32, 33, 34, 35, 36, 37, 38, 39, 40, 41, 42, 43, 44, 45] (by decide) (fun u => rfl) rfl rfl rfl rfl hl.1 rfl (Nat.le_of_ble_eq_true rfl) dX10_ground_86 ⟨Nat.zero_le _, Nat.zero_le _⟩ (fun u86 H locs h86 hP hD hS => ?_)
          generalize u86 = o86_vm at hP hD h86
          try dsimp only at h86
          have hf86 := h86.2
          replace h86 := h86.1
          have hFn86 := h86.2
          replace h86 := h86.1
          replace hP : va_P (eD E) vwCl (mdL E am o86_vm) H := hP
          replace hD : va_D A (mdL E am o86_vm) := hD
          have hFz : fr [0, 1, 2, 3, 4, 5, 6, 7, 8, 9, 10, 11, 12, 13, 14, 15, 16, 17, 18, 19, 20, 21, 22, 23, 24, 25, 26, 27, 28, 29, 32, 33, 34, 35, 36, 37, 38, 39, 40, 41, 42, 43, 44, 45, 46, 47, 48, 49, 50, 51, 52, 53, 54, 55, 56, 57, 58, 59, 60, 61, 67, 75, 78] vm o86_vm := by first | exact hFz | exact hFz.tr hFn86 (by decide) | (rw [← hv86]; repeat' (first | exact hFz | refine fr.up ?_ (by decide) | refine fr.up3 ?_ (by decide)))
          have hz86 : o86_vm 32 0 = 0 := by rw [h86.1.1 32 (by omega)]; exact hz73
          have hq86 : o86_vm 33 = vl 33 ∧ o86_vm 0 0 = vl 37 0 ∧ o86_vm 1 0 = vl 38 0 := ⟨by rw [h86.1.1 33 (by omega), ← hv73]; rfl, by rw [h86.1.2.1.1, ← hv73]; rfl, by rw [h86.1.2.1.2.1, ← hv73]; rfl⟩
          have hq86h : o86_vm 9 0 = vl 48 0 := by rw [h86.1.2.1.2.2.2.1, ← hv73]; rfl
          refine lv_aload_n hx hb dX10_ground_89 rfl (lv_at hl 0 rfl) ?_
          refine lv_iconst (v := 0) hx hb dX10_ground_90 (by decide) ?_
          refine va_put (D := eD E) (ci := 10) (v := .int 0) (ty := .int) (C := RX10) (T := TX10) (N := 79) hx hb hts in_X10 tyX10 tyX10_ok nmX10 hown hK hP hD hS 0 rfl rfl 23 (by decide) lk11 (fun _ h9 => h9) rfl (by decide +kernel) rfl rfl (Nat.le_of_ble_eq_true rfl) dX10_ground_91 (fun H locs hP hD hS => ?_)
          replace hP : va_P (eD E) vwCl (mdL E am (up2 o86_vm 23 0 0)) H := hP
          replace hD : va_D A (mdL E am (up2 o86_vm 23 0 0)) := hD
          generalize hv91 : up2 o86_vm 23 0 0 = vm_91 at hP hD
          have hFz : fr [0, 1, 2, 3, 4, 5, 6, 7, 8, 9, 10, 11, 12, 13, 14, 15, 16, 17, 18, 19, 20, 21, 22, 23, 24, 25, 26, 27, 28, 29, 32, 33, 34, 35, 36, 37, 38, 39, 40, 41, 42, 43, 44, 45, 46, 47, 48, 49, 50, 51, 52, 53, 54, 55, 56, 57, 58, 59, 60, 61, 67, 75, 78] vm vm_91 := by first | exact hFz | (rw [← hv91]; exact hFz.up (by decide))
          refine lv_aload_n hx hb dX10_ground_94 rfl (lv_at hl 0 rfl) ?_
          refine lv_iconst (v := 0) hx hb dX10_ground_95 (by decide) ?_
          refine va_put (D := eD E) (ci := 10) (v := .int 0) (ty := .int) (C := RX10) (T := TX10) (N := 79) hx hb hts in_X10 tyX10 tyX10_ok nmX10 hown hK hP hD hS 0 rfl rfl 27 (by decide) lk12 (fun _ h9 => h9) rfl (by decide +kernel) rfl rfl (Nat.le_of_ble_eq_true rfl) dX10_ground_96 (fun H locs hP hD hS => ?_)
          replace hP : va_P (eD E) vwCl (mdL E am (up2 vm_91 27 0 0)) H := hP
          replace hD : va_D A (mdL E am (up2 vm_91 27 0 0)) := hD
          generalize hv96 : up2 vm_91 27 0 0 = vm_96 at hP hD
          have hFz : fr [0, 1, 2, 3, 4, 5, 6, 7, 8, 9, 10, 11, 12, 13, 14, 15, 16, 17, 18, 19, 20, 21, 22, 23, 24, 25, 26, 27, 28, 29, 32, 33, 34, 35, 36, 37, 38, 39, 40, 41, 42, 43, 44, 45, 46, 47, 48, 49, 50, 51, 52, 53, 54, 55, 56, 57, 58, 59, 60, 61, 67, 75, 78] vm vm_96 := by first | exact hFz | (rw [← hv96]; exact hFz.up (by decide))
          refine lv_aload_n hx hb dX10_ground_99 rfl (lv_at hl 0 rfl) ?_
          refine lv_iconst (v := 0) hx hb dX10_ground_100 (by decide) ?_
          refine va_put (D := eD E) (ci := 10) (v := .int 0) (ty := .int) (C := RX10) (T := TX10) (N := 79) hx hb hts in_X10 tyX10 tyX10_ok nmX10 hown hK hP hD hS 0 rfl rfl 28 (by decide) lk13 (fun _ h9 => h9) rfl (by decide +kernel) rfl rfl (Nat.le_of_ble_eq_true rfl) dX10_ground_101 (fun H locs hP hD hS => ?_)
          replace hP : va_P (eD E) vwCl (mdL E am (up2 vm_96 28 0 0)) H := hP
          replace hD : va_D A (mdL E am (up2 vm_96 28 0 0)) := hD
          generalize hv101 : up2 vm_96 28 0 0 = vm_101 at hP hD
          have hFz : fr [0, 1, 2, 3, 4, 5, 6, 7, 8, 9, 10, 11, 12, 13, 14, 15, 16, 17, 18, 19, 20, 21, 22, 23, 24, 25, 26, 27, 28, 29, 32, 33, 34, 35, 36, 37, 38, 39, 40, 41, 42, 43, 44, 45, 46, 47, 48, 49, 50, 51, 52, 53, 54, 55, 56, 57, 58, 59, 60, 61, 67, 75, 78] vm vm_101 := by first | exact hFz | (rw [← hv101]; exact hFz.up (by decide))
          refine lv_aload_n hx hb dX10_ground_104 rfl (lv_at hl 0 rfl) ?_
          refine lv_bipush (v := 20) hx hb dX10_ground_105 (by decide) ?_
          refine va_put (D := eD E) (ci := 10) (v := .int 20) (ty := .int) (C := RX10) (T := TX10) (N := 79) hx hb hts in_X10 tyX10 tyX10_ok nmX10 hown hK hP hD hS 0 rfl rfl 29 (by decide) lk14 (fun _ h9 => h9) rfl (by decide +kernel) rfl rfl (Nat.le_of_ble_eq_true rfl) dX10_ground_107 (fun H locs hP hD hS => ?_)
          replace hP : va_P (eD E) vwCl (mdL E am (up2 vm_101 29 0 20)) H := hP
          replace hD : va_D A (mdL E am (up2 vm_101 29 0 20)) := hD
          generalize hv107 : up2 vm_101 29 0 20 = vm_107 at hP hD
          have hFz : fr [0, 1, 2, 3, 4, 5, 6, 7, 8, 9, 10, 11, 12, 13, 14, 15, 16, 17, 18, 19, 20, 21, 22, 23, 24, 25, 26, 27, 28, 29, 32, 33, 34, 35, 36, 37, 38, 39, 40, 41, 42, 43, 44, 45, 46, 47, 48, 49, 50, 51, 52, 53, 54, 55, 56, 57, 58, 59, 60, 61, 67, 75, 78] vm vm_107 := by first | exact hFz | (rw [← hv107]; exact hFz.up (by decide))
          refine lv_aload_n hx hb dX10_ground_110 rfl (lv_at hl 0 rfl) ?_
          refine lv_iconst (v := 0) hx hb dX10_ground_111 (by decide) ?_
          refine va_put (D := eD E) (ci := 10) (v := .int 0) (ty := .int) (C := RX10) (T := TX10) (N := 79) hx hb hts in_X10 tyX10 tyX10_ok nmX10 hown hK hP hD hS 0 rfl rfl 67 (by decide) lk15 (fun _ h9 => h9) rfl (by decide +kernel) rfl rfl (Nat.le_of_ble_eq_true rfl) dX10_ground_112 (fun H locs hP hD hS => ?_)
          replace hP : va_P (eD E) vwCl (mdL E am (up2 vm_107 67 0 0)) H := hP
          replace hD : va_D A (mdL E am (up2 vm_107 67 0 0)) := hD
          generalize hv112 : up2 vm_107 67 0 0 = vm_112 at hP hD
          have hFz : fr [0, 1, 2, 3, 4, 5, 6, 7, 8, 9, 10, 11, 12, 13, 14, 15, 16, 17, 18, 19, 20, 21, 22, 23, 24, 25, 26, 27, 28, 29, 32, 33, 34, 35, 36, 37, 38, 39, 40, 41, 42, 43, 44, 45, 46, 47, 48, 49, 50, 51, 52, 53, 54, 55, 56, 57, 58, 59, 60, 61, 67, 75, 78] vm vm_112 := by first | exact hFz | (rw [← hv112]; exact hFz.up (by decide))
          refine lv_aload_n hx hb dX10_ground_115 rfl (lv_at hl 0 rfl) ?_
          refine lv_iconst (v := 0) hx hb dX10_ground_116 (by decide) ?_
          refine va_put (D := eD E) (ci := 10) (v := .int 0) (ty := .int) (C := RX10) (T := TX10) (N := 79) hx hb hts in_X10 tyX10 tyX10_ok nmX10 hown hK hP hD hS 0 rfl rfl 75 (by decide) lk16 (fun _ h9 => h9) rfl (by decide +kernel) rfl rfl (Nat.le_of_ble_eq_true rfl) dX10_ground_117 (fun H locs hP hD hS => ?_)
          replace hP : va_P (eD E) vwCl (mdL E am (up2 vm_112 75 0 0)) H := hP
          replace hD : va_D A (mdL E am (up2 vm_112 75 0 0)) := hD
          generalize hv117 : up2 vm_112 75 0 0 = vm_117 at hP hD
          have hFz : fr [0, 1, 2, 3, 4, 5, 6, 7, 8, 9, 10, 11, 12, 13, 14, 15, 16, 17, 18, 19, 20, 21, 22, 23, 24, 25, 26, 27, 28, 29, 32, 33, 34, 35, 36, 37, 38, 39, 40, 41, 42, 43, 44, 45, 46, 47, 48, 49, 50, 51, 52, 53, 54, 55, 56, 57, 58, 59, 60, 61, 67, 75, 78] vm vm_117 := by first | exact hFz | (rw [← hv117]; exact hFz.up (by decide))
          have hMI : MdI vm_117 := by rw [← hv117, ← hv112, ← hv107, ← hv101, ← hv96, ← hv91]; exact tr_fin hMI hRd h86.1 h86.2
          have hz117 : vm_117 32 0 = 0 := by rw [← hv117, ← hv112, ← hv107, ← hv101, ← hv96, ← hv91]; exact hz86
          refine lv_aload_n hx hb dX10_ground_120 rfl (lv_at hl 0 rfl) ?_
          refine va_get (D := eD E) (ci := 10) (v := .ref (am 78)) (C := RX10) (T := TX10) (N := 79) hx hb hts in_X10 hown hK hP 0 rfl rfl 78 (by decide) lk17 (fun _ h9 => h9) rfl dX10_ground_121 ?_
          refine lv_iconst (v := 0) hx hb dX10_ground_124 (by decide) ?_
          refine lv_iconst (v := 0) hx hb dX10_ground_125 (by decide) ?_
          refine va_zast hx hb hK hP hD hS 45 1 rfl rfl (n := 2) (f := (vm_117 78)) (i_in (by omega) (by omega)) dX10_ground_126 (fun H locs hP hD hS => ?_)
          replace hP : va_P (eD E) vwCl (mdL E am (up2 vm_117 78 0 0)) H := hP
          replace hD : va_D A (mdL E am (up2 vm_117 78 0 0)) := hD
          generalize hv126 : up2 vm_117 78 0 0 = vm_126 at hP hD
          have hFz : fr [0, 1, 2, 3, 4, 5, 6, 7, 8, 9, 10, 11, 12, 13, 14, 15, 16, 17, 18, 19, 20, 21, 22, 23, 24, 25, 26, 27, 28, 29, 32, 33, 34, 35, 36, 37, 38, 39, 40, 41, 42, 43, 44, 45, 46, 47, 48, 49, 50, 51, 52, 53, 54, 55, 56, 57, 58, 59, 60, 61, 67, 75, 78] vm vm_126 := by first | exact hFz | (rw [← hv126]; exact hFz.up (by decide))
          have hMI : MdI vm_126 := by rw [← hv126]; exact hMI
          refine lv_aload_n hx hb dX10_ground_127 rfl (lv_at hl 0 rfl) ?_
          refine va_get (D := eD E) (ci := 10) (v := .ref (am 78)) (C := RX10) (T := TX10) (N := 79) hx hb hts in_X10 hown hK hP 0 rfl rfl 78 (by decide) lk17 (fun _ h9 => h9) rfl dX10_ground_128 ?_
          refine lv_iconst (v := 1) hx hb dX10_ground_131 (by decide) ?_
          refine lv_iconst (v := 0) hx hb dX10_ground_132 (by decide) ?_
          refine va_zast hx hb hK hP hD hS 45 1 rfl rfl (n := 2) (f := (vm_126 78)) (i_in (by omega) (by omega)) dX10_ground_133 (fun H locs hP hD hS => ?_)
          replace hP : va_P (eD E) vwCl (mdL E am (up2 vm_126 78 1 0)) H := hP
          replace hD : va_D A (mdL E am (up2 vm_126 78 1 0)) := hD
          generalize hv133 : up2 vm_126 78 1 0 = vm_133 at hP hD
          have hFz : fr [0, 1, 2, 3, 4, 5, 6, 7, 8, 9, 10, 11, 12, 13, 14, 15, 16, 17, 18, 19, 20, 21, 22, 23, 24, 25, 26, 27, 28, 29, 32, 33, 34, 35, 36, 37, 38, 39, 40, 41, 42, 43, 44, 45, 46, 47, 48, 49, 50, 51, 52, 53, 54, 55, 56, 57, 58, 59, 60, 61, 67, 75, 78] vm vm_133 := by first | exact hFz | (rw [← hv133]; exact hFz.up (by decide))
          have hMI : MdI vm_133 := by rw [← hv133]; exact hMI
          have hH := hMI.1
          have hz133 : (vm_133 32 0).toInt = 0 := by rw [← hv133]; show (vm_126 32 0).toInt = 0; rw [← hv126]; show (vm_117 32 0).toInt = 0; rw [hz117]; decide
          have hq133 : vm_133 33 = vl 33 ∧ vm_133 0 0 = vl 37 0 ∧ vm_133 1 0 = vl 38 0 := by rw [← hv133, ← hv126, ← hv117, ← hv112, ← hv107, ← hv101, ← hv96, ← hv91]; exact hq86
          have hq133h : vm_133 9 0 = vl 48 0 := by rw [← hv133, ← hv126, ← hv117, ← hv112, ← hv107, ← hv101, ← hv96, ← hv91]; exact hq86h
          refine lv_aload_n hx hb dX10_ground_134 rfl (lv_at hl 0 rfl) ?_
          refine rd_V (As := []) (rest := []) (C := RX10) (ci := 10) ⟨hx, hb, hml, hown, hts⟩ (c_X10_cells l E A am vm_133 hH) (cwV 0 hts gX10_ground_X10_cells rfl rfl rfl (by decide +kernel) ⟨Nat.le_of_ble_eq_true rfl, Nat.le_of_ble_eq_true rfl⟩) (hE.kept hS.2.1) (hP.sub (ws' := mdL E am vm_133) [0, 1, 2, 3, 4, 5, 6, 7, 8, 9, 10, 11, 12, 13, 14, 15, 16, 17, 18, 19, 20, 21, 22, 23, 24, 25, 26, 27, 28, 29, 30, 31, 32, 33, 34, 35, 36, 37, 38, 39, 40, 41, 42, 43, 44, 45] rfl) rfl rfl rfl rfl hl.1 rfl (Nat.le_of_ble_eq_true rfl) dX10_ground_135 ⟨Nat.zero_le _, Nat.zero_le _⟩ (fun r135 h135 => ?_)
          subst hQ
          exact W.iret (v := r135) hx hb hr (fun t ht hW => ⟨⟨r135, (vm_133), rfl, (show ((MdI vm_133 ∧ (vm_133 32 0).toInt = 0) ∧ fr [0, 1, 2, 3, 4, 5, 6, 7, 8, 9, 10, 11, 12, 13, 14, 15, 16, 17, 18, 19, 20, 21, 22, 23, 24, 25, 26, 27, 28, 29, 32, 33, 34, 35, 36, 37, 38, 39, 40, 41, 42, 43, 44, 45, 46, 47, 48, 49, 50, 51, 52, 53, 54, 55, 56, 57, 58, 59, 60, 61, 67, 75, 78] vm vm_133) ∧ (((∀ j : Nat, (j : Int) < (vm 32 0).toInt → 0 ≤ (vm 31 j).toInt) → GrM (textF (vm 31) (vm 32 0).toInt 251 0 (SI (gr0 vm))) r135.toInt (vm_133 33 0).toInt (fun S => RpMF S vm_133)) ∧ (GrD r135 vm vm_133)) from ⟨⟨⟨hMI, hz133⟩, hFz⟩, ⟨(fun hL => by have q := (hx71_0 hL).resolve_left (fun z => absurd z.1 (by omega)); exact Or.inr ⟨S, q.2.2.1, by rw [q.2.2.2 37 (by decide) 0, q.2.2.2 38 (by decide) 0, ← hq133.2.1, ← hq133.2.2]; exact h135.1, by rw [hq133.1]; exact q.2.1, ⟨vm_73, (fun t h1 h2 j => by rw [q.2.2.2 t (Or.inr ⟨h1, h2⟩) j, ← hv73, up2_ne (show t ≠ 32 by omega)]), (by rw [← hv133, ← hv126, ← hv117, ← hv112, ← hv107, ← hv101, ← hv96, ← hv91]; exact h86.1.2.1), (by rw [← hv133, ← hv126, ← hv117, ← hv112, ← hv107, ← hv101, ← hv96, ← hv91]; exact hf86.2)⟩⟩), (Or.inr ⟨h135.2.1, (by rw [← hv133, ← hv126, ← hv117, ← hv112, ← hv107, ← hv101, ← hv96, ← hv91]; exact ⟨rfl, hf86.1.1, hf86.1.2.1, hf86.1.2.2, rfl, rfl, rfl⟩), (by rw [← hv133, ← hv126, ← hv117, ← hv112, ← hv107, ← hv101, ← hv96, ← hv91]; exact ⟨rfl, rfl⟩), (by rw [← hv133, ← hv126, ← hv117, ← hv112, ← hv107, ← hv101, ← hv96, ← hv91]; exact ⟨rfl, rfl⟩)⟩)⟩⟩), by rw [ht]; exact hP, hD⟩, hS.F ht⟩) hS.2.2 dX10_ground_138
        · have c77_ := i_nle c77
          refine lv_bipush (v := (-10)) hx hb dX10_ground_80 (by decide) ?_
          refine lv_iload_n hx hb dX10_ground_82 rfl (lv_at hl 1 rfl) ?_
          refine lv_isub hx hb dX10_ground_83 ?_
          refine lv_topi (fun x83 e83 => ?_)
          have t83 := i_sub e83 (by omega)
          subst hQ
          exact W.iret (v := x83) hx hb hr (fun t ht hW => ⟨⟨x83, (vm_73), rfl, (show ((MdI vm_73 ∧ (vm_73 32 0).toInt = 0) ∧ fr [0, 1, 2, 3, 4, 5, 6, 7, 8, 9, 10, 11, 12, 13, 14, 15, 16, 17, 18, 19, 20, 21, 22, 23, 24, 25, 26, 27, 28, 29, 32, 33, 34, 35, 36, 37, 38, 39, 40, 41, 42, 43, 44, 45, 46, 47, 48, 49, 50, 51, 52, 53, 54, 55, 56, 57, 58, 59, 60, 61, 67, 75, 78] vm vm_73) ∧ (((∀ j : Nat, (j : Int) < (vm 32 0).toInt → 0 ≤ (vm 31 j).toInt) → GrM (textF (vm 31) (vm 32 0).toInt 251 0 (SI (gr0 vm))) x83.toInt (vm_73 33 0).toInt (fun S => RpMF S vm_73)) ∧ (GrD x83 vm vm_73)) from ⟨⟨⟨hMI, by rw [hz73]; decide⟩, hFz⟩, ⟨(fun hL => by rw [← hv73]; exact Or.inl ⟨_, _, ((hx71_0 hL).resolve_right (fun z => absurd z.1 (by omega))).2, (by omega), rfl⟩), (Or.inl ⟨by omega, (by rw [← hv73]; exact hx71_1.up (by decide))⟩)⟩⟩), by rw [ht]; exact hP, hD⟩, hS.F ht⟩) hS.2.2 dX10_ground_84
      refine lv_if_ne (tgt := 71) hx hb dX10_ground_53 (by decide) (fun c53 => ?_) (fun c53 => ?_)
      · have c53_ := i_ne c53
        have hnz : f.toInt ≠ 0 := by omega
        exact K71  vk _ _ ls hP hD hS hMI (by omega) (by first | exact fun q => absurd q (by omega) | exact fun _ => hRd) hFz (by first | exact fun _ => Or.inl (hx52_0.resolve_right (fun z => absurd z.1 hnz)) | exact fun hL => Or.inr ⟨hz0, gend hL⟩) (by first | exact hx52_4.tr hFn57 (by decide) | exact hx52_4) (lv_sub hl [0, 1] rfl)
      · have c53_ := i_eq c53
        have hat := (h52_2 (by omega)).1
        have hRd := (h52_2 (by omega)).2
        refine lv_aload_n hx hb dX10_ground_56 rfl (lv_at hl 0 rfl) ?_
        refine mt_Vi (w1 := fun (u : Vf) => mdL E am u) (wf := fun (u : Vf) => mdL E am u) (wr := []) (As := []) (rest := []) (C := RX10) (ci := 10) ⟨hx, hb, hml, hown, hts⟩ (c_X10_here l E H.size am vk hMI hat) (cwV 0 hts gX10_ground_X10_here rfl rfl rfl (by decide +kernel) ⟨Nat.le_of_ble_eq_true rfl, Nat.le_of_ble_eq_true rfl⟩) hE hS hA hP hD [0, 1, 2, 3, 4, 5, 6, 7, 8, 9, 10, 11, 12, 13, 14, 15, 16, 17, 18, 19, 20, 21, 22, 23, 24, 25, 26, 27, 28, 29, 30, 31, 32, 33, 34, 35, 36, 37, 38, 39, 40, 41, 42, 43, 44, 45] [] rfl rfl (by decide) (by decide) (by decide) [0, 1, 2, 3, 4, 5, 6, 7, 8, 9, 10, 11, 12, 13, 14, 15, 16, 17, 18, 19, 20, 21, 22, 23, 24, 25, 26, 27, 28, 29, 30, 31, 32, 33, 34, 35, 36, 37, 38, 39, 40, 41, 42, 43, 44, 45] (by decide) (fun u => rfl) rfl rfl rfl rfl hl.1 rfl (Nat.le_of_ble_eq_true rfl) dX10_ground_57 ⟨Nat.zero_le _, Nat.zero_le _⟩ (fun r57 u57 H locs h57 hP hD hS => ?_)
        generalize u57 = o57_vm at hP hD h57
        try dsimp only at h57
        have hf57 := h57.2
        replace h57 := h57.1
        have hFn57 := h57.2
        replace h57 := h57.1
        replace hP : va_P (eD E) vwCl (mdL E am o57_vm) H := hP
        replace hD : va_D A (mdL E am o57_vm) := hD
        have hFz : fr [0, 1, 2, 3, 4, 5, 6, 7, 8, 9, 10, 11, 12, 13, 14, 15, 16, 17, 18, 19, 20, 21, 22, 23, 24, 25, 26, 27, 28, 29, 32, 33, 34, 35, 36, 37, 38, 39, 40, 41, 42, 43, 44, 45, 46, 47, 48, 49, 50, 51, 52, 53, 54, 55, 56, 57, 58, 59, 60, 61, 67, 75, 78] vm o57_vm := by first | exact hFz | exact hFz.tr hFn57 (by decide) | (rw [← hv57]; repeat' (first | exact hFz | refine fr.up ?_ (by decide) | refine fr.up3 ?_ (by decide)))
        have hMI : MdI o57_vm := hMI.sn h57.1
        have hat := h57.2.1
        have hRd : RdM o57_vm := hRd.sn h57.1
        have hm57 := h57.2.2.1
        have hp57 := hf57.1
        have hg57 := hf57.2.2
        have hfr57 := hf57.2.1
        rw [(hx52_1 (by omega)).1, (hx52_1 (by omega)).2] at hp57 hg57
        have hSM : SM S o57_vm := (hx52_3 (by omega)).sn h57.1
        have hT57 : o57_vm 31 = vm 31 ∧ o57_vm 32 = vm 32 := ⟨(h57.1 31 (by decide) (by decide) (by decide) (by decide)).trans (hx52_1 (by omega)).1, (h57.1 32 (by decide) (by decide) (by decide) (by decide)).trans (hx52_1 (by omega)).2⟩
        refine lv_if_lt (tgt := 71) hx hb dX10_ground_60 (by decide) (fun c60 => ?_) (fun c60 => ?_)
        · have c60_ := i_lt c60
          have hz0 : f.toInt = 0 := by omega
          have ha57 := hat.1
          have gend : (∀ j : Nat, (j : Int) < (vm 32 0).toInt → 0 ≤ (vm 31 j).toInt) → (o57_vm 33 0).toInt = -1 ∧ textF (vm 31) (vm 32 0).toInt 251 0 (SI (gr0 vm)) = .inr S ∧ SM S o57_vm := fun hL => by have hge : (vm 32 0).toInt ≤ (o57_vm 34 0).toInt := Int.not_lt.mp (fun q => by have z := hL (o57_vm 34 0).toInt.toNat (by omega); have z2 : tc (vm 31) (o57_vm 34 0).toInt = (vm 31 (o57_vm 34 0).toInt.toNat).toInt := rfl; omega); have z := hx52_0.fin hz0 (by rw [← hp57]; exact hge); exact ⟨by rw [hfr57.1]; exact z.1, z.2.1, hSM⟩
          exact K71  o57_vm _ _ ls hP hD hS hMI (by omega) (by first | exact fun q => absurd q (by omega) | exact fun _ => hRd) hFz (by first | exact fun _ => Or.inl (hx52_0.resolve_right (fun z => absurd z.1 hnz)) | exact fun hL => Or.inr ⟨hz0, gend hL⟩) (by first | exact hx52_4.tr hFn57 (by decide) | exact hx52_4) (lv_sub hl [0, 1] rfl)
        · have c60_ := i_nlt c60
          refine lv_aload_n hx hb dX10_ground_63 rfl (lv_at hl 0 rfl) ?_
          refine mt_Vi (w1 := fun (u : Vf) => mdL E am u) (wf := fun (u : Vf) => mdL E am u) (wr := []) (As := []) (rest := []) (C := RX10) (ci := 10) ⟨hx, hb, hml, hown, hts⟩ (c_X10_takeClause l E H.size am o57_vm S hMI hat hRd hSM) (cwV 0 hts gX10_ground_X10_takeClause rfl rfl rfl (by decide +kernel) ⟨Nat.le_of_ble_eq_true rfl, Nat.le_of_ble_eq_true rfl⟩) hE hS hA hP hD [0, 1, 2, 3, 4, 5, 6, 7, 8, 9, 10, 11, 12, 13, 14, 15, 16, 17, 18, 19, 20, 21, 22, 23, 24, 25, 26, 27, 28, 29, 30, 31, 32, 33, 34, 35, 36, 37, 38, 39, 40, 41, 42, 43, 44, 45] [] rfl rfl (by decide) (by decide) (by decide) [0, 1, 2, 3, 4, 5, 6, 7, 8, 9, 10, 11, 12, 13, 14, 15, 16, 17, 18, 19, 20, 21, 22, 23, 24, 25, 26, 27, 28, 29, 30, 31, 32, 33, 34, 35, 36, 37, 38, 39, 40, 41, 42, 43, 44, 45] (by decide) (fun u => rfl) rfl rfl rfl rfl hl.1 rfl (Nat.le_of_ble_eq_true rfl) dX10_ground_64 ⟨Nat.zero_le _, Nat.zero_le _⟩ (fun r64 u64 H locs h64 hP hD hS => ?_)
          generalize u64 = o64_vm at hP hD h64
          try dsimp only at h64
          have hf64 := h64.2
          replace h64 := h64.1
          have hFn64 := h64.2
          replace h64 := h64.1
          replace hP : va_P (eD E) vwCl (mdL E am o64_vm) H := hP
          replace hD : va_D A (mdL E am o64_vm) := hD
          have hFz : fr [0, 1, 2, 3, 4, 5, 6, 7, 8, 9, 10, 11, 12, 13, 14, 15, 16, 17, 18, 19, 20, 21, 22, 23, 24, 25, 26, 27, 28, 29, 32, 33, 34, 35, 36, 37, 38, 39, 40, 41, 42, 43, 44, 45, 46, 47, 48, 49, 50, 51, 52, 53, 54, 55, 56, 57, 58, 59, 60, 61, 67, 75, 78] vm o64_vm := by first | exact hFz | exact hFz.tr hFn64 (by decide) | (rw [← hv64]; repeat' (first | exact hFz | refine fr.up ?_ (by decide) | refine fr.up3 ?_ (by decide)))
          have hMI := h64.1
          have hz64 := h64.2.1
          have ha64 := h64.2.2.1
          have hb64 := h64.2.2.2.1
          have hs64 : r64.toInt ≠ 0 ∨ (o57_vm 34 0).toInt < (o64_vm 34 0).toInt := (Decidable.em (r64.toInt = 0)).elim (fun q => Or.inr (h64.2.2.2.2 q).2.2) Or.inl
          have hc64 := hf64.1
          rw [hT57.1, hT57.2, show skp (vm 31) (vm 32 0).toInt (o57_vm 34 0).toInt = (o57_vm 34 0).toInt by rw [hp57]; exact skp_skp] at hc64
          have hx64 : TxM (vm 31) (vm 32 0).toInt (SI (gr0 vm)) (ig + 1) (o64_vm 34 0).toInt r64.toInt (o64_vm 33 0).toInt (nextS (clauseF (vm 31) (vm 32 0).toInt S (o57_vm 34 0).toInt) S) o64_vm := TxM.next (z := (o57_vm 34 0).toInt) hx52_0 (by omega) (by omega) hp57 (by omega) (by rw [← hfr57.1]; exact hc64 (by omega))
          have hT64 : r64.toInt = 0 → o64_vm 31 = vm 31 ∧ o64_vm 32 = vm 32 := fun q => by have z := hf64.2 q; rw [hT57.1, hT57.2] at z; exact z
          refine lv_istore_n (lv' := [(1, .int r64), (0, .ref (am 0))]) hx hb dX10_ground_67 rfl hl (by decide) rfl (fun ls hl => ?_)
          refine lv_goto (tgt := 52) hx hb dX10_ground_68 (by decide) ?_
          exact ih52 r64 (nextS (clauseF (vm 31) (vm 32 0).toInt S (o57_vm 34 0).toInt) S) (ig + 1) o64_vm _ _ ls (by omega) hP hD hS hMI (by omega) (fun q => ⟨(h64.2.2.2.2 q).1, (h64.2.2.2.2 q).2.1⟩) (by omega) hFz hx64 hT64 (by omega) (fun q => (hx64.resolve_left (fun z => absurd q z.1)).2.2.2) ((hx52_4.tr hFn57 (by decide)).tr hFn64 (by decide)) (lv_sub hl [1, 0] rfl)
  exact K52 _ 0 (SI (gr0 vm)) 0 vm_47 _ _ ls (Nat.lt_succ_self _) hP hD hS hMI (by omega) (fun _ => ⟨hat, hRd⟩) (by omega) hFz (Or.inr ⟨n_0, hT47.2.2, by rw [hq47], hSM47⟩) (fun _ => ⟨hT47.1, hT47.2.1⟩) (by omega) (fun _ => hSM47) (by rw [hg47]; unfold gr0; repeat' (first | exact fr.rf | refine fr.up ?_ (by decide))) (lv_sub hl [1, 0] rfl)
