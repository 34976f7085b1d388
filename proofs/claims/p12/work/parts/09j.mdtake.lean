def rm_X10_takeGround : Room := { frames := 2, cells := 0, slots := 0, locals := 48 }
set_option maxHeartbeats 4000000 in
set_option maxRecDepth 100000 in
theorem c_X10_takeGround (l : Launch) (E : Ev) (sz : Nat) (am : Nat → Nat) (vm : Vf) (S : St0) (hMI : MdI vm) (hat : atI vm) (hRd : RdM vm) (hSM : SM S vm) : Met l yX10_takeGround wsX10_takeGround rm_X10_takeGround (MtP E sz [.ref (am 0)] (mdL E am vm)) (va_Qi (fun (r : Int32) (u : Vf) => ((MdI u ∧ atI u ∧ (vm 34 0).toInt ≤ (u 34 0).toInt ∧ (0 ≤ r.toInt ∧ r.toInt ≤ 4) ∧ (r.toInt = 0 → RdM u)) ∧ fr lRd vm u) ∧ ((vm 37 0).toInt ≤ 0 → ∀ wa, TK (groundP (vm 31) (vm 32 0).toInt S wa (vm 34 0).toInt) (groundF (vm 31) (vm 32 0).toInt S wa (vm 34 0).toInt) (vm 33 0).toInt r.toInt (u 33 0).toInt (fun x => (u 34 0).toInt = x.2.2.1 ∧ SM (groundS S x.1.1.1.1.2.1 x.1.1.1.2.1 x.1.2.1 x.2.1) u))) (MtB E (va_A (mdL E am vm) sz) (fun u => mdL E am u)) (va_A (mdL E am vm) sz)) 0 0 (va_A (mdL E am vm) sz) := by
  refine Met.ofW (cc := cX10_takeGround) (maxL := 5) (ret := (some .int)) (by decide) rfl ?_
  intro p e s m args below meth c s₁ B hml hv
  obtain ⟨rfl, hsz, hE, hP, hD0⟩ := hv
  subst hsz
  have hD := hD0.self (sz := s.heap.size)
  generalize hAe : va_A (mdL E am vm) s.heap.size = A at hD hE ⊢
  have hA : ∀ q : Nat, s.heap.size ≤ q → A q := fun q h => by rw [← hAe]; exact Or.inr h
  have hS : va_S A s.heap s.heap [] := va_S.rf
  have hx := B.exec
  have hb := B.bytes
  have hr := B.returns
  have hts := atoms_spec (ws := wsX10_takeGround) B.pre
  have hown : s.vm.findClass RX10 = some m.cls := findClass_of_methodNamed B.named
  have hlocks := B.notSynchronized
  have hK := hE.1
  have in_X10 : ∀ w ∈ u_ws RX10 TX10 79, w ∈ wsX10_takeGround := fun w h => List.mem_cons_of_mem _ (List.mem_append_right _ h)
  have lk0 := hts (.fieldLink RX10 198 "TidedGroundModel" "number" "I") (List.mem_of_getElem? (i := 1) rfl)
  have lk1 := hts (.fieldLink RX10 204 "TidedGroundModel" "readWide" "I") (List.mem_of_getElem? (i := 3) rfl)
  have lk2 := hts (.fieldLink RX10 207 "TidedGroundModel" "readDeep" "I") (List.mem_of_getElem? (i := 4) rfl)
  have lk3 := hts (.fieldLink RX10 77 "TidedGroundModel" "readBase" "[I") (List.mem_of_getElem? (i := 5) rfl)
  have lk4 := hts (.fieldLink RX10 80 "TidedGroundModel" "readSoft" "[I") (List.mem_of_getElem? (i := 6) rfl)
  have lk5 := hts (.fieldLink RX10 195 "TidedGroundModel" "numberAt" "I") (List.mem_of_getElem? (i := 2) rfl)
  have n_0 : (0 : Int32).toInt = 0 := by decide
  have n_1 : (1 : Int32).toInt = 1 := by decide
  have n_2 : (2 : Int32).toInt = 2 := by decide
  have n_6 : (6 : Int32).toInt = 6 := by decide
  have n_9 : (9 : Int32).toInt = 9 := by decide
  have n_24 : (24 : Int32).toInt = 24 := by decide
  have n_99 : (99 : Int32).toInt = 99 := by decide
  have hl := lv_entry ([.ref (am 0)]) (n := 5) (Nat.le_of_ble_eq_true rfl)
  rw [lg_entry_eq]
  generalize (lg_sl ([.ref (am 0)]) ++ List.replicate (5 - (lg_sl ([.ref (am 0)])).length) Slot.unset).toArray = ls at hl ⊢
  have hl : lv_has ls 5 [(0, .ref (am 0))] := hl
  refine W_abs (fun Q hQ => ?_)
  have hH := hMI.1
  obtain ⟨hT1, hT2, hT3, hT4, hT5⟩ := id hH.2.2.2.2.2.2
  obtain ⟨ha1, ha2⟩ := id hat
  have hs37 : S 37 0 = (vm 37 0).toInt := hSM 37 (by decide) 0
  have hck : (vm 37 0).toInt ≤ 0 → ∀ wa, chk (decide (1 ≤ S 37 0)) 3 wa = .inr () := fun hw wa => chk_off (by omega)
  have hFz : fr lRd vm vm := fr.rf
  refine lv_aload_n hx hb dX10_takeGround_0 rfl (lv_at hl 0 rfl) ?_
  refine lv_iconst (v := 1) hx hb dX10_takeGround_1 (by decide) ?_
  refine lv_bipush (v := 6) hx hb dX10_takeGround_2 (by decide) ?_
  refine mt_Vi (w1 := fun (u : Vf) => mdL E am u) (wf := fun (u : Vf) => mdL E am u) (wr := []) (As := [.int 1, .int 6]) (rest := []) (C := RX10) (ci := 10) ⟨hx, hb, hml, hown, hts⟩ (c_X10_takeNumber l E s.heap.size am vm 1 6 hMI hat) (cwV 2 hts gX10_takeGround_X10_takeNumber rfl rfl rfl (by decide +kernel) ⟨Nat.le_of_ble_eq_true rfl, Nat.le_of_ble_eq_true rfl⟩) hE hS hA hP hD [0, 1, 2, 3, 4, 5, 6, 7, 8, 9, 10, 11, 12, 13, 14, 15, 16, 17, 18, 19, 20, 21, 22, 23, 24, 25, 26, 27, 28, 29, 30, 31, 32, 33, 34, 35, 36, 37, 38, 39, 40, 41, 42, 43, 44, 45] [] rfl rfl (by decide) (by decide) (by decide) [0, 1, 2, 3, 4, 5, 6, 7, 8, 9, 10, 11, 12, 13, 14, 15, 16, 17, 18, 19, 20, 21, 22, 23, 24, 25, 26, 27, 28, 29, 30, 31, 32, 33, 34, 35, 36, 37, 38, 39, 40, 41, 42, 43, 44, 45] (by decide) (fun u => rfl) rfl rfl rfl rfl hl.1 rfl (Nat.le_of_ble_eq_true rfl) dX10_takeGround_4 ⟨Nat.zero_le _, Nat.zero_le _⟩ (fun r4 u4 H locs h4 hP hD hS => ?_)
  generalize u4 = o4_vm at hP hD h4
  try dsimp only at h4
  have hf4 := h4.2
  replace h4 := h4.1
  have hFn4 := h4.2
  replace h4 := h4.1
  replace hP : va_P (eD E) vwCl (mdL E am o4_vm) H := hP
  replace hD : va_D A (mdL E am o4_vm) := hD
  have hFz : fr lRd vm o4_vm := by first | exact hFz | exact hFz.tr hFn4 (by decide) | (rw [← hv4]; repeat' (first | exact hFz | refine fr.up ?_ (by decide) | refine fr.up3 ?_ (by decide)))
  have hMI4 : MdI o4_vm := hMI.sn h4.1
  have hat4 := h4.2.1
  rw [n_1, n_6] at hf4
  have hh4 := fun hw wa => MF.pre1 (hck hw wa) hf4
  refine lv_istore_n (lv' := [(1, .int r4), (0, .ref (am 0))]) hx hb dX10_takeGround_7 rfl hl (by decide) rfl (fun ls hl => ?_)
  refine lv_aload_n hx hb dX10_takeGround_8 rfl (lv_at hl 1 rfl) ?_
  refine va_get (D := eD E) (ci := 10) (v := .int (o4_vm 35 0)) (C := RX10) (T := TX10) (N := 79) hx hb hts in_X10 hown hK hP 0 rfl rfl 35 (by decide) lk0 (fun _ h9 => h9) rfl dX10_takeGround_9 ?_
  refine lv_istore_n (lv' := [(2, .int (o4_vm 35 0)), (1, .int r4), (0, .ref (am 0))]) hx hb dX10_takeGround_12 rfl hl (by decide) rfl (fun ls hl => ?_)
  refine lv_iload_n hx hb dX10_takeGround_13 rfl (lv_at hl 1 rfl) ?_
  have K28 : ∀  (fz : Int32) (vk : Vf) (H : Heap) (locs : List Loc) (ls : Array Slot), va_P (eD E) vwCl (mdL E am vk) H → va_D A (mdL E am vk) → va_S A s.heap H locs → (sn vm vk) → (atI vk) → ((vm 34 0).toInt ≤ (vk 34 0).toInt) → ((fz.toInt = 0 ∧ (1 ≤ (o4_vm 35 0).toInt ∧ (o4_vm 35 0).toInt ≤ 6) ∧ (1 ≤ (vk 35 0).toInt ∧ (vk 35 0).toInt ≤ 6)) ∨ (1 ≤ fz.toInt ∧ fz.toInt ≤ 2)) → (fr lRd vm vk) → ((vm 37 0).toInt ≤ 0 → ∀ wa, MF (groundQ (vm 31) (vm 32 0).toInt S wa (vm 34 0).toInt) (vm 33 0).toInt fz.toInt (vk 33 0).toInt (fun z => (o4_vm 35 0).toInt = z.1.2.1 ∧ (vk 35 0).toInt = z.2.1 ∧ (vk 34 0).toInt = z.2.2.1 ∧ (vk 36 0).toInt = z.2.2.2)) → lv_has ls 5 [(0, .ref (am 0)), (1, .int r4), (2, .int (o4_vm 35 0))] → W p l e (headSpec wsX10_takeGround rm_X10_takeGround).room s m ([.ref (am 0)] : List Value).toArray below meth c H locs 0 0 Q (F0 m 28 ls [.int fz]) := by
    intro fz vk H locs ls hP hD hS h28_0 h28_1 h28_2 h28_3 h28_4 h28_5 hl
    have hx28_0 := h28_5
    clear h28_5
    have hFz := h28_4
    refine lv_istore_n (lv' := [(1, .int fz), (0, .ref (am 0)), (2, .int (o4_vm 35 0))]) hx hb dX10_takeGround_28 rfl hl (by decide) rfl (fun ls hl => ?_)
    refine lv_iload_n hx hb dX10_takeGround_29 rfl (lv_at hl 0 rfl) ?_
    refine lv_if_le (tgt := 35) hx hb dX10_takeGround_30 (by decide) (fun c30 => ?_) (fun c30 => ?_)
    · have c30_ := i_le c30
      have hgd : fz.toInt = 0 := by omega
      refine lv_iload_n hx hb dX10_takeGround_35 rfl (lv_at hl 2 rfl) ?_
      refine lv_aload_n hx hb dX10_takeGround_36 rfl (lv_at hl 1 rfl) ?_
      refine va_get (D := eD E) (ci := 10) (v := .int (vk 35 0)) (C := RX10) (T := TX10) (N := 79) hx hb hts in_X10 hown hK hP 0 rfl rfl 35 (by decide) lk0 (fun _ h9 => h9) rfl dX10_takeGround_37 ?_
      have sv40_o4_vm350 : 1 ≤ (o4_vm 35 0).toInt ∧ (o4_vm 35 0).toInt ≤ 6 := by omega
      have sv40_vk350 : 1 ≤ (vk 35 0).toInt ∧ (vk 35 0).toInt ≤ 6 := by omega
      refine lv_imul hx hb dX10_takeGround_40 ?_
      refine lv_topi (fun x40 e40 => ?_)
      have t40 := i_mul66 e40 (by omega) (by omega)
      refine lv_bipush (v := 24) hx hb dX10_takeGround_41 (by decide) ?_
      refine lv_icmp_le (tgt := 56) hx hb dX10_takeGround_43 (by decide) (fun c43 => ?_) (fun c43 => ?_)
      · have c43_ := i_le c43
        have hhR : (vm 37 0).toInt ≤ 0 → ∀ wa, MF (groundR (vm 31) (vm 32 0).toInt S wa (vm 34 0).toInt) (vm 33 0).toInt 0 (vk 33 0).toInt (fun z : ((Unit × (Int × Int × Int)) × (Int × Int × Int)) × Unit => (o4_vm 35 0).toInt = z.1.1.2.1 ∧ (vk 35 0).toInt = z.1.2.1 ∧ (vk 34 0).toInt = z.1.2.2.1) := fun hw wa => MF.andOk (y := ()) (hx28_0 hw wa) hgd (((okF.chk (by decide)).th (fun _ => okF.num)).th (fun _ => okF.num)) (fun z hz => chk_off (by rw [← hz.1, ← hz.2.1]; omega)) rfl rfl (fun z _ hz => ⟨hz.1, hz.2.1, hz.2.2.1⟩)
        refine lv_aload_n hx hb dX10_takeGround_56 rfl (lv_at hl 1 rfl) ?_
        refine lv_iload_n hx hb dX10_takeGround_57 rfl (lv_at hl 2 rfl) ?_
        refine va_put (D := eD E) (ci := 10) (v := .int (o4_vm 35 0)) (ty := .int) (C := RX10) (T := TX10) (N := 79) hx hb hts in_X10 tyX10 tyX10_ok nmX10 hown hK hP hD hS 0 rfl rfl 37 (by decide) lk1 (fun _ h9 => h9) rfl (by decide +kernel) rfl rfl (Nat.le_of_ble_eq_true rfl) dX10_takeGround_58 (fun H locs hP hD hS => ?_)
        replace hP : va_P (eD E) vwCl (mdL E am (up2 vk 37 0 (o4_vm 35 0))) H := hP
        replace hD : va_D A (mdL E am (up2 vk 37 0 (o4_vm 35 0))) := hD
        generalize hv58 : up2 vk 37 0 (o4_vm 35 0) = vm_58 at hP hD
        have hFz : fr lRd vm vm_58 := by first | exact hFz | (rw [← hv58]; exact hFz.up (by decide))
        refine lv_aload_n hx hb dX10_takeGround_61 rfl (lv_at hl 1 rfl) ?_
        refine lv_aload_n hx hb dX10_takeGround_62 rfl (lv_at hl 1 rfl) ?_
        refine va_get (D := eD E) (ci := 10) (v := .int (vm_58 35 0)) (C := RX10) (T := TX10) (N := 79) hx hb hts in_X10 hown hK hP 0 rfl rfl 35 (by decide) lk0 (fun _ h9 => h9) rfl dX10_takeGround_63 ?_
        refine va_put (D := eD E) (ci := 10) (v := .int (vm_58 35 0)) (ty := .int) (C := RX10) (T := TX10) (N := 79) hx hb hts in_X10 tyX10 tyX10_ok nmX10 hown hK hP hD hS 0 rfl rfl 38 (by decide) lk2 (fun _ h9 => h9) rfl (by decide +kernel) rfl rfl (Nat.le_of_ble_eq_true rfl) dX10_takeGround_66 (fun H locs hP hD hS => ?_)
        replace hP : va_P (eD E) vwCl (mdL E am (up2 vm_58 38 0 (vm_58 35 0))) H := hP
        replace hD : va_D A (mdL E am (up2 vm_58 38 0 (vm_58 35 0))) := hD
        generalize hv66 : up2 vm_58 38 0 (vm_58 35 0) = vm_66 at hP hD
        have hFz : fr lRd vm vm_66 := by first | exact hFz | (rw [← hv66]; exact hFz.up (by decide))
        have hsl : scL lGr vm vm_66 := by rw [← hv66, ← hv58]; exact ((scL.rf.sn h28_0 (by decide)).up (by decide)).up (by decide)
        have hMI66 : MdI vm_66 := hMI.on (hsl.mem (by decide))
        have hat66 : atI vm_66 := by rw [← hv66, ← hv58]; exact h28_1
        have hq66w : vm_66 37 0 = (o4_vm 35 0) := by rw [← hv66, ← hv58]; rfl
        have hq66d : vm_66 38 0 = vk 35 0 := by rw [← hv66, ← hv58]; rfl
        have hq66a : (vm_66 34 0).toInt = (vk 34 0).toInt := by rw [← hv66, ← hv58]; rfl
        have hT66 : vm_66 31 = vm 31 ∧ vm_66 32 = vm 32 ∧ vm_66 33 = vk 33 ∧ vm_66 34 = vk 34 := by rw [← hv66, ← hv58]; exact ⟨h28_0 31 (by decide) (by decide) (by decide) (by decide), h28_0 32 (by decide) (by decide) (by decide) (by decide), rfl, rfl⟩
        have hG66 : vm_66 37 = upd (vm 37) 0 (o4_vm 35 0) ∧ vm_66 38 = upd (vm 38) 0 (vk 35 0) := by rw [← hv66, ← hv58]; exact ⟨by show upd (vk 37) 0 _ = _; rw [h28_0 37 (by decide) (by decide) (by decide) (by decide)], by show upd (vk 38) 0 _ = _; rw [h28_0 38 (by decide) (by decide) (by decide) (by decide)]; rfl⟩
        have hG39 : vm_66 39 = vm 39 ∧ vm_66 40 = vm 40 := by rw [← hv66, ← hv58]; exact ⟨h28_0 39 (by decide) (by decide) (by decide) (by decide), h28_0 40 (by decide) (by decide) (by decide) (by decide)⟩
        refine lv_aload_n hx hb dX10_takeGround_69 rfl (lv_at hl 1 rfl) ?_
        refine lv_iconst (v := 0) hx hb dX10_takeGround_70 (by decide) ?_
        refine lv_bipush (v := 99) hx hb dX10_takeGround_71 (by decide) ?_
        have hMI0 := hMI
        have hMI := hMI66
        have hat := hat66
        refine mt_Vi (w1 := fun (u : Vf) => mdL E am u) (wf := fun (u : Vf) => mdL E am u) (wr := []) (As := [.int 0, .int 99]) (rest := []) (C := RX10) (ci := 10) ⟨hx, hb, hml, hown, hts⟩ (c_X10_takeNumber l E H.size am vm_66 0 99 hMI hat) (cwV 2 hts gX10_takeGround_X10_takeNumber rfl rfl rfl (by decide +kernel) ⟨Nat.le_of_ble_eq_true rfl, Nat.le_of_ble_eq_true rfl⟩) hE hS hA hP hD [0, 1, 2, 3, 4, 5, 6, 7, 8, 9, 10, 11, 12, 13, 14, 15, 16, 17, 18, 19, 20, 21, 22, 23, 24, 25, 26, 27, 28, 29, 30, 31, 32, 33, 34, 35, 36, 37, 38, 39, 40, 41, 42, 43, 44, 45] [] rfl rfl (by decide) (by decide) (by decide) [0, 1, 2, 3, 4, 5, 6, 7, 8, 9, 10, 11, 12, 13, 14, 15, 16, 17, 18, 19, 20, 21, 22, 23, 24, 25, 26, 27, 28, 29, 30, 31, 32, 33, 34, 35, 36, 37, 38, 39, 40, 41, 42, 43, 44, 45] (by decide) (fun u => rfl) rfl rfl rfl rfl hl.1 rfl (Nat.le_of_ble_eq_true rfl) dX10_takeGround_73 ⟨Nat.zero_le _, Nat.zero_le _⟩ (fun r73 u73 H locs h73 hP hD hS => ?_)
        generalize u73 = o73_vm at hP hD h73
        try dsimp only at h73
        have hf73 := h73.2
        replace h73 := h73.1
        have hFn73 := h73.2
        replace h73 := h73.1
        replace hP : va_P (eD E) vwCl (mdL E am o73_vm) H := hP
        replace hD : va_D A (mdL E am o73_vm) := hD
        have hFz : fr lRd vm o73_vm := by first | exact hFz | exact hFz.tr hFn73 (by decide) | (rw [← hv73]; repeat' (first | exact hFz | refine fr.up ?_ (by decide) | refine fr.up3 ?_ (by decide)))
        have hMI73 : MdI o73_vm := hMI.sn h73.1
        have hat73 := h73.2.1
        have hn73 := hf73
        rw [n_0, n_99, hT66.1, hT66.2.1, hT66.2.2.1, hT66.2.2.2] at hn73
        have hhT := fun hw wa => MF.then (s := fun z : ((Unit × (Int × Int × Int)) × (Int × Int × Int)) × Unit => numF (vm 31) (vm 32 0).toInt 0 99 z.1.2.2.1) (hhR hw wa) rfl hn73 ((((okF.chk (by decide)).th (fun _ => okF.num)).th (fun _ => okF.num)).th (fun _ => (okF.chk (by decide)))) (fun z hz => by rw [hz.2.2])
        refine lv_istore_n (lv' := [(1, .int r73), (0, .ref (am 0)), (2, .int (o4_vm 35 0))]) hx hb dX10_takeGround_76 rfl hl (by decide) rfl (fun ls hl => ?_)
        refine lv_aload_n hx hb dX10_takeGround_77 rfl (lv_at hl 1 rfl) ?_
        refine va_get (D := eD E) (ci := 10) (v := .int (o73_vm 35 0)) (C := RX10) (T := TX10) (N := 79) hx hb hts in_X10 hown hK hP 0 rfl rfl 35 (by decide) lk0 (fun _ h9 => h9) rfl dX10_takeGround_78 ?_
        refine lv_istore_n (lv' := [(3, .int (o73_vm 35 0)), (1, .int r73), (0, .ref (am 0)), (2, .int (o4_vm 35 0))]) hx hb dX10_takeGround_81 rfl hl (by decide) rfl (fun ls hl => ?_)
        refine lv_iload_n hx hb dX10_takeGround_82 rfl (lv_at hl 1 rfl) ?_
        have K97 : ∀  (fy : Int32) (vl : Vf) (H : Heap) (locs : List Loc) (ls : Array Slot), va_P (eD E) vwCl (mdL E am vl) H → va_D A (mdL E am vl) → va_S A s.heap H locs → (sn vm_66 vl) → (atI vl) → ((vm 34 0).toInt ≤ (vl 34 0).toInt) → ((fy.toInt = 0 ∧ (0 ≤ (o73_vm 35 0).toInt ∧ (o73_vm 35 0).toInt ≤ 99) ∧ (0 ≤ (vl 35 0).toInt ∧ (vl 35 0).toInt ≤ 9)) ∨ (1 ≤ fy.toInt ∧ fy.toInt ≤ 2)) → (fr lRd vm vl) → ((vm 37 0).toInt ≤ 0 → ∀ wa, MF (groundP (vm 31) (vm 32 0).toInt S wa (vm 34 0).toInt) (vm 33 0).toInt fy.toInt (vl 33 0).toInt (fun z => (o4_vm 35 0).toInt = z.1.1.1.1.2.1 ∧ (vk 35 0).toInt = z.1.1.1.2.1 ∧ (o73_vm 35 0).toInt = z.1.2.1 ∧ (vl 35 0).toInt = z.2.1 ∧ (vl 34 0).toInt = z.2.2.1)) → lv_has ls 5 [(0, .ref (am 0)), (1, .int r73), (2, .int (o4_vm 35 0)), (3, .int (o73_vm 35 0))] → W p l e (headSpec wsX10_takeGround rm_X10_takeGround).room s m ([.ref (am 0)] : List Value).toArray below meth c H locs 0 0 Q (F0 m 97 ls [.int fy]) := by
          intro fy vl H locs ls hP hD hS h97_0 h97_1 h97_2 h97_3 h97_4 h97_5 hl
          have hx97_0 := h97_5
          clear h97_5
          have hFz := h97_4
          refine lv_istore_n (lv' := [(1, .int fy), (0, .ref (am 0)), (2, .int (o4_vm 35 0)), (3, .int (o73_vm 35 0))]) hx hb dX10_takeGround_97 rfl hl (by decide) rfl (fun ls hl => ?_)
          refine lv_iconst (v := 0) hx hb dX10_takeGround_98 (by decide) ?_
          refine lv_istore (lv' := [(4, .int 0), (1, .int fy), (0, .ref (am 0)), (2, .int (o4_vm 35 0)), (3, .int (o73_vm 35 0))]) hx hb dX10_takeGround_99 hl (by decide) rfl (fun ls hl => ?_)
          have K101 : ∀ (μ : Nat) (i : Int32) (vn : Vf) (H : Heap) (locs : List Loc) (ls : Array Slot), (24 - i.toInt).toNat < μ → va_P (eD E) vwCl (mdL E am vn) H → va_D A (mdL E am vn) → va_S A s.heap H locs → (0 ≤ i.toInt ∧ i.toInt ≤ 24) → (scL lGr vm vn) → ((vn 34 0).toInt = (vl 34 0).toInt) → (atI vn) → (vn 37 0 = (o4_vm 35 0)) → (vn 38 0 = vk 35 0) → (vn 35 0 = vl 35 0) → (fy.toInt = 0 → bnd (vn 39) i.toNatClampNeg 0 99 ∧ bnd (vn 40) i.toNatClampNeg 0 9) → (fr lRd vm vn) → (∀ j : Nat, (j : Int) < i.toInt → vn 39 j = o73_vm 35 0 ∧ vn 40 j = vl 35 0) → (∀ j : Nat, i.toInt ≤ (j : Int) → vn 39 j = vm 39 j ∧ vn 40 j = vm 40 j) → (vn 37 = vm_66 37 ∧ vn 38 = vm_66 38 ∧ vn 33 = vl 33 ∧ vn 34 = vl 34) → lv_has ls 5 [(0, .ref (am 0)), (1, .int fy), (2, .int (o4_vm 35 0)), (3, .int (o73_vm 35 0)), (4, .int i)] → W p l e (headSpec wsX10_takeGround rm_X10_takeGround).room s m ([.ref (am 0)] : List Value).toArray below meth c H locs 0 0 Q (F0 m 101 ls []) := by
            intro μ
            induction μ with
            | zero =>
              intro i vn H locs ls hμ101
              exact absurd hμ101 (Nat.not_lt_zero _)
            | succ μ ih101 =>
              intro i vn H locs ls hμ101 hP hD hS h101_0 h101_1 h101_2 h101_3 h101_4 h101_5 h101_6 h101_7 h101_8 h101_9 h101_10 h101_11 hl
              have hx101_0 := h101_9
              clear h101_9
              have hx101_1 := h101_10
              clear h101_10
              have hx101_2 := h101_11
              clear h101_11
              have hFz := h101_8
              refine lv_iload hx hb dX10_takeGround_101 (lv_at hl 4 rfl) ?_
              refine lv_bipush (v := 24) hx hb dX10_takeGround_103 (by decide) ?_
              refine lv_icmp_ge (tgt := 133) hx hb dX10_takeGround_105 (by decide) (fun c105 => ?_) (fun c105 => ?_)
              · have c105_ := i_le c105
                refine lv_iload_n hx hb dX10_takeGround_133 rfl (lv_at hl 1 rfl) ?_
                subst hQ
                exact W.iret (v := fy) hx hb hr (fun t ht hW => ⟨⟨fy, (vn), rfl, (show ((MdI vn ∧ atI vn ∧ (vm 34 0).toInt ≤ (vn 34 0).toInt ∧ (0 ≤ fy.toInt ∧ fy.toInt ≤ 4) ∧ (fy.toInt = 0 → RdM vn)) ∧ fr lRd vm vn) ∧ ((vm 37 0).toInt ≤ 0 → ∀ wa, TK (groundP (vm 31) (vm 32 0).toInt S wa (vm 34 0).toInt) (groundF (vm 31) (vm 32 0).toInt S wa (vm 34 0).toInt) (vm 33 0).toInt fy.toInt (vn 33 0).toInt (fun x => (vn 34 0).toInt = x.2.2.1 ∧ SM (groundS S x.1.1.1.1.2.1 x.1.1.1.2.1 x.1.2.1 x.2.1) vn)) from ⟨⟨⟨hMI0.on (h101_1.mem (by decide)), h101_3, by omega, by omega, fun q => rd_ground hRd h101_1 (by rw [h101_4]; omega) (by rw [h101_5]; omega) (by rw [h101_4, h101_5]; omega) (by have qb := h101_7 q; rw [show i.toNatClampNeg = 24 by have := i_nat (x := i) (by omega); omega] at qb; exact qb)⟩, hFz⟩, (fun hw wa => by rw [hx101_2.2.2.1, hx101_2.2.2.2]; exact MF.tk ((hx97_0 hw wa).mono (fun q z hz => ⟨hz.2.2.2.2, by rw [← hz.1, ← hz.2.1, ← hz.2.2.1, ← hz.2.2.2.1]; exact sm_ground hSM h101_1 (by rw [hx101_2.1]; exact hG66.1) (by rw [hx101_2.2.1]; exact hG66.2) (fun j hj => hx101_0 j (by omega)) (fun j hj => hx101_1 j (by omega))⟩)))⟩), by rw [ht]; exact hP, hD⟩, hS.F ht⟩) hS.2.2 dX10_takeGround_134
              · have c105_ := i_nle c105
                refine lv_aload_n hx hb dX10_takeGround_108 rfl (lv_at hl 0 rfl) ?_
                refine va_get (D := eD E) (ci := 10) (v := .ref (am 39)) (C := RX10) (T := TX10) (N := 79) hx hb hts in_X10 hown hK hP 0 rfl rfl 39 (by decide) lk3 (fun _ h9 => h9) rfl dX10_takeGround_109 ?_
                refine lv_iload hx hb dX10_takeGround_112 (lv_at hl 4 rfl) ?_
                refine lv_iload_n hx hb dX10_takeGround_114 rfl (lv_at hl 3 rfl) ?_
                refine va_iast hx hb hK hP hD hS 20 0 rfl rfl (n := 24) (f := (vn 39)) (i_in (by omega) (by omega)) dX10_takeGround_115 (fun H locs hP hD hS => ?_)
                replace hP : va_P (eD E) vwCl (mdL E am (up2 vn 39 i.toNatClampNeg (o73_vm 35 0))) H := hP
                replace hD : va_D A (mdL E am (up2 vn 39 i.toNatClampNeg (o73_vm 35 0))) := hD
                generalize hv115 : up2 vn 39 i.toNatClampNeg (o73_vm 35 0) = vm_115 at hP hD
                have hFz : fr lRd vm vm_115 := by first | exact hFz | (rw [← hv115]; exact hFz.up (by decide))
                refine lv_aload_n hx hb dX10_takeGround_116 rfl (lv_at hl 0 rfl) ?_
                refine va_get (D := eD E) (ci := 10) (v := .ref (am 40)) (C := RX10) (T := TX10) (N := 79) hx hb hts in_X10 hown hK hP 0 rfl rfl 40 (by decide) lk4 (fun _ h9 => h9) rfl dX10_takeGround_117 ?_
                refine lv_iload hx hb dX10_takeGround_120 (lv_at hl 4 rfl) ?_
                refine lv_aload_n hx hb dX10_takeGround_122 rfl (lv_at hl 0 rfl) ?_
                refine va_get (D := eD E) (ci := 10) (v := .int (vm_115 35 0)) (C := RX10) (T := TX10) (N := 79) hx hb hts in_X10 hown hK hP 0 rfl rfl 35 (by decide) lk0 (fun _ h9 => h9) rfl dX10_takeGround_123 ?_
                refine va_iast hx hb hK hP hD hS 21 0 rfl rfl (n := 24) (f := (vm_115 40)) (i_in (by omega) (by omega)) dX10_takeGround_126 (fun H locs hP hD hS => ?_)
                replace hP : va_P (eD E) vwCl (mdL E am (up2 vm_115 40 i.toNatClampNeg (vm_115 35 0))) H := hP
                replace hD : va_D A (mdL E am (up2 vm_115 40 i.toNatClampNeg (vm_115 35 0))) := hD
                generalize hv126 : up2 vm_115 40 i.toNatClampNeg (vm_115 35 0) = vm_126 at hP hD
                have hFz : fr lRd vm vm_126 := by first | exact hFz | (rw [← hv126]; exact hFz.up (by decide))
                have hsn : scL lGr vm vm_126 := by rw [← hv126, ← hv115]; exact (h101_1.up (by decide)).up (by decide)
                have ha126 : (vm_126 34 0).toInt = (vn 34 0).toInt := by rw [← hv126, ← hv115]; rfl
                have hw126 : vm_126 37 0 = (o4_vm 35 0) := by rw [← hv126, ← hv115]; exact h101_4
                have hd126 : vm_126 38 0 = vk 35 0 := by rw [← hv126, ← hv115]; exact h101_5
                have hn126 : vm_126 35 0 = vl 35 0 := by rw [← hv126, ← hv115]; exact h101_6
                have hat126 : atI vm_126 := by rw [← hv126, ← hv115]; exact h101_3
                obtain ⟨x127, e127⟩ : ∃ y : Int32, y = i + 1 := ⟨_, rfl⟩
                refine lv_iinc (v := x127) (lv' := [(4, .int x127), (0, .ref (am 0)), (1, .int fy), (2, .int (o4_vm 35 0)), (3, .int (o73_vm 35 0))]) hx hb dX10_takeGround_127 hl (k := 4) rfl (by rw [e127]; rfl) (by decide) rfl (fun ls hl => ?_)
                have t127 := i_add e127 (by omega)
                have hb126 : fy.toInt = 0 → bnd (vm_126 39) x127.toNatClampNeg 0 99 ∧ bnd (vm_126 40) x127.toNatClampNeg 0 9 := fun q => by rw [i_nat1 h101_0.1 t127, ← hv126, ← hv115]; exact ⟨bnd_ext (h101_7 q).1 (by omega), bnd_ext (h101_7 q).2 (by show 0 ≤ (vn 35 0).toInt ∧ (vn 35 0).toInt ≤ 9; rw [h101_6]; omega)⟩
                refine lv_goto (tgt := 101) hx hb dX10_takeGround_130 (by decide) ?_
                exact ih101 x127 vm_126 _ _ ls (by omega) hP hD hS (by omega) hsn (by omega) hat126 hw126 hd126 hn126 hb126 hFz (by rw [← hv126, ← hv115]; exact g_fill hx101_0 (by omega) (by omega) h101_6) (by rw [← hv126, ← hv115]; exact g_keep hx101_1 (by omega) (by omega)) (by rw [← hv126, ← hv115]; exact hx101_2) (lv_sub hl [1, 2, 3, 4, 0] rfl)
          exact K101 _ 0 vl _ _ ls (Nat.lt_succ_self _) hP hD hS (by omega) (hsl.sn h97_0 (by decide)) rfl h97_1 (by rw [h97_0 37 (by decide) (by decide) (by decide) (by decide)]; exact hq66w) (by rw [h97_0 38 (by decide) (by decide) (by decide) (by decide)]; exact hq66d) rfl (fun _ => ⟨bnd_0, bnd_0⟩) hFz (fun j hj => absurd hj (by omega)) (fun j _ => by rw [h97_0 39 (by decide) (by decide) (by decide) (by decide), h97_0 40 (by decide) (by decide) (by decide) (by decide), hG39.1, hG39.2]; exact ⟨rfl, rfl⟩) ⟨h97_0 37 (by decide) (by decide) (by decide) (by decide), h97_0 38 (by decide) (by decide) (by decide) (by decide), rfl, rfl⟩ (lv_sub hl [2, 1, 3, 4, 0] rfl)
        refine lv_if_le (tgt := 90) hx hb dX10_takeGround_83 (by decide) (fun c83 => ?_) (fun c83 => ?_)
        · have c83_ := i_le c83
          have hgd2 : r73.toInt = 0 := by omega
          refine lv_aload_n hx hb dX10_takeGround_90 rfl (lv_at hl 2 rfl) ?_
          refine lv_iconst (v := 0) hx hb dX10_takeGround_91 (by decide) ?_
          refine lv_bipush (v := 9) hx hb dX10_takeGround_92 (by decide) ?_
          have hMI := hMI73
          have hat := hat73
          refine mt_Vi (w1 := fun (u : Vf) => mdL E am u) (wf := fun (u : Vf) => mdL E am u) (wr := []) (As := [.int 0, .int 9]) (rest := []) (C := RX10) (ci := 10) ⟨hx, hb, hml, hown, hts⟩ (c_X10_takeNumber l E H.size am o73_vm 0 9 hMI hat) (cwV 2 hts gX10_takeGround_X10_takeNumber rfl rfl rfl (by decide +kernel) ⟨Nat.le_of_ble_eq_true rfl, Nat.le_of_ble_eq_true rfl⟩) hE hS hA hP hD [0, 1, 2, 3, 4, 5, 6, 7, 8, 9, 10, 11, 12, 13, 14, 15, 16, 17, 18, 19, 20, 21, 22, 23, 24, 25, 26, 27, 28, 29, 30, 31, 32, 33, 34, 35, 36, 37, 38, 39, 40, 41, 42, 43, 44, 45] [] rfl rfl (by decide) (by decide) (by decide) [0, 1, 2, 3, 4, 5, 6, 7, 8, 9, 10, 11, 12, 13, 14, 15, 16, 17, 18, 19, 20, 21, 22, 23, 24, 25, 26, 27, 28, 29, 30, 31, 32, 33, 34, 35, 36, 37, 38, 39, 40, 41, 42, 43, 44, 45] (by decide) (fun u => rfl) rfl rfl rfl rfl hl.1 rfl (Nat.le_of_ble_eq_true rfl) dX10_takeGround_94 ⟨Nat.zero_le _, Nat.zero_le _⟩ (fun r94 u94 H locs h94 hP hD hS => ?_)
          generalize u94 = o94_vm at hP hD h94
          try dsimp only at h94
          have hf94 := h94.2
          replace h94 := h94.1
          have hFn94 := h94.2
          replace h94 := h94.1
          replace hP : va_P (eD E) vwCl (mdL E am o94_vm) H := hP
          replace hD : va_D A (mdL E am o94_vm) := hD
          have hFz : fr lRd vm o94_vm := by first | exact hFz | exact hFz.tr hFn94 (by decide) | (rw [← hv94]; repeat' (first | exact hFz | refine fr.up ?_ (by decide) | refine fr.up3 ?_ (by decide)))
          have hn94 := hf94
          rw [n_0, n_9, h73.1 31 (by decide) (by decide) (by decide) (by decide), h73.1 32 (by decide) (by decide) (by decide) (by decide), hT66.1, hT66.2.1] at hn94
          exact K97 r94 o94_vm _ _ ls hP hD hS (by first | exact h73.1 | exact h73.1.tr h94.1) (by first | exact hat73 | exact h94.2.1) (by omega) (by omega) hFz (by first | exact fun hw wa => (hhT hw wa).stop hbad2 | exact fun hw wa => MF.mono (MF.then (s := fun z : (((Unit × (Int × Int × Int)) × (Int × Int × Int)) × Unit) × (Int × Int × Int) => numF (vm 31) (vm 32 0).toInt 0 9 z.2.2.1) (hhT hw wa) hgd2 hn94 (((((okF.chk (by decide)).th (fun _ => okF.num)).th (fun _ => okF.num)).th (fun _ => (okF.chk (by decide)))).th (fun _ => okF.num)) (fun z hz => by rw [hz.2.2.1])) (fun q z hz => ⟨hz.1.1.1, hz.1.1.2.1, hz.1.2.1, hz.2.1, hz.2.2.1⟩)) (lv_sub hl [2, 1, 3, 0] rfl)
        · have c83_ := i_nle c83
          have hbad2 : r73.toInt ≠ 0 := by omega
          refine lv_iload_n hx hb dX10_takeGround_86 rfl (lv_at hl 1 rfl) ?_
          refine lv_goto (tgt := 97) hx hb dX10_takeGround_87 (by decide) ?_
          exact K97 r73 o73_vm _ _ ls hP hD hS (by first | exact h73.1 | exact h73.1.tr h94.1) (by first | exact hat73 | exact h94.2.1) (by omega) (by omega) hFz (by first | exact fun hw wa => (hhT hw wa).stop hbad2 | exact fun hw wa => MF.mono (MF.then (s := fun z : (((Unit × (Int × Int × Int)) × (Int × Int × Int)) × Unit) × (Int × Int × Int) => numF (vm 31) (vm 32 0).toInt 0 9 z.2.2.1) (hhT hw wa) hgd2 hn94 (((((okF.chk (by decide)).th (fun _ => okF.num)).th (fun _ => okF.num)).th (fun _ => (okF.chk (by decide)))).th (fun _ => okF.num)) (fun z hz => by rw [hz.2.2.1])) (fun q z hz => ⟨hz.1.1.1, hz.1.1.2.1, hz.1.2.1, hz.2.1, hz.2.2.1⟩)) (lv_sub hl [2, 1, 3, 0] rfl)
      · have c43_ := i_nle c43
        refine lv_aload_n hx hb dX10_takeGround_46 rfl (lv_at hl 1 rfl) ?_
        refine lv_iconst (v := 2) hx hb dX10_takeGround_47 (by decide) ?_
        refine lv_aload_n hx hb dX10_takeGround_48 rfl (lv_at hl 1 rfl) ?_
        refine va_get (D := eD E) (ci := 10) (v := .int (vk 36 0)) (C := RX10) (T := TX10) (N := 79) hx hb hts in_X10 hown hK hP 0 rfl rfl 36 (by decide) lk5 (fun _ h9 => h9) rfl dX10_takeGround_49 ?_
        refine mt_Vi (w1 := fun (u : Vf) => mdL E am u) (wf := fun (u : Vf) => mdL E am u) (wr := []) (As := [.int 2, .int (vk 36 0)]) (rest := []) (C := RX10) (ci := 10) ⟨hx, hb, hml, hown, hts⟩ (c_X10_fails l E H.size am vk 2 (vk 36 0)) (cwV 2 hts gX10_takeGround_X10_fails rfl rfl rfl (by decide +kernel) ⟨Nat.le_of_ble_eq_true rfl, Nat.le_of_ble_eq_true rfl⟩) hE hS hA hP hD [0, 1, 2, 3, 4, 5, 6, 7, 8, 9, 10, 11, 12, 13, 14, 15, 16, 17, 18, 19, 20, 21, 22, 23, 24, 25, 26, 27, 28, 29, 30, 31, 32, 33, 34, 35, 36, 37, 38, 39, 40, 41, 42, 43, 44, 45] [] rfl rfl (by decide) (by decide) (by decide) [0, 1, 2, 3, 4, 5, 6, 7, 8, 9, 10, 11, 12, 13, 14, 15, 16, 17, 18, 19, 20, 21, 22, 23, 24, 25, 26, 27, 28, 29, 30, 31, 32, 33, 34, 35, 36, 37, 38, 39, 40, 41, 42, 43, 44, 45] (by decide) (fun u => rfl) rfl rfl rfl rfl hl.1 rfl (Nat.le_of_ble_eq_true rfl) dX10_takeGround_52 ⟨Nat.zero_le _, Nat.zero_le _⟩ (fun r52 u52 H locs h52 hP hD hS => ?_)
        generalize u52 = o52_vm at hP hD h52
        try dsimp only at h52
        have hf52 := h52.2
        replace h52 := h52.1
        have hFn52 := h52.2
        replace h52 := h52.1
        replace hP : va_P (eD E) vwCl (mdL E am o52_vm) H := hP
        replace hD : va_D A (mdL E am o52_vm) := hD
        have hFz : fr lRd vm o52_vm := by first | exact hFz | exact hFz.tr hFn52 (by decide) | (rw [← hv52]; repeat' (first | exact hFz | refine fr.up ?_ (by decide) | refine fr.up3 ?_ (by decide)))
        have hr52 : r52.toInt = 2 := by rw [h52.1]; decide
        have hq52 : (o52_vm 34 0).toInt = (vk 34 0).toInt := by rw [h52.2.2]
        have hw52 : (o52_vm 33 0).toInt = (vk 36 0).toInt := by rw [hf52]; rfl
        subst hQ
        exact W.iret (v := r52) hx hb hr (fun t ht hW => ⟨⟨r52, (o52_vm), rfl, (show ((MdI o52_vm ∧ atI o52_vm ∧ (vm 34 0).toInt ≤ (o52_vm 34 0).toInt ∧ (0 ≤ r52.toInt ∧ r52.toInt ≤ 4) ∧ (r52.toInt = 0 → RdM o52_vm)) ∧ fr lRd vm o52_vm) ∧ ((vm 37 0).toInt ≤ 0 → ∀ wa, TK (groundP (vm 31) (vm 32 0).toInt S wa (vm 34 0).toInt) (groundF (vm 31) (vm 32 0).toInt S wa (vm 34 0).toInt) (vm 33 0).toInt r52.toInt (o52_vm 33 0).toInt (fun x => (o52_vm 34 0).toInt = x.2.2.1 ∧ SM (groundS S x.1.1.1.1.2.1 x.1.1.1.2.1 x.1.2.1 x.2.1) o52_vm)) from ⟨⟨⟨(hMI.sn h28_0).sn h52.2.1, h28_1.of h52.2.2 (h52.2.1 32 (by decide) (by decide) (by decide) (by decide)), by omega, by omega, fun q => absurd q (by omega)⟩, hFz⟩, (fun hw wa => MF.tk ((MF.andNo (s := fun z : (Unit × (Int × Int × Int)) × (Int × Int × Int) => chk (decide (24 < z.1.2.1 * z.2.1)) 2 z.2.2.2) (ok2 := fun _ => True) (k := 2) (q := (vk 36 0).toInt) (hx28_0 hw wa) hgd (((okF.chk (by decide)).th (fun _ => okF.num)).th (fun _ => okF.num)) (fun z hz => by show chk _ 2 z.2.2.2 = _; rw [← hz.2.2.2]; exact chk_on (by rw [← hz.1, ← hz.2.1]; omega)) hr52 hw52).stop3 (by omega)))⟩), by rw [ht]; exact hP, hD⟩, hS.F ht⟩) hS.2.2 dX10_takeGround_55
    · have c30_ := i_nle c30
      have hbad : fz.toInt ≠ 0 := by omega
      refine lv_iload_n hx hb dX10_takeGround_33 rfl (lv_at hl 0 rfl) ?_
      subst hQ
      exact W.iret (v := fz) hx hb hr (fun t ht hW => ⟨⟨fz, (vk), rfl, (show ((MdI vk ∧ atI vk ∧ (vm 34 0).toInt ≤ (vk 34 0).toInt ∧ (0 ≤ fz.toInt ∧ fz.toInt ≤ 4) ∧ (fz.toInt = 0 → RdM vk)) ∧ fr lRd vm vk) ∧ ((vm 37 0).toInt ≤ 0 → ∀ wa, TK (groundP (vm 31) (vm 32 0).toInt S wa (vm 34 0).toInt) (groundF (vm 31) (vm 32 0).toInt S wa (vm 34 0).toInt) (vm 33 0).toInt fz.toInt (vk 33 0).toInt (fun x => (vk 34 0).toInt = x.2.2.1 ∧ SM (groundS S x.1.1.1.1.2.1 x.1.1.1.2.1 x.1.2.1 x.2.1) vk)) from ⟨⟨⟨hMI.sn h28_0, h28_1, by omega, by omega, fun q => absurd q (by omega)⟩, hFz⟩, (fun hw wa => MF.tk (((hx28_0 hw wa).stop3 (s := fun z : (Unit × (Int × Int × Int)) × (Int × Int × Int) => chk (decide (24 < z.1.2.1 * z.2.1)) 2 z.2.2.2) (s2 := fun z : ((Unit × (Int × Int × Int)) × (Int × Int × Int)) × Unit => numF (vm 31) (vm 32 0).toInt 0 99 z.1.2.2.1) (ok2 := fun _ => True) hbad).stop hbad))⟩), by rw [ht]; exact hP, hD⟩, hS.F ht⟩) hS.2.2 dX10_takeGround_34
  refine lv_if_le (tgt := 21) hx hb dX10_takeGround_14 (by decide) (fun c14 => ?_) (fun c14 => ?_)
  · have c14_ := i_le c14
    have hgd : r4.toInt = 0 := by omega
    refine lv_aload_n hx hb dX10_takeGround_21 rfl (lv_at hl 2 rfl) ?_
    refine lv_iconst (v := 1) hx hb dX10_takeGround_22 (by decide) ?_
    refine lv_bipush (v := 6) hx hb dX10_takeGround_23 (by decide) ?_
    have hMI := hMI4
    have hat := hat4
    refine mt_Vi (w1 := fun (u : Vf) => mdL E am u) (wf := fun (u : Vf) => mdL E am u) (wr := []) (As := [.int 1, .int 6]) (rest := []) (C := RX10) (ci := 10) ⟨hx, hb, hml, hown, hts⟩ (c_X10_takeNumber l E H.size am o4_vm 1 6 hMI hat) (cwV 2 hts gX10_takeGround_X10_takeNumber rfl rfl rfl (by decide +kernel) ⟨Nat.le_of_ble_eq_true rfl, Nat.le_of_ble_eq_true rfl⟩) hE hS hA hP hD [0, 1, 2, 3, 4, 5, 6, 7, 8, 9, 10, 11, 12, 13, 14, 15, 16, 17, 18, 19, 20, 21, 22, 23, 24, 25, 26, 27, 28, 29, 30, 31, 32, 33, 34, 35, 36, 37, 38, 39, 40, 41, 42, 43, 44, 45] [] rfl rfl (by decide) (by decide) (by decide) [0, 1, 2, 3, 4, 5, 6, 7, 8, 9, 10, 11, 12, 13, 14, 15, 16, 17, 18, 19, 20, 21, 22, 23, 24, 25, 26, 27, 28, 29, 30, 31, 32, 33, 34, 35, 36, 37, 38, 39, 40, 41, 42, 43, 44, 45] (by decide) (fun u => rfl) rfl rfl rfl rfl hl.1 rfl (Nat.le_of_ble_eq_true rfl) dX10_takeGround_25 ⟨Nat.zero_le _, Nat.zero_le _⟩ (fun r25 u25 H locs h25 hP hD hS => ?_)
    generalize u25 = o25_vm at hP hD h25
    try dsimp only at h25
    have hf25 := h25.2
    replace h25 := h25.1
    have hFn25 := h25.2
    replace h25 := h25.1
    replace hP : va_P (eD E) vwCl (mdL E am o25_vm) H := hP
    replace hD : va_D A (mdL E am o25_vm) := hD
    have hFz : fr lRd vm o25_vm := by first | exact hFz | exact hFz.tr hFn25 (by decide) | (rw [← hv25]; repeat' (first | exact hFz | refine fr.up ?_ (by decide) | refine fr.up3 ?_ (by decide)))
    rw [n_1, n_6, h4.1 31 (by decide) (by decide) (by decide) (by decide), h4.1 32 (by decide) (by decide) (by decide) (by decide)] at hf25
    exact K28 r25 o25_vm _ _ ls hP hD hS (by first | exact h4.1 | exact h4.1.tr h25.1) (by first | exact hat4 | exact h25.2.1) (by omega) (by omega) hFz (by first | exact fun hw wa => (hh4 hw wa).stop hbad | exact fun hw wa => MF.mono (MF.then (s := fun z : Unit × (Int × Int × Int) => numF (vm 31) (vm 32 0).toInt 1 6 z.2.2.1) (hh4 hw wa) hgd hf25 ((okF.chk (by decide)).th (fun _ => okF.num)) (fun z hz => by have q2 : (o4_vm 34 0).toInt = z.2.2.1 := hz.2.1; rw [q2])) (fun q z hz => ⟨hz.1.1, hz.2.1, hz.2.2.1, hz.2.2.2⟩)) (lv_sub hl [2, 1, 0] rfl)
  · have c14_ := i_nle c14
    have hbad : r4.toInt ≠ 0 := by omega
    refine lv_iload_n hx hb dX10_takeGround_17 rfl (lv_at hl 1 rfl) ?_
    refine lv_goto (tgt := 28) hx hb dX10_takeGround_18 (by decide) ?_
    exact K28 r4 o4_vm _ _ ls hP hD hS (by first | exact h4.1 | exact h4.1.tr h25.1) (by first | exact hat4 | exact h25.2.1) (by omega) (by omega) hFz (by first | exact fun hw wa => (hh4 hw wa).stop hbad | exact fun hw wa => MF.mono (MF.then (s := fun z : Unit × (Int × Int × Int) => numF (vm 31) (vm 32 0).toInt 1 6 z.2.2.1) (hh4 hw wa) hgd hf25 ((okF.chk (by decide)).th (fun _ => okF.num)) (fun z hz => by have q2 : (o4_vm 34 0).toInt = z.2.2.1 := hz.2.1; rw [q2])) (fun q z hz => ⟨hz.1.1, hz.2.1, hz.2.2.1, hz.2.2.2⟩)) (lv_sub hl [2, 1, 0] rfl)
def rm_X10_takeClause : Room := { frames := 5, cells := 0, slots := 0, locals := 115 }
set_option maxHeartbeats 4000000 in
set_option maxRecDepth 100000 in
theorem c_X10_takeClause (l : Launch) (E : Ev) (sz : Nat) (am : Nat → Nat) (vm : Vf) (S : St0) (hMI : MdI vm) (hat : atI vm) (hRd : RdM vm) (hSM : SM S vm) : Met l yX10_takeClause wsX10_takeClause rm_X10_takeClause (MtP E sz [.ref (am 0)] (mdL E am vm)) (va_Qi (fun (r : Int32) (u : Vf) => ((MdI u ∧ (0 ≤ r.toInt ∧ r.toInt ≤ 4) ∧ (vm 34 0).toInt ≤ (u 34 0).toInt ∧ (u 34 0).toInt ≤ 251 ∧ (r.toInt = 0 → atI u ∧ RdM u ∧ (vm 34 0).toInt < (u 34 0).toInt)) ∧ fr lRd vm u) ∧ ((skp (vm 31) (vm 32 0).toInt (vm 34 0).toInt < (vm 32 0).toInt → MF (clauseF (vm 31) (vm 32 0).toInt S (skp (vm 31) (vm 32 0).toInt (vm 34 0).toInt)) (vm 33 0).toInt r.toInt (u 33 0).toInt (fun y => (u 34 0).toInt = y.1 ∧ SM y.2 u)) ∧ (r.toInt = 0 → u 31 = vm 31 ∧ u 32 = vm 32))) (MtB E (va_A (mdL E am vm) sz) (fun u => mdL E am u)) (va_A (mdL E am vm) sz)) 0 0 (va_A (mdL E am vm) sz) := by
  refine Met.ofW (cc := cX10_takeClause) (maxL := 5) (ret := (some .int)) (by decide) rfl ?_
  intro p e s m args below meth c s₁ B hml hv
  obtain ⟨rfl, hsz, hE, hP, hD0⟩ := hv
  subst hsz
  have hD := hD0.self (sz := s.heap.size)
  generalize hAe : va_A (mdL E am vm) s.heap.size = A at hD hE ⊢
  have hA : ∀ q : Nat, s.heap.size ≤ q → A q := fun q h => by rw [← hAe]; exact Or.inr h
  have hS : va_S A s.heap s.heap [] := va_S.rf
  have hx := B.exec
  have hb := B.bytes
  have hr := B.returns
  have hts := atoms_spec (ws := wsX10_takeClause) B.pre
  have hown : s.vm.findClass RX10 = some m.cls := findClass_of_methodNamed B.named
  have hlocks := B.notSynchronized
  have hK := hE.1
  have in_X10 : ∀ w ∈ u_ws RX10 TX10 79, w ∈ wsX10_takeClause := fun w h => List.mem_cons_of_mem _ (List.mem_append_right _ h)
  have lk0 := hts (.fieldLink RX10 180 "TidedGroundModel" "at0" "I") (List.mem_of_getElem? (i := 2) rfl)
  have lk1 := hts (.fieldLink RX10 204 "TidedGroundModel" "readWide" "I") (List.mem_of_getElem? (i := 1) rfl)
  have lk2 := hts (.fieldLink RX10 243 "TidedGroundModel" "readDeeds" "I") (List.mem_of_getElem? (i := 8) rfl)
  have lk3 := hts (.fieldLink RX10 240 "TidedGroundModel" "readWells" "I") (List.mem_of_getElem? (i := 7) rfl)
  have lk4 := hts (.fieldLink RX10 237 "TidedGroundModel" "readCracks" "I") (List.mem_of_getElem? (i := 6) rfl)
  have lk5 := hts (.fieldLink RX10 234 "TidedGroundModel" "readHouses" "I") (List.mem_of_getElem? (i := 5) rfl)
  have lk6 := hts (.fieldLink RX10 231 "TidedGroundModel" "readMoons" "I") (List.mem_of_getElem? (i := 4) rfl)
  have lk7 := hts (.fieldLink RX10 220 "TidedGroundModel" "readTold" "I") (List.mem_of_getElem? (i := 3) rfl)
  have n_m1 : ((-1) : Int32).toInt = -1 := by decide
  have n_0 : (0 : Int32).toInt = 0 := by decide
  have n_1 : (1 : Int32).toInt = 1 := by decide
  have n_2 : (2 : Int32).toInt = 2 := by decide
  have n_3 : (3 : Int32).toInt = 3 := by decide
  have n_4 : (4 : Int32).toInt = 4 := by decide
  have n_5 : (5 : Int32).toInt = 5 := by decide
  have n_6 : (6 : Int32).toInt = 6 := by decide
  have n_12 : (12 : Int32).toInt = 12 := by decide
  have n_59 : (59 : Int32).toInt = 59 := by decide
  have n_99 : (99 : Int32).toInt = 99 := by decide
  have n_100 : (100 : Int32).toInt = 100 := by decide
  have n_103 : (103 : Int32).toInt = 103 := by decide
  have n_104 : (104 : Int32).toInt = 104 := by decide
  have n_107 : (107 : Int32).toInt = 107 := by decide
  have n_109 : (109 : Int32).toInt = 109 := by decide
  have n_119 : (119 : Int32).toInt = 119 := by decide
  have hl := lv_entry ([.ref (am 0)]) (n := 5) (Nat.le_of_ble_eq_true rfl)
  rw [lg_entry_eq]
  generalize (lg_sl ([.ref (am 0)]) ++ List.replicate (5 - (lg_sl ([.ref (am 0)])).length) Slot.unset).toArray = ls at hl ⊢
  have hl : lv_has ls 5 [(0, .ref (am 0))] := hl
  refine W_abs (fun Q hQ => ?_)
  have hH := hMI.1
  obtain ⟨hT1, hT2, hT3, hT4, hT5⟩ := id hH.2.2.2.2.2.2
  obtain ⟨ha1, ha2⟩ := id hat
  have hFz : fr lRd vm vm := fr.rf
  refine lv_aload_n hx hb dX10_takeClause_0 rfl (lv_at hl 0 rfl) ?_
  refine mt_Vi (w1 := fun (u : Vf) => mdL E am u) (wf := fun (u : Vf) => mdL E am u) (wr := []) (As := []) (rest := []) (C := RX10) (ci := 10) ⟨hx, hb, hml, hown, hts⟩ (c_X10_here l E s.heap.size am vm hMI hat) (cwV 0 hts gX10_takeClause_X10_here rfl rfl rfl (by decide +kernel) ⟨Nat.le_of_ble_eq_true rfl, Nat.le_of_ble_eq_true rfl⟩) hE hS hA hP hD [0, 1, 2, 3, 4, 5, 6, 7, 8, 9, 10, 11, 12, 13, 14, 15, 16, 17, 18, 19, 20, 21, 22, 23, 24, 25, 26, 27, 28, 29, 30, 31, 32, 33, 34, 35, 36, 37, 38, 39, 40, 41, 42, 43, 44, 45] [] rfl rfl (by decide) (by decide) (by decide) [0, 1, 2, 3, 4, 5, 6, 7, 8, 9, 10, 11, 12, 13, 14, 15, 16, 17, 18, 19, 20, 21, 22, 23, 24, 25, 26, 27, 28, 29, 30, 31, 32, 33, 34, 35, 36, 37, 38, 39, 40, 41, 42, 43, 44, 45] (by decide) (fun u => rfl) rfl rfl rfl rfl hl.1 rfl (Nat.le_of_ble_eq_true rfl) dX10_takeClause_1 ⟨Nat.zero_le _, Nat.zero_le _⟩ (fun r1 u1 H locs h1 hP hD hS => ?_)
  generalize u1 = o1_vm at hP hD h1
  try dsimp only at h1
  have hf1 := h1.2
  replace h1 := h1.1
  have hFn1 := h1.2
  replace h1 := h1.1
  replace hP : va_P (eD E) vwCl (mdL E am o1_vm) H := hP
  replace hD : va_D A (mdL E am o1_vm) := hD
  have hFz : fr lRd vm o1_vm := by first | exact hFz | exact hFz.tr hFn1 (by decide) | (rw [← hv1]; repeat' (first | exact hFz | refine fr.up ?_ (by decide) | refine fr.up3 ?_ (by decide)))
  have hMI : MdI o1_vm := hMI.sn h1.1
  have hat := h1.2.1
  have hRd : RdM o1_vm := hRd.sn h1.1
  obtain ⟨hat1, hat2⟩ := id hat
  have hq1_32 : (o1_vm 32 0).toInt = (vm 32 0).toInt := by rw [h1.1 32 (by decide) (by decide) (by decide) (by decide)]
  have hm1 := h1.2.2
  obtain ⟨hrG, hrC, hrZ, hrMo, hrB, hrD⟩ := id hRd
  obtain ⟨hrc1, hrc2, hrc3, hrc4, hrc5, hrc6⟩ := id hrC
  obtain ⟨hg1, hg2, hg3⟩ := id hrG
  have hp1 := hf1.1
  have hfr1 := hf1.2.1
  have hrr1 := hf1.2.2
  clear hf1
  have hSM1 : SM S o1_vm := hSM.sn h1.1
  have hs37 : S 37 0 = (o1_vm 37 0).toInt := hSM1 37 (by decide) 0
  have hs41 : S 41 0 = (o1_vm 41 0).toInt := hSM1 41 (by decide) 0
  have hs43 : S 43 0 = (o1_vm 43 0).toInt := hSM1 43 (by decide) 0
  have hs48 : S 48 0 = (o1_vm 48 0).toInt := hSM1 48 (by decide) 0
  have hs51 : S 51 0 = (o1_vm 51 0).toInt := hSM1 51 (by decide) 0
  have hs55 : S 55 0 = (o1_vm 55 0).toInt := hSM1 55 (by decide) 0
  have hs58 : S 58 0 = (o1_vm 58 0).toInt := hSM1 58 (by decide) 0
  refine lv_istore_n (lv' := [(1, .int r1), (0, .ref (am 0))]) hx hb dX10_takeClause_4 rfl hl (by decide) rfl (fun ls hl => ?_)
  refine lv_iload_n hx hb dX10_takeClause_5 rfl (lv_at hl 0 rfl) ?_
  refine lv_bipush (v := 103) hx hb dX10_takeClause_6 (by decide) ?_
  refine lv_icmp_ne (tgt := 15) hx hb dX10_takeClause_8 (by decide) (fun c8 => ?_) (fun c8 => ?_)
  · have c8_ := i_ne c8
    refine lv_iload_n hx hb dX10_takeClause_15 rfl (lv_at hl 0 rfl) ?_
    refine lv_bipush (v := 99) hx hb dX10_takeClause_16 (by decide) ?_
    refine lv_icmp_ne (tgt := 25) hx hb dX10_takeClause_18 (by decide) (fun c18 => ?_) (fun c18 => ?_)
    · have c18_ := i_ne c18
      refine lv_iload_n hx hb dX10_takeClause_25 rfl (lv_at hl 0 rfl) ?_
      refine lv_bipush (v := 109) hx hb dX10_takeClause_26 (by decide) ?_
      refine lv_icmp_ne (tgt := 35) hx hb dX10_takeClause_28 (by decide) (fun c28 => ?_) (fun c28 => ?_)
      · have c28_ := i_ne c28
        refine lv_iload_n hx hb dX10_takeClause_35 rfl (lv_at hl 0 rfl) ?_
        refine lv_bipush (v := 104) hx hb dX10_takeClause_36 (by decide) ?_
        refine lv_icmp_ne (tgt := 45) hx hb dX10_takeClause_38 (by decide) (fun c38 => ?_) (fun c38 => ?_)
        · have c38_ := i_ne c38
          refine lv_iload_n hx hb dX10_takeClause_45 rfl (lv_at hl 0 rfl) ?_
          refine lv_bipush (v := 107) hx hb dX10_takeClause_46 (by decide) ?_
          refine lv_icmp_ne (tgt := 55) hx hb dX10_takeClause_48 (by decide) (fun c48 => ?_) (fun c48 => ?_)
          · have c48_ := i_ne c48
            refine lv_iload_n hx hb dX10_takeClause_55 rfl (lv_at hl 0 rfl) ?_
            refine lv_bipush (v := 119) hx hb dX10_takeClause_56 (by decide) ?_
            refine lv_icmp_ne (tgt := 65) hx hb dX10_takeClause_58 (by decide) (fun c58 => ?_) (fun c58 => ?_)
            · have c58_ := i_ne c58
              refine lv_iload_n hx hb dX10_takeClause_65 rfl (lv_at hl 0 rfl) ?_
              refine lv_bipush (v := 100) hx hb dX10_takeClause_66 (by decide) ?_
              refine lv_icmp_ne (tgt := 76) hx hb dX10_takeClause_68 (by decide) (fun c68 => ?_) (fun c68 => ?_)
              · have c68_ := i_ne c68
                refine lv_iconst (v := (-1)) hx hb dX10_takeClause_76 (by decide) ?_
                refine lv_istore_n (lv' := [(2, .int (-1)), (1, .int r1), (0, .ref (am 0))]) hx hb dX10_takeClause_77 rfl hl (by decide) rfl (fun ls hl => ?_)
                refine lv_iload_n hx hb dX10_takeClause_78 rfl (lv_at hl 0 rfl) ?_
                refine lv_if_lt (tgt := 93) hx hb dX10_takeClause_79 (by decide) (fun _ => ?_) (fun q => absurd q (by decide))
                refine lv_aload_n hx hb dX10_takeClause_93 rfl (lv_at hl 2 rfl) ?_
                refine lv_iconst (v := 1) hx hb dX10_takeClause_94 (by decide) ?_
                refine lv_aload_n hx hb dX10_takeClause_95 rfl (lv_at hl 2 rfl) ?_
                refine va_get (D := eD E) (ci := 10) (v := .int (o1_vm 34 0)) (C := RX10) (T := TX10) (N := 79) hx hb hts in_X10 hown hK hP 0 rfl rfl 34 (by decide) lk0 (fun _ h9 => h9) rfl dX10_takeClause_96 ?_
                refine mt_Vi (w1 := fun (u : Vf) => mdL E am u) (wf := fun (u : Vf) => mdL E am u) (wr := []) (As := [.int 1, .int (o1_vm 34 0)]) (rest := []) (C := RX10) (ci := 10) ⟨hx, hb, hml, hown, hts⟩ (c_X10_fails l E H.size am o1_vm 1 (o1_vm 34 0)) (cwV 2 hts gX10_takeClause_X10_fails rfl rfl rfl (by decide +kernel) ⟨Nat.le_of_ble_eq_true rfl, Nat.le_of_ble_eq_true rfl⟩) hE hS hA hP hD [0, 1, 2, 3, 4, 5, 6, 7, 8, 9, 10, 11, 12, 13, 14, 15, 16, 17, 18, 19, 20, 21, 22, 23, 24, 25, 26, 27, 28, 29, 30, 31, 32, 33, 34, 35, 36, 37, 38, 39, 40, 41, 42, 43, 44, 45] [] rfl rfl (by decide) (by decide) (by decide) [0, 1, 2, 3, 4, 5, 6, 7, 8, 9, 10, 11, 12, 13, 14, 15, 16, 17, 18, 19, 20, 21, 22, 23, 24, 25, 26, 27, 28, 29, 30, 31, 32, 33, 34, 35, 36, 37, 38, 39, 40, 41, 42, 43, 44, 45] (by decide) (fun u => rfl) rfl rfl rfl rfl hl.1 rfl (Nat.le_of_ble_eq_true rfl) dX10_takeClause_99 ⟨Nat.zero_le _, Nat.zero_le _⟩ (fun r99 u99 H locs h99 hP hD hS => ?_)
                generalize u99 = o99_vm at hP hD h99
                try dsimp only at h99
                have hf99 := h99.2
                replace h99 := h99.1
                have hFn99 := h99.2
                replace h99 := h99.1
                replace hP : va_P (eD E) vwCl (mdL E am o99_vm) H := hP
                replace hD : va_D A (mdL E am o99_vm) := hD
                have hFz : fr lRd vm o99_vm := by first | exact hFz | exact hFz.tr hFn99 (by decide) | (rw [← hv99]; repeat' (first | exact hFz | refine fr.up ?_ (by decide) | refine fr.up3 ?_ (by decide)))
                have hr99 : r99.toInt = 1 := by rw [h99.1]; decide
                have hq99 : (o99_vm 34 0).toInt = (o1_vm 34 0).toInt := by rw [h99.2.2]
                have hw99 : (o99_vm 33 0).toInt = (o1_vm 34 0).toInt := by rw [hf99]; rfl
                subst hQ
                exact W.iret (v := r99) hx hb hr (fun t ht hW => ⟨⟨r99, (o99_vm), rfl, (show ((MdI o99_vm ∧ (0 ≤ r99.toInt ∧ r99.toInt ≤ 4) ∧ (vm 34 0).toInt ≤ (o99_vm 34 0).toInt ∧ (o99_vm 34 0).toInt ≤ 251 ∧ (r99.toInt = 0 → atI o99_vm ∧ RdM o99_vm ∧ (vm 34 0).toInt < (o99_vm 34 0).toInt)) ∧ fr lRd vm o99_vm) ∧ ((skp (vm 31) (vm 32 0).toInt (vm 34 0).toInt < (vm 32 0).toInt → MF (clauseF (vm 31) (vm 32 0).toInt S (skp (vm 31) (vm 32 0).toInt (vm 34 0).toInt)) (vm 33 0).toInt r99.toInt (o99_vm 33 0).toInt (fun y => (o99_vm 34 0).toInt = y.1 ∧ SM y.2 o99_vm)) ∧ (r99.toInt = 0 → o99_vm 31 = vm 31 ∧ o99_vm 32 = vm 32)) from ⟨⟨⟨hMI.sn h99.2.1, by omega, by omega, by omega, fun q => absurd q (by omega)⟩, hFz⟩, ⟨fun hn => MF.no (by rw [← hp1]; exact cl_no (by omega)) hr99 hw99, fun q => absurd q (by omega)⟩⟩), by rw [ht]; exact hP, hD⟩, hS.F ht⟩) hS.2.2 dX10_takeClause_102
              · have c68_ := i_eq c68
                refine lv_bipush (v := 6) hx hb dX10_takeClause_71 (by decide) ?_
                refine lv_goto (tgt := 77) hx hb dX10_takeClause_73 (by decide) ?_
                refine lv_istore_n (lv' := [(2, .int 6), (1, .int r1), (0, .ref (am 0))]) hx hb dX10_takeClause_77 rfl hl (by decide) rfl (fun ls hl => ?_)
                refine lv_iload_n hx hb dX10_takeClause_78 rfl (lv_at hl 0 rfl) ?_
                refine lv_if_lt (tgt := 93) hx hb dX10_takeClause_79 (by decide) (fun q => absurd q (by decide)) (fun _ => ?_)
                refine lv_iload_n hx hb dX10_takeClause_82 rfl (lv_at hl 0 rfl) ?_
                refine lv_if_le (tgt := 103) hx hb dX10_takeClause_83 (by decide) (fun q => absurd q (by decide)) (fun _ => ?_)
                refine lv_aload_n hx hb dX10_takeClause_86 rfl (lv_at hl 2 rfl) ?_
                refine va_get (D := eD E) (ci := 10) (v := .int (o1_vm 37 0)) (C := RX10) (T := TX10) (N := 79) hx hb hts in_X10 hown hK hP 0 rfl rfl 37 (by decide) lk1 (fun _ h9 => h9) rfl dX10_takeClause_87 ?_
                refine lv_if_ne (tgt := 103) hx hb dX10_takeClause_90 (by decide) (fun c90 => ?_) (fun c90 => ?_)
                · have c90_ := i_ne c90
                  refine lv_iload_n hx hb dX10_takeClause_103 rfl (lv_at hl 0 rfl) ?_
                  refine lv_if_ne (tgt := 122) hx hb dX10_takeClause_104 (by decide) (fun _ => ?_) (fun q => absurd q (by decide))
                  refine lv_iload_n hx hb dX10_takeClause_122 rfl (lv_at hl 0 rfl) ?_
                  refine lv_iconst (v := 1) hx hb dX10_takeClause_123 (by decide) ?_
                  refine lv_icmp_ne (tgt := 144) hx hb dX10_takeClause_124 (by decide) (fun _ => ?_) (fun q => absurd q (by decide))
                  refine lv_iload_n hx hb dX10_takeClause_144 rfl (lv_at hl 0 rfl) ?_
                  refine lv_iconst (v := 2) hx hb dX10_takeClause_145 (by decide) ?_
                  refine lv_icmp_ne (tgt := 165) hx hb dX10_takeClause_146 (by decide) (fun _ => ?_) (fun q => absurd q (by decide))
                  refine lv_iload_n hx hb dX10_takeClause_165 rfl (lv_at hl 0 rfl) ?_
                  refine lv_iconst (v := 3) hx hb dX10_takeClause_166 (by decide) ?_
                  refine lv_icmp_ne (tgt := 183) hx hb dX10_takeClause_167 (by decide) (fun _ => ?_) (fun q => absurd q (by decide))
                  refine lv_iconst (v := 0) hx hb dX10_takeClause_183 (by decide) ?_
                  refine lv_istore_n (lv' := [(3, .int 0), (2, .int 6), (1, .int r1), (0, .ref (am 0))]) hx hb dX10_takeClause_184 rfl hl (by decide) rfl (fun ls hl => ?_)
                  refine lv_iload_n hx hb dX10_takeClause_185 rfl (lv_at hl 0 rfl) ?_
                  refine lv_if_ne (tgt := 230) hx hb dX10_takeClause_186 (by decide) (fun q => absurd q (by decide)) (fun _ => ?_)
                  refine lv_iload_n hx hb dX10_takeClause_189 rfl (lv_at hl 1 rfl) ?_
                  refine lv_iconst (v := 4) hx hb dX10_takeClause_190 (by decide) ?_
                  refine lv_icmp_ne (tgt := 203) hx hb dX10_takeClause_191 (by decide) (fun _ => ?_) (fun q => absurd q (by decide))
                  refine lv_iload_n hx hb dX10_takeClause_203 rfl (lv_at hl 1 rfl) ?_
                  refine lv_iconst (v := 5) hx hb dX10_takeClause_204 (by decide) ?_
                  refine lv_icmp_ne (tgt := 216) hx hb dX10_takeClause_205 (by decide) (fun _ => ?_) (fun q => absurd q (by decide))
                  refine lv_iload_n hx hb dX10_takeClause_216 rfl (lv_at hl 1 rfl) ?_
                  refine lv_bipush (v := 6) hx hb dX10_takeClause_217 (by decide) ?_
                  refine lv_icmp_ne (tgt := 240) hx hb dX10_takeClause_219 (by decide) (fun q => absurd q (by decide)) (fun _ => ?_)
                  refine lv_aload_n hx hb dX10_takeClause_222 rfl (lv_at hl 3 rfl) ?_
                  refine va_get (D := eD E) (ci := 10) (v := .int (o1_vm 58 0)) (C := RX10) (T := TX10) (N := 79) hx hb hts in_X10 hown hK hP 0 rfl rfl 58 (by decide) lk2 (fun _ h9 => h9) rfl dX10_takeClause_223 ?_
                  refine lv_iconst (v := 4) hx hb dX10_takeClause_226 (by decide) ?_
                  refine lv_icmp_ne (tgt := 240) hx hb dX10_takeClause_227 (by decide) (fun c227 => ?_) (fun c227 => ?_)
                  · have c227_ := i_ne c227
                    refine lv_aload_n hx hb dX10_takeClause_240 rfl (lv_at hl 3 rfl) ?_
                    refine lv_dup hx hb dX10_takeClause_241 rfl ?_
                    refine va_get (D := eD E) (ci := 10) (v := .int (o1_vm 34 0)) (C := RX10) (T := TX10) (N := 79) hx hb hts in_X10 hown hK hP 0 rfl rfl 34 (by decide) lk0 (fun _ h9 => h9) rfl dX10_takeClause_242 ?_
                    refine lv_iconst (v := 1) hx hb dX10_takeClause_245 (by decide) ?_
                    have sv246_o1_vm340 : 0 ≤ (o1_vm 34 0).toInt ∧ (o1_vm 34 0).toInt ≤ 249 := by omega
                    refine lv_iadd hx hb dX10_takeClause_246 ?_
                    refine lv_topi (fun x246 e246 => ?_)
                    have t246 := i_add e246 (by omega)
                    refine va_put (D := eD E) (ci := 10) (v := .int x246) (ty := .int) (C := RX10) (T := TX10) (N := 79) hx hb hts in_X10 tyX10 tyX10_ok nmX10 hown hK hP hD hS 0 rfl rfl 34 (by decide) lk0 (fun _ h9 => h9) rfl (by decide +kernel) rfl rfl (Nat.le_of_ble_eq_true rfl) dX10_takeClause_247 (fun H locs hP hD hS => ?_)
                    replace hP : va_P (eD E) vwCl (mdL E am (up2 o1_vm 34 0 x246)) H := hP
                    replace hD : va_D A (mdL E am (up2 o1_vm 34 0 x246)) := hD
                    generalize hv247 : up2 o1_vm 34 0 x246 = vm_247 at hP hD
                    have hFz : fr lRd vm vm_247 := by first | exact hFz | (rw [← hv247]; exact hFz.up (by decide))
                    have hMI : MdI vm_247 := by rw [← hv247]; exact hMI
                    have hRd : RdM vm_247 := by rw [← hv247]; exact hRd
                    have hat : atI vm_247 := by rw [← hv247]; exact (show 0 ≤ x246.toInt ∧ x246.toInt ≤ (o1_vm 32 0).toInt by omega)
                    have hq247_34 : (vm_247 34 0).toInt = x246.toInt := by rw [← hv247]; rfl
                    have hq247_37 : (vm_247 37 0).toInt = (o1_vm 37 0).toInt := by rw [← hv247]; rfl
                    have hq247_38 : (vm_247 38 0).toInt = (o1_vm 38 0).toInt := by rw [← hv247]; rfl
                    have hq247_41 : (vm_247 41 0).toInt = (o1_vm 41 0).toInt := by rw [← hv247]; rfl
                    have hq247_43 : (vm_247 43 0).toInt = (o1_vm 43 0).toInt := by rw [← hv247]; rfl
                    have hq247_48 : (vm_247 48 0).toInt = (o1_vm 48 0).toInt := by rw [← hv247]; rfl
                    have hq247_51 : (vm_247 51 0).toInt = (o1_vm 51 0).toInt := by rw [← hv247]; rfl
                    have hq247_55 : (vm_247 55 0).toInt = (o1_vm 55 0).toInt := by rw [← hv247]; rfl
                    have hq247_58 : (vm_247 58 0).toInt = (o1_vm 58 0).toInt := by rw [← hv247]; rfl
                    have hSM : SM S vm_247 := by rw [← hv247]; exact hSM1.sc (sc.rf.up (by omega))
                    have hT247 : vm_247 31 = vm 31 ∧ vm_247 32 = vm 32 ∧ vm_247 33 = vm 33 := by rw [← hv247]; exact ⟨h1.1 31 (by decide) (by decide) (by decide) (by decide), h1.1 32 (by decide) (by decide) (by decide) (by decide), hfr1.1⟩
                    have hp247 : (vm_247 34 0).toInt = (o1_vm 34 0).toInt + 1 := by omega
                    refine lv_iload_n hx hb dX10_takeClause_250 rfl (lv_at hl 1 rfl) ?_
                    refine lv_if_ne (tgt := 261) hx hb dX10_takeClause_251 (by decide) (fun _ => ?_) (fun q => absurd q (by decide))
                    refine lv_iload_n hx hb dX10_takeClause_261 rfl (lv_at hl 1 rfl) ?_
                    refine lv_iconst (v := 1) hx hb dX10_takeClause_262 (by decide) ?_
                    refine lv_icmp_ne (tgt := 273) hx hb dX10_takeClause_263 (by decide) (fun _ => ?_) (fun q => absurd q (by decide))
                    refine lv_iload_n hx hb dX10_takeClause_273 rfl (lv_at hl 1 rfl) ?_
                    refine lv_iconst (v := 2) hx hb dX10_takeClause_274 (by decide) ?_
                    refine lv_icmp_ne (tgt := 285) hx hb dX10_takeClause_275 (by decide) (fun _ => ?_) (fun q => absurd q (by decide))
                    refine lv_iload_n hx hb dX10_takeClause_285 rfl (lv_at hl 1 rfl) ?_
                    refine lv_iconst (v := 3) hx hb dX10_takeClause_286 (by decide) ?_
                    refine lv_icmp_ne (tgt := 297) hx hb dX10_takeClause_287 (by decide) (fun _ => ?_) (fun q => absurd q (by decide))
                    refine lv_iload_n hx hb dX10_takeClause_297 rfl (lv_at hl 1 rfl) ?_
                    refine lv_iconst (v := 4) hx hb dX10_takeClause_298 (by decide) ?_
                    refine lv_icmp_ne (tgt := 309) hx hb dX10_takeClause_299 (by decide) (fun _ => ?_) (fun q => absurd q (by decide))
                    refine lv_iload_n hx hb dX10_takeClause_309 rfl (lv_at hl 1 rfl) ?_
                    refine lv_iconst (v := 5) hx hb dX10_takeClause_310 (by decide) ?_
                    refine lv_icmp_ne (tgt := 321) hx hb dX10_takeClause_311 (by decide) (fun _ => ?_) (fun q => absurd q (by decide))
                    refine lv_aload_n hx hb dX10_takeClause_321 rfl (lv_at hl 3 rfl) ?_
                    refine mt_Vi (w1 := fun (u : Vf) => mdL E am u) (wf := fun (u : Vf) => mdL E am u) (wr := []) (As := []) (rest := []) (C := RX10) (ci := 10) ⟨hx, hb, hml, hown, hts⟩ (c_X10_takeDeed l E H.size am vm_247 S hMI hat hRd (by omega) hSM) (cwV 0 hts gX10_takeClause_X10_takeDeed rfl rfl rfl (by decide +kernel) ⟨Nat.le_of_ble_eq_true rfl, Nat.le_of_ble_eq_true rfl⟩) hE hS hA hP hD [0, 1, 2, 3, 4, 5, 6, 7, 8, 9, 10, 11, 12, 13, 14, 15, 16, 17, 18, 19, 20, 21, 22, 23, 24, 25, 26, 27, 28, 29, 30, 31, 32, 33, 34, 35, 36, 37, 38, 39, 40, 41, 42, 43, 44, 45] [] rfl rfl (by decide) (by decide) (by decide) [0, 1, 2, 3, 4, 5, 6, 7, 8, 9, 10, 11, 12, 13, 14, 15, 16, 17, 18, 19, 20, 21, 22, 23, 24, 25, 26, 27, 28, 29, 30, 31, 32, 33, 34, 35, 36, 37, 38, 39, 40, 41, 42, 43, 44, 45] (by decide) (fun u => rfl) rfl rfl rfl rfl hl.1 rfl (Nat.le_of_ble_eq_true rfl) dX10_takeClause_322 ⟨Nat.zero_le _, Nat.zero_le _⟩ (fun r322 u322 H locs h322 hP hD hS => ?_)
                    generalize u322 = o322_vm at hP hD h322
                    try dsimp only at h322
                    have hf322 := h322.2
                    replace h322 := h322.1
                    have hFn322 := h322.2
                    replace h322 := h322.1
                    replace hP : va_P (eD E) vwCl (mdL E am o322_vm) H := hP
                    replace hD : va_D A (mdL E am o322_vm) := hD
                    have hFz : fr lRd vm o322_vm := by first | exact hFz | exact hFz.tr hFn322 (by decide) | (rw [← hv322]; repeat' (first | exact hFz | refine fr.up ?_ (by decide) | refine fr.up3 ?_ (by decide)))
                    have hMI := h322.1
                    have hat := h322.2.1
                    have hRdx := h322.2.2.2.2
                    obtain ⟨hat1, hat2⟩ := id hat
                    have hT := hMI.1.2.2.2.2.2.2.1
                    have hm322 := h322.2.2.1
                    have hz322 := h322.2.2.2.1
                    have hCL : CK (clauseF (vm 31) (vm 32 0).toInt S (o1_vm 34 0).toInt) S (vm 31) (vm 32 0).toInt (vm 33 0).toInt r322.toInt (o322_vm 33 0).toInt (o322_vm 34 0).toInt o322_vm := by rw [cl_d (by omega) (by omega)]; have q := hf322 (o1_vm 34 0).toInt; rw [hT247.1, hT247.2.1, hT247.2.2, hp247] at q; exact TK.ck (g := fun x : ((Unit × (Int × Int × Int)) × (Int × Int × Int)) × Unit => deedS S x.1.1.2.1 x.1.2.1) q (fun _ => ⟨rfl, rfl⟩)
                    have hR := r322
                    have hTx : r322.toInt = 0 → o322_vm 31 = vm 31 ∧ o322_vm 32 = vm 32 := fun q => by have z := hCL.txt okF.clause q hSM; rw [hT247.1, hT247.2.1] at z; exact z
                    clear hf322
                    refine lv_istore (lv' := [(4, .int r322), (3, .int 0), (2, .int 6), (1, .int r1), (0, .ref (am 0))]) hx hb dX10_takeClause_325 hl (by decide) rfl (fun ls hl => ?_)
                    refine lv_iload hx hb dX10_takeClause_327 (lv_at hl 0 rfl) ?_
                    refine lv_if_ne (tgt := 351) hx hb dX10_takeClause_329 (by decide) (fun c329 => ?_) (fun c329 => ?_)
                    · have c329_ := i_ne c329
                      have hnz : r322.toInt ≠ 0 := by omega
                      refine lv_aload_n hx hb dX10_takeClause_351 rfl (lv_at hl 4 rfl) ?_
                      refine lv_dup hx hb dX10_takeClause_352 rfl ?_
                      refine va_get (D := eD E) (ci := 10) (v := .int (o322_vm 34 0)) (C := RX10) (T := TX10) (N := 79) hx hb hts in_X10 hown hK hP 0 rfl rfl 34 (by decide) lk0 (fun _ h9 => h9) rfl dX10_takeClause_353 ?_
                      refine lv_iconst (v := 1) hx hb dX10_takeClause_356 (by decide) ?_
                      refine lv_iadd hx hb dX10_takeClause_357 ?_
                      refine lv_topi (fun x357 e357 => ?_)
                      have t357 := i_add e357 (by omega)
                      refine va_put (D := eD E) (ci := 10) (v := .int x357) (ty := .int) (C := RX10) (T := TX10) (N := 79) hx hb hts in_X10 tyX10 tyX10_ok nmX10 hown hK hP hD hS 0 rfl rfl 34 (by decide) lk0 (fun _ h9 => h9) rfl (by decide +kernel) rfl rfl (Nat.le_of_ble_eq_true rfl) dX10_takeClause_358 (fun H locs hP hD hS => ?_)
                      replace hP : va_P (eD E) vwCl (mdL E am (up2 o322_vm 34 0 x357)) H := hP
                      replace hD : va_D A (mdL E am (up2 o322_vm 34 0 x357)) := hD
                      generalize hv358 : up2 o322_vm 34 0 x357 = vm_358 at hP hD
                      have hFz : fr lRd vm vm_358 := by first | exact hFz | (rw [← hv358]; exact hFz.up (by decide))
                      refine lv_iload hx hb dX10_takeClause_361 (lv_at hl 0 rfl) ?_
                      subst hQ
                      exact W.iret (v := r322) hx hb hr (fun t ht hW => ⟨⟨r322, (vm_358), rfl, (show ((MdI vm_358 ∧ (0 ≤ r322.toInt ∧ r322.toInt ≤ 4) ∧ (vm 34 0).toInt ≤ (vm_358 34 0).toInt ∧ (vm_358 34 0).toInt ≤ 251 ∧ (r322.toInt = 0 → atI vm_358 ∧ RdM vm_358 ∧ (vm 34 0).toInt < (vm_358 34 0).toInt)) ∧ fr lRd vm vm_358) ∧ ((skp (vm 31) (vm 32 0).toInt (vm 34 0).toInt < (vm 32 0).toInt → MF (clauseF (vm 31) (vm 32 0).toInt S (skp (vm 31) (vm 32 0).toInt (vm 34 0).toInt)) (vm 33 0).toInt r322.toInt (vm_358 33 0).toInt (fun y => (vm_358 34 0).toInt = y.1 ∧ SM y.2 vm_358)) ∧ (r322.toInt = 0 → vm_358 31 = vm 31 ∧ vm_358 32 = vm 32)) from ⟨⟨⟨(by rw [← hv358]; exact hMI), by omega, (by rw [← hv358]; show (vm 34 0).toInt ≤ x357.toInt; omega), (by rw [← hv358]; show x357.toInt ≤ 251; omega), (by first | exact fun q => absurd q (by omega) | exact fun q => ⟨(by rw [← hv358]; exact (show 0 ≤ x357.toInt ∧ x357.toInt ≤ (o333_vm 32 0).toInt by omega)), (by rw [← hv358]; exact hRd3), (by rw [← hv358]; show (vm 34 0).toInt < x357.toInt; omega)⟩)⟩, hFz⟩, (by first | exact ⟨fun hn => by rw [← hp1, ← hv358]; exact hCL.ok okF.clause hz0 hp333 hsg hz0 (show (o333_vm 33 0).toInt = _ by rw [hfr3.1]) (show x357.toInt = _ by omega) (hs333.sc.up (by omega)), fun q => by rw [← hv358]; exact ⟨(h333.1 31 (by decide) (by decide) (by decide) (by decide)).trans (hTx hz0).1, (h333.1 32 (by decide) (by decide) (by decide) (by decide)).trans (hTx hz0).2⟩⟩ | exact ⟨fun hn => by rw [← hp1, ← hv358]; exact hCL.bad hnz, fun q => absurd q hnz⟩)⟩), by rw [ht]; exact hP, hD⟩, hS.F ht⟩) hS.2.2 dX10_takeClause_363
                    · have c329_ := i_eq c329
                      refine lv_aload_n hx hb dX10_takeClause_332 rfl (lv_at hl 4 rfl) ?_
                      refine mt_Vi (w1 := fun (u : Vf) => mdL E am u) (wf := fun (u : Vf) => mdL E am u) (wr := []) (As := []) (rest := []) (C := RX10) (ci := 10) ⟨hx, hb, hml, hown, hts⟩ (c_X10_here l E H.size am o322_vm hMI hat) (cwV 0 hts gX10_takeClause_X10_here rfl rfl rfl (by decide +kernel) ⟨Nat.le_of_ble_eq_true rfl, Nat.le_of_ble_eq_true rfl⟩) hE hS hA hP hD [0, 1, 2, 3, 4, 5, 6, 7, 8, 9, 10, 11, 12, 13, 14, 15, 16, 17, 18, 19, 20, 21, 22, 23, 24, 25, 26, 27, 28, 29, 30, 31, 32, 33, 34, 35, 36, 37, 38, 39, 40, 41, 42, 43, 44, 45] [] rfl rfl (by decide) (by decide) (by decide) [0, 1, 2, 3, 4, 5, 6, 7, 8, 9, 10, 11, 12, 13, 14, 15, 16, 17, 18, 19, 20, 21, 22, 23, 24, 25, 26, 27, 28, 29, 30, 31, 32, 33, 34, 35, 36, 37, 38, 39, 40, 41, 42, 43, 44, 45] (by decide) (fun u => rfl) rfl rfl rfl rfl hl.1 rfl (Nat.le_of_ble_eq_true rfl) dX10_takeClause_333 ⟨Nat.zero_le _, Nat.zero_le _⟩ (fun r333 u333 H locs h333 hP hD hS => ?_)
                      generalize u333 = o333_vm at hP hD h333
                      try dsimp only at h333
                      have hf333 := h333.2
                      replace h333 := h333.1
                      have hFn333 := h333.2
                      replace h333 := h333.1
                      replace hP : va_P (eD E) vwCl (mdL E am o333_vm) H := hP
                      replace hD : va_D A (mdL E am o333_vm) := hD
                      have hFz : fr lRd vm o333_vm := by first | exact hFz | exact hFz.tr hFn333 (by decide) | (rw [← hv333]; repeat' (first | exact hFz | refine fr.up ?_ (by decide) | refine fr.up3 ?_ (by decide)))
                      have hMI : MdI o333_vm := hMI.sn h333.1
                      have hRd3 : RdM o333_vm := (hRdx (by omega)).sn h333.1
                      have hat := h333.2.1
                      obtain ⟨hat1, hat2⟩ := id hat
                      have hq333_32 : (o333_vm 32 0).toInt = (o322_vm 32 0).toInt := by rw [h333.1 32 (by decide) (by decide) (by decide) (by decide)]
                      have hm333 := h333.2.2
                      have hp333 := hf333.1
                      rw [(hTx (by omega)).1, (hTx (by omega)).2] at hp333
                      have hg333 := hf333.2.2
                      rw [(hTx (by omega)).1, (hTx (by omega)).2] at hg333
                      have hfr3 := hf333.2.1
                      have hs333 : sn o322_vm o333_vm := h333.1
                      refine lv_bipush (v := 59) hx hb dX10_takeClause_336 (by decide) ?_
                      refine lv_icmp_eq (tgt := 351) hx hb dX10_takeClause_338 (by decide) (fun c338 => ?_) (fun c338 => ?_)
                      · have c338_ := i_eq c338
                        have hz0 : r322.toInt = 0 := by omega
                        have hsg : (o333_vm 34 0).toInt < (vm 32 0).toInt ∧ tc (vm 31) (o333_vm 34 0).toInt = 59 := by omega
                        refine lv_aload_n hx hb dX10_takeClause_351 rfl (lv_at hl 4 rfl) ?_
                        refine lv_dup hx hb dX10_takeClause_352 rfl ?_
                        refine va_get (D := eD E) (ci := 10) (v := .int (o333_vm 34 0)) (C := RX10) (T := TX10) (N := 79) hx hb hts in_X10 hown hK hP 0 rfl rfl 34 (by decide) lk0 (fun _ h9 => h9) rfl dX10_takeClause_353 ?_
                        refine lv_iconst (v := 1) hx hb dX10_takeClause_356 (by decide) ?_
                        refine lv_iadd hx hb dX10_takeClause_357 ?_
                        refine lv_topi (fun x357 e357 => ?_)
                        have t357 := i_add e357 (by omega)
                        refine va_put (D := eD E) (ci := 10) (v := .int x357) (ty := .int) (C := RX10) (T := TX10) (N := 79) hx hb hts in_X10 tyX10 tyX10_ok nmX10 hown hK hP hD hS 0 rfl rfl 34 (by decide) lk0 (fun _ h9 => h9) rfl (by decide +kernel) rfl rfl (Nat.le_of_ble_eq_true rfl) dX10_takeClause_358 (fun H locs hP hD hS => ?_)
                        replace hP : va_P (eD E) vwCl (mdL E am (up2 o333_vm 34 0 x357)) H := hP
                        replace hD : va_D A (mdL E am (up2 o333_vm 34 0 x357)) := hD
                        generalize hv358 : up2 o333_vm 34 0 x357 = vm_358 at hP hD
                        have hFz : fr lRd vm vm_358 := by first | exact hFz | (rw [← hv358]; exact hFz.up (by decide))
                        refine lv_iload hx hb dX10_takeClause_361 (lv_at hl 0 rfl) ?_
                        subst hQ
                        exact W.iret (v := r322) hx hb hr (fun t ht hW => ⟨⟨r322, (vm_358), rfl, (show ((MdI vm_358 ∧ (0 ≤ r322.toInt ∧ r322.toInt ≤ 4) ∧ (vm 34 0).toInt ≤ (vm_358 34 0).toInt ∧ (vm_358 34 0).toInt ≤ 251 ∧ (r322.toInt = 0 → atI vm_358 ∧ RdM vm_358 ∧ (vm 34 0).toInt < (vm_358 34 0).toInt)) ∧ fr lRd vm vm_358) ∧ ((skp (vm 31) (vm 32 0).toInt (vm 34 0).toInt < (vm 32 0).toInt → MF (clauseF (vm 31) (vm 32 0).toInt S (skp (vm 31) (vm 32 0).toInt (vm 34 0).toInt)) (vm 33 0).toInt r322.toInt (vm_358 33 0).toInt (fun y => (vm_358 34 0).toInt = y.1 ∧ SM y.2 vm_358)) ∧ (r322.toInt = 0 → vm_358 31 = vm 31 ∧ vm_358 32 = vm 32)) from ⟨⟨⟨(by rw [← hv358]; exact hMI), by omega, (by rw [← hv358]; show (vm 34 0).toInt ≤ x357.toInt; omega), (by rw [← hv358]; show x357.toInt ≤ 251; omega), (by first | exact fun q => absurd q (by omega) | exact fun q => ⟨(by rw [← hv358]; exact (show 0 ≤ x357.toInt ∧ x357.toInt ≤ (o333_vm 32 0).toInt by omega)), (by rw [← hv358]; exact hRd3), (by rw [← hv358]; show (vm 34 0).toInt < x357.toInt; omega)⟩)⟩, hFz⟩, (by first | exact ⟨fun hn => by rw [← hp1, ← hv358]; exact hCL.ok okF.clause hz0 hp333 hsg hz0 (show (o333_vm 33 0).toInt = _ by rw [hfr3.1]) (show x357.toInt = _ by omega) (hs333.sc.up (by omega)), fun q => by rw [← hv358]; exact ⟨(h333.1 31 (by decide) (by decide) (by decide) (by decide)).trans (hTx hz0).1, (h333.1 32 (by decide) (by decide) (by decide) (by decide)).trans (hTx hz0).2⟩⟩ | exact ⟨fun hn => by rw [← hp1, ← hv358]; exact hCL.bad hnz, fun q => absurd q hnz⟩)⟩), by rw [ht]; exact hP, hD⟩, hS.F ht⟩) hS.2.2 dX10_takeClause_363
                      · have c338_ := i_ne c338
                        refine lv_aload_n hx hb dX10_takeClause_341 rfl (lv_at hl 4 rfl) ?_
                        refine lv_iconst (v := 1) hx hb dX10_takeClause_342 (by decide) ?_
                        refine lv_aload_n hx hb dX10_takeClause_343 rfl (lv_at hl 4 rfl) ?_
                        refine va_get (D := eD E) (ci := 10) (v := .int (o333_vm 34 0)) (C := RX10) (T := TX10) (N := 79) hx hb hts in_X10 hown hK hP 0 rfl rfl 34 (by decide) lk0 (fun _ h9 => h9) rfl dX10_takeClause_344 ?_
                        refine mt_Vi (w1 := fun (u : Vf) => mdL E am u) (wf := fun (u : Vf) => mdL E am u) (wr := []) (As := [.int 1, .int (o333_vm 34 0)]) (rest := []) (C := RX10) (ci := 10) ⟨hx, hb, hml, hown, hts⟩ (c_X10_fails l E H.size am o333_vm 1 (o333_vm 34 0)) (cwV 2 hts gX10_takeClause_X10_fails rfl rfl rfl (by decide +kernel) ⟨Nat.le_of_ble_eq_true rfl, Nat.le_of_ble_eq_true rfl⟩) hE hS hA hP hD [0, 1, 2, 3, 4, 5, 6, 7, 8, 9, 10, 11, 12, 13, 14, 15, 16, 17, 18, 19, 20, 21, 22, 23, 24, 25, 26, 27, 28, 29, 30, 31, 32, 33, 34, 35, 36, 37, 38, 39, 40, 41, 42, 43, 44, 45] [] rfl rfl (by decide) (by decide) (by decide) [0, 1, 2, 3, 4, 5, 6, 7, 8, 9, 10, 11, 12, 13, 14, 15, 16, 17, 18, 19, 20, 21, 22, 23, 24, 25, 26, 27, 28, 29, 30, 31, 32, 33, 34, 35, 36, 37, 38, 39, 40, 41, 42, 43, 44, 45] (by decide) (fun u => rfl) rfl rfl rfl rfl hl.1 rfl (Nat.le_of_ble_eq_true rfl) dX10_takeClause_347 ⟨Nat.zero_le _, Nat.zero_le _⟩ (fun r347 u347 H locs h347 hP hD hS => ?_)
                        generalize u347 = o347_vm at hP hD h347
                        try dsimp only at h347
                        have hf347 := h347.2
                        replace h347 := h347.1
                        have hFn347 := h347.2
                        replace h347 := h347.1
                        replace hP : va_P (eD E) vwCl (mdL E am o347_vm) H := hP
                        replace hD : va_D A (mdL E am o347_vm) := hD
                        have hFz : fr lRd vm o347_vm := by first | exact hFz | exact hFz.tr hFn347 (by decide) | (rw [← hv347]; repeat' (first | exact hFz | refine fr.up ?_ (by decide) | refine fr.up3 ?_ (by decide)))
                        have hr347 : r347.toInt = 1 := by rw [h347.1]; decide
                        have hq347 : (o347_vm 34 0).toInt = (o333_vm 34 0).toInt := by rw [h347.2.2]
                        have hw347 : (o347_vm 33 0).toInt = (o333_vm 34 0).toInt := by rw [hf347]; rfl
                        subst hQ
                        exact W.iret (v := r347) hx hb hr (fun t ht hW => ⟨⟨r347, (o347_vm), rfl, (show ((MdI o347_vm ∧ (0 ≤ r347.toInt ∧ r347.toInt ≤ 4) ∧ (vm 34 0).toInt ≤ (o347_vm 34 0).toInt ∧ (o347_vm 34 0).toInt ≤ 251 ∧ (r347.toInt = 0 → atI o347_vm ∧ RdM o347_vm ∧ (vm 34 0).toInt < (o347_vm 34 0).toInt)) ∧ fr lRd vm o347_vm) ∧ ((skp (vm 31) (vm 32 0).toInt (vm 34 0).toInt < (vm 32 0).toInt → MF (clauseF (vm 31) (vm 32 0).toInt S (skp (vm 31) (vm 32 0).toInt (vm 34 0).toInt)) (vm 33 0).toInt r347.toInt (o347_vm 33 0).toInt (fun y => (o347_vm 34 0).toInt = y.1 ∧ SM y.2 o347_vm)) ∧ (r347.toInt = 0 → o347_vm 31 = vm 31 ∧ o347_vm 32 = vm 32)) from ⟨⟨⟨hMI.sn h347.2.1, by omega, by omega, by omega, fun q => absurd q (by omega)⟩, hFz⟩, ⟨fun hn => by rw [← hp1]; exact hCL.no okF.clause (by omega) hp333 (by omega) hr347 hw347, fun q => absurd q (by omega)⟩⟩), by rw [ht]; exact hP, hD⟩, hS.F ht⟩) hS.2.2 dX10_takeClause_350
                  · have c227_ := i_eq c227
                    have hcl3 : clauseF (vm 31) (vm 32 0).toInt S (o1_vm 34 0).toInt = .inl (3, (o1_vm 34 0).toInt) := cl3_d (by omega) (by omega) (by omega)
                    refine lv_aload_n hx hb dX10_takeClause_230 rfl (lv_at hl 3 rfl) ?_
                    refine lv_iconst (v := 3) hx hb dX10_takeClause_231 (by decide) ?_
                    refine lv_aload_n hx hb dX10_takeClause_232 rfl (lv_at hl 3 rfl) ?_
                    refine va_get (D := eD E) (ci := 10) (v := .int (o1_vm 34 0)) (C := RX10) (T := TX10) (N := 79) hx hb hts in_X10 hown hK hP 0 rfl rfl 34 (by decide) lk0 (fun _ h9 => h9) rfl dX10_takeClause_233 ?_
                    refine mt_Vi (w1 := fun (u : Vf) => mdL E am u) (wf := fun (u : Vf) => mdL E am u) (wr := []) (As := [.int 3, .int (o1_vm 34 0)]) (rest := []) (C := RX10) (ci := 10) ⟨hx, hb, hml, hown, hts⟩ (c_X10_fails l E H.size am o1_vm 3 (o1_vm 34 0)) (cwV 2 hts gX10_takeClause_X10_fails rfl rfl rfl (by decide +kernel) ⟨Nat.le_of_ble_eq_true rfl, Nat.le_of_ble_eq_true rfl⟩) hE hS hA hP hD [0, 1, 2, 3, 4, 5, 6, 7, 8, 9, 10, 11, 12, 13, 14, 15, 16, 17, 18, 19, 20, 21, 22, 23, 24, 25, 26, 27, 28, 29, 30, 31, 32, 33, 34, 35, 36, 37, 38, 39, 40, 41, 42, 43, 44, 45] [] rfl rfl (by decide) (by decide) (by decide) [0, 1, 2, 3, 4, 5, 6, 7, 8, 9, 10, 11, 12, 13, 14, 15, 16, 17, 18, 19, 20, 21, 22, 23, 24, 25, 26, 27, 28, 29, 30, 31, 32, 33, 34, 35, 36, 37, 38, 39, 40, 41, 42, 43, 44, 45] (by decide) (fun u => rfl) rfl rfl rfl rfl hl.1 rfl (Nat.le_of_ble_eq_true rfl) dX10_takeClause_236 ⟨Nat.zero_le _, Nat.zero_le _⟩ (fun r236 u236 H locs h236 hP hD hS => ?_)
                    generalize u236 = o236_vm at hP hD h236
                    try dsimp only at h236
                    have hf236 := h236.2
                    replace h236 := h236.1
                    have hFn236 := h236.2
                    replace h236 := h236.1
                    replace hP : va_P (eD E) vwCl (mdL E am o236_vm) H := hP
                    replace hD : va_D A (mdL E am o236_vm) := hD
                    have hFz : fr lRd vm o236_vm := by first | exact hFz | exact hFz.tr hFn236 (by decide) | (rw [← hv236]; repeat' (first | exact hFz | refine fr.up ?_ (by decide) | refine fr.up3 ?_ (by decide)))
                    have hr236 : r236.toInt = 3 := by rw [h236.1]; decide
                    have hq236 : (o236_vm 34 0).toInt = (o1_vm 34 0).toInt := by rw [h236.2.2]
                    have hw236 : (o236_vm 33 0).toInt = (o1_vm 34 0).toInt := by rw [hf236]; rfl
                    subst hQ
                    exact W.iret (v := r236) hx hb hr (fun t ht hW => ⟨⟨r236, (o236_vm), rfl, (show ((MdI o236_vm ∧ (0 ≤ r236.toInt ∧ r236.toInt ≤ 4) ∧ (vm 34 0).toInt ≤ (o236_vm 34 0).toInt ∧ (o236_vm 34 0).toInt ≤ 251 ∧ (r236.toInt = 0 → atI o236_vm ∧ RdM o236_vm ∧ (vm 34 0).toInt < (o236_vm 34 0).toInt)) ∧ fr lRd vm o236_vm) ∧ ((skp (vm 31) (vm 32 0).toInt (vm 34 0).toInt < (vm 32 0).toInt → MF (clauseF (vm 31) (vm 32 0).toInt S (skp (vm 31) (vm 32 0).toInt (vm 34 0).toInt)) (vm 33 0).toInt r236.toInt (o236_vm 33 0).toInt (fun y => (o236_vm 34 0).toInt = y.1 ∧ SM y.2 o236_vm)) ∧ (r236.toInt = 0 → o236_vm 31 = vm 31 ∧ o236_vm 32 = vm 32)) from ⟨⟨⟨hMI.sn h236.2.1, by omega, by omega, by omega, fun q => absurd q (by omega)⟩, hFz⟩, ⟨fun hn => MF.no (by rw [← hp1]; exact hcl3) hr236 hw236, fun q => absurd q (by omega)⟩⟩), by rw [ht]; exact hP, hD⟩, hS.F ht⟩) hS.2.2 dX10_takeClause_239
                · have c90_ := i_eq c90
                  refine lv_aload_n hx hb dX10_takeClause_93 rfl (lv_at hl 2 rfl) ?_
                  refine lv_iconst (v := 1) hx hb dX10_takeClause_94 (by decide) ?_
                  refine lv_aload_n hx hb dX10_takeClause_95 rfl (lv_at hl 2 rfl) ?_
                  refine va_get (D := eD E) (ci := 10) (v := .int (o1_vm 34 0)) (C := RX10) (T := TX10) (N := 79) hx hb hts in_X10 hown hK hP 0 rfl rfl 34 (by decide) lk0 (fun _ h9 => h9) rfl dX10_takeClause_96 ?_
                  refine mt_Vi (w1 := fun (u : Vf) => mdL E am u) (wf := fun (u : Vf) => mdL E am u) (wr := []) (As := [.int 1, .int (o1_vm 34 0)]) (rest := []) (C := RX10) (ci := 10) ⟨hx, hb, hml, hown, hts⟩ (c_X10_fails l E H.size am o1_vm 1 (o1_vm 34 0)) (cwV 2 hts gX10_takeClause_X10_fails rfl rfl rfl (by decide +kernel) ⟨Nat.le_of_ble_eq_true rfl, Nat.le_of_ble_eq_true rfl⟩) hE hS hA hP hD [0, 1, 2, 3, 4, 5, 6, 7, 8, 9, 10, 11, 12, 13, 14, 15, 16, 17, 18, 19, 20, 21, 22, 23, 24, 25, 26, 27, 28, 29, 30, 31, 32, 33, 34, 35, 36, 37, 38, 39, 40, 41, 42, 43, 44, 45] [] rfl rfl (by decide) (by decide) (by decide) [0, 1, 2, 3, 4, 5, 6, 7, 8, 9, 10, 11, 12, 13, 14, 15, 16, 17, 18, 19, 20, 21, 22, 23, 24, 25, 26, 27, 28, 29, 30, 31, 32, 33, 34, 35, 36, 37, 38, 39, 40, 41, 42, 43, 44, 45] (by decide) (fun u => rfl) rfl rfl rfl rfl hl.1 rfl (Nat.le_of_ble_eq_true rfl) dX10_takeClause_99 ⟨Nat.zero_le _, Nat.zero_le _⟩ (fun r99 u99 H locs h99 hP hD hS => ?_)
                  generalize u99 = o99_vm at hP hD h99
                  try dsimp only at h99
                  have hf99 := h99.2
                  replace h99 := h99.1
                  have hFn99 := h99.2
                  replace h99 := h99.1
                  replace hP : va_P (eD E) vwCl (mdL E am o99_vm) H := hP
                  replace hD : va_D A (mdL E am o99_vm) := hD
                  have hFz : fr lRd vm o99_vm := by first | exact hFz | exact hFz.tr hFn99 (by decide) | (rw [← hv99]; repeat' (first | exact hFz | refine fr.up ?_ (by decide) | refine fr.up3 ?_ (by decide)))
                  have hr99 : r99.toInt = 1 := by rw [h99.1]; decide
                  have hq99 : (o99_vm 34 0).toInt = (o1_vm 34 0).toInt := by rw [h99.2.2]
                  have hw99 : (o99_vm 33 0).toInt = (o1_vm 34 0).toInt := by rw [hf99]; rfl
                  subst hQ
                  exact W.iret (v := r99) hx hb hr (fun t ht hW => ⟨⟨r99, (o99_vm), rfl, (show ((MdI o99_vm ∧ (0 ≤ r99.toInt ∧ r99.toInt ≤ 4) ∧ (vm 34 0).toInt ≤ (o99_vm 34 0).toInt ∧ (o99_vm 34 0).toInt ≤ 251 ∧ (r99.toInt = 0 → atI o99_vm ∧ RdM o99_vm ∧ (vm 34 0).toInt < (o99_vm 34 0).toInt)) ∧ fr lRd vm o99_vm) ∧ ((skp (vm 31) (vm 32 0).toInt (vm 34 0).toInt < (vm 32 0).toInt → MF (clauseF (vm 31) (vm 32 0).toInt S (skp (vm 31) (vm 32 0).toInt (vm 34 0).toInt)) (vm 33 0).toInt r99.toInt (o99_vm 33 0).toInt (fun y => (o99_vm 34 0).toInt = y.1 ∧ SM y.2 o99_vm)) ∧ (r99.toInt = 0 → o99_vm 31 = vm 31 ∧ o99_vm 32 = vm 32)) from ⟨⟨⟨hMI.sn h99.2.1, by omega, by omega, by omega, fun q => absurd q (by omega)⟩, hFz⟩, ⟨fun hn => MF.no (by rw [← hp1]; exact cl_no (by omega)) hr99 hw99, fun q => absurd q (by omega)⟩⟩), by rw [ht]; exact hP, hD⟩, hS.F ht⟩) hS.2.2 dX10_takeClause_102
            · have c58_ := i_eq c58
              refine lv_iconst (v := 5) hx hb dX10_takeClause_61 (by decide) ?_
              refine lv_goto (tgt := 77) hx hb dX10_takeClause_62 (by decide) ?_
              refine lv_istore_n (lv' := [(2, .int 5), (1, .int r1), (0, .ref (am 0))]) hx hb dX10_takeClause_77 rfl hl (by decide) rfl (fun ls hl => ?_)
              refine lv_iload_n hx hb dX10_takeClause_78 rfl (lv_at hl 0 rfl) ?_
              refine lv_if_lt (tgt := 93) hx hb dX10_takeClause_79 (by decide) (fun q => absurd q (by decide)) (fun _ => ?_)
              refine lv_iload_n hx hb dX10_takeClause_82 rfl (lv_at hl 0 rfl) ?_
              refine lv_if_le (tgt := 103) hx hb dX10_takeClause_83 (by decide) (fun q => absurd q (by decide)) (fun _ => ?_)
              refine lv_aload_n hx hb dX10_takeClause_86 rfl (lv_at hl 2 rfl) ?_
              refine va_get (D := eD E) (ci := 10) (v := .int (o1_vm 37 0)) (C := RX10) (T := TX10) (N := 79) hx hb hts in_X10 hown hK hP 0 rfl rfl 37 (by decide) lk1 (fun _ h9 => h9) rfl dX10_takeClause_87 ?_
              refine lv_if_ne (tgt := 103) hx hb dX10_takeClause_90 (by decide) (fun c90 => ?_) (fun c90 => ?_)
              · have c90_ := i_ne c90
                refine lv_iload_n hx hb dX10_takeClause_103 rfl (lv_at hl 0 rfl) ?_
                refine lv_if_ne (tgt := 122) hx hb dX10_takeClause_104 (by decide) (fun _ => ?_) (fun q => absurd q (by decide))
                refine lv_iload_n hx hb dX10_takeClause_122 rfl (lv_at hl 0 rfl) ?_
                refine lv_iconst (v := 1) hx hb dX10_takeClause_123 (by decide) ?_
                refine lv_icmp_ne (tgt := 144) hx hb dX10_takeClause_124 (by decide) (fun _ => ?_) (fun q => absurd q (by decide))
                refine lv_iload_n hx hb dX10_takeClause_144 rfl (lv_at hl 0 rfl) ?_
                refine lv_iconst (v := 2) hx hb dX10_takeClause_145 (by decide) ?_
                refine lv_icmp_ne (tgt := 165) hx hb dX10_takeClause_146 (by decide) (fun _ => ?_) (fun q => absurd q (by decide))
                refine lv_iload_n hx hb dX10_takeClause_165 rfl (lv_at hl 0 rfl) ?_
                refine lv_iconst (v := 3) hx hb dX10_takeClause_166 (by decide) ?_
                refine lv_icmp_ne (tgt := 183) hx hb dX10_takeClause_167 (by decide) (fun _ => ?_) (fun q => absurd q (by decide))
                refine lv_iconst (v := 0) hx hb dX10_takeClause_183 (by decide) ?_
                refine lv_istore_n (lv' := [(3, .int 0), (2, .int 5), (1, .int r1), (0, .ref (am 0))]) hx hb dX10_takeClause_184 rfl hl (by decide) rfl (fun ls hl => ?_)
                refine lv_iload_n hx hb dX10_takeClause_185 rfl (lv_at hl 0 rfl) ?_
                refine lv_if_ne (tgt := 230) hx hb dX10_takeClause_186 (by decide) (fun q => absurd q (by decide)) (fun _ => ?_)
                refine lv_iload_n hx hb dX10_takeClause_189 rfl (lv_at hl 1 rfl) ?_
                refine lv_iconst (v := 4) hx hb dX10_takeClause_190 (by decide) ?_
                refine lv_icmp_ne (tgt := 203) hx hb dX10_takeClause_191 (by decide) (fun _ => ?_) (fun q => absurd q (by decide))
                refine lv_iload_n hx hb dX10_takeClause_203 rfl (lv_at hl 1 rfl) ?_
                refine lv_iconst (v := 5) hx hb dX10_takeClause_204 (by decide) ?_
                refine lv_icmp_ne (tgt := 216) hx hb dX10_takeClause_205 (by decide) (fun q => absurd q (by decide)) (fun _ => ?_)
                refine lv_aload_n hx hb dX10_takeClause_208 rfl (lv_at hl 3 rfl) ?_
                refine va_get (D := eD E) (ci := 10) (v := .int (o1_vm 55 0)) (C := RX10) (T := TX10) (N := 79) hx hb hts in_X10 hown hK hP 0 rfl rfl 55 (by decide) lk3 (fun _ h9 => h9) rfl dX10_takeClause_209 ?_
                refine lv_iconst (v := 5) hx hb dX10_takeClause_212 (by decide) ?_
                refine lv_icmp_eq (tgt := 230) hx hb dX10_takeClause_213 (by decide) (fun c213 => ?_) (fun c213 => ?_)
                · have c213_ := i_eq c213
                  have hcl3 : clauseF (vm 31) (vm 32 0).toInt S (o1_vm 34 0).toInt = .inl (3, (o1_vm 34 0).toInt) := cl3_w (by omega) (by omega) (by omega)
                  refine lv_aload_n hx hb dX10_takeClause_230 rfl (lv_at hl 3 rfl) ?_
                  refine lv_iconst (v := 3) hx hb dX10_takeClause_231 (by decide) ?_
                  refine lv_aload_n hx hb dX10_takeClause_232 rfl (lv_at hl 3 rfl) ?_
                  refine va_get (D := eD E) (ci := 10) (v := .int (o1_vm 34 0)) (C := RX10) (T := TX10) (N := 79) hx hb hts in_X10 hown hK hP 0 rfl rfl 34 (by decide) lk0 (fun _ h9 => h9) rfl dX10_takeClause_233 ?_
                  refine mt_Vi (w1 := fun (u : Vf) => mdL E am u) (wf := fun (u : Vf) => mdL E am u) (wr := []) (As := [.int 3, .int (o1_vm 34 0)]) (rest := []) (C := RX10) (ci := 10) ⟨hx, hb, hml, hown, hts⟩ (c_X10_fails l E H.size am o1_vm 3 (o1_vm 34 0)) (cwV 2 hts gX10_takeClause_X10_fails rfl rfl rfl (by decide +kernel) ⟨Nat.le_of_ble_eq_true rfl, Nat.le_of_ble_eq_true rfl⟩) hE hS hA hP hD [0, 1, 2, 3, 4, 5, 6, 7, 8, 9, 10, 11, 12, 13, 14, 15, 16, 17, 18, 19, 20, 21, 22, 23, 24, 25, 26, 27, 28, 29, 30, 31, 32, 33, 34, 35, 36, 37, 38, 39, 40, 41, 42, 43, 44, 45] [] rfl rfl (by decide) (by decide) (by decide) [0, 1, 2, 3, 4, 5, 6, 7, 8, 9, 10, 11, 12, 13, 14, 15, 16, 17, 18, 19, 20, 21, 22, 23, 24, 25, 26, 27, 28, 29, 30, 31, 32, 33, 34, 35, 36, 37, 38, 39, 40, 41, 42, 43, 44, 45] (by decide) (fun u => rfl) rfl rfl rfl rfl hl.1 rfl (Nat.le_of_ble_eq_true rfl) dX10_takeClause_236 ⟨Nat.zero_le _, Nat.zero_le _⟩ (fun r236 u236 H locs h236 hP hD hS => ?_)
                  generalize u236 = o236_vm at hP hD h236
                  try dsimp only at h236
                  have hf236 := h236.2
                  replace h236 := h236.1
                  have hFn236 := h236.2
                  replace h236 := h236.1
                  replace hP : va_P (eD E) vwCl (mdL E am o236_vm) H := hP
                  replace hD : va_D A (mdL E am o236_vm) := hD
                  have hFz : fr lRd vm o236_vm := by first | exact hFz | exact hFz.tr hFn236 (by decide) | (rw [← hv236]; repeat' (first | exact hFz | refine fr.up ?_ (by decide) | refine fr.up3 ?_ (by decide)))
                  have hr236 : r236.toInt = 3 := by rw [h236.1]; decide
                  have hq236 : (o236_vm 34 0).toInt = (o1_vm 34 0).toInt := by rw [h236.2.2]
                  have hw236 : (o236_vm 33 0).toInt = (o1_vm 34 0).toInt := by rw [hf236]; rfl
                  subst hQ
                  exact W.iret (v := r236) hx hb hr (fun t ht hW => ⟨⟨r236, (o236_vm), rfl, (show ((MdI o236_vm ∧ (0 ≤ r236.toInt ∧ r236.toInt ≤ 4) ∧ (vm 34 0).toInt ≤ (o236_vm 34 0).toInt ∧ (o236_vm 34 0).toInt ≤ 251 ∧ (r236.toInt = 0 → atI o236_vm ∧ RdM o236_vm ∧ (vm 34 0).toInt < (o236_vm 34 0).toInt)) ∧ fr lRd vm o236_vm) ∧ ((skp (vm 31) (vm 32 0).toInt (vm 34 0).toInt < (vm 32 0).toInt → MF (clauseF (vm 31) (vm 32 0).toInt S (skp (vm 31) (vm 32 0).toInt (vm 34 0).toInt)) (vm 33 0).toInt r236.toInt (o236_vm 33 0).toInt (fun y => (o236_vm 34 0).toInt = y.1 ∧ SM y.2 o236_vm)) ∧ (r236.toInt = 0 → o236_vm 31 = vm 31 ∧ o236_vm 32 = vm 32)) from ⟨⟨⟨hMI.sn h236.2.1, by omega, by omega, by omega, fun q => absurd q (by omega)⟩, hFz⟩, ⟨fun hn => MF.no (by rw [← hp1]; exact hcl3) hr236 hw236, fun q => absurd q (by omega)⟩⟩), by rw [ht]; exact hP, hD⟩, hS.F ht⟩) hS.2.2 dX10_takeClause_239
                · have c213_ := i_ne c213
                  refine lv_iload_n hx hb dX10_takeClause_216 rfl (lv_at hl 1 rfl) ?_
                  refine lv_bipush (v := 6) hx hb dX10_takeClause_217 (by decide) ?_
                  refine lv_icmp_ne (tgt := 240) hx hb dX10_takeClause_219 (by decide) (fun _ => ?_) (fun q => absurd q (by decide))
                  refine lv_aload_n hx hb dX10_takeClause_240 rfl (lv_at hl 3 rfl) ?_
                  refine lv_dup hx hb dX10_takeClause_241 rfl ?_
                  refine va_get (D := eD E) (ci := 10) (v := .int (o1_vm 34 0)) (C := RX10) (T := TX10) (N := 79) hx hb hts in_X10 hown hK hP 0 rfl rfl 34 (by decide) lk0 (fun _ h9 => h9) rfl dX10_takeClause_242 ?_
                  refine lv_iconst (v := 1) hx hb dX10_takeClause_245 (by decide) ?_
                  have sv246_o1_vm340 : 0 ≤ (o1_vm 34 0).toInt ∧ (o1_vm 34 0).toInt ≤ 249 := by omega
                  refine lv_iadd hx hb dX10_takeClause_246 ?_
                  refine lv_topi (fun x246 e246 => ?_)
                  have t246 := i_add e246 (by omega)
                  refine va_put (D := eD E) (ci := 10) (v := .int x246) (ty := .int) (C := RX10) (T := TX10) (N := 79) hx hb hts in_X10 tyX10 tyX10_ok nmX10 hown hK hP hD hS 0 rfl rfl 34 (by decide) lk0 (fun _ h9 => h9) rfl (by decide +kernel) rfl rfl (Nat.le_of_ble_eq_true rfl) dX10_takeClause_247 (fun H locs hP hD hS => ?_)
                  replace hP : va_P (eD E) vwCl (mdL E am (up2 o1_vm 34 0 x246)) H := hP
                  replace hD : va_D A (mdL E am (up2 o1_vm 34 0 x246)) := hD
                  generalize hv247 : up2 o1_vm 34 0 x246 = vm_247 at hP hD
                  have hFz : fr lRd vm vm_247 := by first | exact hFz | (rw [← hv247]; exact hFz.up (by decide))
                  have hMI : MdI vm_247 := by rw [← hv247]; exact hMI
                  have hRd : RdM vm_247 := by rw [← hv247]; exact hRd
                  have hat : atI vm_247 := by rw [← hv247]; exact (show 0 ≤ x246.toInt ∧ x246.toInt ≤ (o1_vm 32 0).toInt by omega)
                  have hq247_34 : (vm_247 34 0).toInt = x246.toInt := by rw [← hv247]; rfl
                  have hq247_37 : (vm_247 37 0).toInt = (o1_vm 37 0).toInt := by rw [← hv247]; rfl
                  have hq247_38 : (vm_247 38 0).toInt = (o1_vm 38 0).toInt := by rw [← hv247]; rfl
                  have hq247_41 : (vm_247 41 0).toInt = (o1_vm 41 0).toInt := by rw [← hv247]; rfl
                  have hq247_43 : (vm_247 43 0).toInt = (o1_vm 43 0).toInt := by rw [← hv247]; rfl
                  have hq247_48 : (vm_247 48 0).toInt = (o1_vm 48 0).toInt := by rw [← hv247]; rfl
                  have hq247_51 : (vm_247 51 0).toInt = (o1_vm 51 0).toInt := by rw [← hv247]; rfl
                  have hq247_55 : (vm_247 55 0).toInt = (o1_vm 55 0).toInt := by rw [← hv247]; rfl
                  have hq247_58 : (vm_247 58 0).toInt = (o1_vm 58 0).toInt := by rw [← hv247]; rfl
                  have hSM : SM S vm_247 := by rw [← hv247]; exact hSM1.sc (sc.rf.up (by omega))
                  have hT247 : vm_247 31 = vm 31 ∧ vm_247 32 = vm 32 ∧ vm_247 33 = vm 33 := by rw [← hv247]; exact ⟨h1.1 31 (by decide) (by decide) (by decide) (by decide), h1.1 32 (by decide) (by decide) (by decide) (by decide), hfr1.1⟩
                  have hp247 : (vm_247 34 0).toInt = (o1_vm 34 0).toInt + 1 := by omega
                  refine lv_iload_n hx hb dX10_takeClause_250 rfl (lv_at hl 1 rfl) ?_
                  refine lv_if_ne (tgt := 261) hx hb dX10_takeClause_251 (by decide) (fun _ => ?_) (fun q => absurd q (by decide))
                  refine lv_iload_n hx hb dX10_takeClause_261 rfl (lv_at hl 1 rfl) ?_
                  refine lv_iconst (v := 1) hx hb dX10_takeClause_262 (by decide) ?_
                  refine lv_icmp_ne (tgt := 273) hx hb dX10_takeClause_263 (by decide) (fun _ => ?_) (fun q => absurd q (by decide))
                  refine lv_iload_n hx hb dX10_takeClause_273 rfl (lv_at hl 1 rfl) ?_
                  refine lv_iconst (v := 2) hx hb dX10_takeClause_274 (by decide) ?_
                  refine lv_icmp_ne (tgt := 285) hx hb dX10_takeClause_275 (by decide) (fun _ => ?_) (fun q => absurd q (by decide))
                  refine lv_iload_n hx hb dX10_takeClause_285 rfl (lv_at hl 1 rfl) ?_
                  refine lv_iconst (v := 3) hx hb dX10_takeClause_286 (by decide) ?_
                  refine lv_icmp_ne (tgt := 297) hx hb dX10_takeClause_287 (by decide) (fun _ => ?_) (fun q => absurd q (by decide))
                  refine lv_iload_n hx hb dX10_takeClause_297 rfl (lv_at hl 1 rfl) ?_
                  refine lv_iconst (v := 4) hx hb dX10_takeClause_298 (by decide) ?_
                  refine lv_icmp_ne (tgt := 309) hx hb dX10_takeClause_299 (by decide) (fun _ => ?_) (fun q => absurd q (by decide))
                  refine lv_iload_n hx hb dX10_takeClause_309 rfl (lv_at hl 1 rfl) ?_
                  refine lv_iconst (v := 5) hx hb dX10_takeClause_310 (by decide) ?_
                  refine lv_icmp_ne (tgt := 321) hx hb dX10_takeClause_311 (by decide) (fun q => absurd q (by decide)) (fun _ => ?_)
                  refine lv_aload_n hx hb dX10_takeClause_314 rfl (lv_at hl 3 rfl) ?_
                  refine mt_Vi (w1 := fun (u : Vf) => mdL E am u) (wf := fun (u : Vf) => mdL E am u) (wr := []) (As := []) (rest := []) (C := RX10) (ci := 10) ⟨hx, hb, hml, hown, hts⟩ (c_X10_takeWell l E H.size am vm_247 S hMI hat hRd (by omega) (by omega) hSM) (cwV 0 hts gX10_takeClause_X10_takeWell rfl rfl rfl (by decide +kernel) ⟨Nat.le_of_ble_eq_true rfl, Nat.le_of_ble_eq_true rfl⟩) hE hS hA hP hD [0, 1, 2, 3, 4, 5, 6, 7, 8, 9, 10, 11, 12, 13, 14, 15, 16, 17, 18, 19, 20, 21, 22, 23, 24, 25, 26, 27, 28, 29, 30, 31, 32, 33, 34, 35, 36, 37, 38, 39, 40, 41, 42, 43, 44, 45] [] rfl rfl (by decide) (by decide) (by decide) [0, 1, 2, 3, 4, 5, 6, 7, 8, 9, 10, 11, 12, 13, 14, 15, 16, 17, 18, 19, 20, 21, 22, 23, 24, 25, 26, 27, 28, 29, 30, 31, 32, 33, 34, 35, 36, 37, 38, 39, 40, 41, 42, 43, 44, 45] (by decide) (fun u => rfl) rfl rfl rfl rfl hl.1 rfl (Nat.le_of_ble_eq_true rfl) dX10_takeClause_315 ⟨Nat.zero_le _, Nat.zero_le _⟩ (fun r315 u315 H locs h315 hP hD hS => ?_)
                  generalize u315 = o315_vm at hP hD h315
                  try dsimp only at h315
                  have hf315 := h315.2
                  replace h315 := h315.1
                  have hFn315 := h315.2
                  replace h315 := h315.1
                  replace hP : va_P (eD E) vwCl (mdL E am o315_vm) H := hP
                  replace hD : va_D A (mdL E am o315_vm) := hD
                  have hFz : fr lRd vm o315_vm := by first | exact hFz | exact hFz.tr hFn315 (by decide) | (rw [← hv315]; repeat' (first | exact hFz | refine fr.up ?_ (by decide) | refine fr.up3 ?_ (by decide)))
                  have hMI := h315.1
                  have hat := h315.2.1
                  have hRdx := h315.2.2.2.2
                  obtain ⟨hat1, hat2⟩ := id hat
                  have hT := hMI.1.2.2.2.2.2.2.1
                  have hm315 := h315.2.2.1
                  have hz315 := h315.2.2.2.1
                  have hCL : CK (clauseF (vm 31) (vm 32 0).toInt S (o1_vm 34 0).toInt) S (vm 31) (vm 32 0).toInt (vm 33 0).toInt r315.toInt (o315_vm 33 0).toInt (o315_vm 34 0).toInt o315_vm := by rw [cl_w (by omega) (by omega)]; have q := hf315 (o1_vm 34 0).toInt; rw [hT247.1, hT247.2.1, hT247.2.2, hp247] at q; exact TK.ck (g := fun x : ((Unit × ((Int × Int × Int) × (Int × Int × Int))) × Unit) × (Int × Int × Int) => wellS S (plc (S 37 0) x.1.1.2) x.2.1) q (fun _ => ⟨rfl, rfl⟩)
                  have hR := r315
                  have hTx : r315.toInt = 0 → o315_vm 31 = vm 31 ∧ o315_vm 32 = vm 32 := fun q => by have z := hCL.txt okF.clause q hSM; rw [hT247.1, hT247.2.1] at z; exact z
                  clear hf315
                  refine lv_goto (tgt := 325) hx hb dX10_takeClause_318 (by decide) ?_
                  refine lv_istore (lv' := [(4, .int r315), (3, .int 0), (2, .int 5), (1, .int r1), (0, .ref (am 0))]) hx hb dX10_takeClause_325 hl (by decide) rfl (fun ls hl => ?_)
                  refine lv_iload hx hb dX10_takeClause_327 (lv_at hl 0 rfl) ?_
                  refine lv_if_ne (tgt := 351) hx hb dX10_takeClause_329 (by decide) (fun c329 => ?_) (fun c329 => ?_)
                  · have c329_ := i_ne c329
                    have hnz : r315.toInt ≠ 0 := by omega
                    refine lv_aload_n hx hb dX10_takeClause_351 rfl (lv_at hl 4 rfl) ?_
                    refine lv_dup hx hb dX10_takeClause_352 rfl ?_
                    refine va_get (D := eD E) (ci := 10) (v := .int (o315_vm 34 0)) (C := RX10) (T := TX10) (N := 79) hx hb hts in_X10 hown hK hP 0 rfl rfl 34 (by decide) lk0 (fun _ h9 => h9) rfl dX10_takeClause_353 ?_
                    refine lv_iconst (v := 1) hx hb dX10_takeClause_356 (by decide) ?_
                    refine lv_iadd hx hb dX10_takeClause_357 ?_
                    refine lv_topi (fun x357 e357 => ?_)
                    have t357 := i_add e357 (by omega)
                    refine va_put (D := eD E) (ci := 10) (v := .int x357) (ty := .int) (C := RX10) (T := TX10) (N := 79) hx hb hts in_X10 tyX10 tyX10_ok nmX10 hown hK hP hD hS 0 rfl rfl 34 (by decide) lk0 (fun _ h9 => h9) rfl (by decide +kernel) rfl rfl (Nat.le_of_ble_eq_true rfl) dX10_takeClause_358 (fun H locs hP hD hS => ?_)
                    replace hP : va_P (eD E) vwCl (mdL E am (up2 o315_vm 34 0 x357)) H := hP
                    replace hD : va_D A (mdL E am (up2 o315_vm 34 0 x357)) := hD
                    generalize hv358 : up2 o315_vm 34 0 x357 = vm_358 at hP hD
                    have hFz : fr lRd vm vm_358 := by first | exact hFz | (rw [← hv358]; exact hFz.up (by decide))
                    refine lv_iload hx hb dX10_takeClause_361 (lv_at hl 0 rfl) ?_
                    subst hQ
                    exact W.iret (v := r315) hx hb hr (fun t ht hW => ⟨⟨r315, (vm_358), rfl, (show ((MdI vm_358 ∧ (0 ≤ r315.toInt ∧ r315.toInt ≤ 4) ∧ (vm 34 0).toInt ≤ (vm_358 34 0).toInt ∧ (vm_358 34 0).toInt ≤ 251 ∧ (r315.toInt = 0 → atI vm_358 ∧ RdM vm_358 ∧ (vm 34 0).toInt < (vm_358 34 0).toInt)) ∧ fr lRd vm vm_358) ∧ ((skp (vm 31) (vm 32 0).toInt (vm 34 0).toInt < (vm 32 0).toInt → MF (clauseF (vm 31) (vm 32 0).toInt S (skp (vm 31) (vm 32 0).toInt (vm 34 0).toInt)) (vm 33 0).toInt r315.toInt (vm_358 33 0).toInt (fun y => (vm_358 34 0).toInt = y.1 ∧ SM y.2 vm_358)) ∧ (r315.toInt = 0 → vm_358 31 = vm 31 ∧ vm_358 32 = vm 32)) from ⟨⟨⟨(by rw [← hv358]; exact hMI), by omega, (by rw [← hv358]; show (vm 34 0).toInt ≤ x357.toInt; omega), (by rw [← hv358]; show x357.toInt ≤ 251; omega), (by first | exact fun q => absurd q (by omega) | exact fun q => ⟨(by rw [← hv358]; exact (show 0 ≤ x357.toInt ∧ x357.toInt ≤ (o333_vm 32 0).toInt by omega)), (by rw [← hv358]; exact hRd3), (by rw [← hv358]; show (vm 34 0).toInt < x357.toInt; omega)⟩)⟩, hFz⟩, (by first | exact ⟨fun hn => by rw [← hp1, ← hv358]; exact hCL.ok okF.clause hz0 hp333 hsg hz0 (show (o333_vm 33 0).toInt = _ by rw [hfr3.1]) (show x357.toInt = _ by omega) (hs333.sc.up (by omega)), fun q => by rw [← hv358]; exact ⟨(h333.1 31 (by decide) (by decide) (by decide) (by decide)).trans (hTx hz0).1, (h333.1 32 (by decide) (by decide) (by decide) (by decide)).trans (hTx hz0).2⟩⟩ | exact ⟨fun hn => by rw [← hp1, ← hv358]; exact hCL.bad hnz, fun q => absurd q hnz⟩)⟩), by rw [ht]; exact hP, hD⟩, hS.F ht⟩) hS.2.2 dX10_takeClause_363
                  · have c329_ := i_eq c329
                    refine lv_aload_n hx hb dX10_takeClause_332 rfl (lv_at hl 4 rfl) ?_
                    refine mt_Vi (w1 := fun (u : Vf) => mdL E am u) (wf := fun (u : Vf) => mdL E am u) (wr := []) (As := []) (rest := []) (C := RX10) (ci := 10) ⟨hx, hb, hml, hown, hts⟩ (c_X10_here l E H.size am o315_vm hMI hat) (cwV 0 hts gX10_takeClause_X10_here rfl rfl rfl (by decide +kernel) ⟨Nat.le_of_ble_eq_true rfl, Nat.le_of_ble_eq_true rfl⟩) hE hS hA hP hD [0, 1, 2, 3, 4, 5, 6, 7, 8, 9, 10, 11, 12, 13, 14, 15, 16, 17, 18, 19, 20, 21, 22, 23, 24, 25, 26, 27, 28, 29, 30, 31, 32, 33, 34, 35, 36, 37, 38, 39, 40, 41, 42, 43, 44, 45] [] rfl rfl (by decide) (by decide) (by decide) [0, 1, 2, 3, 4, 5, 6, 7, 8, 9, 10, 11, 12, 13, 14, 15, 16, 17, 18, 19, 20, 21, 22, 23, 24, 25, 26, 27, 28, 29, 30, 31, 32, 33, 34, 35, 36, 37, 38, 39, 40, 41, 42, 43, 44, 45] (by decide) (fun u => rfl) rfl rfl rfl rfl hl.1 rfl (Nat.le_of_ble_eq_true rfl) dX10_takeClause_333 ⟨Nat.zero_le _, Nat.zero_le _⟩ (fun r333 u333 H locs h333 hP hD hS => ?_)
                    generalize u333 = o333_vm at hP hD h333
                    try dsimp only at h333
                    have hf333 := h333.2
                    replace h333 := h333.1
                    have hFn333 := h333.2
                    replace h333 := h333.1
                    replace hP : va_P (eD E) vwCl (mdL E am o333_vm) H := hP
                    replace hD : va_D A (mdL E am o333_vm) := hD
                    have hFz : fr lRd vm o333_vm := by first | exact hFz | exact hFz.tr hFn333 (by decide) | (rw [← hv333]; repeat' (first | exact hFz | refine fr.up ?_ (by decide) | refine fr.up3 ?_ (by decide)))
                    have hMI : MdI o333_vm := hMI.sn h333.1
                    have hRd3 : RdM o333_vm := (hRdx (by omega)).sn h333.1
                    have hat := h333.2.1
                    obtain ⟨hat1, hat2⟩ := id hat
                    have hq333_32 : (o333_vm 32 0).toInt = (o315_vm 32 0).toInt := by rw [h333.1 32 (by decide) (by decide) (by decide) (by decide)]
                    have hm333 := h333.2.2
                    have hp333 := hf333.1
                    rw [(hTx (by omega)).1, (hTx (by omega)).2] at hp333
                    have hg333 := hf333.2.2
                    rw [(hTx (by omega)).1, (hTx (by omega)).2] at hg333
                    have hfr3 := hf333.2.1
                    have hs333 : sn o315_vm o333_vm := h333.1
                    refine lv_bipush (v := 59) hx hb dX10_takeClause_336 (by decide) ?_
                    refine lv_icmp_eq (tgt := 351) hx hb dX10_takeClause_338 (by decide) (fun c338 => ?_) (fun c338 => ?_)
                    · have c338_ := i_eq c338
                      have hz0 : r315.toInt = 0 := by omega
                      have hsg : (o333_vm 34 0).toInt < (vm 32 0).toInt ∧ tc (vm 31) (o333_vm 34 0).toInt = 59 := by omega
                      refine lv_aload_n hx hb dX10_takeClause_351 rfl (lv_at hl 4 rfl) ?_
                      refine lv_dup hx hb dX10_takeClause_352 rfl ?_
                      refine va_get (D := eD E) (ci := 10) (v := .int (o333_vm 34 0)) (C := RX10) (T := TX10) (N := 79) hx hb hts in_X10 hown hK hP 0 rfl rfl 34 (by decide) lk0 (fun _ h9 => h9) rfl dX10_takeClause_353 ?_
                      refine lv_iconst (v := 1) hx hb dX10_takeClause_356 (by decide) ?_
                      refine lv_iadd hx hb dX10_takeClause_357 ?_
                      refine lv_topi (fun x357 e357 => ?_)
                      have t357 := i_add e357 (by omega)
                      refine va_put (D := eD E) (ci := 10) (v := .int x357) (ty := .int) (C := RX10) (T := TX10) (N := 79) hx hb hts in_X10 tyX10 tyX10_ok nmX10 hown hK hP hD hS 0 rfl rfl 34 (by decide) lk0 (fun _ h9 => h9) rfl (by decide +kernel) rfl rfl (Nat.le_of_ble_eq_true rfl) dX10_takeClause_358 (fun H locs hP hD hS => ?_)
                      replace hP : va_P (eD E) vwCl (mdL E am (up2 o333_vm 34 0 x357)) H := hP
                      replace hD : va_D A (mdL E am (up2 o333_vm 34 0 x357)) := hD
                      generalize hv358 : up2 o333_vm 34 0 x357 = vm_358 at hP hD
                      have hFz : fr lRd vm vm_358 := by first | exact hFz | (rw [← hv358]; exact hFz.up (by decide))
                      refine lv_iload hx hb dX10_takeClause_361 (lv_at hl 0 rfl) ?_
                      subst hQ
                      exact W.iret (v := r315) hx hb hr (fun t ht hW => ⟨⟨r315, (vm_358), rfl, (show ((MdI vm_358 ∧ (0 ≤ r315.toInt ∧ r315.toInt ≤ 4) ∧ (vm 34 0).toInt ≤ (vm_358 34 0).toInt ∧ (vm_358 34 0).toInt ≤ 251 ∧ (r315.toInt = 0 → atI vm_358 ∧ RdM vm_358 ∧ (vm 34 0).toInt < (vm_358 34 0).toInt)) ∧ fr lRd vm vm_358) ∧ ((skp (vm 31) (vm 32 0).toInt (vm 34 0).toInt < (vm 32 0).toInt → MF (clauseF (vm 31) (vm 32 0).toInt S (skp (vm 31) (vm 32 0).toInt (vm 34 0).toInt)) (vm 33 0).toInt r315.toInt (vm_358 33 0).toInt (fun y => (vm_358 34 0).toInt = y.1 ∧ SM y.2 vm_358)) ∧ (r315.toInt = 0 → vm_358 31 = vm 31 ∧ vm_358 32 = vm 32)) from ⟨⟨⟨(by rw [← hv358]; exact hMI), by omega, (by rw [← hv358]; show (vm 34 0).toInt ≤ x357.toInt; omega), (by rw [← hv358]; show x357.toInt ≤ 251; omega), (by first | exact fun q => absurd q (by omega) | exact fun q => ⟨(by rw [← hv358]; exact (show 0 ≤ x357.toInt ∧ x357.toInt ≤ (o333_vm 32 0).toInt by omega)), (by rw [← hv358]; exact hRd3), (by rw [← hv358]; show (vm 34 0).toInt < x357.toInt; omega)⟩)⟩, hFz⟩, (by first | exact ⟨fun hn => by rw [← hp1, ← hv358]; exact hCL.ok okF.clause hz0 hp333 hsg hz0 (show (o333_vm 33 0).toInt = _ by rw [hfr3.1]) (show x357.toInt = _ by omega) (hs333.sc.up (by omega)), fun q => by rw [← hv358]; exact ⟨(h333.1 31 (by decide) (by decide) (by decide) (by decide)).trans (hTx hz0).1, (h333.1 32 (by decide) (by decide) (by decide) (by decide)).trans (hTx hz0).2⟩⟩ | exact ⟨fun hn => by rw [← hp1, ← hv358]; exact hCL.bad hnz, fun q => absurd q hnz⟩)⟩), by rw [ht]; exact hP, hD⟩, hS.F ht⟩) hS.2.2 dX10_takeClause_363
                    · have c338_ := i_ne c338
                      refine lv_aload_n hx hb dX10_takeClause_341 rfl (lv_at hl 4 rfl) ?_
                      refine lv_iconst (v := 1) hx hb dX10_takeClause_342 (by decide) ?_
                      refine lv_aload_n hx hb dX10_takeClause_343 rfl (lv_at hl 4 rfl) ?_
                      refine va_get (D := eD E) (ci := 10) (v := .int (o333_vm 34 0)) (C := RX10) (T := TX10) (N := 79) hx hb hts in_X10 hown hK hP 0 rfl rfl 34 (by decide) lk0 (fun _ h9 => h9) rfl dX10_takeClause_344 ?_
                      refine mt_Vi (w1 := fun (u : Vf) => mdL E am u) (wf := fun (u : Vf) => mdL E am u) (wr := []) (As := [.int 1, .int (o333_vm 34 0)]) (rest := []) (C := RX10) (ci := 10) ⟨hx, hb, hml, hown, hts⟩ (c_X10_fails l E H.size am o333_vm 1 (o333_vm 34 0)) (cwV 2 hts gX10_takeClause_X10_fails rfl rfl rfl (by decide +kernel) ⟨Nat.le_of_ble_eq_true rfl, Nat.le_of_ble_eq_true rfl⟩) hE hS hA hP hD [0, 1, 2, 3, 4, 5, 6, 7, 8, 9, 10, 11, 12, 13, 14, 15, 16, 17, 18, 19, 20, 21, 22, 23, 24, 25, 26, 27, 28, 29, 30, 31, 32, 33, 34, 35, 36, 37, 38, 39, 40, 41, 42, 43, 44, 45] [] rfl rfl (by decide) (by decide) (by decide) [0, 1, 2, 3, 4, 5, 6, 7, 8, 9, 10, 11, 12, 13, 14, 15, 16, 17, 18, 19, 20, 21, 22, 23, 24, 25, 26, 27, 28, 29, 30, 31, 32, 33, 34, 35, 36, 37, 38, 39, 40, 41, 42, 43, 44, 45] (by decide) (fun u => rfl) rfl rfl rfl rfl hl.1 rfl (Nat.le_of_ble_eq_true rfl) dX10_takeClause_347 ⟨Nat.zero_le _, Nat.zero_le _⟩ (fun r347 u347 H locs h347 hP hD hS => ?_)
                      generalize u347 = o347_vm at hP hD h347
                      try dsimp only at h347
                      have hf347 := h347.2
                      replace h347 := h347.1
                      have hFn347 := h347.2
                      replace h347 := h347.1
                      replace hP : va_P (eD E) vwCl (mdL E am o347_vm) H := hP
                      replace hD : va_D A (mdL E am o347_vm) := hD
                      have hFz : fr lRd vm o347_vm := by first | exact hFz | exact hFz.tr hFn347 (by decide) | (rw [← hv347]; repeat' (first | exact hFz | refine fr.up ?_ (by decide) | refine fr.up3 ?_ (by decide)))
                      have hr347 : r347.toInt = 1 := by rw [h347.1]; decide
                      have hq347 : (o347_vm 34 0).toInt = (o333_vm 34 0).toInt := by rw [h347.2.2]
                      have hw347 : (o347_vm 33 0).toInt = (o333_vm 34 0).toInt := by rw [hf347]; rfl
                      subst hQ
                      exact W.iret (v := r347) hx hb hr (fun t ht hW => ⟨⟨r347, (o347_vm), rfl, (show ((MdI o347_vm ∧ (0 ≤ r347.toInt ∧ r347.toInt ≤ 4) ∧ (vm 34 0).toInt ≤ (o347_vm 34 0).toInt ∧ (o347_vm 34 0).toInt ≤ 251 ∧ (r347.toInt = 0 → atI o347_vm ∧ RdM o347_vm ∧ (vm 34 0).toInt < (o347_vm 34 0).toInt)) ∧ fr lRd vm o347_vm) ∧ ((skp (vm 31) (vm 32 0).toInt (vm 34 0).toInt < (vm 32 0).toInt → MF (clauseF (vm 31) (vm 32 0).toInt S (skp (vm 31) (vm 32 0).toInt (vm 34 0).toInt)) (vm 33 0).toInt r347.toInt (o347_vm 33 0).toInt (fun y => (o347_vm 34 0).toInt = y.1 ∧ SM y.2 o347_vm)) ∧ (r347.toInt = 0 → o347_vm 31 = vm 31 ∧ o347_vm 32 = vm 32)) from ⟨⟨⟨hMI.sn h347.2.1, by omega, by omega, by omega, fun q => absurd q (by omega)⟩, hFz⟩, ⟨fun hn => by rw [← hp1]; exact hCL.no okF.clause (by omega) hp333 (by omega) hr347 hw347, fun q => absurd q (by omega)⟩⟩), by rw [ht]; exact hP, hD⟩, hS.F ht⟩) hS.2.2 dX10_takeClause_350
              · have c90_ := i_eq c90
                refine lv_aload_n hx hb dX10_takeClause_93 rfl (lv_at hl 2 rfl) ?_
                refine lv_iconst (v := 1) hx hb dX10_takeClause_94 (by decide) ?_
                refine lv_aload_n hx hb dX10_takeClause_95 rfl (lv_at hl 2 rfl) ?_
                refine va_get (D := eD E) (ci := 10) (v := .int (o1_vm 34 0)) (C := RX10) (T := TX10) (N := 79) hx hb hts in_X10 hown hK hP 0 rfl rfl 34 (by decide) lk0 (fun _ h9 => h9) rfl dX10_takeClause_96 ?_
                refine mt_Vi (w1 := fun (u : Vf) => mdL E am u) (wf := fun (u : Vf) => mdL E am u) (wr := []) (As := [.int 1, .int (o1_vm 34 0)]) (rest := []) (C := RX10) (ci := 10) ⟨hx, hb, hml, hown, hts⟩ (c_X10_fails l E H.size am o1_vm 1 (o1_vm 34 0)) (cwV 2 hts gX10_takeClause_X10_fails rfl rfl rfl (by decide +kernel) ⟨Nat.le_of_ble_eq_true rfl, Nat.le_of_ble_eq_true rfl⟩) hE hS hA hP hD [0, 1, 2, 3, 4, 5, 6, 7, 8, 9, 10, 11, 12, 13, 14, 15, 16, 17, 18, 19, 20, 21, 22, 23, 24, 25, 26, 27, 28, 29, 30, 31, 32, 33, 34, 35, 36, 37, 38, 39, 40, 41, 42, 43, 44, 45] [] rfl rfl (by decide) (by decide) (by decide) [0, 1, 2, 3, 4, 5, 6, 7, 8, 9, 10, 11, 12, 13, 14, 15, 16, 17, 18, 19, 20, 21, 22, 23, 24, 25, 26, 27, 28, 29, 30, 31, 32, 33, 34, 35, 36, 37, 38, 39, 40, 41, 42, 43, 44, 45] (by decide) (fun u => rfl) rfl rfl rfl rfl hl.1 rfl (Nat.le_of_ble_eq_true rfl) dX10_takeClause_99 ⟨Nat.zero_le _, Nat.zero_le _⟩ (fun r99 u99 H locs h99 hP hD hS => ?_)
                generalize u99 = o99_vm at hP hD h99
                try dsimp only at h99
                have hf99 := h99.2
                replace h99 := h99.1
                have hFn99 := h99.2
                replace h99 := h99.1
                replace hP : va_P (eD E) vwCl (mdL E am o99_vm) H := hP
                replace hD : va_D A (mdL E am o99_vm) := hD
                have hFz : fr lRd vm o99_vm := by first | exact hFz | exact hFz.tr hFn99 (by decide) | (rw [← hv99]; repeat' (first | exact hFz | refine fr.up ?_ (by decide) | refine fr.up3 ?_ (by decide)))
                have hr99 : r99.toInt = 1 := by rw [h99.1]; decide
                have hq99 : (o99_vm 34 0).toInt = (o1_vm 34 0).toInt := by rw [h99.2.2]
                have hw99 : (o99_vm 33 0).toInt = (o1_vm 34 0).toInt := by rw [hf99]; rfl
                subst hQ
                exact W.iret (v := r99) hx hb hr (fun t ht hW => ⟨⟨r99, (o99_vm), rfl, (show ((MdI o99_vm ∧ (0 ≤ r99.toInt ∧ r99.toInt ≤ 4) ∧ (vm 34 0).toInt ≤ (o99_vm 34 0).toInt ∧ (o99_vm 34 0).toInt ≤ 251 ∧ (r99.toInt = 0 → atI o99_vm ∧ RdM o99_vm ∧ (vm 34 0).toInt < (o99_vm 34 0).toInt)) ∧ fr lRd vm o99_vm) ∧ ((skp (vm 31) (vm 32 0).toInt (vm 34 0).toInt < (vm 32 0).toInt → MF (clauseF (vm 31) (vm 32 0).toInt S (skp (vm 31) (vm 32 0).toInt (vm 34 0).toInt)) (vm 33 0).toInt r99.toInt (o99_vm 33 0).toInt (fun y => (o99_vm 34 0).toInt = y.1 ∧ SM y.2 o99_vm)) ∧ (r99.toInt = 0 → o99_vm 31 = vm 31 ∧ o99_vm 32 = vm 32)) from ⟨⟨⟨hMI.sn h99.2.1, by omega, by omega, by omega, fun q => absurd q (by omega)⟩, hFz⟩, ⟨fun hn => MF.no (by rw [← hp1]; exact cl_no (by omega)) hr99 hw99, fun q => absurd q (by omega)⟩⟩), by rw [ht]; exact hP, hD⟩, hS.F ht⟩) hS.2.2 dX10_takeClause_102
          · have c48_ := i_eq c48
            refine lv_iconst (v := 4) hx hb dX10_takeClause_51 (by decide) ?_
            refine lv_goto (tgt := 77) hx hb dX10_takeClause_52 (by decide) ?_
            refine lv_istore_n (lv' := [(2, .int 4), (1, .int r1), (0, .ref (am 0))]) hx hb dX10_takeClause_77 rfl hl (by decide) rfl (fun ls hl => ?_)
            refine lv_iload_n hx hb dX10_takeClause_78 rfl (lv_at hl 0 rfl) ?_
            refine lv_if_lt (tgt := 93) hx hb dX10_takeClause_79 (by decide) (fun q => absurd q (by decide)) (fun _ => ?_)
            refine lv_iload_n hx hb dX10_takeClause_82 rfl (lv_at hl 0 rfl) ?_
            refine lv_if_le (tgt := 103) hx hb dX10_takeClause_83 (by decide) (fun q => absurd q (by decide)) (fun _ => ?_)
            refine lv_aload_n hx hb dX10_takeClause_86 rfl (lv_at hl 2 rfl) ?_
            refine va_get (D := eD E) (ci := 10) (v := .int (o1_vm 37 0)) (C := RX10) (T := TX10) (N := 79) hx hb hts in_X10 hown hK hP 0 rfl rfl 37 (by decide) lk1 (fun _ h9 => h9) rfl dX10_takeClause_87 ?_
            refine lv_if_ne (tgt := 103) hx hb dX10_takeClause_90 (by decide) (fun c90 => ?_) (fun c90 => ?_)
            · have c90_ := i_ne c90
              refine lv_iload_n hx hb dX10_takeClause_103 rfl (lv_at hl 0 rfl) ?_
              refine lv_if_ne (tgt := 122) hx hb dX10_takeClause_104 (by decide) (fun _ => ?_) (fun q => absurd q (by decide))
              refine lv_iload_n hx hb dX10_takeClause_122 rfl (lv_at hl 0 rfl) ?_
              refine lv_iconst (v := 1) hx hb dX10_takeClause_123 (by decide) ?_
              refine lv_icmp_ne (tgt := 144) hx hb dX10_takeClause_124 (by decide) (fun _ => ?_) (fun q => absurd q (by decide))
              refine lv_iload_n hx hb dX10_takeClause_144 rfl (lv_at hl 0 rfl) ?_
              refine lv_iconst (v := 2) hx hb dX10_takeClause_145 (by decide) ?_
              refine lv_icmp_ne (tgt := 165) hx hb dX10_takeClause_146 (by decide) (fun _ => ?_) (fun q => absurd q (by decide))
              refine lv_iload_n hx hb dX10_takeClause_165 rfl (lv_at hl 0 rfl) ?_
              refine lv_iconst (v := 3) hx hb dX10_takeClause_166 (by decide) ?_
              refine lv_icmp_ne (tgt := 183) hx hb dX10_takeClause_167 (by decide) (fun _ => ?_) (fun q => absurd q (by decide))
              refine lv_iconst (v := 0) hx hb dX10_takeClause_183 (by decide) ?_
              refine lv_istore_n (lv' := [(3, .int 0), (2, .int 4), (1, .int r1), (0, .ref (am 0))]) hx hb dX10_takeClause_184 rfl hl (by decide) rfl (fun ls hl => ?_)
              refine lv_iload_n hx hb dX10_takeClause_185 rfl (lv_at hl 0 rfl) ?_
              refine lv_if_ne (tgt := 230) hx hb dX10_takeClause_186 (by decide) (fun q => absurd q (by decide)) (fun _ => ?_)
              refine lv_iload_n hx hb dX10_takeClause_189 rfl (lv_at hl 1 rfl) ?_
              refine lv_iconst (v := 4) hx hb dX10_takeClause_190 (by decide) ?_
              refine lv_icmp_ne (tgt := 203) hx hb dX10_takeClause_191 (by decide) (fun q => absurd q (by decide)) (fun _ => ?_)
              refine lv_aload_n hx hb dX10_takeClause_194 rfl (lv_at hl 3 rfl) ?_
              refine va_get (D := eD E) (ci := 10) (v := .int (o1_vm 51 0)) (C := RX10) (T := TX10) (N := 79) hx hb hts in_X10 hown hK hP 0 rfl rfl 51 (by decide) lk4 (fun _ h9 => h9) rfl dX10_takeClause_195 ?_
              refine lv_bipush (v := 6) hx hb dX10_takeClause_198 (by decide) ?_
              refine lv_icmp_eq (tgt := 230) hx hb dX10_takeClause_200 (by decide) (fun c200 => ?_) (fun c200 => ?_)
              · have c200_ := i_eq c200
                have hcl3 : clauseF (vm 31) (vm 32 0).toInt S (o1_vm 34 0).toInt = .inl (3, (o1_vm 34 0).toInt) := cl3_k (by omega) (by omega) (by omega)
                refine lv_aload_n hx hb dX10_takeClause_230 rfl (lv_at hl 3 rfl) ?_
                refine lv_iconst (v := 3) hx hb dX10_takeClause_231 (by decide) ?_
                refine lv_aload_n hx hb dX10_takeClause_232 rfl (lv_at hl 3 rfl) ?_
                refine va_get (D := eD E) (ci := 10) (v := .int (o1_vm 34 0)) (C := RX10) (T := TX10) (N := 79) hx hb hts in_X10 hown hK hP 0 rfl rfl 34 (by decide) lk0 (fun _ h9 => h9) rfl dX10_takeClause_233 ?_
                refine mt_Vi (w1 := fun (u : Vf) => mdL E am u) (wf := fun (u : Vf) => mdL E am u) (wr := []) (As := [.int 3, .int (o1_vm 34 0)]) (rest := []) (C := RX10) (ci := 10) ⟨hx, hb, hml, hown, hts⟩ (c_X10_fails l E H.size am o1_vm 3 (o1_vm 34 0)) (cwV 2 hts gX10_takeClause_X10_fails rfl rfl rfl (by decide +kernel) ⟨Nat.le_of_ble_eq_true rfl, Nat.le_of_ble_eq_true rfl⟩) hE hS hA hP hD [0, 1, 2, 3, 4, 5, 6, 7, 8, 9, 10, 11, 12, 13, 14, 15, 16, 17, 18, 19, 20, 21, 22, 23, 24, 25, 26, 27, 28, 29, 30, 31, 32, 33, 34, 35, 36, 37, 38, 39, 40, 41, 42, 43, 44, 45] [] rfl rfl (by decide) (by decide) (by decide) [0, 1, 2, 3, 4, 5, 6, 7, 8, 9, 10, 11, 12, 13, 14, 15, 16, 17, 18, 19, 20, 21, 22, 23, 24, 25, 26, 27, 28, 29, 30, 31, 32, 33, 34, 35, 36, 37, 38, 39, 40, 41, 42, 43, 44, 45] (by decide) (fun u => rfl) rfl rfl rfl rfl hl.1 rfl (Nat.le_of_ble_eq_true rfl) dX10_takeClause_236 ⟨Nat.zero_le _, Nat.zero_le _⟩ (fun r236 u236 H locs h236 hP hD hS => ?_)
                generalize u236 = o236_vm at hP hD h236
                try dsimp only at h236
                have hf236 := h236.2
                replace h236 := h236.1
                have hFn236 := h236.2
                replace h236 := h236.1
                replace hP : va_P (eD E) vwCl (mdL E am o236_vm) H := hP
                replace hD : va_D A (mdL E am o236_vm) := hD
                have hFz : fr lRd vm o236_vm := by first | exact hFz | exact hFz.tr hFn236 (by decide) | (rw [← hv236]; repeat' (first | exact hFz | refine fr.up ?_ (by decide) | refine fr.up3 ?_ (by decide)))
                have hr236 : r236.toInt = 3 := by rw [h236.1]; decide
                have hq236 : (o236_vm 34 0).toInt = (o1_vm 34 0).toInt := by rw [h236.2.2]
                have hw236 : (o236_vm 33 0).toInt = (o1_vm 34 0).toInt := by rw [hf236]; rfl
                subst hQ
                exact W.iret (v := r236) hx hb hr (fun t ht hW => ⟨⟨r236, (o236_vm), rfl, (show ((MdI o236_vm ∧ (0 ≤ r236.toInt ∧ r236.toInt ≤ 4) ∧ (vm 34 0).toInt ≤ (o236_vm 34 0).toInt ∧ (o236_vm 34 0).toInt ≤ 251 ∧ (r236.toInt = 0 → atI o236_vm ∧ RdM o236_vm ∧ (vm 34 0).toInt < (o236_vm 34 0).toInt)) ∧ fr lRd vm o236_vm) ∧ ((skp (vm 31) (vm 32 0).toInt (vm 34 0).toInt < (vm 32 0).toInt → MF (clauseF (vm 31) (vm 32 0).toInt S (skp (vm 31) (vm 32 0).toInt (vm 34 0).toInt)) (vm 33 0).toInt r236.toInt (o236_vm 33 0).toInt (fun y => (o236_vm 34 0).toInt = y.1 ∧ SM y.2 o236_vm)) ∧ (r236.toInt = 0 → o236_vm 31 = vm 31 ∧ o236_vm 32 = vm 32)) from ⟨⟨⟨hMI.sn h236.2.1, by omega, by omega, by omega, fun q => absurd q (by omega)⟩, hFz⟩, ⟨fun hn => MF.no (by rw [← hp1]; exact hcl3) hr236 hw236, fun q => absurd q (by omega)⟩⟩), by rw [ht]; exact hP, hD⟩, hS.F ht⟩) hS.2.2 dX10_takeClause_239
              · have c200_ := i_ne c200
                refine lv_iload_n hx hb dX10_takeClause_203 rfl (lv_at hl 1 rfl) ?_
                refine lv_iconst (v := 5) hx hb dX10_takeClause_204 (by decide) ?_
                refine lv_icmp_ne (tgt := 216) hx hb dX10_takeClause_205 (by decide) (fun _ => ?_) (fun q => absurd q (by decide))
                refine lv_iload_n hx hb dX10_takeClause_216 rfl (lv_at hl 1 rfl) ?_
                refine lv_bipush (v := 6) hx hb dX10_takeClause_217 (by decide) ?_
                refine lv_icmp_ne (tgt := 240) hx hb dX10_takeClause_219 (by decide) (fun _ => ?_) (fun q => absurd q (by decide))
                refine lv_aload_n hx hb dX10_takeClause_240 rfl (lv_at hl 3 rfl) ?_
                refine lv_dup hx hb dX10_takeClause_241 rfl ?_
                refine va_get (D := eD E) (ci := 10) (v := .int (o1_vm 34 0)) (C := RX10) (T := TX10) (N := 79) hx hb hts in_X10 hown hK hP 0 rfl rfl 34 (by decide) lk0 (fun _ h9 => h9) rfl dX10_takeClause_242 ?_
                refine lv_iconst (v := 1) hx hb dX10_takeClause_245 (by decide) ?_
                have sv246_o1_vm340 : 0 ≤ (o1_vm 34 0).toInt ∧ (o1_vm 34 0).toInt ≤ 249 := by omega
                refine lv_iadd hx hb dX10_takeClause_246 ?_
                refine lv_topi (fun x246 e246 => ?_)
                have t246 := i_add e246 (by omega)
                refine va_put (D := eD E) (ci := 10) (v := .int x246) (ty := .int) (C := RX10) (T := TX10) (N := 79) hx hb hts in_X10 tyX10 tyX10_ok nmX10 hown hK hP hD hS 0 rfl rfl 34 (by decide) lk0 (fun _ h9 => h9) rfl (by decide +kernel) rfl rfl (Nat.le_of_ble_eq_true rfl) dX10_takeClause_247 (fun H locs hP hD hS => ?_)
                replace hP : va_P (eD E) vwCl (mdL E am (up2 o1_vm 34 0 x246)) H := hP
                replace hD : va_D A (mdL E am (up2 o1_vm 34 0 x246)) := hD
                generalize hv247 : up2 o1_vm 34 0 x246 = vm_247 at hP hD
                have hFz : fr lRd vm vm_247 := by first | exact hFz | (rw [← hv247]; exact hFz.up (by decide))
                have hMI : MdI vm_247 := by rw [← hv247]; exact hMI
                have hRd : RdM vm_247 := by rw [← hv247]; exact hRd
                have hat : atI vm_247 := by rw [← hv247]; exact (show 0 ≤ x246.toInt ∧ x246.toInt ≤ (o1_vm 32 0).toInt by omega)
                have hq247_34 : (vm_247 34 0).toInt = x246.toInt := by rw [← hv247]; rfl
                have hq247_37 : (vm_247 37 0).toInt = (o1_vm 37 0).toInt := by rw [← hv247]; rfl
                have hq247_38 : (vm_247 38 0).toInt = (o1_vm 38 0).toInt := by rw [← hv247]; rfl
                have hq247_41 : (vm_247 41 0).toInt = (o1_vm 41 0).toInt := by rw [← hv247]; rfl
                have hq247_43 : (vm_247 43 0).toInt = (o1_vm 43 0).toInt := by rw [← hv247]; rfl
                have hq247_48 : (vm_247 48 0).toInt = (o1_vm 48 0).toInt := by rw [← hv247]; rfl
                have hq247_51 : (vm_247 51 0).toInt = (o1_vm 51 0).toInt := by rw [← hv247]; rfl
                have hq247_55 : (vm_247 55 0).toInt = (o1_vm 55 0).toInt := by rw [← hv247]; rfl
                have hq247_58 : (vm_247 58 0).toInt = (o1_vm 58 0).toInt := by rw [← hv247]; rfl
                have hSM : SM S vm_247 := by rw [← hv247]; exact hSM1.sc (sc.rf.up (by omega))
                have hT247 : vm_247 31 = vm 31 ∧ vm_247 32 = vm 32 ∧ vm_247 33 = vm 33 := by rw [← hv247]; exact ⟨h1.1 31 (by decide) (by decide) (by decide) (by decide), h1.1 32 (by decide) (by decide) (by decide) (by decide), hfr1.1⟩
                have hp247 : (vm_247 34 0).toInt = (o1_vm 34 0).toInt + 1 := by omega
                refine lv_iload_n hx hb dX10_takeClause_250 rfl (lv_at hl 1 rfl) ?_
                refine lv_if_ne (tgt := 261) hx hb dX10_takeClause_251 (by decide) (fun _ => ?_) (fun q => absurd q (by decide))
                refine lv_iload_n hx hb dX10_takeClause_261 rfl (lv_at hl 1 rfl) ?_
                refine lv_iconst (v := 1) hx hb dX10_takeClause_262 (by decide) ?_
                refine lv_icmp_ne (tgt := 273) hx hb dX10_takeClause_263 (by decide) (fun _ => ?_) (fun q => absurd q (by decide))
                refine lv_iload_n hx hb dX10_takeClause_273 rfl (lv_at hl 1 rfl) ?_
                refine lv_iconst (v := 2) hx hb dX10_takeClause_274 (by decide) ?_
                refine lv_icmp_ne (tgt := 285) hx hb dX10_takeClause_275 (by decide) (fun _ => ?_) (fun q => absurd q (by decide))
                refine lv_iload_n hx hb dX10_takeClause_285 rfl (lv_at hl 1 rfl) ?_
                refine lv_iconst (v := 3) hx hb dX10_takeClause_286 (by decide) ?_
                refine lv_icmp_ne (tgt := 297) hx hb dX10_takeClause_287 (by decide) (fun _ => ?_) (fun q => absurd q (by decide))
                refine lv_iload_n hx hb dX10_takeClause_297 rfl (lv_at hl 1 rfl) ?_
                refine lv_iconst (v := 4) hx hb dX10_takeClause_298 (by decide) ?_
                refine lv_icmp_ne (tgt := 309) hx hb dX10_takeClause_299 (by decide) (fun q => absurd q (by decide)) (fun _ => ?_)
                refine lv_aload_n hx hb dX10_takeClause_302 rfl (lv_at hl 3 rfl) ?_
                refine mt_Vi (w1 := fun (u : Vf) => mdL E am u) (wf := fun (u : Vf) => mdL E am u) (wr := []) (As := []) (rest := []) (C := RX10) (ci := 10) ⟨hx, hb, hml, hown, hts⟩ (c_X10_takeCrack l E H.size am vm_247 S hMI hat hRd (by omega) (by omega) hSM) (cwV 0 hts gX10_takeClause_X10_takeCrack rfl rfl rfl (by decide +kernel) ⟨Nat.le_of_ble_eq_true rfl, Nat.le_of_ble_eq_true rfl⟩) hE hS hA hP hD [0, 1, 2, 3, 4, 5, 6, 7, 8, 9, 10, 11, 12, 13, 14, 15, 16, 17, 18, 19, 20, 21, 22, 23, 24, 25, 26, 27, 28, 29, 30, 31, 32, 33, 34, 35, 36, 37, 38, 39, 40, 41, 42, 43, 44, 45] [] rfl rfl (by decide) (by decide) (by decide) [0, 1, 2, 3, 4, 5, 6, 7, 8, 9, 10, 11, 12, 13, 14, 15, 16, 17, 18, 19, 20, 21, 22, 23, 24, 25, 26, 27, 28, 29, 30, 31, 32, 33, 34, 35, 36, 37, 38, 39, 40, 41, 42, 43, 44, 45] (by decide) (fun u => rfl) rfl rfl rfl rfl hl.1 rfl (Nat.le_of_ble_eq_true rfl) dX10_takeClause_303 ⟨Nat.zero_le _, Nat.zero_le _⟩ (fun r303 u303 H locs h303 hP hD hS => ?_)
                generalize u303 = o303_vm at hP hD h303
                try dsimp only at h303
                have hf303 := h303.2
                replace h303 := h303.1
                have hFn303 := h303.2
                replace h303 := h303.1
                replace hP : va_P (eD E) vwCl (mdL E am o303_vm) H := hP
                replace hD : va_D A (mdL E am o303_vm) := hD
                have hFz : fr lRd vm o303_vm := by first | exact hFz | exact hFz.tr hFn303 (by decide) | (rw [← hv303]; repeat' (first | exact hFz | refine fr.up ?_ (by decide) | refine fr.up3 ?_ (by decide)))
                have hMI := h303.1
                have hat := h303.2.1
                have hRdx := h303.2.2.2.2
                obtain ⟨hat1, hat2⟩ := id hat
                have hT := hMI.1.2.2.2.2.2.2.1
                have hm303 := h303.2.2.1
                have hz303 := h303.2.2.2.1
                have hCL : CK (clauseF (vm 31) (vm 32 0).toInt S (o1_vm 34 0).toInt) S (vm 31) (vm 32 0).toInt (vm 33 0).toInt r303.toInt (o303_vm 33 0).toInt (o303_vm 34 0).toInt o303_vm := by rw [cl_k (by omega) (by omega)]; have q := hf303 (o1_vm 34 0).toInt; rw [hT247.1, hT247.2.1, hT247.2.2, hp247] at q; exact TK.ck (g := fun x : ((((Unit × ((Int × Int × Int) × (Int × Int × Int))) × (Int × Int × Int)) × Unit) × Unit) × (Int × Int × Int) => crackS S (plc (S 37 0) x.1.1.1.1.2) x.1.1.1.2.1 x.2.1) q (fun _ => ⟨rfl, rfl⟩)
                have hR := r303
                have hTx : r303.toInt = 0 → o303_vm 31 = vm 31 ∧ o303_vm 32 = vm 32 := fun q => by have z := hCL.txt okF.clause q hSM; rw [hT247.1, hT247.2.1] at z; exact z
                clear hf303
                refine lv_goto (tgt := 325) hx hb dX10_takeClause_306 (by decide) ?_
                refine lv_istore (lv' := [(4, .int r303), (3, .int 0), (2, .int 4), (1, .int r1), (0, .ref (am 0))]) hx hb dX10_takeClause_325 hl (by decide) rfl (fun ls hl => ?_)
                refine lv_iload hx hb dX10_takeClause_327 (lv_at hl 0 rfl) ?_
                refine lv_if_ne (tgt := 351) hx hb dX10_takeClause_329 (by decide) (fun c329 => ?_) (fun c329 => ?_)
                · have c329_ := i_ne c329
                  have hnz : r303.toInt ≠ 0 := by omega
                  refine lv_aload_n hx hb dX10_takeClause_351 rfl (lv_at hl 4 rfl) ?_
                  refine lv_dup hx hb dX10_takeClause_352 rfl ?_
                  refine va_get (D := eD E) (ci := 10) (v := .int (o303_vm 34 0)) (C := RX10) (T := TX10) (N := 79) hx hb hts in_X10 hown hK hP 0 rfl rfl 34 (by decide) lk0 (fun _ h9 => h9) rfl dX10_takeClause_353 ?_
                  refine lv_iconst (v := 1) hx hb dX10_takeClause_356 (by decide) ?_
                  refine lv_iadd hx hb dX10_takeClause_357 ?_
                  refine lv_topi (fun x357 e357 => ?_)
                  have t357 := i_add e357 (by omega)
                  refine va_put (D := eD E) (ci := 10) (v := .int x357) (ty := .int) (C := RX10) (T := TX10) (N := 79) hx hb hts in_X10 tyX10 tyX10_ok nmX10 hown hK hP hD hS 0 rfl rfl 34 (by decide) lk0 (fun _ h9 => h9) rfl (by decide +kernel) rfl rfl (Nat.le_of_ble_eq_true rfl) dX10_takeClause_358 (fun H locs hP hD hS => ?_)
                  replace hP : va_P (eD E) vwCl (mdL E am (up2 o303_vm 34 0 x357)) H := hP
                  replace hD : va_D A (mdL E am (up2 o303_vm 34 0 x357)) := hD
                  generalize hv358 : up2 o303_vm 34 0 x357 = vm_358 at hP hD
                  have hFz : fr lRd vm vm_358 := by first | exact hFz | (rw [← hv358]; exact hFz.up (by decide))
                  refine lv_iload hx hb dX10_takeClause_361 (lv_at hl 0 rfl) ?_
                  subst hQ
                  exact W.iret (v := r303) hx hb hr (fun t ht hW => ⟨⟨r303, (vm_358), rfl, (show ((MdI vm_358 ∧ (0 ≤ r303.toInt ∧ r303.toInt ≤ 4) ∧ (vm 34 0).toInt ≤ (vm_358 34 0).toInt ∧ (vm_358 34 0).toInt ≤ 251 ∧ (r303.toInt = 0 → atI vm_358 ∧ RdM vm_358 ∧ (vm 34 0).toInt < (vm_358 34 0).toInt)) ∧ fr lRd vm vm_358) ∧ ((skp (vm 31) (vm 32 0).toInt (vm 34 0).toInt < (vm 32 0).toInt → MF (clauseF (vm 31) (vm 32 0).toInt S (skp (vm 31) (vm 32 0).toInt (vm 34 0).toInt)) (vm 33 0).toInt r303.toInt (vm_358 33 0).toInt (fun y => (vm_358 34 0).toInt = y.1 ∧ SM y.2 vm_358)) ∧ (r303.toInt = 0 → vm_358 31 = vm 31 ∧ vm_358 32 = vm 32)) from ⟨⟨⟨(by rw [← hv358]; exact hMI), by omega, (by rw [← hv358]; show (vm 34 0).toInt ≤ x357.toInt; omega), (by rw [← hv358]; show x357.toInt ≤ 251; omega), (by first | exact fun q => absurd q (by omega) | exact fun q => ⟨(by rw [← hv358]; exact (show 0 ≤ x357.toInt ∧ x357.toInt ≤ (o333_vm 32 0).toInt by omega)), (by rw [← hv358]; exact hRd3), (by rw [← hv358]; show (vm 34 0).toInt < x357.toInt; omega)⟩)⟩, hFz⟩, (by first | exact ⟨fun hn => by rw [← hp1, ← hv358]; exact hCL.ok okF.clause hz0 hp333 hsg hz0 (show (o333_vm 33 0).toInt = _ by rw [hfr3.1]) (show x357.toInt = _ by omega) (hs333.sc.up (by omega)), fun q => by rw [← hv358]; exact ⟨(h333.1 31 (by decide) (by decide) (by decide) (by decide)).trans (hTx hz0).1, (h333.1 32 (by decide) (by decide) (by decide) (by decide)).trans (hTx hz0).2⟩⟩ | exact ⟨fun hn => by rw [← hp1, ← hv358]; exact hCL.bad hnz, fun q => absurd q hnz⟩)⟩), by rw [ht]; exact hP, hD⟩, hS.F ht⟩) hS.2.2 dX10_takeClause_363
                · have c329_ := i_eq c329
                  refine lv_aload_n hx hb dX10_takeClause_332 rfl (lv_at hl 4 rfl) ?_
                  refine mt_Vi (w1 := fun (u : Vf) => mdL E am u) (wf := fun (u : Vf) => mdL E am u) (wr := []) (As := []) (rest := []) (C := RX10) (ci := 10) ⟨hx, hb, hml, hown, hts⟩ (c_X10_here l E H.size am o303_vm hMI hat) (cwV 0 hts gX10_takeClause_X10_here rfl rfl rfl (by decide +kernel) ⟨Nat.le_of_ble_eq_true rfl, Nat.le_of_ble_eq_true rfl⟩) hE hS hA hP hD [0, 1, 2, 3, 4, 5, 6, 7, 8, 9, 10, 11, 12, 13, 14, 15, 16, 17, 18, 19, 20, 21, 22, 23, 24, 25, 26, 27, 28, 29, 30, 31, 32, 33, 34, 35, 36, 37, 38, 39, 40, 41, 42, 43, 44, 45] [] rfl rfl (by decide) (by decide) (by decide) [0, 1, 2, 3, 4, 5, 6, 7, 8, 9, 10, 11, 12, 13, 14, 15, 16, 17, 18, 19, 20, 21, 22, 23, 24, 25, 26, 27, 28, 29, 30, 31, 32, 33, 34, 35, 36, 37, 38, 39, 40, 41, 42, 43, 44, 45] (by decide) (fun u => rfl) rfl rfl rfl rfl hl.1 rfl (Nat.le_of_ble_eq_true rfl) dX10_takeClause_333 ⟨Nat.zero_le _, Nat.zero_le _⟩ (fun r333 u333 H locs h333 hP hD hS => ?_)
                  generalize u333 = o333_vm at hP hD h333
                  try dsimp only at h333
                  have hf333 := h333.2
                  replace h333 := h333.1
                  have hFn333 := h333.2
                  replace h333 := h333.1
                  replace hP : va_P (eD E) vwCl (mdL E am o333_vm) H := hP
                  replace hD : va_D A (mdL E am o333_vm) := hD
                  have hFz : fr lRd vm o333_vm := by first | exact hFz | exact hFz.tr hFn333 (by decide) | (rw [← hv333]; repeat' (first | exact hFz | refine fr.up ?_ (by decide) | refine fr.up3 ?_ (by decide)))
                  have hMI : MdI o333_vm := hMI.sn h333.1
                  have hRd3 : RdM o333_vm := (hRdx (by omega)).sn h333.1
                  have hat := h333.2.1
                  obtain ⟨hat1, hat2⟩ := id hat
                  have hq333_32 : (o333_vm 32 0).toInt = (o303_vm 32 0).toInt := by rw [h333.1 32 (by decide) (by decide) (by decide) (by decide)]
                  have hm333 := h333.2.2
                  have hp333 := hf333.1
                  rw [(hTx (by omega)).1, (hTx (by omega)).2] at hp333
                  have hg333 := hf333.2.2
                  rw [(hTx (by omega)).1, (hTx (by omega)).2] at hg333
                  have hfr3 := hf333.2.1
                  have hs333 : sn o303_vm o333_vm := h333.1
                  refine lv_bipush (v := 59) hx hb dX10_takeClause_336 (by decide) ?_
                  refine lv_icmp_eq (tgt := 351) hx hb dX10_takeClause_338 (by decide) (fun c338 => ?_) (fun c338 => ?_)
                  · have c338_ := i_eq c338
                    have hz0 : r303.toInt = 0 := by omega
                    have hsg : (o333_vm 34 0).toInt < (vm 32 0).toInt ∧ tc (vm 31) (o333_vm 34 0).toInt = 59 := by omega
                    refine lv_aload_n hx hb dX10_takeClause_351 rfl (lv_at hl 4 rfl) ?_
                    refine lv_dup hx hb dX10_takeClause_352 rfl ?_
                    refine va_get (D := eD E) (ci := 10) (v := .int (o333_vm 34 0)) (C := RX10) (T := TX10) (N := 79) hx hb hts in_X10 hown hK hP 0 rfl rfl 34 (by decide) lk0 (fun _ h9 => h9) rfl dX10_takeClause_353 ?_
                    refine lv_iconst (v := 1) hx hb dX10_takeClause_356 (by decide) ?_
                    refine lv_iadd hx hb dX10_takeClause_357 ?_
                    refine lv_topi (fun x357 e357 => ?_)
                    have t357 := i_add e357 (by omega)
                    refine va_put (D := eD E) (ci := 10) (v := .int x357) (ty := .int) (C := RX10) (T := TX10) (N := 79) hx hb hts in_X10 tyX10 tyX10_ok nmX10 hown hK hP hD hS 0 rfl rfl 34 (by decide) lk0 (fun _ h9 => h9) rfl (by decide +kernel) rfl rfl (Nat.le_of_ble_eq_true rfl) dX10_takeClause_358 (fun H locs hP hD hS => ?_)
                    replace hP : va_P (eD E) vwCl (mdL E am (up2 o333_vm 34 0 x357)) H := hP
                    replace hD : va_D A (mdL E am (up2 o333_vm 34 0 x357)) := hD
                    generalize hv358 : up2 o333_vm 34 0 x357 = vm_358 at hP hD
                    have hFz : fr lRd vm vm_358 := by first | exact hFz | (rw [← hv358]; exact hFz.up (by decide))
                    refine lv_iload hx hb dX10_takeClause_361 (lv_at hl 0 rfl) ?_
                    subst hQ
                    exact W.iret (v := r303) hx hb hr (fun t ht hW => ⟨⟨r303, (vm_358), rfl, (show ((MdI vm_358 ∧ (0 ≤ r303.toInt ∧ r303.toInt ≤ 4) ∧ (vm 34 0).toInt ≤ (vm_358 34 0).toInt ∧ (vm_358 34 0).toInt ≤ 251 ∧ (r303.toInt = 0 → atI vm_358 ∧ RdM vm_358 ∧ (vm 34 0).toInt < (vm_358 34 0).toInt)) ∧ fr lRd vm vm_358) ∧ ((skp (vm 31) (vm 32 0).toInt (vm 34 0).toInt < (vm 32 0).toInt → MF (clauseF (vm 31) (vm 32 0).toInt S (skp (vm 31) (vm 32 0).toInt (vm 34 0).toInt)) (vm 33 0).toInt r303.toInt (vm_358 33 0).toInt (fun y => (vm_358 34 0).toInt = y.1 ∧ SM y.2 vm_358)) ∧ (r303.toInt = 0 → vm_358 31 = vm 31 ∧ vm_358 32 = vm 32)) from ⟨⟨⟨(by rw [← hv358]; exact hMI), by omega, (by rw [← hv358]; show (vm 34 0).toInt ≤ x357.toInt; omega), (by rw [← hv358]; show x357.toInt ≤ 251; omega), (by first | exact fun q => absurd q (by omega) | exact fun q => ⟨(by rw [← hv358]; exact (show 0 ≤ x357.toInt ∧ x357.toInt ≤ (o333_vm 32 0).toInt by omega)), (by rw [← hv358]; exact hRd3), (by rw [← hv358]; show (vm 34 0).toInt < x357.toInt; omega)⟩)⟩, hFz⟩, (by first | exact ⟨fun hn => by rw [← hp1, ← hv358]; exact hCL.ok okF.clause hz0 hp333 hsg hz0 (show (o333_vm 33 0).toInt = _ by rw [hfr3.1]) (show x357.toInt = _ by omega) (hs333.sc.up (by omega)), fun q => by rw [← hv358]; exact ⟨(h333.1 31 (by decide) (by decide) (by decide) (by decide)).trans (hTx hz0).1, (h333.1 32 (by decide) (by decide) (by decide) (by decide)).trans (hTx hz0).2⟩⟩ | exact ⟨fun hn => by rw [← hp1, ← hv358]; exact hCL.bad hnz, fun q => absurd q hnz⟩)⟩), by rw [ht]; exact hP, hD⟩, hS.F ht⟩) hS.2.2 dX10_takeClause_363
                  · have c338_ := i_ne c338
                    refine lv_aload_n hx hb dX10_takeClause_341 rfl (lv_at hl 4 rfl) ?_
                    refine lv_iconst (v := 1) hx hb dX10_takeClause_342 (by decide) ?_
                    refine lv_aload_n hx hb dX10_takeClause_343 rfl (lv_at hl 4 rfl) ?_
                    refine va_get (D := eD E) (ci := 10) (v := .int (o333_vm 34 0)) (C := RX10) (T := TX10) (N := 79) hx hb hts in_X10 hown hK hP 0 rfl rfl 34 (by decide) lk0 (fun _ h9 => h9) rfl dX10_takeClause_344 ?_
                    refine mt_Vi (w1 := fun (u : Vf) => mdL E am u) (wf := fun (u : Vf) => mdL E am u) (wr := []) (As := [.int 1, .int (o333_vm 34 0)]) (rest := []) (C := RX10) (ci := 10) ⟨hx, hb, hml, hown, hts⟩ (c_X10_fails l E H.size am o333_vm 1 (o333_vm 34 0)) (cwV 2 hts gX10_takeClause_X10_fails rfl rfl rfl (by decide +kernel) ⟨Nat.le_of_ble_eq_true rfl, Nat.le_of_ble_eq_true rfl⟩) hE hS hA hP hD [0, 1, 2, 3, 4, 5, 6, 7, 8, 9, 10, 11, 12, 13, 14, 15, 16, 17, 18, 19, 20, 21, 22, 23, 24, 25, 26, 27, 28, 29, 30, 31, 32, 33, 34, 35, 36, 37, 38, 39, 40, 41, 42, 43, 44, 45] [] rfl rfl (by decide) (by decide) (by decide) [0, 1, 2, 3, 4, 5, 6, 7, 8, 9, 10, 11, 12, 13, 14, 15, 16, 17, 18, 19, 20, 21, 22, 23, 24, 25, 26, 27, 28, 29, 30, 31, 32, 33, 34, 35, 36, 37, 38, 39, 40, 41, 42, 43, 44, 45] (by decide) (fun u => rfl) rfl rfl rfl rfl hl.1 rfl (Nat.le_of_ble_eq_true rfl) dX10_takeClause_347 ⟨Nat.zero_le _, Nat.zero_le _⟩ (fun r347 u347 H locs h347 hP hD hS => ?_)
                    generalize u347 = o347_vm at hP hD h347
                    try dsimp only at h347
                    have hf347 := h347.2
                    replace h347 := h347.1
                    have hFn347 := h347.2
                    replace h347 := h347.1
                    replace hP : va_P (eD E) vwCl (mdL E am o347_vm) H := hP
                    replace hD : va_D A (mdL E am o347_vm) := hD
                    have hFz : fr lRd vm o347_vm := by first | exact hFz | exact hFz.tr hFn347 (by decide) | (rw [← hv347]; repeat' (first | exact hFz | refine fr.up ?_ (by decide) | refine fr.up3 ?_ (by decide)))
                    have hr347 : r347.toInt = 1 := by rw [h347.1]; decide
                    have hq347 : (o347_vm 34 0).toInt = (o333_vm 34 0).toInt := by rw [h347.2.2]
                    have hw347 : (o347_vm 33 0).toInt = (o333_vm 34 0).toInt := by rw [hf347]; rfl
                    subst hQ
                    exact W.iret (v := r347) hx hb hr (fun t ht hW => ⟨⟨r347, (o347_vm), rfl, (show ((MdI o347_vm ∧ (0 ≤ r347.toInt ∧ r347.toInt ≤ 4) ∧ (vm 34 0).toInt ≤ (o347_vm 34 0).toInt ∧ (o347_vm 34 0).toInt ≤ 251 ∧ (r347.toInt = 0 → atI o347_vm ∧ RdM o347_vm ∧ (vm 34 0).toInt < (o347_vm 34 0).toInt)) ∧ fr lRd vm o347_vm) ∧ ((skp (vm 31) (vm 32 0).toInt (vm 34 0).toInt < (vm 32 0).toInt → MF (clauseF (vm 31) (vm 32 0).toInt S (skp (vm 31) (vm 32 0).toInt (vm 34 0).toInt)) (vm 33 0).toInt r347.toInt (o347_vm 33 0).toInt (fun y => (o347_vm 34 0).toInt = y.1 ∧ SM y.2 o347_vm)) ∧ (r347.toInt = 0 → o347_vm 31 = vm 31 ∧ o347_vm 32 = vm 32)) from ⟨⟨⟨hMI.sn h347.2.1, by omega, by omega, by omega, fun q => absurd q (by omega)⟩, hFz⟩, ⟨fun hn => by rw [← hp1]; exact hCL.no okF.clause (by omega) hp333 (by omega) hr347 hw347, fun q => absurd q (by omega)⟩⟩), by rw [ht]; exact hP, hD⟩, hS.F ht⟩) hS.2.2 dX10_takeClause_350
            · have c90_ := i_eq c90
              refine lv_aload_n hx hb dX10_takeClause_93 rfl (lv_at hl 2 rfl) ?_
              refine lv_iconst (v := 1) hx hb dX10_takeClause_94 (by decide) ?_
              refine lv_aload_n hx hb dX10_takeClause_95 rfl (lv_at hl 2 rfl) ?_
              refine va_get (D := eD E) (ci := 10) (v := .int (o1_vm 34 0)) (C := RX10) (T := TX10) (N := 79) hx hb hts in_X10 hown hK hP 0 rfl rfl 34 (by decide) lk0 (fun _ h9 => h9) rfl dX10_takeClause_96 ?_
              refine mt_Vi (w1 := fun (u : Vf) => mdL E am u) (wf := fun (u : Vf) => mdL E am u) (wr := []) (As := [.int 1, .int (o1_vm 34 0)]) (rest := []) (C := RX10) (ci := 10) ⟨hx, hb, hml, hown, hts⟩ (c_X10_fails l E H.size am o1_vm 1 (o1_vm 34 0)) (cwV 2 hts gX10_takeClause_X10_fails rfl rfl rfl (by decide +kernel) ⟨Nat.le_of_ble_eq_true rfl, Nat.le_of_ble_eq_true rfl⟩) hE hS hA hP hD [0, 1, 2, 3, 4, 5, 6, 7, 8, 9, 10, 11, 12, 13, 14, 15, 16, 17, 18, 19, 20, 21, 22, 23, 24, 25, 26, 27, 28, 29, 30, 31, 32, 33, 34, 35, 36, 37, 38, 39, 40, 41, 42, 43, 44, 45] [] rfl rfl (by decide) (by decide) (by decide) [0, 1, 2, 3, 4, 5, 6, 7, 8, 9, 10, 11, 12, 13, 14, 15, 16, 17, 18, 19, 20, 21, 22, 23, 24, 25, 26, 27, 28, 29, 30, 31, 32, 33, 34, 35, 36, 37, 38, 39, 40, 41, 42, 43, 44, 45] (by decide) (fun u => rfl) rfl rfl rfl rfl hl.1 rfl (Nat.le_of_ble_eq_true rfl) dX10_takeClause_99 ⟨Nat.zero_le _, Nat.zero_le _⟩ (fun r99 u99 H locs h99 hP hD hS => ?_)
              generalize u99 = o99_vm at hP hD h99
              try dsimp only at h99
              have hf99 := h99.2
              replace h99 := h99.1
              have hFn99 := h99.2
              replace h99 := h99.1
              replace hP : va_P (eD E) vwCl (mdL E am o99_vm) H := hP
              replace hD : va_D A (mdL E am o99_vm) := hD
              have hFz : fr lRd vm o99_vm := by first | exact hFz | exact hFz.tr hFn99 (by decide) | (rw [← hv99]; repeat' (first | exact hFz | refine fr.up ?_ (by decide) | refine fr.up3 ?_ (by decide)))
              have hr99 : r99.toInt = 1 := by rw [h99.1]; decide
              have hq99 : (o99_vm 34 0).toInt = (o1_vm 34 0).toInt := by rw [h99.2.2]
              have hw99 : (o99_vm 33 0).toInt = (o1_vm 34 0).toInt := by rw [hf99]; rfl
              subst hQ
              exact W.iret (v := r99) hx hb hr (fun t ht hW => ⟨⟨r99, (o99_vm), rfl, (show ((MdI o99_vm ∧ (0 ≤ r99.toInt ∧ r99.toInt ≤ 4) ∧ (vm 34 0).toInt ≤ (o99_vm 34 0).toInt ∧ (o99_vm 34 0).toInt ≤ 251 ∧ (r99.toInt = 0 → atI o99_vm ∧ RdM o99_vm ∧ (vm 34 0).toInt < (o99_vm 34 0).toInt)) ∧ fr lRd vm o99_vm) ∧ ((skp (vm 31) (vm 32 0).toInt (vm 34 0).toInt < (vm 32 0).toInt → MF (clauseF (vm 31) (vm 32 0).toInt S (skp (vm 31) (vm 32 0).toInt (vm 34 0).toInt)) (vm 33 0).toInt r99.toInt (o99_vm 33 0).toInt (fun y => (o99_vm 34 0).toInt = y.1 ∧ SM y.2 o99_vm)) ∧ (r99.toInt = 0 → o99_vm 31 = vm 31 ∧ o99_vm 32 = vm 32)) from ⟨⟨⟨hMI.sn h99.2.1, by omega, by omega, by omega, fun q => absurd q (by omega)⟩, hFz⟩, ⟨fun hn => MF.no (by rw [← hp1]; exact cl_no (by omega)) hr99 hw99, fun q => absurd q (by omega)⟩⟩), by rw [ht]; exact hP, hD⟩, hS.F ht⟩) hS.2.2 dX10_takeClause_102
        · have c38_ := i_eq c38
          refine lv_iconst (v := 3) hx hb dX10_takeClause_41 (by decide) ?_
          refine lv_goto (tgt := 77) hx hb dX10_takeClause_42 (by decide) ?_
          refine lv_istore_n (lv' := [(2, .int 3), (1, .int r1), (0, .ref (am 0))]) hx hb dX10_takeClause_77 rfl hl (by decide) rfl (fun ls hl => ?_)
          refine lv_iload_n hx hb dX10_takeClause_78 rfl (lv_at hl 0 rfl) ?_
          refine lv_if_lt (tgt := 93) hx hb dX10_takeClause_79 (by decide) (fun q => absurd q (by decide)) (fun _ => ?_)
          refine lv_iload_n hx hb dX10_takeClause_82 rfl (lv_at hl 0 rfl) ?_
          refine lv_if_le (tgt := 103) hx hb dX10_takeClause_83 (by decide) (fun q => absurd q (by decide)) (fun _ => ?_)
          refine lv_aload_n hx hb dX10_takeClause_86 rfl (lv_at hl 2 rfl) ?_
          refine va_get (D := eD E) (ci := 10) (v := .int (o1_vm 37 0)) (C := RX10) (T := TX10) (N := 79) hx hb hts in_X10 hown hK hP 0 rfl rfl 37 (by decide) lk1 (fun _ h9 => h9) rfl dX10_takeClause_87 ?_
          refine lv_if_ne (tgt := 103) hx hb dX10_takeClause_90 (by decide) (fun c90 => ?_) (fun c90 => ?_)
          · have c90_ := i_ne c90
            refine lv_iload_n hx hb dX10_takeClause_103 rfl (lv_at hl 0 rfl) ?_
            refine lv_if_ne (tgt := 122) hx hb dX10_takeClause_104 (by decide) (fun _ => ?_) (fun q => absurd q (by decide))
            refine lv_iload_n hx hb dX10_takeClause_122 rfl (lv_at hl 0 rfl) ?_
            refine lv_iconst (v := 1) hx hb dX10_takeClause_123 (by decide) ?_
            refine lv_icmp_ne (tgt := 144) hx hb dX10_takeClause_124 (by decide) (fun _ => ?_) (fun q => absurd q (by decide))
            refine lv_iload_n hx hb dX10_takeClause_144 rfl (lv_at hl 0 rfl) ?_
            refine lv_iconst (v := 2) hx hb dX10_takeClause_145 (by decide) ?_
            refine lv_icmp_ne (tgt := 165) hx hb dX10_takeClause_146 (by decide) (fun _ => ?_) (fun q => absurd q (by decide))
            refine lv_iload_n hx hb dX10_takeClause_165 rfl (lv_at hl 0 rfl) ?_
            refine lv_iconst (v := 3) hx hb dX10_takeClause_166 (by decide) ?_
            refine lv_icmp_ne (tgt := 183) hx hb dX10_takeClause_167 (by decide) (fun q => absurd q (by decide)) (fun _ => ?_)
            refine lv_aload_n hx hb dX10_takeClause_170 rfl (lv_at hl 2 rfl) ?_
            refine va_get (D := eD E) (ci := 10) (v := .int (o1_vm 48 0)) (C := RX10) (T := TX10) (N := 79) hx hb hts in_X10 hown hK hP 0 rfl rfl 48 (by decide) lk5 (fun _ h9 => h9) rfl dX10_takeClause_171 ?_
            refine lv_bipush (v := 6) hx hb dX10_takeClause_174 (by decide) ?_
            refine lv_icmp_ne (tgt := 183) hx hb dX10_takeClause_176 (by decide) (fun c176 => ?_) (fun c176 => ?_)
            · have c176_ := i_ne c176
              refine lv_iconst (v := 0) hx hb dX10_takeClause_183 (by decide) ?_
              refine lv_istore_n (lv' := [(3, .int 0), (2, .int 3), (1, .int r1), (0, .ref (am 0))]) hx hb dX10_takeClause_184 rfl hl (by decide) rfl (fun ls hl => ?_)
              refine lv_iload_n hx hb dX10_takeClause_185 rfl (lv_at hl 0 rfl) ?_
              refine lv_if_ne (tgt := 230) hx hb dX10_takeClause_186 (by decide) (fun q => absurd q (by decide)) (fun _ => ?_)
              refine lv_iload_n hx hb dX10_takeClause_189 rfl (lv_at hl 1 rfl) ?_
              refine lv_iconst (v := 4) hx hb dX10_takeClause_190 (by decide) ?_
              refine lv_icmp_ne (tgt := 203) hx hb dX10_takeClause_191 (by decide) (fun _ => ?_) (fun q => absurd q (by decide))
              refine lv_iload_n hx hb dX10_takeClause_203 rfl (lv_at hl 1 rfl) ?_
              refine lv_iconst (v := 5) hx hb dX10_takeClause_204 (by decide) ?_
              refine lv_icmp_ne (tgt := 216) hx hb dX10_takeClause_205 (by decide) (fun _ => ?_) (fun q => absurd q (by decide))
              refine lv_iload_n hx hb dX10_takeClause_216 rfl (lv_at hl 1 rfl) ?_
              refine lv_bipush (v := 6) hx hb dX10_takeClause_217 (by decide) ?_
              refine lv_icmp_ne (tgt := 240) hx hb dX10_takeClause_219 (by decide) (fun _ => ?_) (fun q => absurd q (by decide))
              refine lv_aload_n hx hb dX10_takeClause_240 rfl (lv_at hl 3 rfl) ?_
              refine lv_dup hx hb dX10_takeClause_241 rfl ?_
              refine va_get (D := eD E) (ci := 10) (v := .int (o1_vm 34 0)) (C := RX10) (T := TX10) (N := 79) hx hb hts in_X10 hown hK hP 0 rfl rfl 34 (by decide) lk0 (fun _ h9 => h9) rfl dX10_takeClause_242 ?_
              refine lv_iconst (v := 1) hx hb dX10_takeClause_245 (by decide) ?_
              have sv246_o1_vm340 : 0 ≤ (o1_vm 34 0).toInt ∧ (o1_vm 34 0).toInt ≤ 249 := by omega
              refine lv_iadd hx hb dX10_takeClause_246 ?_
              refine lv_topi (fun x246 e246 => ?_)
              have t246 := i_add e246 (by omega)
              refine va_put (D := eD E) (ci := 10) (v := .int x246) (ty := .int) (C := RX10) (T := TX10) (N := 79) hx hb hts in_X10 tyX10 tyX10_ok nmX10 hown hK hP hD hS 0 rfl rfl 34 (by decide) lk0 (fun _ h9 => h9) rfl (by decide +kernel) rfl rfl (Nat.le_of_ble_eq_true rfl) dX10_takeClause_247 (fun H locs hP hD hS => ?_)
              replace hP : va_P (eD E) vwCl (mdL E am (up2 o1_vm 34 0 x246)) H := hP
              replace hD : va_D A (mdL E am (up2 o1_vm 34 0 x246)) := hD
              generalize hv247 : up2 o1_vm 34 0 x246 = vm_247 at hP hD
              have hFz : fr lRd vm vm_247 := by first | exact hFz | (rw [← hv247]; exact hFz.up (by decide))
              have hMI : MdI vm_247 := by rw [← hv247]; exact hMI
              have hRd : RdM vm_247 := by rw [← hv247]; exact hRd
              have hat : atI vm_247 := by rw [← hv247]; exact (show 0 ≤ x246.toInt ∧ x246.toInt ≤ (o1_vm 32 0).toInt by omega)
              have hq247_34 : (vm_247 34 0).toInt = x246.toInt := by rw [← hv247]; rfl
              have hq247_37 : (vm_247 37 0).toInt = (o1_vm 37 0).toInt := by rw [← hv247]; rfl
              have hq247_38 : (vm_247 38 0).toInt = (o1_vm 38 0).toInt := by rw [← hv247]; rfl
              have hq247_41 : (vm_247 41 0).toInt = (o1_vm 41 0).toInt := by rw [← hv247]; rfl
              have hq247_43 : (vm_247 43 0).toInt = (o1_vm 43 0).toInt := by rw [← hv247]; rfl
              have hq247_48 : (vm_247 48 0).toInt = (o1_vm 48 0).toInt := by rw [← hv247]; rfl
              have hq247_51 : (vm_247 51 0).toInt = (o1_vm 51 0).toInt := by rw [← hv247]; rfl
              have hq247_55 : (vm_247 55 0).toInt = (o1_vm 55 0).toInt := by rw [← hv247]; rfl
              have hq247_58 : (vm_247 58 0).toInt = (o1_vm 58 0).toInt := by rw [← hv247]; rfl
              have hSM : SM S vm_247 := by rw [← hv247]; exact hSM1.sc (sc.rf.up (by omega))
              have hT247 : vm_247 31 = vm 31 ∧ vm_247 32 = vm 32 ∧ vm_247 33 = vm 33 := by rw [← hv247]; exact ⟨h1.1 31 (by decide) (by decide) (by decide) (by decide), h1.1 32 (by decide) (by decide) (by decide) (by decide), hfr1.1⟩
              have hp247 : (vm_247 34 0).toInt = (o1_vm 34 0).toInt + 1 := by omega
              refine lv_iload_n hx hb dX10_takeClause_250 rfl (lv_at hl 1 rfl) ?_
              refine lv_if_ne (tgt := 261) hx hb dX10_takeClause_251 (by decide) (fun _ => ?_) (fun q => absurd q (by decide))
              refine lv_iload_n hx hb dX10_takeClause_261 rfl (lv_at hl 1 rfl) ?_
              refine lv_iconst (v := 1) hx hb dX10_takeClause_262 (by decide) ?_
              refine lv_icmp_ne (tgt := 273) hx hb dX10_takeClause_263 (by decide) (fun _ => ?_) (fun q => absurd q (by decide))
              refine lv_iload_n hx hb dX10_takeClause_273 rfl (lv_at hl 1 rfl) ?_
              refine lv_iconst (v := 2) hx hb dX10_takeClause_274 (by decide) ?_
              refine lv_icmp_ne (tgt := 285) hx hb dX10_takeClause_275 (by decide) (fun _ => ?_) (fun q => absurd q (by decide))
              refine lv_iload_n hx hb dX10_takeClause_285 rfl (lv_at hl 1 rfl) ?_
              refine lv_iconst (v := 3) hx hb dX10_takeClause_286 (by decide) ?_
              refine lv_icmp_ne (tgt := 297) hx hb dX10_takeClause_287 (by decide) (fun q => absurd q (by decide)) (fun _ => ?_)
              refine lv_aload_n hx hb dX10_takeClause_290 rfl (lv_at hl 3 rfl) ?_
              refine mt_Vi (w1 := fun (u : Vf) => mdL E am u) (wf := fun (u : Vf) => mdL E am u) (wr := []) (As := []) (rest := []) (C := RX10) (ci := 10) ⟨hx, hb, hml, hown, hts⟩ (c_X10_takeHouse l E H.size am vm_247 S hMI hat hRd (by omega) (by omega) hSM) (cwV 0 hts gX10_takeClause_X10_takeHouse rfl rfl rfl (by decide +kernel) ⟨Nat.le_of_ble_eq_true rfl, Nat.le_of_ble_eq_true rfl⟩) hE hS hA hP hD [0, 1, 2, 3, 4, 5, 6, 7, 8, 9, 10, 11, 12, 13, 14, 15, 16, 17, 18, 19, 20, 21, 22, 23, 24, 25, 26, 27, 28, 29, 30, 31, 32, 33, 34, 35, 36, 37, 38, 39, 40, 41, 42, 43, 44, 45] [] rfl rfl (by decide) (by decide) (by decide) [0, 1, 2, 3, 4, 5, 6, 7, 8, 9, 10, 11, 12, 13, 14, 15, 16, 17, 18, 19, 20, 21, 22, 23, 24, 25, 26, 27, 28, 29, 30, 31, 32, 33, 34, 35, 36, 37, 38, 39, 40, 41, 42, 43, 44, 45] (by decide) (fun u => rfl) rfl rfl rfl rfl hl.1 rfl (Nat.le_of_ble_eq_true rfl) dX10_takeClause_291 ⟨Nat.zero_le _, Nat.zero_le _⟩ (fun r291 u291 H locs h291 hP hD hS => ?_)
              generalize u291 = o291_vm at hP hD h291
              try dsimp only at h291
              have hf291 := h291.2
              replace h291 := h291.1
              have hFn291 := h291.2
              replace h291 := h291.1
              replace hP : va_P (eD E) vwCl (mdL E am o291_vm) H := hP
              replace hD : va_D A (mdL E am o291_vm) := hD
              have hFz : fr lRd vm o291_vm := by first | exact hFz | exact hFz.tr hFn291 (by decide) | (rw [← hv291]; repeat' (first | exact hFz | refine fr.up ?_ (by decide) | refine fr.up3 ?_ (by decide)))
              have hMI := h291.1
              have hat := h291.2.1
              have hRdx := h291.2.2.2.2
              obtain ⟨hat1, hat2⟩ := id hat
              have hT := hMI.1.2.2.2.2.2.2.1
              have hm291 := h291.2.2.1
              have hz291 := h291.2.2.2.1
              have hCL : CK (clauseF (vm 31) (vm 32 0).toInt S (o1_vm 34 0).toInt) S (vm 31) (vm 32 0).toInt (vm 33 0).toInt r291.toInt (o291_vm 33 0).toInt (o291_vm 34 0).toInt o291_vm := by rw [cl_h (by omega) (by omega)]; have q := hf291 (o1_vm 34 0).toInt; rw [hT247.1, hT247.2.1, hT247.2.2, hp247] at q; exact TK.ck (g := fun x : ((Unit × ((Int × Int × Int) × (Int × Int × Int))) × Unit) × (Int × Int × Int) => houseS S (plc (S 37 0) x.1.1.2) x.2.1) q (fun _ => ⟨rfl, rfl⟩)
              have hR := r291
              have hTx : r291.toInt = 0 → o291_vm 31 = vm 31 ∧ o291_vm 32 = vm 32 := fun q => by have z := hCL.txt okF.clause q hSM; rw [hT247.1, hT247.2.1] at z; exact z
              clear hf291
              refine lv_goto (tgt := 325) hx hb dX10_takeClause_294 (by decide) ?_
              refine lv_istore (lv' := [(4, .int r291), (3, .int 0), (2, .int 3), (1, .int r1), (0, .ref (am 0))]) hx hb dX10_takeClause_325 hl (by decide) rfl (fun ls hl => ?_)
              refine lv_iload hx hb dX10_takeClause_327 (lv_at hl 0 rfl) ?_
              refine lv_if_ne (tgt := 351) hx hb dX10_takeClause_329 (by decide) (fun c329 => ?_) (fun c329 => ?_)
              · have c329_ := i_ne c329
                have hnz : r291.toInt ≠ 0 := by omega
                refine lv_aload_n hx hb dX10_takeClause_351 rfl (lv_at hl 4 rfl) ?_
                refine lv_dup hx hb dX10_takeClause_352 rfl ?_
                refine va_get (D := eD E) (ci := 10) (v := .int (o291_vm 34 0)) (C := RX10) (T := TX10) (N := 79) hx hb hts in_X10 hown hK hP 0 rfl rfl 34 (by decide) lk0 (fun _ h9 => h9) rfl dX10_takeClause_353 ?_
                refine lv_iconst (v := 1) hx hb dX10_takeClause_356 (by decide) ?_
                refine lv_iadd hx hb dX10_takeClause_357 ?_
                refine lv_topi (fun x357 e357 => ?_)
                have t357 := i_add e357 (by omega)
                refine va_put (D := eD E) (ci := 10) (v := .int x357) (ty := .int) (C := RX10) (T := TX10) (N := 79) hx hb hts in_X10 tyX10 tyX10_ok nmX10 hown hK hP hD hS 0 rfl rfl 34 (by decide) lk0 (fun _ h9 => h9) rfl (by decide +kernel) rfl rfl (Nat.le_of_ble_eq_true rfl) dX10_takeClause_358 (fun H locs hP hD hS => ?_)
                replace hP : va_P (eD E) vwCl (mdL E am (up2 o291_vm 34 0 x357)) H := hP
                replace hD : va_D A (mdL E am (up2 o291_vm 34 0 x357)) := hD
                generalize hv358 : up2 o291_vm 34 0 x357 = vm_358 at hP hD
                have hFz : fr lRd vm vm_358 := by first | exact hFz | (rw [← hv358]; exact hFz.up (by decide))
                refine lv_iload hx hb dX10_takeClause_361 (lv_at hl 0 rfl) ?_
                subst hQ
                exact W.iret (v := r291) hx hb hr (fun t ht hW => ⟨⟨r291, (vm_358), rfl, (show ((MdI vm_358 ∧ (0 ≤ r291.toInt ∧ r291.toInt ≤ 4) ∧ (vm 34 0).toInt ≤ (vm_358 34 0).toInt ∧ (vm_358 34 0).toInt ≤ 251 ∧ (r291.toInt = 0 → atI vm_358 ∧ RdM vm_358 ∧ (vm 34 0).toInt < (vm_358 34 0).toInt)) ∧ fr lRd vm vm_358) ∧ ((skp (vm 31) (vm 32 0).toInt (vm 34 0).toInt < (vm 32 0).toInt → MF (clauseF (vm 31) (vm 32 0).toInt S (skp (vm 31) (vm 32 0).toInt (vm 34 0).toInt)) (vm 33 0).toInt r291.toInt (vm_358 33 0).toInt (fun y => (vm_358 34 0).toInt = y.1 ∧ SM y.2 vm_358)) ∧ (r291.toInt = 0 → vm_358 31 = vm 31 ∧ vm_358 32 = vm 32)) from ⟨⟨⟨(by rw [← hv358]; exact hMI), by omega, (by rw [← hv358]; show (vm 34 0).toInt ≤ x357.toInt; omega), (by rw [← hv358]; show x357.toInt ≤ 251; omega), (by first | exact fun q => absurd q (by omega) | exact fun q => ⟨(by rw [← hv358]; exact (show 0 ≤ x357.toInt ∧ x357.toInt ≤ (o333_vm 32 0).toInt by omega)), (by rw [← hv358]; exact hRd3), (by rw [← hv358]; show (vm 34 0).toInt < x357.toInt; omega)⟩)⟩, hFz⟩, (by first | exact ⟨fun hn => by rw [← hp1, ← hv358]; exact hCL.ok okF.clause hz0 hp333 hsg hz0 (show (o333_vm 33 0).toInt = _ by rw [hfr3.1]) (show x357.toInt = _ by omega) (hs333.sc.up (by omega)), fun q => by rw [← hv358]; exact ⟨(h333.1 31 (by decide) (by decide) (by decide) (by decide)).trans (hTx hz0).1, (h333.1 32 (by decide) (by decide) (by decide) (by decide)).trans (hTx hz0).2⟩⟩ | exact ⟨fun hn => by rw [← hp1, ← hv358]; exact hCL.bad hnz, fun q => absurd q hnz⟩)⟩), by rw [ht]; exact hP, hD⟩, hS.F ht⟩) hS.2.2 dX10_takeClause_363
              · have c329_ := i_eq c329
                refine lv_aload_n hx hb dX10_takeClause_332 rfl (lv_at hl 4 rfl) ?_
                refine mt_Vi (w1 := fun (u : Vf) => mdL E am u) (wf := fun (u : Vf) => mdL E am u) (wr := []) (As := []) (rest := []) (C := RX10) (ci := 10) ⟨hx, hb, hml, hown, hts⟩ (c_X10_here l E H.size am o291_vm hMI hat) (cwV 0 hts gX10_takeClause_X10_here rfl rfl rfl (by decide +kernel) ⟨Nat.le_of_ble_eq_true rfl, Nat.le_of_ble_eq_true rfl⟩) hE hS hA hP hD [0, 1, 2, 3, 4, 5, 6, 7, 8, 9, 10, 11, 12, 13, 14, 15, 16, 17, 18, 19, 20, 21, 22, 23, 24, 25, 26, 27, 28, 29, 30, 31, 32, 33, 34, 35, 36, 37, 38, 39, 40, 41, 42, 43, 44, 45] [] rfl rfl (by decide) (by decide) (by decide) [0, 1, 2, 3, 4, 5, 6, 7, 8, 9, 10, 11, 12, 13, 14, 15, 16, 17, 18, 19, 20, 21, 22, 23, 24, 25, 26, 27, 28, 29, 30, 31, 32, 33, 34, 35, 36, 37, 38, 39, 40, 41, 42, 43, 44, 45] (by decide) (fun u => rfl) rfl rfl rfl rfl hl.1 rfl (Nat.le_of_ble_eq_true rfl) dX10_takeClause_333 ⟨Nat.zero_le _, Nat.zero_le _⟩ (fun r333 u333 H locs h333 hP hD hS => ?_)
                generalize u333 = o333_vm at hP hD h333
                try dsimp only at h333
                have hf333 := h333.2
                replace h333 := h333.1
                have hFn333 := h333.2
                replace h333 := h333.1
                replace hP : va_P (eD E) vwCl (mdL E am o333_vm) H := hP
                replace hD : va_D A (mdL E am o333_vm) := hD
                have hFz : fr lRd vm o333_vm := by first | exact hFz | exact hFz.tr hFn333 (by decide) | (rw [← hv333]; repeat' (first | exact hFz | refine fr.up ?_ (by decide) | refine fr.up3 ?_ (by decide)))
                have hMI : MdI o333_vm := hMI.sn h333.1
                have hRd3 : RdM o333_vm := (hRdx (by omega)).sn h333.1
                have hat := h333.2.1
                obtain ⟨hat1, hat2⟩ := id hat
                have hq333_32 : (o333_vm 32 0).toInt = (o291_vm 32 0).toInt := by rw [h333.1 32 (by decide) (by decide) (by decide) (by decide)]
                have hm333 := h333.2.2
                have hp333 := hf333.1
                rw [(hTx (by omega)).1, (hTx (by omega)).2] at hp333
                have hg333 := hf333.2.2
                rw [(hTx (by omega)).1, (hTx (by omega)).2] at hg333
                have hfr3 := hf333.2.1
                have hs333 : sn o291_vm o333_vm := h333.1
                refine lv_bipush (v := 59) hx hb dX10_takeClause_336 (by decide) ?_
                refine lv_icmp_eq (tgt := 351) hx hb dX10_takeClause_338 (by decide) (fun c338 => ?_) (fun c338 => ?_)
                · have c338_ := i_eq c338
                  have hz0 : r291.toInt = 0 := by omega
                  have hsg : (o333_vm 34 0).toInt < (vm 32 0).toInt ∧ tc (vm 31) (o333_vm 34 0).toInt = 59 := by omega
                  refine lv_aload_n hx hb dX10_takeClause_351 rfl (lv_at hl 4 rfl) ?_
                  refine lv_dup hx hb dX10_takeClause_352 rfl ?_
                  refine va_get (D := eD E) (ci := 10) (v := .int (o333_vm 34 0)) (C := RX10) (T := TX10) (N := 79) hx hb hts in_X10 hown hK hP 0 rfl rfl 34 (by decide) lk0 (fun _ h9 => h9) rfl dX10_takeClause_353 ?_
                  refine lv_iconst (v := 1) hx hb dX10_takeClause_356 (by decide) ?_
                  refine lv_iadd hx hb dX10_takeClause_357 ?_
                  refine lv_topi (fun x357 e357 => ?_)
                  have t357 := i_add e357 (by omega)
                  refine va_put (D := eD E) (ci := 10) (v := .int x357) (ty := .int) (C := RX10) (T := TX10) (N := 79) hx hb hts in_X10 tyX10 tyX10_ok nmX10 hown hK hP hD hS 0 rfl rfl 34 (by decide) lk0 (fun _ h9 => h9) rfl (by decide +kernel) rfl rfl (Nat.le_of_ble_eq_true rfl) dX10_takeClause_358 (fun H locs hP hD hS => ?_)
                  replace hP : va_P (eD E) vwCl (mdL E am (up2 o333_vm 34 0 x357)) H := hP
                  replace hD : va_D A (mdL E am (up2 o333_vm 34 0 x357)) := hD
                  generalize hv358 : up2 o333_vm 34 0 x357 = vm_358 at hP hD
                  have hFz : fr lRd vm vm_358 := by first | exact hFz | (rw [← hv358]; exact hFz.up (by decide))
                  refine lv_iload hx hb dX10_takeClause_361 (lv_at hl 0 rfl) ?_
                  subst hQ
                  exact W.iret (v := r291) hx hb hr (fun t ht hW => ⟨⟨r291, (vm_358), rfl, (show ((MdI vm_358 ∧ (0 ≤ r291.toInt ∧ r291.toInt ≤ 4) ∧ (vm 34 0).toInt ≤ (vm_358 34 0).toInt ∧ (vm_358 34 0).toInt ≤ 251 ∧ (r291.toInt = 0 → atI vm_358 ∧ RdM vm_358 ∧ (vm 34 0).toInt < (vm_358 34 0).toInt)) ∧ fr lRd vm vm_358) ∧ ((skp (vm 31) (vm 32 0).toInt (vm 34 0).toInt < (vm 32 0).toInt → MF (clauseF (vm 31) (vm 32 0).toInt S (skp (vm 31) (vm 32 0).toInt (vm 34 0).toInt)) (vm 33 0).toInt r291.toInt (vm_358 33 0).toInt (fun y => (vm_358 34 0).toInt = y.1 ∧ SM y.2 vm_358)) ∧ (r291.toInt = 0 → vm_358 31 = vm 31 ∧ vm_358 32 = vm 32)) from ⟨⟨⟨(by rw [← hv358]; exact hMI), by omega, (by rw [← hv358]; show (vm 34 0).toInt ≤ x357.toInt; omega), (by rw [← hv358]; show x357.toInt ≤ 251; omega), (by first | exact fun q => absurd q (by omega) | exact fun q => ⟨(by rw [← hv358]; exact (show 0 ≤ x357.toInt ∧ x357.toInt ≤ (o333_vm 32 0).toInt by omega)), (by rw [← hv358]; exact hRd3), (by rw [← hv358]; show (vm 34 0).toInt < x357.toInt; omega)⟩)⟩, hFz⟩, (by first | exact ⟨fun hn => by rw [← hp1, ← hv358]; exact hCL.ok okF.clause hz0 hp333 hsg hz0 (show (o333_vm 33 0).toInt = _ by rw [hfr3.1]) (show x357.toInt = _ by omega) (hs333.sc.up (by omega)), fun q => by rw [← hv358]; exact ⟨(h333.1 31 (by decide) (by decide) (by decide) (by decide)).trans (hTx hz0).1, (h333.1 32 (by decide) (by decide) (by decide) (by decide)).trans (hTx hz0).2⟩⟩ | exact ⟨fun hn => by rw [← hp1, ← hv358]; exact hCL.bad hnz, fun q => absurd q hnz⟩)⟩), by rw [ht]; exact hP, hD⟩, hS.F ht⟩) hS.2.2 dX10_takeClause_363
                · have c338_ := i_ne c338
                  refine lv_aload_n hx hb dX10_takeClause_341 rfl (lv_at hl 4 rfl) ?_
                  refine lv_iconst (v := 1) hx hb dX10_takeClause_342 (by decide) ?_
                  refine lv_aload_n hx hb dX10_takeClause_343 rfl (lv_at hl 4 rfl) ?_
                  refine va_get (D := eD E) (ci := 10) (v := .int (o333_vm 34 0)) (C := RX10) (T := TX10) (N := 79) hx hb hts in_X10 hown hK hP 0 rfl rfl 34 (by decide) lk0 (fun _ h9 => h9) rfl dX10_takeClause_344 ?_
                  refine mt_Vi (w1 := fun (u : Vf) => mdL E am u) (wf := fun (u : Vf) => mdL E am u) (wr := []) (As := [.int 1, .int (o333_vm 34 0)]) (rest := []) (C := RX10) (ci := 10) ⟨hx, hb, hml, hown, hts⟩ (c_X10_fails l E H.size am o333_vm 1 (o333_vm 34 0)) (cwV 2 hts gX10_takeClause_X10_fails rfl rfl rfl (by decide +kernel) ⟨Nat.le_of_ble_eq_true rfl, Nat.le_of_ble_eq_true rfl⟩) hE hS hA hP hD [0, 1, 2, 3, 4, 5, 6, 7, 8, 9, 10, 11, 12, 13, 14, 15, 16, 17, 18, 19, 20, 21, 22, 23, 24, 25, 26, 27, 28, 29, 30, 31, 32, 33, 34, 35, 36, 37, 38, 39, 40, 41, 42, 43, 44, 45] [] rfl rfl (by decide) (by decide) (by decide) [0, 1, 2, 3, 4, 5, 6, 7, 8, 9, 10, 11, 12, 13, 14, 15, 16, 17, 18, 19, 20, 21, 22, 23, 24, 25, 26, 27, 28, 29, 30, 31, 32, 33, 34, 35, 36, 37, 38, 39, 40, 41, 42, 43, 44, 45] (by decide) (fun u => rfl) rfl rfl rfl rfl hl.1 rfl (Nat.le_of_ble_eq_true rfl) dX10_takeClause_347 ⟨Nat.zero_le _, Nat.zero_le _⟩ (fun r347 u347 H locs h347 hP hD hS => ?_)
                  generalize u347 = o347_vm at hP hD h347
                  try dsimp only at h347
                  have hf347 := h347.2
                  replace h347 := h347.1
                  have hFn347 := h347.2
                  replace h347 := h347.1
                  replace hP : va_P (eD E) vwCl (mdL E am o347_vm) H := hP
                  replace hD : va_D A (mdL E am o347_vm) := hD
                  have hFz : fr lRd vm o347_vm := by first | exact hFz | exact hFz.tr hFn347 (by decide) | (rw [← hv347]; repeat' (first | exact hFz | refine fr.up ?_ (by decide) | refine fr.up3 ?_ (by decide)))
                  have hr347 : r347.toInt = 1 := by rw [h347.1]; decide
                  have hq347 : (o347_vm 34 0).toInt = (o333_vm 34 0).toInt := by rw [h347.2.2]
                  have hw347 : (o347_vm 33 0).toInt = (o333_vm 34 0).toInt := by rw [hf347]; rfl
                  subst hQ
                  exact W.iret (v := r347) hx hb hr (fun t ht hW => ⟨⟨r347, (o347_vm), rfl, (show ((MdI o347_vm ∧ (0 ≤ r347.toInt ∧ r347.toInt ≤ 4) ∧ (vm 34 0).toInt ≤ (o347_vm 34 0).toInt ∧ (o347_vm 34 0).toInt ≤ 251 ∧ (r347.toInt = 0 → atI o347_vm ∧ RdM o347_vm ∧ (vm 34 0).toInt < (o347_vm 34 0).toInt)) ∧ fr lRd vm o347_vm) ∧ ((skp (vm 31) (vm 32 0).toInt (vm 34 0).toInt < (vm 32 0).toInt → MF (clauseF (vm 31) (vm 32 0).toInt S (skp (vm 31) (vm 32 0).toInt (vm 34 0).toInt)) (vm 33 0).toInt r347.toInt (o347_vm 33 0).toInt (fun y => (o347_vm 34 0).toInt = y.1 ∧ SM y.2 o347_vm)) ∧ (r347.toInt = 0 → o347_vm 31 = vm 31 ∧ o347_vm 32 = vm 32)) from ⟨⟨⟨hMI.sn h347.2.1, by omega, by omega, by omega, fun q => absurd q (by omega)⟩, hFz⟩, ⟨fun hn => by rw [← hp1]; exact hCL.no okF.clause (by omega) hp333 (by omega) hr347 hw347, fun q => absurd q (by omega)⟩⟩), by rw [ht]; exact hP, hD⟩, hS.F ht⟩) hS.2.2 dX10_takeClause_350
            · have c176_ := i_eq c176
              have hcl3 : clauseF (vm 31) (vm 32 0).toInt S (o1_vm 34 0).toInt = .inl (3, (o1_vm 34 0).toInt) := cl3_h (by omega) (by omega) (by omega)
              refine lv_iconst (v := 1) hx hb dX10_takeClause_179 (by decide) ?_
              refine lv_goto (tgt := 184) hx hb dX10_takeClause_180 (by decide) ?_
              refine lv_istore_n (lv' := [(3, .int 1), (2, .int 3), (1, .int r1), (0, .ref (am 0))]) hx hb dX10_takeClause_184 rfl hl (by decide) rfl (fun ls hl => ?_)
              refine lv_iload_n hx hb dX10_takeClause_185 rfl (lv_at hl 0 rfl) ?_
              refine lv_if_ne (tgt := 230) hx hb dX10_takeClause_186 (by decide) (fun _ => ?_) (fun q => absurd q (by decide))
              refine lv_aload_n hx hb dX10_takeClause_230 rfl (lv_at hl 3 rfl) ?_
              refine lv_iconst (v := 3) hx hb dX10_takeClause_231 (by decide) ?_
              refine lv_aload_n hx hb dX10_takeClause_232 rfl (lv_at hl 3 rfl) ?_
              refine va_get (D := eD E) (ci := 10) (v := .int (o1_vm 34 0)) (C := RX10) (T := TX10) (N := 79) hx hb hts in_X10 hown hK hP 0 rfl rfl 34 (by decide) lk0 (fun _ h9 => h9) rfl dX10_takeClause_233 ?_
              refine mt_Vi (w1 := fun (u : Vf) => mdL E am u) (wf := fun (u : Vf) => mdL E am u) (wr := []) (As := [.int 3, .int (o1_vm 34 0)]) (rest := []) (C := RX10) (ci := 10) ⟨hx, hb, hml, hown, hts⟩ (c_X10_fails l E H.size am o1_vm 3 (o1_vm 34 0)) (cwV 2 hts gX10_takeClause_X10_fails rfl rfl rfl (by decide +kernel) ⟨Nat.le_of_ble_eq_true rfl, Nat.le_of_ble_eq_true rfl⟩) hE hS hA hP hD [0, 1, 2, 3, 4, 5, 6, 7, 8, 9, 10, 11, 12, 13, 14, 15, 16, 17, 18, 19, 20, 21, 22, 23, 24, 25, 26, 27, 28, 29, 30, 31, 32, 33, 34, 35, 36, 37, 38, 39, 40, 41, 42, 43, 44, 45] [] rfl rfl (by decide) (by decide) (by decide) [0, 1, 2, 3, 4, 5, 6, 7, 8, 9, 10, 11, 12, 13, 14, 15, 16, 17, 18, 19, 20, 21, 22, 23, 24, 25, 26, 27, 28, 29, 30, 31, 32, 33, 34, 35, 36, 37, 38, 39, 40, 41, 42, 43, 44, 45] (by decide) (fun u => rfl) rfl rfl rfl rfl hl.1 rfl (Nat.le_of_ble_eq_true rfl) dX10_takeClause_236 ⟨Nat.zero_le _, Nat.zero_le _⟩ (fun r236 u236 H locs h236 hP hD hS => ?_)
              generalize u236 = o236_vm at hP hD h236
              try dsimp only at h236
              have hf236 := h236.2
              replace h236 := h236.1
              have hFn236 := h236.2
              replace h236 := h236.1
              replace hP : va_P (eD E) vwCl (mdL E am o236_vm) H := hP
              replace hD : va_D A (mdL E am o236_vm) := hD
              have hFz : fr lRd vm o236_vm := by first | exact hFz | exact hFz.tr hFn236 (by decide) | (rw [← hv236]; repeat' (first | exact hFz | refine fr.up ?_ (by decide) | refine fr.up3 ?_ (by decide)))
              have hr236 : r236.toInt = 3 := by rw [h236.1]; decide
              have hq236 : (o236_vm 34 0).toInt = (o1_vm 34 0).toInt := by rw [h236.2.2]
              have hw236 : (o236_vm 33 0).toInt = (o1_vm 34 0).toInt := by rw [hf236]; rfl
              subst hQ
              exact W.iret (v := r236) hx hb hr (fun t ht hW => ⟨⟨r236, (o236_vm), rfl, (show ((MdI o236_vm ∧ (0 ≤ r236.toInt ∧ r236.toInt ≤ 4) ∧ (vm 34 0).toInt ≤ (o236_vm 34 0).toInt ∧ (o236_vm 34 0).toInt ≤ 251 ∧ (r236.toInt = 0 → atI o236_vm ∧ RdM o236_vm ∧ (vm 34 0).toInt < (o236_vm 34 0).toInt)) ∧ fr lRd vm o236_vm) ∧ ((skp (vm 31) (vm 32 0).toInt (vm 34 0).toInt < (vm 32 0).toInt → MF (clauseF (vm 31) (vm 32 0).toInt S (skp (vm 31) (vm 32 0).toInt (vm 34 0).toInt)) (vm 33 0).toInt r236.toInt (o236_vm 33 0).toInt (fun y => (o236_vm 34 0).toInt = y.1 ∧ SM y.2 o236_vm)) ∧ (r236.toInt = 0 → o236_vm 31 = vm 31 ∧ o236_vm 32 = vm 32)) from ⟨⟨⟨hMI.sn h236.2.1, by omega, by omega, by omega, fun q => absurd q (by omega)⟩, hFz⟩, ⟨fun hn => MF.no (by rw [← hp1]; exact hcl3) hr236 hw236, fun q => absurd q (by omega)⟩⟩), by rw [ht]; exact hP, hD⟩, hS.F ht⟩) hS.2.2 dX10_takeClause_239
          · have c90_ := i_eq c90
            refine lv_aload_n hx hb dX10_takeClause_93 rfl (lv_at hl 2 rfl) ?_
            refine lv_iconst (v := 1) hx hb dX10_takeClause_94 (by decide) ?_
            refine lv_aload_n hx hb dX10_takeClause_95 rfl (lv_at hl 2 rfl) ?_
            refine va_get (D := eD E) (ci := 10) (v := .int (o1_vm 34 0)) (C := RX10) (T := TX10) (N := 79) hx hb hts in_X10 hown hK hP 0 rfl rfl 34 (by decide) lk0 (fun _ h9 => h9) rfl dX10_takeClause_96 ?_
            refine mt_Vi (w1 := fun (u : Vf) => mdL E am u) (wf := fun (u : Vf) => mdL E am u) (wr := []) (As := [.int 1, .int (o1_vm 34 0)]) (rest := []) (C := RX10) (ci := 10) ⟨hx, hb, hml, hown, hts⟩ (c_X10_fails l E H.size am o1_vm 1 (o1_vm 34 0)) (cwV 2 hts gX10_takeClause_X10_fails rfl rfl rfl (by decide +kernel) ⟨Nat.le_of_ble_eq_true rfl, Nat.le_of_ble_eq_true rfl⟩) hE hS hA hP hD [0, 1, 2, 3, 4, 5, 6, 7, 8, 9, 10, 11, 12, 13, 14, 15, 16, 17, 18, 19, 20, 21, 22, 23, 24, 25, 26, 27, 28, 29, 30, 31, 32, 33, 34, 35, 36, 37, 38, 39, 40, 41, 42, 43, 44, 45] [] rfl rfl (by decide) (by decide) (by decide) [0, 1, 2, 3, 4, 5, 6, 7, 8, 9, 10, 11, 12, 13, 14, 15, 16, 17, 18, 19, 20, 21, 22, 23, 24, 25, 26, 27, 28, 29, 30, 31, 32, 33, 34, 35, 36, 37, 38, 39, 40, 41, 42, 43, 44, 45] (by decide) (fun u => rfl) rfl rfl rfl rfl hl.1 rfl (Nat.le_of_ble_eq_true rfl) dX10_takeClause_99 ⟨Nat.zero_le _, Nat.zero_le _⟩ (fun r99 u99 H locs h99 hP hD hS => ?_)
            generalize u99 = o99_vm at hP hD h99
            try dsimp only at h99
            have hf99 := h99.2
            replace h99 := h99.1
            have hFn99 := h99.2
            replace h99 := h99.1
            replace hP : va_P (eD E) vwCl (mdL E am o99_vm) H := hP
            replace hD : va_D A (mdL E am o99_vm) := hD
            have hFz : fr lRd vm o99_vm := by first | exact hFz | exact hFz.tr hFn99 (by decide) | (rw [← hv99]; repeat' (first | exact hFz | refine fr.up ?_ (by decide) | refine fr.up3 ?_ (by decide)))
            have hr99 : r99.toInt = 1 := by rw [h99.1]; decide
            have hq99 : (o99_vm 34 0).toInt = (o1_vm 34 0).toInt := by rw [h99.2.2]
            have hw99 : (o99_vm 33 0).toInt = (o1_vm 34 0).toInt := by rw [hf99]; rfl
            subst hQ
            exact W.iret (v := r99) hx hb hr (fun t ht hW => ⟨⟨r99, (o99_vm), rfl, (show ((MdI o99_vm ∧ (0 ≤ r99.toInt ∧ r99.toInt ≤ 4) ∧ (vm 34 0).toInt ≤ (o99_vm 34 0).toInt ∧ (o99_vm 34 0).toInt ≤ 251 ∧ (r99.toInt = 0 → atI o99_vm ∧ RdM o99_vm ∧ (vm 34 0).toInt < (o99_vm 34 0).toInt)) ∧ fr lRd vm o99_vm) ∧ ((skp (vm 31) (vm 32 0).toInt (vm 34 0).toInt < (vm 32 0).toInt → MF (clauseF (vm 31) (vm 32 0).toInt S (skp (vm 31) (vm 32 0).toInt (vm 34 0).toInt)) (vm 33 0).toInt r99.toInt (o99_vm 33 0).toInt (fun y => (o99_vm 34 0).toInt = y.1 ∧ SM y.2 o99_vm)) ∧ (r99.toInt = 0 → o99_vm 31 = vm 31 ∧ o99_vm 32 = vm 32)) from ⟨⟨⟨hMI.sn h99.2.1, by omega, by omega, by omega, fun q => absurd q (by omega)⟩, hFz⟩, ⟨fun hn => MF.no (by rw [← hp1]; exact cl_no (by omega)) hr99 hw99, fun q => absurd q (by omega)⟩⟩), by rw [ht]; exact hP, hD⟩, hS.F ht⟩) hS.2.2 dX10_takeClause_102
      · have c28_ := i_eq c28
        refine lv_iconst (v := 2) hx hb dX10_takeClause_31 (by decide) ?_
        refine lv_goto (tgt := 77) hx hb dX10_takeClause_32 (by decide) ?_
        refine lv_istore_n (lv' := [(2, .int 2), (1, .int r1), (0, .ref (am 0))]) hx hb dX10_takeClause_77 rfl hl (by decide) rfl (fun ls hl => ?_)
        refine lv_iload_n hx hb dX10_takeClause_78 rfl (lv_at hl 0 rfl) ?_
        refine lv_if_lt (tgt := 93) hx hb dX10_takeClause_79 (by decide) (fun q => absurd q (by decide)) (fun _ => ?_)
        refine lv_iload_n hx hb dX10_takeClause_82 rfl (lv_at hl 0 rfl) ?_
        refine lv_if_le (tgt := 103) hx hb dX10_takeClause_83 (by decide) (fun q => absurd q (by decide)) (fun _ => ?_)
        refine lv_aload_n hx hb dX10_takeClause_86 rfl (lv_at hl 2 rfl) ?_
        refine va_get (D := eD E) (ci := 10) (v := .int (o1_vm 37 0)) (C := RX10) (T := TX10) (N := 79) hx hb hts in_X10 hown hK hP 0 rfl rfl 37 (by decide) lk1 (fun _ h9 => h9) rfl dX10_takeClause_87 ?_
        refine lv_if_ne (tgt := 103) hx hb dX10_takeClause_90 (by decide) (fun c90 => ?_) (fun c90 => ?_)
        · have c90_ := i_ne c90
          refine lv_iload_n hx hb dX10_takeClause_103 rfl (lv_at hl 0 rfl) ?_
          refine lv_if_ne (tgt := 122) hx hb dX10_takeClause_104 (by decide) (fun _ => ?_) (fun q => absurd q (by decide))
          refine lv_iload_n hx hb dX10_takeClause_122 rfl (lv_at hl 0 rfl) ?_
          refine lv_iconst (v := 1) hx hb dX10_takeClause_123 (by decide) ?_
          refine lv_icmp_ne (tgt := 144) hx hb dX10_takeClause_124 (by decide) (fun _ => ?_) (fun q => absurd q (by decide))
          refine lv_iload_n hx hb dX10_takeClause_144 rfl (lv_at hl 0 rfl) ?_
          refine lv_iconst (v := 2) hx hb dX10_takeClause_145 (by decide) ?_
          refine lv_icmp_ne (tgt := 165) hx hb dX10_takeClause_146 (by decide) (fun q => absurd q (by decide)) (fun _ => ?_)
          refine lv_aload_n hx hb dX10_takeClause_149 rfl (lv_at hl 2 rfl) ?_
          refine va_get (D := eD E) (ci := 10) (v := .int (o1_vm 43 0)) (C := RX10) (T := TX10) (N := 79) hx hb hts in_X10 hown hK hP 0 rfl rfl 43 (by decide) lk6 (fun _ h9 => h9) rfl dX10_takeClause_150 ?_
          refine lv_iconst (v := 3) hx hb dX10_takeClause_153 (by decide) ?_
          refine lv_icmp_ne (tgt := 161) hx hb dX10_takeClause_154 (by decide) (fun c154 => ?_) (fun c154 => ?_)
          · have c154_ := i_ne c154
            refine lv_iconst (v := 0) hx hb dX10_takeClause_161 (by decide) ?_
            refine lv_goto (tgt := 184) hx hb dX10_takeClause_162 (by decide) ?_
            refine lv_istore_n (lv' := [(3, .int 0), (2, .int 2), (1, .int r1), (0, .ref (am 0))]) hx hb dX10_takeClause_184 rfl hl (by decide) rfl (fun ls hl => ?_)
            refine lv_iload_n hx hb dX10_takeClause_185 rfl (lv_at hl 0 rfl) ?_
            refine lv_if_ne (tgt := 230) hx hb dX10_takeClause_186 (by decide) (fun q => absurd q (by decide)) (fun _ => ?_)
            refine lv_iload_n hx hb dX10_takeClause_189 rfl (lv_at hl 1 rfl) ?_
            refine lv_iconst (v := 4) hx hb dX10_takeClause_190 (by decide) ?_
            refine lv_icmp_ne (tgt := 203) hx hb dX10_takeClause_191 (by decide) (fun _ => ?_) (fun q => absurd q (by decide))
            refine lv_iload_n hx hb dX10_takeClause_203 rfl (lv_at hl 1 rfl) ?_
            refine lv_iconst (v := 5) hx hb dX10_takeClause_204 (by decide) ?_
            refine lv_icmp_ne (tgt := 216) hx hb dX10_takeClause_205 (by decide) (fun _ => ?_) (fun q => absurd q (by decide))
            refine lv_iload_n hx hb dX10_takeClause_216 rfl (lv_at hl 1 rfl) ?_
            refine lv_bipush (v := 6) hx hb dX10_takeClause_217 (by decide) ?_
            refine lv_icmp_ne (tgt := 240) hx hb dX10_takeClause_219 (by decide) (fun _ => ?_) (fun q => absurd q (by decide))
            refine lv_aload_n hx hb dX10_takeClause_240 rfl (lv_at hl 3 rfl) ?_
            refine lv_dup hx hb dX10_takeClause_241 rfl ?_
            refine va_get (D := eD E) (ci := 10) (v := .int (o1_vm 34 0)) (C := RX10) (T := TX10) (N := 79) hx hb hts in_X10 hown hK hP 0 rfl rfl 34 (by decide) lk0 (fun _ h9 => h9) rfl dX10_takeClause_242 ?_
            refine lv_iconst (v := 1) hx hb dX10_takeClause_245 (by decide) ?_
            have sv246_o1_vm340 : 0 ≤ (o1_vm 34 0).toInt ∧ (o1_vm 34 0).toInt ≤ 249 := by omega
            refine lv_iadd hx hb dX10_takeClause_246 ?_
            refine lv_topi (fun x246 e246 => ?_)
            have t246 := i_add e246 (by omega)
            refine va_put (D := eD E) (ci := 10) (v := .int x246) (ty := .int) (C := RX10) (T := TX10) (N := 79) hx hb hts in_X10 tyX10 tyX10_ok nmX10 hown hK hP hD hS 0 rfl rfl 34 (by decide) lk0 (fun _ h9 => h9) rfl (by decide +kernel) rfl rfl (Nat.le_of_ble_eq_true rfl) dX10_takeClause_247 (fun H locs hP hD hS => ?_)
            replace hP : va_P (eD E) vwCl (mdL E am (up2 o1_vm 34 0 x246)) H := hP
            replace hD : va_D A (mdL E am (up2 o1_vm 34 0 x246)) := hD
            generalize hv247 : up2 o1_vm 34 0 x246 = vm_247 at hP hD
            have hFz : fr lRd vm vm_247 := by first | exact hFz | (rw [← hv247]; exact hFz.up (by decide))
            have hMI : MdI vm_247 := by rw [← hv247]; exact hMI
            have hRd : RdM vm_247 := by rw [← hv247]; exact hRd
            have hat : atI vm_247 := by rw [← hv247]; exact (show 0 ≤ x246.toInt ∧ x246.toInt ≤ (o1_vm 32 0).toInt by omega)
            have hq247_34 : (vm_247 34 0).toInt = x246.toInt := by rw [← hv247]; rfl
            have hq247_37 : (vm_247 37 0).toInt = (o1_vm 37 0).toInt := by rw [← hv247]; rfl
            have hq247_38 : (vm_247 38 0).toInt = (o1_vm 38 0).toInt := by rw [← hv247]; rfl
            have hq247_41 : (vm_247 41 0).toInt = (o1_vm 41 0).toInt := by rw [← hv247]; rfl
            have hq247_43 : (vm_247 43 0).toInt = (o1_vm 43 0).toInt := by rw [← hv247]; rfl
            have hq247_48 : (vm_247 48 0).toInt = (o1_vm 48 0).toInt := by rw [← hv247]; rfl
            have hq247_51 : (vm_247 51 0).toInt = (o1_vm 51 0).toInt := by rw [← hv247]; rfl
            have hq247_55 : (vm_247 55 0).toInt = (o1_vm 55 0).toInt := by rw [← hv247]; rfl
            have hq247_58 : (vm_247 58 0).toInt = (o1_vm 58 0).toInt := by rw [← hv247]; rfl
            have hSM : SM S vm_247 := by rw [← hv247]; exact hSM1.sc (sc.rf.up (by omega))
            have hT247 : vm_247 31 = vm 31 ∧ vm_247 32 = vm 32 ∧ vm_247 33 = vm 33 := by rw [← hv247]; exact ⟨h1.1 31 (by decide) (by decide) (by decide) (by decide), h1.1 32 (by decide) (by decide) (by decide) (by decide), hfr1.1⟩
            have hp247 : (vm_247 34 0).toInt = (o1_vm 34 0).toInt + 1 := by omega
            refine lv_iload_n hx hb dX10_takeClause_250 rfl (lv_at hl 1 rfl) ?_
            refine lv_if_ne (tgt := 261) hx hb dX10_takeClause_251 (by decide) (fun _ => ?_) (fun q => absurd q (by decide))
            refine lv_iload_n hx hb dX10_takeClause_261 rfl (lv_at hl 1 rfl) ?_
            refine lv_iconst (v := 1) hx hb dX10_takeClause_262 (by decide) ?_
            refine lv_icmp_ne (tgt := 273) hx hb dX10_takeClause_263 (by decide) (fun _ => ?_) (fun q => absurd q (by decide))
            refine lv_iload_n hx hb dX10_takeClause_273 rfl (lv_at hl 1 rfl) ?_
            refine lv_iconst (v := 2) hx hb dX10_takeClause_274 (by decide) ?_
            refine lv_icmp_ne (tgt := 285) hx hb dX10_takeClause_275 (by decide) (fun q => absurd q (by decide)) (fun _ => ?_)
            refine lv_aload_n hx hb dX10_takeClause_278 rfl (lv_at hl 3 rfl) ?_
            refine mt_Vi (w1 := fun (u : Vf) => mdL E am u) (wf := fun (u : Vf) => mdL E am u) (wr := []) (As := []) (rest := []) (C := RX10) (ci := 10) ⟨hx, hb, hml, hown, hts⟩ (c_X10_takeMoon l E H.size am vm_247 S hMI hat hRd (by omega) (by omega) hSM) (cwV 0 hts gX10_takeClause_X10_takeMoon rfl rfl rfl (by decide +kernel) ⟨Nat.le_of_ble_eq_true rfl, Nat.le_of_ble_eq_true rfl⟩) hE hS hA hP hD [0, 1, 2, 3, 4, 5, 6, 7, 8, 9, 10, 11, 12, 13, 14, 15, 16, 17, 18, 19, 20, 21, 22, 23, 24, 25, 26, 27, 28, 29, 30, 31, 32, 33, 34, 35, 36, 37, 38, 39, 40, 41, 42, 43, 44, 45] [] rfl rfl (by decide) (by decide) (by decide) [0, 1, 2, 3, 4, 5, 6, 7, 8, 9, 10, 11, 12, 13, 14, 15, 16, 17, 18, 19, 20, 21, 22, 23, 24, 25, 26, 27, 28, 29, 30, 31, 32, 33, 34, 35, 36, 37, 38, 39, 40, 41, 42, 43, 44, 45] (by decide) (fun u => rfl) rfl rfl rfl rfl hl.1 rfl (Nat.le_of_ble_eq_true rfl) dX10_takeClause_279 ⟨Nat.zero_le _, Nat.zero_le _⟩ (fun r279 u279 H locs h279 hP hD hS => ?_)
            generalize u279 = o279_vm at hP hD h279
            try dsimp only at h279
            have hf279 := h279.2
            replace h279 := h279.1
            have hFn279 := h279.2
            replace h279 := h279.1
            replace hP : va_P (eD E) vwCl (mdL E am o279_vm) H := hP
            replace hD : va_D A (mdL E am o279_vm) := hD
            have hFz : fr lRd vm o279_vm := by first | exact hFz | exact hFz.tr hFn279 (by decide) | (rw [← hv279]; repeat' (first | exact hFz | refine fr.up ?_ (by decide) | refine fr.up3 ?_ (by decide)))
            have hMI := h279.1
            have hat := h279.2.1
            have hRdx := h279.2.2.2.2
            obtain ⟨hat1, hat2⟩ := id hat
            have hT := hMI.1.2.2.2.2.2.2.1
            have hm279 := h279.2.2.1
            have hz279 := h279.2.2.2.1
            have hCL : CK (clauseF (vm 31) (vm 32 0).toInt S (o1_vm 34 0).toInt) S (vm 31) (vm 32 0).toInt (vm 33 0).toInt r279.toInt (o279_vm 33 0).toInt (o279_vm 34 0).toInt o279_vm := by rw [cl_m (by omega) (by omega)]; have q := hf279 (o1_vm 34 0).toInt; rw [hT247.1, hT247.2.1, hT247.2.2, hp247] at q; exact TK.ck (g := fun x : ((Unit × (Int × Int × Int)) × (Int × Int × Int)) × (Nat × Int × (Nat → Int)) => moonS S x.1.1.2.1 x.1.2.1 x.2) q (fun _ => ⟨rfl, rfl⟩)
            have hR := r279
            have hTx : r279.toInt = 0 → o279_vm 31 = vm 31 ∧ o279_vm 32 = vm 32 := fun q => by have z := hCL.txt okF.clause q hSM; rw [hT247.1, hT247.2.1] at z; exact z
            clear hf279
            refine lv_goto (tgt := 325) hx hb dX10_takeClause_282 (by decide) ?_
            refine lv_istore (lv' := [(4, .int r279), (3, .int 0), (2, .int 2), (1, .int r1), (0, .ref (am 0))]) hx hb dX10_takeClause_325 hl (by decide) rfl (fun ls hl => ?_)
            refine lv_iload hx hb dX10_takeClause_327 (lv_at hl 0 rfl) ?_
            refine lv_if_ne (tgt := 351) hx hb dX10_takeClause_329 (by decide) (fun c329 => ?_) (fun c329 => ?_)
            · have c329_ := i_ne c329
              have hnz : r279.toInt ≠ 0 := by omega
              refine lv_aload_n hx hb dX10_takeClause_351 rfl (lv_at hl 4 rfl) ?_
              refine lv_dup hx hb dX10_takeClause_352 rfl ?_
              refine va_get (D := eD E) (ci := 10) (v := .int (o279_vm 34 0)) (C := RX10) (T := TX10) (N := 79) hx hb hts in_X10 hown hK hP 0 rfl rfl 34 (by decide) lk0 (fun _ h9 => h9) rfl dX10_takeClause_353 ?_
              refine lv_iconst (v := 1) hx hb dX10_takeClause_356 (by decide) ?_
              refine lv_iadd hx hb dX10_takeClause_357 ?_
              refine lv_topi (fun x357 e357 => ?_)
              have t357 := i_add e357 (by omega)
              refine va_put (D := eD E) (ci := 10) (v := .int x357) (ty := .int) (C := RX10) (T := TX10) (N := 79) hx hb hts in_X10 tyX10 tyX10_ok nmX10 hown hK hP hD hS 0 rfl rfl 34 (by decide) lk0 (fun _ h9 => h9) rfl (by decide +kernel) rfl rfl (Nat.le_of_ble_eq_true rfl) dX10_takeClause_358 (fun H locs hP hD hS => ?_)
              replace hP : va_P (eD E) vwCl (mdL E am (up2 o279_vm 34 0 x357)) H := hP
              replace hD : va_D A (mdL E am (up2 o279_vm 34 0 x357)) := hD
              generalize hv358 : up2 o279_vm 34 0 x357 = vm_358 at hP hD
              have hFz : fr lRd vm vm_358 := by first | exact hFz | (rw [← hv358]; exact hFz.up (by decide))
              refine lv_iload hx hb dX10_takeClause_361 (lv_at hl 0 rfl) ?_
              subst hQ
              exact W.iret (v := r279) hx hb hr (fun t ht hW => ⟨⟨r279, (vm_358), rfl, (show ((MdI vm_358 ∧ (0 ≤ r279.toInt ∧ r279.toInt ≤ 4) ∧ (vm 34 0).toInt ≤ (vm_358 34 0).toInt ∧ (vm_358 34 0).toInt ≤ 251 ∧ (r279.toInt = 0 → atI vm_358 ∧ RdM vm_358 ∧ (vm 34 0).toInt < (vm_358 34 0).toInt)) ∧ fr lRd vm vm_358) ∧ ((skp (vm 31) (vm 32 0).toInt (vm 34 0).toInt < (vm 32 0).toInt → MF (clauseF (vm 31) (vm 32 0).toInt S (skp (vm 31) (vm 32 0).toInt (vm 34 0).toInt)) (vm 33 0).toInt r279.toInt (vm_358 33 0).toInt (fun y => (vm_358 34 0).toInt = y.1 ∧ SM y.2 vm_358)) ∧ (r279.toInt = 0 → vm_358 31 = vm 31 ∧ vm_358 32 = vm 32)) from ⟨⟨⟨(by rw [← hv358]; exact hMI), by omega, (by rw [← hv358]; show (vm 34 0).toInt ≤ x357.toInt; omega), (by rw [← hv358]; show x357.toInt ≤ 251; omega), (by first | exact fun q => absurd q (by omega) | exact fun q => ⟨(by rw [← hv358]; exact (show 0 ≤ x357.toInt ∧ x357.toInt ≤ (o333_vm 32 0).toInt by omega)), (by rw [← hv358]; exact hRd3), (by rw [← hv358]; show (vm 34 0).toInt < x357.toInt; omega)⟩)⟩, hFz⟩, (by first | exact ⟨fun hn => by rw [← hp1, ← hv358]; exact hCL.ok okF.clause hz0 hp333 hsg hz0 (show (o333_vm 33 0).toInt = _ by rw [hfr3.1]) (show x357.toInt = _ by omega) (hs333.sc.up (by omega)), fun q => by rw [← hv358]; exact ⟨(h333.1 31 (by decide) (by decide) (by decide) (by decide)).trans (hTx hz0).1, (h333.1 32 (by decide) (by decide) (by decide) (by decide)).trans (hTx hz0).2⟩⟩ | exact ⟨fun hn => by rw [← hp1, ← hv358]; exact hCL.bad hnz, fun q => absurd q hnz⟩)⟩), by rw [ht]; exact hP, hD⟩, hS.F ht⟩) hS.2.2 dX10_takeClause_363
            · have c329_ := i_eq c329
              refine lv_aload_n hx hb dX10_takeClause_332 rfl (lv_at hl 4 rfl) ?_
              refine mt_Vi (w1 := fun (u : Vf) => mdL E am u) (wf := fun (u : Vf) => mdL E am u) (wr := []) (As := []) (rest := []) (C := RX10) (ci := 10) ⟨hx, hb, hml, hown, hts⟩ (c_X10_here l E H.size am o279_vm hMI hat) (cwV 0 hts gX10_takeClause_X10_here rfl rfl rfl (by decide +kernel) ⟨Nat.le_of_ble_eq_true rfl, Nat.le_of_ble_eq_true rfl⟩) hE hS hA hP hD [0, 1, 2, 3, 4, 5, 6, 7, 8, 9, 10, 11, 12, 13, 14, 15, 16, 17, 18, 19, 20, 21, 22, 23, 24, 25, 26, 27, 28, 29, 30, 31, 32, 33, 34, 35, 36, 37, 38, 39, 40, 41, 42, 43, 44, 45] [] rfl rfl (by decide) (by decide) (by decide) [0, 1, 2, 3, 4, 5, 6, 7, 8, 9, 10, 11, 12, 13, 14, 15, 16, 17, 18, 19, 20, 21, 22, 23, 24, 25, 26, 27, 28, 29, 30, 31, 32, 33, 34, 35, 36, 37, 38, 39, 40, 41, 42, 43, 44, 45] (by decide) (fun u => rfl) rfl rfl rfl rfl hl.1 rfl (Nat.le_of_ble_eq_true rfl) dX10_takeClause_333 ⟨Nat.zero_le _, Nat.zero_le _⟩ (fun r333 u333 H locs h333 hP hD hS => ?_)
              generalize u333 = o333_vm at hP hD h333
              try dsimp only at h333
              have hf333 := h333.2
              replace h333 := h333.1
              have hFn333 := h333.2
              replace h333 := h333.1
              replace hP : va_P (eD E) vwCl (mdL E am o333_vm) H := hP
              replace hD : va_D A (mdL E am o333_vm) := hD
              have hFz : fr lRd vm o333_vm := by first | exact hFz | exact hFz.tr hFn333 (by decide) | (rw [← hv333]; repeat' (first | exact hFz | refine fr.up ?_ (by decide) | refine fr.up3 ?_ (by decide)))
              have hMI : MdI o333_vm := hMI.sn h333.1
              have hRd3 : RdM o333_vm := (hRdx (by omega)).sn h333.1
              have hat := h333.2.1
              obtain ⟨hat1, hat2⟩ := id hat
              have hq333_32 : (o333_vm 32 0).toInt = (o279_vm 32 0).toInt := by rw [h333.1 32 (by decide) (by decide) (by decide) (by decide)]
              have hm333 := h333.2.2
              have hp333 := hf333.1
              rw [(hTx (by omega)).1, (hTx (by omega)).2] at hp333
              have hg333 := hf333.2.2
              rw [(hTx (by omega)).1, (hTx (by omega)).2] at hg333
              have hfr3 := hf333.2.1
              have hs333 : sn o279_vm o333_vm := h333.1
              refine lv_bipush (v := 59) hx hb dX10_takeClause_336 (by decide) ?_
              refine lv_icmp_eq (tgt := 351) hx hb dX10_takeClause_338 (by decide) (fun c338 => ?_) (fun c338 => ?_)
              · have c338_ := i_eq c338
                have hz0 : r279.toInt = 0 := by omega
                have hsg : (o333_vm 34 0).toInt < (vm 32 0).toInt ∧ tc (vm 31) (o333_vm 34 0).toInt = 59 := by omega
                refine lv_aload_n hx hb dX10_takeClause_351 rfl (lv_at hl 4 rfl) ?_
                refine lv_dup hx hb dX10_takeClause_352 rfl ?_
                refine va_get (D := eD E) (ci := 10) (v := .int (o333_vm 34 0)) (C := RX10) (T := TX10) (N := 79) hx hb hts in_X10 hown hK hP 0 rfl rfl 34 (by decide) lk0 (fun _ h9 => h9) rfl dX10_takeClause_353 ?_
                refine lv_iconst (v := 1) hx hb dX10_takeClause_356 (by decide) ?_
                refine lv_iadd hx hb dX10_takeClause_357 ?_
                refine lv_topi (fun x357 e357 => ?_)
                have t357 := i_add e357 (by omega)
                refine va_put (D := eD E) (ci := 10) (v := .int x357) (ty := .int) (C := RX10) (T := TX10) (N := 79) hx hb hts in_X10 tyX10 tyX10_ok nmX10 hown hK hP hD hS 0 rfl rfl 34 (by decide) lk0 (fun _ h9 => h9) rfl (by decide +kernel) rfl rfl (Nat.le_of_ble_eq_true rfl) dX10_takeClause_358 (fun H locs hP hD hS => ?_)
                replace hP : va_P (eD E) vwCl (mdL E am (up2 o333_vm 34 0 x357)) H := hP
                replace hD : va_D A (mdL E am (up2 o333_vm 34 0 x357)) := hD
                generalize hv358 : up2 o333_vm 34 0 x357 = vm_358 at hP hD
                have hFz : fr lRd vm vm_358 := by first | exact hFz | (rw [← hv358]; exact hFz.up (by decide))
                refine lv_iload hx hb dX10_takeClause_361 (lv_at hl 0 rfl) ?_
                subst hQ
                exact W.iret (v := r279) hx hb hr (fun t ht hW => ⟨⟨r279, (vm_358), rfl, (show ((MdI vm_358 ∧ (0 ≤ r279.toInt ∧ r279.toInt ≤ 4) ∧ (vm 34 0).toInt ≤ (vm_358 34 0).toInt ∧ (vm_358 34 0).toInt ≤ 251 ∧ (r279.toInt = 0 → atI vm_358 ∧ RdM vm_358 ∧ (vm 34 0).toInt < (vm_358 34 0).toInt)) ∧ fr lRd vm vm_358) ∧ ((skp (vm 31) (vm 32 0).toInt (vm 34 0).toInt < (vm 32 0).toInt → MF (clauseF (vm 31) (vm 32 0).toInt S (skp (vm 31) (vm 32 0).toInt (vm 34 0).toInt)) (vm 33 0).toInt r279.toInt (vm_358 33 0).toInt (fun y => (vm_358 34 0).toInt = y.1 ∧ SM y.2 vm_358)) ∧ (r279.toInt = 0 → vm_358 31 = vm 31 ∧ vm_358 32 = vm 32)) from ⟨⟨⟨(by rw [← hv358]; exact hMI), by omega, (by rw [← hv358]; show (vm 34 0).toInt ≤ x357.toInt; omega), (by rw [← hv358]; show x357.toInt ≤ 251; omega), (by first | exact fun q => absurd q (by omega) | exact fun q => ⟨(by rw [← hv358]; exact (show 0 ≤ x357.toInt ∧ x357.toInt ≤ (o333_vm 32 0).toInt by omega)), (by rw [← hv358]; exact hRd3), (by rw [← hv358]; show (vm 34 0).toInt < x357.toInt; omega)⟩)⟩, hFz⟩, (by first | exact ⟨fun hn => by rw [← hp1, ← hv358]; exact hCL.ok okF.clause hz0 hp333 hsg hz0 (show (o333_vm 33 0).toInt = _ by rw [hfr3.1]) (show x357.toInt = _ by omega) (hs333.sc.up (by omega)), fun q => by rw [← hv358]; exact ⟨(h333.1 31 (by decide) (by decide) (by decide) (by decide)).trans (hTx hz0).1, (h333.1 32 (by decide) (by decide) (by decide) (by decide)).trans (hTx hz0).2⟩⟩ | exact ⟨fun hn => by rw [← hp1, ← hv358]; exact hCL.bad hnz, fun q => absurd q hnz⟩)⟩), by rw [ht]; exact hP, hD⟩, hS.F ht⟩) hS.2.2 dX10_takeClause_363
              · have c338_ := i_ne c338
                refine lv_aload_n hx hb dX10_takeClause_341 rfl (lv_at hl 4 rfl) ?_
                refine lv_iconst (v := 1) hx hb dX10_takeClause_342 (by decide) ?_
                refine lv_aload_n hx hb dX10_takeClause_343 rfl (lv_at hl 4 rfl) ?_
                refine va_get (D := eD E) (ci := 10) (v := .int (o333_vm 34 0)) (C := RX10) (T := TX10) (N := 79) hx hb hts in_X10 hown hK hP 0 rfl rfl 34 (by decide) lk0 (fun _ h9 => h9) rfl dX10_takeClause_344 ?_
                refine mt_Vi (w1 := fun (u : Vf) => mdL E am u) (wf := fun (u : Vf) => mdL E am u) (wr := []) (As := [.int 1, .int (o333_vm 34 0)]) (rest := []) (C := RX10) (ci := 10) ⟨hx, hb, hml, hown, hts⟩ (c_X10_fails l E H.size am o333_vm 1 (o333_vm 34 0)) (cwV 2 hts gX10_takeClause_X10_fails rfl rfl rfl (by decide +kernel) ⟨Nat.le_of_ble_eq_true rfl, Nat.le_of_ble_eq_true rfl⟩) hE hS hA hP hD [0, 1, 2, 3, 4, 5, 6, 7, 8, 9, 10, 11, 12, 13, 14, 15, 16, 17, 18, 19, 20, 21, 22, 23, 24, 25, 26, 27, 28, 29, 30, 31, 32, 33, 34, 35, 36, 37, 38, 39, 40, 41, 42, 43, 44, 45] [] rfl rfl (by decide) (by decide) (by decide) [0, 1, 2, 3, 4, 5, 6, 7, 8, 9, 10, 11, 12, 13, 14, 15, 16, 17, 18, 19, 20, 21, 22, 23, 24, 25, 26, 27, 28, 29, 30, 31, 32, 33, 34, 35, 36, 37, 38, 39, 40, 41, 42, 43, 44, 45] (by decide) (fun u => rfl) rfl rfl rfl rfl hl.1 rfl (Nat.le_of_ble_eq_true rfl) dX10_takeClause_347 ⟨Nat.zero_le _, Nat.zero_le _⟩ (fun r347 u347 H locs h347 hP hD hS => ?_)
                generalize u347 = o347_vm at hP hD h347
                try dsimp only at h347
                have hf347 := h347.2
                replace h347 := h347.1
                have hFn347 := h347.2
                replace h347 := h347.1
                replace hP : va_P (eD E) vwCl (mdL E am o347_vm) H := hP
                replace hD : va_D A (mdL E am o347_vm) := hD
                have hFz : fr lRd vm o347_vm := by first | exact hFz | exact hFz.tr hFn347 (by decide) | (rw [← hv347]; repeat' (first | exact hFz | refine fr.up ?_ (by decide) | refine fr.up3 ?_ (by decide)))
                have hr347 : r347.toInt = 1 := by rw [h347.1]; decide
                have hq347 : (o347_vm 34 0).toInt = (o333_vm 34 0).toInt := by rw [h347.2.2]
                have hw347 : (o347_vm 33 0).toInt = (o333_vm 34 0).toInt := by rw [hf347]; rfl
                subst hQ
                exact W.iret (v := r347) hx hb hr (fun t ht hW => ⟨⟨r347, (o347_vm), rfl, (show ((MdI o347_vm ∧ (0 ≤ r347.toInt ∧ r347.toInt ≤ 4) ∧ (vm 34 0).toInt ≤ (o347_vm 34 0).toInt ∧ (o347_vm 34 0).toInt ≤ 251 ∧ (r347.toInt = 0 → atI o347_vm ∧ RdM o347_vm ∧ (vm 34 0).toInt < (o347_vm 34 0).toInt)) ∧ fr lRd vm o347_vm) ∧ ((skp (vm 31) (vm 32 0).toInt (vm 34 0).toInt < (vm 32 0).toInt → MF (clauseF (vm 31) (vm 32 0).toInt S (skp (vm 31) (vm 32 0).toInt (vm 34 0).toInt)) (vm 33 0).toInt r347.toInt (o347_vm 33 0).toInt (fun y => (o347_vm 34 0).toInt = y.1 ∧ SM y.2 o347_vm)) ∧ (r347.toInt = 0 → o347_vm 31 = vm 31 ∧ o347_vm 32 = vm 32)) from ⟨⟨⟨hMI.sn h347.2.1, by omega, by omega, by omega, fun q => absurd q (by omega)⟩, hFz⟩, ⟨fun hn => by rw [← hp1]; exact hCL.no okF.clause (by omega) hp333 (by omega) hr347 hw347, fun q => absurd q (by omega)⟩⟩), by rw [ht]; exact hP, hD⟩, hS.F ht⟩) hS.2.2 dX10_takeClause_350
          · have c154_ := i_eq c154
            have hcl3 : clauseF (vm 31) (vm 32 0).toInt S (o1_vm 34 0).toInt = .inl (3, (o1_vm 34 0).toInt) := cl3_m (by omega) (by omega) (by omega)
            refine lv_iconst (v := 1) hx hb dX10_takeClause_157 (by decide) ?_
            refine lv_goto (tgt := 184) hx hb dX10_takeClause_158 (by decide) ?_
            refine lv_istore_n (lv' := [(3, .int 1), (2, .int 2), (1, .int r1), (0, .ref (am 0))]) hx hb dX10_takeClause_184 rfl hl (by decide) rfl (fun ls hl => ?_)
            refine lv_iload_n hx hb dX10_takeClause_185 rfl (lv_at hl 0 rfl) ?_
            refine lv_if_ne (tgt := 230) hx hb dX10_takeClause_186 (by decide) (fun _ => ?_) (fun q => absurd q (by decide))
            refine lv_aload_n hx hb dX10_takeClause_230 rfl (lv_at hl 3 rfl) ?_
            refine lv_iconst (v := 3) hx hb dX10_takeClause_231 (by decide) ?_
            refine lv_aload_n hx hb dX10_takeClause_232 rfl (lv_at hl 3 rfl) ?_
            refine va_get (D := eD E) (ci := 10) (v := .int (o1_vm 34 0)) (C := RX10) (T := TX10) (N := 79) hx hb hts in_X10 hown hK hP 0 rfl rfl 34 (by decide) lk0 (fun _ h9 => h9) rfl dX10_takeClause_233 ?_
            refine mt_Vi (w1 := fun (u : Vf) => mdL E am u) (wf := fun (u : Vf) => mdL E am u) (wr := []) (As := [.int 3, .int (o1_vm 34 0)]) (rest := []) (C := RX10) (ci := 10) ⟨hx, hb, hml, hown, hts⟩ (c_X10_fails l E H.size am o1_vm 3 (o1_vm 34 0)) (cwV 2 hts gX10_takeClause_X10_fails rfl rfl rfl (by decide +kernel) ⟨Nat.le_of_ble_eq_true rfl, Nat.le_of_ble_eq_true rfl⟩) hE hS hA hP hD [0, 1, 2, 3, 4, 5, 6, 7, 8, 9, 10, 11, 12, 13, 14, 15, 16, 17, 18, 19, 20, 21, 22, 23, 24, 25, 26, 27, 28, 29, 30, 31, 32, 33, 34, 35, 36, 37, 38, 39, 40, 41, 42, 43, 44, 45] [] rfl rfl (by decide) (by decide) (by decide) [0, 1, 2, 3, 4, 5, 6, 7, 8, 9, 10, 11, 12, 13, 14, 15, 16, 17, 18, 19, 20, 21, 22, 23, 24, 25, 26, 27, 28, 29, 30, 31, 32, 33, 34, 35, 36, 37, 38, 39, 40, 41, 42, 43, 44, 45] (by decide) (fun u => rfl) rfl rfl rfl rfl hl.1 rfl (Nat.le_of_ble_eq_true rfl) dX10_takeClause_236 ⟨Nat.zero_le _, Nat.zero_le _⟩ (fun r236 u236 H locs h236 hP hD hS => ?_)
            generalize u236 = o236_vm at hP hD h236
            try dsimp only at h236
            have hf236 := h236.2
            replace h236 := h236.1
            have hFn236 := h236.2
            replace h236 := h236.1
            replace hP : va_P (eD E) vwCl (mdL E am o236_vm) H := hP
            replace hD : va_D A (mdL E am o236_vm) := hD
            have hFz : fr lRd vm o236_vm := by first | exact hFz | exact hFz.tr hFn236 (by decide) | (rw [← hv236]; repeat' (first | exact hFz | refine fr.up ?_ (by decide) | refine fr.up3 ?_ (by decide)))
            have hr236 : r236.toInt = 3 := by rw [h236.1]; decide
            have hq236 : (o236_vm 34 0).toInt = (o1_vm 34 0).toInt := by rw [h236.2.2]
            have hw236 : (o236_vm 33 0).toInt = (o1_vm 34 0).toInt := by rw [hf236]; rfl
            subst hQ
            exact W.iret (v := r236) hx hb hr (fun t ht hW => ⟨⟨r236, (o236_vm), rfl, (show ((MdI o236_vm ∧ (0 ≤ r236.toInt ∧ r236.toInt ≤ 4) ∧ (vm 34 0).toInt ≤ (o236_vm 34 0).toInt ∧ (o236_vm 34 0).toInt ≤ 251 ∧ (r236.toInt = 0 → atI o236_vm ∧ RdM o236_vm ∧ (vm 34 0).toInt < (o236_vm 34 0).toInt)) ∧ fr lRd vm o236_vm) ∧ ((skp (vm 31) (vm 32 0).toInt (vm 34 0).toInt < (vm 32 0).toInt → MF (clauseF (vm 31) (vm 32 0).toInt S (skp (vm 31) (vm 32 0).toInt (vm 34 0).toInt)) (vm 33 0).toInt r236.toInt (o236_vm 33 0).toInt (fun y => (o236_vm 34 0).toInt = y.1 ∧ SM y.2 o236_vm)) ∧ (r236.toInt = 0 → o236_vm 31 = vm 31 ∧ o236_vm 32 = vm 32)) from ⟨⟨⟨hMI.sn h236.2.1, by omega, by omega, by omega, fun q => absurd q (by omega)⟩, hFz⟩, ⟨fun hn => MF.no (by rw [← hp1]; exact hcl3) hr236 hw236, fun q => absurd q (by omega)⟩⟩), by rw [ht]; exact hP, hD⟩, hS.F ht⟩) hS.2.2 dX10_takeClause_239
        · have c90_ := i_eq c90
          refine lv_aload_n hx hb dX10_takeClause_93 rfl (lv_at hl 2 rfl) ?_
          refine lv_iconst (v := 1) hx hb dX10_takeClause_94 (by decide) ?_
          refine lv_aload_n hx hb dX10_takeClause_95 rfl (lv_at hl 2 rfl) ?_
          refine va_get (D := eD E) (ci := 10) (v := .int (o1_vm 34 0)) (C := RX10) (T := TX10) (N := 79) hx hb hts in_X10 hown hK hP 0 rfl rfl 34 (by decide) lk0 (fun _ h9 => h9) rfl dX10_takeClause_96 ?_
          refine mt_Vi (w1 := fun (u : Vf) => mdL E am u) (wf := fun (u : Vf) => mdL E am u) (wr := []) (As := [.int 1, .int (o1_vm 34 0)]) (rest := []) (C := RX10) (ci := 10) ⟨hx, hb, hml, hown, hts⟩ (c_X10_fails l E H.size am o1_vm 1 (o1_vm 34 0)) (cwV 2 hts gX10_takeClause_X10_fails rfl rfl rfl (by decide +kernel) ⟨Nat.le_of_ble_eq_true rfl, Nat.le_of_ble_eq_true rfl⟩) hE hS hA hP hD [0, 1, 2, 3, 4, 5, 6, 7, 8, 9, 10, 11, 12, 13, 14, 15, 16, 17, 18, 19, 20, 21, 22, 23, 24, 25, 26, 27, 28, 29, 30, 31, 32, 33, 34, 35, 36, 37, 38, 39, 40, 41, 42, 43, 44, 45] [] rfl rfl (by decide) (by decide) (by decide) [0, 1, 2, 3, 4, 5, 6, 7, 8, 9, 10, 11, 12, 13, 14, 15, 16, 17, 18, 19, 20, 21, 22, 23, 24, 25, 26, 27, 28, 29, 30, 31, 32, 33, 34, 35, 36, 37, 38, 39, 40, 41, 42, 43, 44, 45] (by decide) (fun u => rfl) rfl rfl rfl rfl hl.1 rfl (Nat.le_of_ble_eq_true rfl) dX10_takeClause_99 ⟨Nat.zero_le _, Nat.zero_le _⟩ (fun r99 u99 H locs h99 hP hD hS => ?_)
          generalize u99 = o99_vm at hP hD h99
          try dsimp only at h99
          have hf99 := h99.2
          replace h99 := h99.1
          have hFn99 := h99.2
          replace h99 := h99.1
          replace hP : va_P (eD E) vwCl (mdL E am o99_vm) H := hP
          replace hD : va_D A (mdL E am o99_vm) := hD
          have hFz : fr lRd vm o99_vm := by first | exact hFz | exact hFz.tr hFn99 (by decide) | (rw [← hv99]; repeat' (first | exact hFz | refine fr.up ?_ (by decide) | refine fr.up3 ?_ (by decide)))
          have hr99 : r99.toInt = 1 := by rw [h99.1]; decide
          have hq99 : (o99_vm 34 0).toInt = (o1_vm 34 0).toInt := by rw [h99.2.2]
          have hw99 : (o99_vm 33 0).toInt = (o1_vm 34 0).toInt := by rw [hf99]; rfl
          subst hQ
          exact W.iret (v := r99) hx hb hr (fun t ht hW => ⟨⟨r99, (o99_vm), rfl, (show ((MdI o99_vm ∧ (0 ≤ r99.toInt ∧ r99.toInt ≤ 4) ∧ (vm 34 0).toInt ≤ (o99_vm 34 0).toInt ∧ (o99_vm 34 0).toInt ≤ 251 ∧ (r99.toInt = 0 → atI o99_vm ∧ RdM o99_vm ∧ (vm 34 0).toInt < (o99_vm 34 0).toInt)) ∧ fr lRd vm o99_vm) ∧ ((skp (vm 31) (vm 32 0).toInt (vm 34 0).toInt < (vm 32 0).toInt → MF (clauseF (vm 31) (vm 32 0).toInt S (skp (vm 31) (vm 32 0).toInt (vm 34 0).toInt)) (vm 33 0).toInt r99.toInt (o99_vm 33 0).toInt (fun y => (o99_vm 34 0).toInt = y.1 ∧ SM y.2 o99_vm)) ∧ (r99.toInt = 0 → o99_vm 31 = vm 31 ∧ o99_vm 32 = vm 32)) from ⟨⟨⟨hMI.sn h99.2.1, by omega, by omega, by omega, fun q => absurd q (by omega)⟩, hFz⟩, ⟨fun hn => MF.no (by rw [← hp1]; exact cl_no (by omega)) hr99 hw99, fun q => absurd q (by omega)⟩⟩), by rw [ht]; exact hP, hD⟩, hS.F ht⟩) hS.2.2 dX10_takeClause_102
    · have c18_ := i_eq c18
      refine lv_iconst (v := 1) hx hb dX10_takeClause_21 (by decide) ?_
      refine lv_goto (tgt := 77) hx hb dX10_takeClause_22 (by decide) ?_
      refine lv_istore_n (lv' := [(2, .int 1), (1, .int r1), (0, .ref (am 0))]) hx hb dX10_takeClause_77 rfl hl (by decide) rfl (fun ls hl => ?_)
      refine lv_iload_n hx hb dX10_takeClause_78 rfl (lv_at hl 0 rfl) ?_
      refine lv_if_lt (tgt := 93) hx hb dX10_takeClause_79 (by decide) (fun q => absurd q (by decide)) (fun _ => ?_)
      refine lv_iload_n hx hb dX10_takeClause_82 rfl (lv_at hl 0 rfl) ?_
      refine lv_if_le (tgt := 103) hx hb dX10_takeClause_83 (by decide) (fun q => absurd q (by decide)) (fun _ => ?_)
      refine lv_aload_n hx hb dX10_takeClause_86 rfl (lv_at hl 2 rfl) ?_
      refine va_get (D := eD E) (ci := 10) (v := .int (o1_vm 37 0)) (C := RX10) (T := TX10) (N := 79) hx hb hts in_X10 hown hK hP 0 rfl rfl 37 (by decide) lk1 (fun _ h9 => h9) rfl dX10_takeClause_87 ?_
      refine lv_if_ne (tgt := 103) hx hb dX10_takeClause_90 (by decide) (fun c90 => ?_) (fun c90 => ?_)
      · have c90_ := i_ne c90
        refine lv_iload_n hx hb dX10_takeClause_103 rfl (lv_at hl 0 rfl) ?_
        refine lv_if_ne (tgt := 122) hx hb dX10_takeClause_104 (by decide) (fun _ => ?_) (fun q => absurd q (by decide))
        refine lv_iload_n hx hb dX10_takeClause_122 rfl (lv_at hl 0 rfl) ?_
        refine lv_iconst (v := 1) hx hb dX10_takeClause_123 (by decide) ?_
        refine lv_icmp_ne (tgt := 144) hx hb dX10_takeClause_124 (by decide) (fun q => absurd q (by decide)) (fun _ => ?_)
        refine lv_aload_n hx hb dX10_takeClause_127 rfl (lv_at hl 2 rfl) ?_
        refine va_get (D := eD E) (ci := 10) (v := .int (o1_vm 41 0)) (C := RX10) (T := TX10) (N := 79) hx hb hts in_X10 hown hK hP 0 rfl rfl 41 (by decide) lk7 (fun _ h9 => h9) rfl dX10_takeClause_128 ?_
        refine lv_bipush (v := 12) hx hb dX10_takeClause_131 (by decide) ?_
        refine lv_icmp_ne (tgt := 140) hx hb dX10_takeClause_133 (by decide) (fun c133 => ?_) (fun c133 => ?_)
        · have c133_ := i_ne c133
          refine lv_iconst (v := 0) hx hb dX10_takeClause_140 (by decide) ?_
          refine lv_goto (tgt := 184) hx hb dX10_takeClause_141 (by decide) ?_
          refine lv_istore_n (lv' := [(3, .int 0), (2, .int 1), (1, .int r1), (0, .ref (am 0))]) hx hb dX10_takeClause_184 rfl hl (by decide) rfl (fun ls hl => ?_)
          refine lv_iload_n hx hb dX10_takeClause_185 rfl (lv_at hl 0 rfl) ?_
          refine lv_if_ne (tgt := 230) hx hb dX10_takeClause_186 (by decide) (fun q => absurd q (by decide)) (fun _ => ?_)
          refine lv_iload_n hx hb dX10_takeClause_189 rfl (lv_at hl 1 rfl) ?_
          refine lv_iconst (v := 4) hx hb dX10_takeClause_190 (by decide) ?_
          refine lv_icmp_ne (tgt := 203) hx hb dX10_takeClause_191 (by decide) (fun _ => ?_) (fun q => absurd q (by decide))
          refine lv_iload_n hx hb dX10_takeClause_203 rfl (lv_at hl 1 rfl) ?_
          refine lv_iconst (v := 5) hx hb dX10_takeClause_204 (by decide) ?_
          refine lv_icmp_ne (tgt := 216) hx hb dX10_takeClause_205 (by decide) (fun _ => ?_) (fun q => absurd q (by decide))
          refine lv_iload_n hx hb dX10_takeClause_216 rfl (lv_at hl 1 rfl) ?_
          refine lv_bipush (v := 6) hx hb dX10_takeClause_217 (by decide) ?_
          refine lv_icmp_ne (tgt := 240) hx hb dX10_takeClause_219 (by decide) (fun _ => ?_) (fun q => absurd q (by decide))
          refine lv_aload_n hx hb dX10_takeClause_240 rfl (lv_at hl 3 rfl) ?_
          refine lv_dup hx hb dX10_takeClause_241 rfl ?_
          refine va_get (D := eD E) (ci := 10) (v := .int (o1_vm 34 0)) (C := RX10) (T := TX10) (N := 79) hx hb hts in_X10 hown hK hP 0 rfl rfl 34 (by decide) lk0 (fun _ h9 => h9) rfl dX10_takeClause_242 ?_
          refine lv_iconst (v := 1) hx hb dX10_takeClause_245 (by decide) ?_
          have sv246_o1_vm340 : 0 ≤ (o1_vm 34 0).toInt ∧ (o1_vm 34 0).toInt ≤ 249 := by omega
          refine lv_iadd hx hb dX10_takeClause_246 ?_
          refine lv_topi (fun x246 e246 => ?_)
          have t246 := i_add e246 (by omega)
          refine va_put (D := eD E) (ci := 10) (v := .int x246) (ty := .int) (C := RX10) (T := TX10) (N := 79) hx hb hts in_X10 tyX10 tyX10_ok nmX10 hown hK hP hD hS 0 rfl rfl 34 (by decide) lk0 (fun _ h9 => h9) rfl (by decide +kernel) rfl rfl (Nat.le_of_ble_eq_true rfl) dX10_takeClause_247 (fun H locs hP hD hS => ?_)
          replace hP : va_P (eD E) vwCl (mdL E am (up2 o1_vm 34 0 x246)) H := hP
          replace hD : va_D A (mdL E am (up2 o1_vm 34 0 x246)) := hD
          generalize hv247 : up2 o1_vm 34 0 x246 = vm_247 at hP hD
          have hFz : fr lRd vm vm_247 := by first | exact hFz | (rw [← hv247]; exact hFz.up (by decide))
          have hMI : MdI vm_247 := by rw [← hv247]; exact hMI
          have hRd : RdM vm_247 := by rw [← hv247]; exact hRd
          have hat : atI vm_247 := by rw [← hv247]; exact (show 0 ≤ x246.toInt ∧ x246.toInt ≤ (o1_vm 32 0).toInt by omega)
          have hq247_34 : (vm_247 34 0).toInt = x246.toInt := by rw [← hv247]; rfl
          have hq247_37 : (vm_247 37 0).toInt = (o1_vm 37 0).toInt := by rw [← hv247]; rfl
          have hq247_38 : (vm_247 38 0).toInt = (o1_vm 38 0).toInt := by rw [← hv247]; rfl
          have hq247_41 : (vm_247 41 0).toInt = (o1_vm 41 0).toInt := by rw [← hv247]; rfl
          have hq247_43 : (vm_247 43 0).toInt = (o1_vm 43 0).toInt := by rw [← hv247]; rfl
          have hq247_48 : (vm_247 48 0).toInt = (o1_vm 48 0).toInt := by rw [← hv247]; rfl
          have hq247_51 : (vm_247 51 0).toInt = (o1_vm 51 0).toInt := by rw [← hv247]; rfl
          have hq247_55 : (vm_247 55 0).toInt = (o1_vm 55 0).toInt := by rw [← hv247]; rfl
          have hq247_58 : (vm_247 58 0).toInt = (o1_vm 58 0).toInt := by rw [← hv247]; rfl
          have hSM : SM S vm_247 := by rw [← hv247]; exact hSM1.sc (sc.rf.up (by omega))
          have hT247 : vm_247 31 = vm 31 ∧ vm_247 32 = vm 32 ∧ vm_247 33 = vm 33 := by rw [← hv247]; exact ⟨h1.1 31 (by decide) (by decide) (by decide) (by decide), h1.1 32 (by decide) (by decide) (by decide) (by decide), hfr1.1⟩
          have hp247 : (vm_247 34 0).toInt = (o1_vm 34 0).toInt + 1 := by omega
          refine lv_iload_n hx hb dX10_takeClause_250 rfl (lv_at hl 1 rfl) ?_
          refine lv_if_ne (tgt := 261) hx hb dX10_takeClause_251 (by decide) (fun _ => ?_) (fun q => absurd q (by decide))
          refine lv_iload_n hx hb dX10_takeClause_261 rfl (lv_at hl 1 rfl) ?_
          refine lv_iconst (v := 1) hx hb dX10_takeClause_262 (by decide) ?_
          refine lv_icmp_ne (tgt := 273) hx hb dX10_takeClause_263 (by decide) (fun q => absurd q (by decide)) (fun _ => ?_)
          refine lv_aload_n hx hb dX10_takeClause_266 rfl (lv_at hl 3 rfl) ?_
          refine mt_Vi (w1 := fun (u : Vf) => mdL E am u) (wf := fun (u : Vf) => mdL E am u) (wr := []) (As := []) (rest := []) (C := RX10) (ci := 10) ⟨hx, hb, hml, hown, hts⟩ (c_X10_takeOne l E H.size am vm_247 S hMI hat hRd (by omega) (by omega) hSM) (cwV 0 hts gX10_takeClause_X10_takeOne rfl rfl rfl (by decide +kernel) ⟨Nat.le_of_ble_eq_true rfl, Nat.le_of_ble_eq_true rfl⟩) hE hS hA hP hD [0, 1, 2, 3, 4, 5, 6, 7, 8, 9, 10, 11, 12, 13, 14, 15, 16, 17, 18, 19, 20, 21, 22, 23, 24, 25, 26, 27, 28, 29, 30, 31, 32, 33, 34, 35, 36, 37, 38, 39, 40, 41, 42, 43, 44, 45] [] rfl rfl (by decide) (by decide) (by decide) [0, 1, 2, 3, 4, 5, 6, 7, 8, 9, 10, 11, 12, 13, 14, 15, 16, 17, 18, 19, 20, 21, 22, 23, 24, 25, 26, 27, 28, 29, 30, 31, 32, 33, 34, 35, 36, 37, 38, 39, 40, 41, 42, 43, 44, 45] (by decide) (fun u => rfl) rfl rfl rfl rfl hl.1 rfl (Nat.le_of_ble_eq_true rfl) dX10_takeClause_267 ⟨Nat.zero_le _, Nat.zero_le _⟩ (fun r267 u267 H locs h267 hP hD hS => ?_)
          generalize u267 = o267_vm at hP hD h267
          try dsimp only at h267
          have hf267 := h267.2
          replace h267 := h267.1
          have hFn267 := h267.2
          replace h267 := h267.1
          replace hP : va_P (eD E) vwCl (mdL E am o267_vm) H := hP
          replace hD : va_D A (mdL E am o267_vm) := hD
          have hFz : fr lRd vm o267_vm := by first | exact hFz | exact hFz.tr hFn267 (by decide) | (rw [← hv267]; repeat' (first | exact hFz | refine fr.up ?_ (by decide) | refine fr.up3 ?_ (by decide)))
          have hMI := h267.1
          have hat := h267.2.1
          have hRdx := h267.2.2.2.2
          obtain ⟨hat1, hat2⟩ := id hat
          have hT := hMI.1.2.2.2.2.2.2.1
          have hm267 := h267.2.2.1
          have hz267 := h267.2.2.2.1
          have hCL : CK (clauseF (vm 31) (vm 32 0).toInt S (o1_vm 34 0).toInt) S (vm 31) (vm 32 0).toInt (vm 33 0).toInt r267.toInt (o267_vm 33 0).toInt (o267_vm 34 0).toInt o267_vm := by rw [cl_c (by omega) (by omega)]; have q := hf267 (o1_vm 34 0).toInt; rw [hT247.1, hT247.2.1, hT247.2.2, hp247] at q; exact TK.ck (g := fun x : (((Unit × ((Int × Int × Int) × (Int × Int × Int))) × Unit) × (Int × Int × Int)) × (Int × Int × Int) => cellS S (plc (S 37 0) x.1.1.1.2) x.1.2.1 x.2.1) q (fun _ => ⟨rfl, rfl⟩)
          have hR := r267
          have hTx : r267.toInt = 0 → o267_vm 31 = vm 31 ∧ o267_vm 32 = vm 32 := fun q => by have z := hCL.txt okF.clause q hSM; rw [hT247.1, hT247.2.1] at z; exact z
          clear hf267
          refine lv_goto (tgt := 325) hx hb dX10_takeClause_270 (by decide) ?_
          refine lv_istore (lv' := [(4, .int r267), (3, .int 0), (2, .int 1), (1, .int r1), (0, .ref (am 0))]) hx hb dX10_takeClause_325 hl (by decide) rfl (fun ls hl => ?_)
          refine lv_iload hx hb dX10_takeClause_327 (lv_at hl 0 rfl) ?_
          refine lv_if_ne (tgt := 351) hx hb dX10_takeClause_329 (by decide) (fun c329 => ?_) (fun c329 => ?_)
          · have c329_ := i_ne c329
            have hnz : r267.toInt ≠ 0 := by omega
            refine lv_aload_n hx hb dX10_takeClause_351 rfl (lv_at hl 4 rfl) ?_
            refine lv_dup hx hb dX10_takeClause_352 rfl ?_
            refine va_get (D := eD E) (ci := 10) (v := .int (o267_vm 34 0)) (C := RX10) (T := TX10) (N := 79) hx hb hts in_X10 hown hK hP 0 rfl rfl 34 (by decide) lk0 (fun _ h9 => h9) rfl dX10_takeClause_353 ?_
            refine lv_iconst (v := 1) hx hb dX10_takeClause_356 (by decide) ?_
            refine lv_iadd hx hb dX10_takeClause_357 ?_
            refine lv_topi (fun x357 e357 => ?_)
            have t357 := i_add e357 (by omega)
            refine va_put (D := eD E) (ci := 10) (v := .int x357) (ty := .int) (C := RX10) (T := TX10) (N := 79) hx hb hts in_X10 tyX10 tyX10_ok nmX10 hown hK hP hD hS 0 rfl rfl 34 (by decide) lk0 (fun _ h9 => h9) rfl (by decide +kernel) rfl rfl (Nat.le_of_ble_eq_true rfl) dX10_takeClause_358 (fun H locs hP hD hS => ?_)
            replace hP : va_P (eD E) vwCl (mdL E am (up2 o267_vm 34 0 x357)) H := hP
            replace hD : va_D A (mdL E am (up2 o267_vm 34 0 x357)) := hD
            generalize hv358 : up2 o267_vm 34 0 x357 = vm_358 at hP hD
            have hFz : fr lRd vm vm_358 := by first | exact hFz | (rw [← hv358]; exact hFz.up (by decide))
            refine lv_iload hx hb dX10_takeClause_361 (lv_at hl 0 rfl) ?_
            subst hQ
            exact W.iret (v := r267) hx hb hr (fun t ht hW => ⟨⟨r267, (vm_358), rfl, (show ((MdI vm_358 ∧ (0 ≤ r267.toInt ∧ r267.toInt ≤ 4) ∧ (vm 34 0).toInt ≤ (vm_358 34 0).toInt ∧ (vm_358 34 0).toInt ≤ 251 ∧ (r267.toInt = 0 → atI vm_358 ∧ RdM vm_358 ∧ (vm 34 0).toInt < (vm_358 34 0).toInt)) ∧ fr lRd vm vm_358) ∧ ((skp (vm 31) (vm 32 0).toInt (vm 34 0).toInt < (vm 32 0).toInt → MF (clauseF (vm 31) (vm 32 0).toInt S (skp (vm 31) (vm 32 0).toInt (vm 34 0).toInt)) (vm 33 0).toInt r267.toInt (vm_358 33 0).toInt (fun y => (vm_358 34 0).toInt = y.1 ∧ SM y.2 vm_358)) ∧ (r267.toInt = 0 → vm_358 31 = vm 31 ∧ vm_358 32 = vm 32)) from ⟨⟨⟨(by rw [← hv358]; exact hMI), by omega, (by rw [← hv358]; show (vm 34 0).toInt ≤ x357.toInt; omega), (by rw [← hv358]; show x357.toInt ≤ 251; omega), (by first | exact fun q => absurd q (by omega) | exact fun q => ⟨(by rw [← hv358]; exact (show 0 ≤ x357.toInt ∧ x357.toInt ≤ (o333_vm 32 0).toInt by omega)), (by rw [← hv358]; exact hRd3), (by rw [← hv358]; show (vm 34 0).toInt < x357.toInt; omega)⟩)⟩, hFz⟩, (by first | exact ⟨fun hn => by rw [← hp1, ← hv358]; exact hCL.ok okF.clause hz0 hp333 hsg hz0 (show (o333_vm 33 0).toInt = _ by rw [hfr3.1]) (show x357.toInt = _ by omega) (hs333.sc.up (by omega)), fun q => by rw [← hv358]; exact ⟨(h333.1 31 (by decide) (by decide) (by decide) (by decide)).trans (hTx hz0).1, (h333.1 32 (by decide) (by decide) (by decide) (by decide)).trans (hTx hz0).2⟩⟩ | exact ⟨fun hn => by rw [← hp1, ← hv358]; exact hCL.bad hnz, fun q => absurd q hnz⟩)⟩), by rw [ht]; exact hP, hD⟩, hS.F ht⟩) hS.2.2 dX10_takeClause_363
          · have c329_ := i_eq c329
            refine lv_aload_n hx hb dX10_takeClause_332 rfl (lv_at hl 4 rfl) ?_
            refine mt_Vi (w1 := fun (u : Vf) => mdL E am u) (wf := fun (u : Vf) => mdL E am u) (wr := []) (As := []) (rest := []) (C := RX10) (ci := 10) ⟨hx, hb, hml, hown, hts⟩ (c_X10_here l E H.size am o267_vm hMI hat) (cwV 0 hts gX10_takeClause_X10_here rfl rfl rfl (by decide +kernel) ⟨Nat.le_of_ble_eq_true rfl, Nat.le_of_ble_eq_true rfl⟩) hE hS hA hP hD [0, 1, 2, 3, 4, 5, 6, 7, 8, 9, 10, 11, 12, 13, 14, 15, 16, 17, 18, 19, 20, 21, 22, 23, 24, 25, 26, 27, 28, 29, 30, 31, 32, 33, 34, 35, 36, 37, 38, 39, 40, 41, 42, 43, 44, 45] [] rfl rfl (by decide) (by decide) (by decide) [0, 1, 2, 3, 4, 5, 6, 7, 8, 9, 10, 11, 12, 13, 14, 15, 16, 17, 18, 19, 20, 21, 22, 23, 24, 25, 26, 27, 28, 29, 30, 31, 32, 33, 34, 35, 36, 37, 38, 39, 40, 41, 42, 43, 44, 45] (by decide) (fun u => rfl) rfl rfl rfl rfl hl.1 rfl (Nat.le_of_ble_eq_true rfl) dX10_takeClause_333 ⟨Nat.zero_le _, Nat.zero_le _⟩ (fun r333 u333 H locs h333 hP hD hS => ?_)
            generalize u333 = o333_vm at hP hD h333
            try dsimp only at h333
            have hf333 := h333.2
            replace h333 := h333.1
            have hFn333 := h333.2
            replace h333 := h333.1
            replace hP : va_P (eD E) vwCl (mdL E am o333_vm) H := hP
            replace hD : va_D A (mdL E am o333_vm) := hD
            have hFz : fr lRd vm o333_vm := by first | exact hFz | exact hFz.tr hFn333 (by decide) | (rw [← hv333]; repeat' (first | exact hFz | refine fr.up ?_ (by decide) | refine fr.up3 ?_ (by decide)))
            have hMI : MdI o333_vm := hMI.sn h333.1
            have hRd3 : RdM o333_vm := (hRdx (by omega)).sn h333.1
            have hat := h333.2.1
            obtain ⟨hat1, hat2⟩ := id hat
            have hq333_32 : (o333_vm 32 0).toInt = (o267_vm 32 0).toInt := by rw [h333.1 32 (by decide) (by decide) (by decide) (by decide)]
            have hm333 := h333.2.2
            have hp333 := hf333.1
            rw [(hTx (by omega)).1, (hTx (by omega)).2] at hp333
            have hg333 := hf333.2.2
            rw [(hTx (by omega)).1, (hTx (by omega)).2] at hg333
            have hfr3 := hf333.2.1
            have hs333 : sn o267_vm o333_vm := h333.1
            refine lv_bipush (v := 59) hx hb dX10_takeClause_336 (by decide) ?_
            refine lv_icmp_eq (tgt := 351) hx hb dX10_takeClause_338 (by decide) (fun c338 => ?_) (fun c338 => ?_)
            · have c338_ := i_eq c338
              have hz0 : r267.toInt = 0 := by omega
              have hsg : (o333_vm 34 0).toInt < (vm 32 0).toInt ∧ tc (vm 31) (o333_vm 34 0).toInt = 59 := by omega
              refine lv_aload_n hx hb dX10_takeClause_351 rfl (lv_at hl 4 rfl) ?_
              refine lv_dup hx hb dX10_takeClause_352 rfl ?_
              refine va_get (D := eD E) (ci := 10) (v := .int (o333_vm 34 0)) (C := RX10) (T := TX10) (N := 79) hx hb hts in_X10 hown hK hP 0 rfl rfl 34 (by decide) lk0 (fun _ h9 => h9) rfl dX10_takeClause_353 ?_
              refine lv_iconst (v := 1) hx hb dX10_takeClause_356 (by decide) ?_
              refine lv_iadd hx hb dX10_takeClause_357 ?_
              refine lv_topi (fun x357 e357 => ?_)
              have t357 := i_add e357 (by omega)
              refine va_put (D := eD E) (ci := 10) (v := .int x357) (ty := .int) (C := RX10) (T := TX10) (N := 79) hx hb hts in_X10 tyX10 tyX10_ok nmX10 hown hK hP hD hS 0 rfl rfl 34 (by decide) lk0 (fun _ h9 => h9) rfl (by decide +kernel) rfl rfl (Nat.le_of_ble_eq_true rfl) dX10_takeClause_358 (fun H locs hP hD hS => ?_)
              replace hP : va_P (eD E) vwCl (mdL E am (up2 o333_vm 34 0 x357)) H := hP
              replace hD : va_D A (mdL E am (up2 o333_vm 34 0 x357)) := hD
              generalize hv358 : up2 o333_vm 34 0 x357 = vm_358 at hP hD
              have hFz : fr lRd vm vm_358 := by first | exact hFz | (rw [← hv358]; exact hFz.up (by decide))
              refine lv_iload hx hb dX10_takeClause_361 (lv_at hl 0 rfl) ?_
              subst hQ
              exact W.iret (v := r267) hx hb hr (fun t ht hW => ⟨⟨r267, (vm_358), rfl, (show ((MdI vm_358 ∧ (0 ≤ r267.toInt ∧ r267.toInt ≤ 4) ∧ (vm 34 0).toInt ≤ (vm_358 34 0).toInt ∧ (vm_358 34 0).toInt ≤ 251 ∧ (r267.toInt = 0 → atI vm_358 ∧ RdM vm_358 ∧ (vm 34 0).toInt < (vm_358 34 0).toInt)) ∧ fr lRd vm vm_358) ∧ ((skp (vm 31) (vm 32 0).toInt (vm 34 0).toInt < (vm 32 0).toInt → MF (clauseF (vm 31) (vm 32 0).toInt S (skp (vm 31) (vm 32 0).toInt (vm 34 0).toInt)) (vm 33 0).toInt r267.toInt (vm_358 33 0).toInt (fun y => (vm_358 34 0).toInt = y.1 ∧ SM y.2 vm_358)) ∧ (r267.toInt = 0 → vm_358 31 = vm 31 ∧ vm_358 32 = vm 32)) from ⟨⟨⟨(by rw [← hv358]; exact hMI), by omega, (by rw [← hv358]; show (vm 34 0).toInt ≤ x357.toInt; omega), (by rw [← hv358]; show x357.toInt ≤ 251; omega), (by first | exact fun q => absurd q (by omega) | exact fun q => ⟨(by rw [← hv358]; exact (show 0 ≤ x357.toInt ∧ x357.toInt ≤ (o333_vm 32 0).toInt by omega)), (by rw [← hv358]; exact hRd3), (by rw [← hv358]; show (vm 34 0).toInt < x357.toInt; omega)⟩)⟩, hFz⟩, (by first | exact ⟨fun hn => by rw [← hp1, ← hv358]; exact hCL.ok okF.clause hz0 hp333 hsg hz0 (show (o333_vm 33 0).toInt = _ by rw [hfr3.1]) (show x357.toInt = _ by omega) (hs333.sc.up (by omega)), fun q => by rw [← hv358]; exact ⟨(h333.1 31 (by decide) (by decide) (by decide) (by decide)).trans (hTx hz0).1, (h333.1 32 (by decide) (by decide) (by decide) (by decide)).trans (hTx hz0).2⟩⟩ | exact ⟨fun hn => by rw [← hp1, ← hv358]; exact hCL.bad hnz, fun q => absurd q hnz⟩)⟩), by rw [ht]; exact hP, hD⟩, hS.F ht⟩) hS.2.2 dX10_takeClause_363
            · have c338_ := i_ne c338
              refine lv_aload_n hx hb dX10_takeClause_341 rfl (lv_at hl 4 rfl) ?_
              refine lv_iconst (v := 1) hx hb dX10_takeClause_342 (by decide) ?_
              refine lv_aload_n hx hb dX10_takeClause_343 rfl (lv_at hl 4 rfl) ?_
              refine va_get (D := eD E) (ci := 10) (v := .int (o333_vm 34 0)) (C := RX10) (T := TX10) (N := 79) hx hb hts in_X10 hown hK hP 0 rfl rfl 34 (by decide) lk0 (fun _ h9 => h9) rfl dX10_takeClause_344 ?_
              refine mt_Vi (w1 := fun (u : Vf) => mdL E am u) (wf := fun (u : Vf) => mdL E am u) (wr := []) (As := [.int 1, .int (o333_vm 34 0)]) (rest := []) (C := RX10) (ci := 10) ⟨hx, hb, hml, hown, hts⟩ (c_X10_fails l E H.size am o333_vm 1 (o333_vm 34 0)) (cwV 2 hts gX10_takeClause_X10_fails rfl rfl rfl (by decide +kernel) ⟨Nat.le_of_ble_eq_true rfl, Nat.le_of_ble_eq_true rfl⟩) hE hS hA hP hD [0, 1, 2, 3, 4, 5, 6, 7, 8, 9, 10, 11, 12, 13, 14, 15, 16, 17, 18, 19, 20, 21, 22, 23, 24, 25, 26, 27, 28, 29, 30, 31, 32, 33, 34, 35, 36, 37, 38, 39, 40, 41, 42, 43, 44, 45] [] rfl rfl (by decide) (by decide) (by decide) [0, 1, 2, 3, 4, 5, 6, 7, 8, 9, 10, 11, 12, 13, 14, 15, 16, 17, 18, 19, 20, 21, 22, 23, 24, 25, 26, 27, 28, 29, 30, 31, 32, 33, 34, 35, 36, 37, 38, 39, 40, 41, 42, 43, 44, 45] (by decide) (fun u => rfl) rfl rfl rfl rfl hl.1 rfl (Nat.le_of_ble_eq_true rfl) dX10_takeClause_347 ⟨Nat.zero_le _, Nat.zero_le _⟩ (fun r347 u347 H locs h347 hP hD hS => ?_)
              generalize u347 = o347_vm at hP hD h347
              try dsimp only at h347
              have hf347 := h347.2
              replace h347 := h347.1
              have hFn347 := h347.2
              replace h347 := h347.1
              replace hP : va_P (eD E) vwCl (mdL E am o347_vm) H := hP
              replace hD : va_D A (mdL E am o347_vm) := hD
              have hFz : fr lRd vm o347_vm := by first | exact hFz | exact hFz.tr hFn347 (by decide) | (rw [← hv347]; repeat' (first | exact hFz | refine fr.up ?_ (by decide) | refine fr.up3 ?_ (by decide)))
              have hr347 : r347.toInt = 1 := by rw [h347.1]; decide
              have hq347 : (o347_vm 34 0).toInt = (o333_vm 34 0).toInt := by rw [h347.2.2]
              have hw347 : (o347_vm 33 0).toInt = (o333_vm 34 0).toInt := by rw [hf347]; rfl
              subst hQ
              exact W.iret (v := r347) hx hb hr (fun t ht hW => ⟨⟨r347, (o347_vm), rfl, (show ((MdI o347_vm ∧ (0 ≤ r347.toInt ∧ r347.toInt ≤ 4) ∧ (vm 34 0).toInt ≤ (o347_vm 34 0).toInt ∧ (o347_vm 34 0).toInt ≤ 251 ∧ (r347.toInt = 0 → atI o347_vm ∧ RdM o347_vm ∧ (vm 34 0).toInt < (o347_vm 34 0).toInt)) ∧ fr lRd vm o347_vm) ∧ ((skp (vm 31) (vm 32 0).toInt (vm 34 0).toInt < (vm 32 0).toInt → MF (clauseF (vm 31) (vm 32 0).toInt S (skp (vm 31) (vm 32 0).toInt (vm 34 0).toInt)) (vm 33 0).toInt r347.toInt (o347_vm 33 0).toInt (fun y => (o347_vm 34 0).toInt = y.1 ∧ SM y.2 o347_vm)) ∧ (r347.toInt = 0 → o347_vm 31 = vm 31 ∧ o347_vm 32 = vm 32)) from ⟨⟨⟨hMI.sn h347.2.1, by omega, by omega, by omega, fun q => absurd q (by omega)⟩, hFz⟩, ⟨fun hn => by rw [← hp1]; exact hCL.no okF.clause (by omega) hp333 (by omega) hr347 hw347, fun q => absurd q (by omega)⟩⟩), by rw [ht]; exact hP, hD⟩, hS.F ht⟩) hS.2.2 dX10_takeClause_350
        · have c133_ := i_eq c133
          have hcl3 : clauseF (vm 31) (vm 32 0).toInt S (o1_vm 34 0).toInt = .inl (3, (o1_vm 34 0).toInt) := cl3_c (by omega) (by omega) (by omega)
          refine lv_iconst (v := 1) hx hb dX10_takeClause_136 (by decide) ?_
          refine lv_goto (tgt := 184) hx hb dX10_takeClause_137 (by decide) ?_
          refine lv_istore_n (lv' := [(3, .int 1), (2, .int 1), (1, .int r1), (0, .ref (am 0))]) hx hb dX10_takeClause_184 rfl hl (by decide) rfl (fun ls hl => ?_)
          refine lv_iload_n hx hb dX10_takeClause_185 rfl (lv_at hl 0 rfl) ?_
          refine lv_if_ne (tgt := 230) hx hb dX10_takeClause_186 (by decide) (fun _ => ?_) (fun q => absurd q (by decide))
          refine lv_aload_n hx hb dX10_takeClause_230 rfl (lv_at hl 3 rfl) ?_
          refine lv_iconst (v := 3) hx hb dX10_takeClause_231 (by decide) ?_
          refine lv_aload_n hx hb dX10_takeClause_232 rfl (lv_at hl 3 rfl) ?_
          refine va_get (D := eD E) (ci := 10) (v := .int (o1_vm 34 0)) (C := RX10) (T := TX10) (N := 79) hx hb hts in_X10 hown hK hP 0 rfl rfl 34 (by decide) lk0 (fun _ h9 => h9) rfl dX10_takeClause_233 ?_
          refine mt_Vi (w1 := fun (u : Vf) => mdL E am u) (wf := fun (u : Vf) => mdL E am u) (wr := []) (As := [.int 3, .int (o1_vm 34 0)]) (rest := []) (C := RX10) (ci := 10) ⟨hx, hb, hml, hown, hts⟩ (c_X10_fails l E H.size am o1_vm 3 (o1_vm 34 0)) (cwV 2 hts gX10_takeClause_X10_fails rfl rfl rfl (by decide +kernel) ⟨Nat.le_of_ble_eq_true rfl, Nat.le_of_ble_eq_true rfl⟩) hE hS hA hP hD [0, 1, 2, 3, 4, 5, 6, 7, 8, 9, 10, 11, 12, 13, 14, 15, 16, 17, 18, 19, 20, 21, 22, 23, 24, 25, 26, 27, 28, 29, 30, 31, 32, 33, 34, 35, 36, 37, 38, 39, 40, 41, 42, 43, 44, 45] [] rfl rfl (by decide) (by decide) (by decide) [0, 1, 2, 3, 4, 5, 6, 7, 8, 9, 10, 11, 12, 13, 14, 15, 16, 17, 18, 19, 20, 21, 22, 23, 24, 25, 26, 27, 28, 29, 30, 31, 32, 33, 34, 35, 36, 37, 38, 39, 40, 41, 42, 43, 44, 45] (by decide) (fun u => rfl) rfl rfl rfl rfl hl.1 rfl (Nat.le_of_ble_eq_true rfl) dX10_takeClause_236 ⟨Nat.zero_le _, Nat.zero_le _⟩ (fun r236 u236 H locs h236 hP hD hS => ?_)
          generalize u236 = o236_vm at hP hD h236
          try dsimp only at h236
          have hf236 := h236.2
          replace h236 := h236.1
          have hFn236 := h236.2
          replace h236 := h236.1
          replace hP : va_P (eD E) vwCl (mdL E am o236_vm) H := hP
          replace hD : va_D A (mdL E am o236_vm) := hD
          have hFz : fr lRd vm o236_vm := by first | exact hFz | exact hFz.tr hFn236 (by decide) | (rw [← hv236]; repeat' (first | exact hFz | refine fr.up ?_ (by decide) | refine fr.up3 ?_ (by decide)))
          have hr236 : r236.toInt = 3 := by rw [h236.1]; decide
          have hq236 : (o236_vm 34 0).toInt = (o1_vm 34 0).toInt := by rw [h236.2.2]
          have hw236 : (o236_vm 33 0).toInt = (o1_vm 34 0).toInt := by rw [hf236]; rfl
          subst hQ
          exact W.iret (v := r236) hx hb hr (fun t ht hW => ⟨⟨r236, (o236_vm), rfl, (show ((MdI o236_vm ∧ (0 ≤ r236.toInt ∧ r236.toInt ≤ 4) ∧ (vm 34 0).toInt ≤ (o236_vm 34 0).toInt ∧ (o236_vm 34 0).toInt ≤ 251 ∧ (r236.toInt = 0 → atI o236_vm ∧ RdM o236_vm ∧ (vm 34 0).toInt < (o236_vm 34 0).toInt)) ∧ fr lRd vm o236_vm) ∧ ((skp (vm 31) (vm 32 0).toInt (vm 34 0).toInt < (vm 32 0).toInt → MF (clauseF (vm 31) (vm 32 0).toInt S (skp (vm 31) (vm 32 0).toInt (vm 34 0).toInt)) (vm 33 0).toInt r236.toInt (o236_vm 33 0).toInt (fun y => (o236_vm 34 0).toInt = y.1 ∧ SM y.2 o236_vm)) ∧ (r236.toInt = 0 → o236_vm 31 = vm 31 ∧ o236_vm 32 = vm 32)) from ⟨⟨⟨hMI.sn h236.2.1, by omega, by omega, by omega, fun q => absurd q (by omega)⟩, hFz⟩, ⟨fun hn => MF.no (by rw [← hp1]; exact hcl3) hr236 hw236, fun q => absurd q (by omega)⟩⟩), by rw [ht]; exact hP, hD⟩, hS.F ht⟩) hS.2.2 dX10_takeClause_239
      · have c90_ := i_eq c90
        refine lv_aload_n hx hb dX10_takeClause_93 rfl (lv_at hl 2 rfl) ?_
        refine lv_iconst (v := 1) hx hb dX10_takeClause_94 (by decide) ?_
        refine lv_aload_n hx hb dX10_takeClause_95 rfl (lv_at hl 2 rfl) ?_
        refine va_get (D := eD E) (ci := 10) (v := .int (o1_vm 34 0)) (C := RX10) (T := TX10) (N := 79) hx hb hts in_X10 hown hK hP 0 rfl rfl 34 (by decide) lk0 (fun _ h9 => h9) rfl dX10_takeClause_96 ?_
        refine mt_Vi (w1 := fun (u : Vf) => mdL E am u) (wf := fun (u : Vf) => mdL E am u) (wr := []) (As := [.int 1, .int (o1_vm 34 0)]) (rest := []) (C := RX10) (ci := 10) ⟨hx, hb, hml, hown, hts⟩ (c_X10_fails l E H.size am o1_vm 1 (o1_vm 34 0)) (cwV 2 hts gX10_takeClause_X10_fails rfl rfl rfl (by decide +kernel) ⟨Nat.le_of_ble_eq_true rfl, Nat.le_of_ble_eq_true rfl⟩) hE hS hA hP hD [0, 1, 2, 3, 4, 5, 6, 7, 8, 9, 10, 11, 12, 13, 14, 15, 16, 17, 18, 19, 20, 21, 22, 23, 24, 25, 26, 27, 28, 29, 30, 31, 32, 33, 34, 35, 36, 37, 38, 39, 40, 41, 42, 43, 44, 45] [] rfl rfl (by decide) (by decide) (by decide) [0, 1, 2, 3, 4, 5, 6, 7, 8, 9, 10, 11, 12, 13, 14, 15, 16, 17, 18, 19, 20, 21, 22, 23, 24, 25, 26, 27, 28, 29, 30, 31, 32, 33, 34, 35, 36, 37, 38, 39, 40, 41, 42, 43, 44, 45] (by decide) (fun u => rfl) rfl rfl rfl rfl hl.1 rfl (Nat.le_of_ble_eq_true rfl) dX10_takeClause_99 ⟨Nat.zero_le _, Nat.zero_le _⟩ (fun r99 u99 H locs h99 hP hD hS => ?_)
        generalize u99 = o99_vm at hP hD h99
        try dsimp only at h99
        have hf99 := h99.2
        replace h99 := h99.1
        have hFn99 := h99.2
        replace h99 := h99.1
        replace hP : va_P (eD E) vwCl (mdL E am o99_vm) H := hP
        replace hD : va_D A (mdL E am o99_vm) := hD
        have hFz : fr lRd vm o99_vm := by first | exact hFz | exact hFz.tr hFn99 (by decide) | (rw [← hv99]; repeat' (first | exact hFz | refine fr.up ?_ (by decide) | refine fr.up3 ?_ (by decide)))
        have hr99 : r99.toInt = 1 := by rw [h99.1]; decide
        have hq99 : (o99_vm 34 0).toInt = (o1_vm 34 0).toInt := by rw [h99.2.2]
        have hw99 : (o99_vm 33 0).toInt = (o1_vm 34 0).toInt := by rw [hf99]; rfl
        subst hQ
        exact W.iret (v := r99) hx hb hr (fun t ht hW => ⟨⟨r99, (o99_vm), rfl, (show ((MdI o99_vm ∧ (0 ≤ r99.toInt ∧ r99.toInt ≤ 4) ∧ (vm 34 0).toInt ≤ (o99_vm 34 0).toInt ∧ (o99_vm 34 0).toInt ≤ 251 ∧ (r99.toInt = 0 → atI o99_vm ∧ RdM o99_vm ∧ (vm 34 0).toInt < (o99_vm 34 0).toInt)) ∧ fr lRd vm o99_vm) ∧ ((skp (vm 31) (vm 32 0).toInt (vm 34 0).toInt < (vm 32 0).toInt → MF (clauseF (vm 31) (vm 32 0).toInt S (skp (vm 31) (vm 32 0).toInt (vm 34 0).toInt)) (vm 33 0).toInt r99.toInt (o99_vm 33 0).toInt (fun y => (o99_vm 34 0).toInt = y.1 ∧ SM y.2 o99_vm)) ∧ (r99.toInt = 0 → o99_vm 31 = vm 31 ∧ o99_vm 32 = vm 32)) from ⟨⟨⟨hMI.sn h99.2.1, by omega, by omega, by omega, fun q => absurd q (by omega)⟩, hFz⟩, ⟨fun hn => MF.no (by rw [← hp1]; exact cl_no (by omega)) hr99 hw99, fun q => absurd q (by omega)⟩⟩), by rw [ht]; exact hP, hD⟩, hS.F ht⟩) hS.2.2 dX10_takeClause_102
  · have c8_ := i_eq c8
    refine lv_iconst (v := 0) hx hb dX10_takeClause_11 (by decide) ?_
    refine lv_goto (tgt := 77) hx hb dX10_takeClause_12 (by decide) ?_
    refine lv_istore_n (lv' := [(2, .int 0), (1, .int r1), (0, .ref (am 0))]) hx hb dX10_takeClause_77 rfl hl (by decide) rfl (fun ls hl => ?_)
    refine lv_iload_n hx hb dX10_takeClause_78 rfl (lv_at hl 0 rfl) ?_
    refine lv_if_lt (tgt := 93) hx hb dX10_takeClause_79 (by decide) (fun q => absurd q (by decide)) (fun _ => ?_)
    refine lv_iload_n hx hb dX10_takeClause_82 rfl (lv_at hl 0 rfl) ?_
    refine lv_if_le (tgt := 103) hx hb dX10_takeClause_83 (by decide) (fun _ => ?_) (fun q => absurd q (by decide))
    refine lv_iload_n hx hb dX10_takeClause_103 rfl (lv_at hl 0 rfl) ?_
    refine lv_if_ne (tgt := 122) hx hb dX10_takeClause_104 (by decide) (fun q => absurd q (by decide)) (fun _ => ?_)
    refine lv_aload_n hx hb dX10_takeClause_107 rfl (lv_at hl 2 rfl) ?_
    refine va_get (D := eD E) (ci := 10) (v := .int (o1_vm 37 0)) (C := RX10) (T := TX10) (N := 79) hx hb hts in_X10 hown hK hP 0 rfl rfl 37 (by decide) lk1 (fun _ h9 => h9) rfl dX10_takeClause_108 ?_
    refine lv_if_le (tgt := 118) hx hb dX10_takeClause_111 (by decide) (fun c111 => ?_) (fun c111 => ?_)
    · have c111_ := i_le c111
      refine lv_iconst (v := 0) hx hb dX10_takeClause_118 (by decide) ?_
      refine lv_goto (tgt := 184) hx hb dX10_takeClause_119 (by decide) ?_
      refine lv_istore_n (lv' := [(3, .int 0), (2, .int 0), (1, .int r1), (0, .ref (am 0))]) hx hb dX10_takeClause_184 rfl hl (by decide) rfl (fun ls hl => ?_)
      refine lv_iload_n hx hb dX10_takeClause_185 rfl (lv_at hl 0 rfl) ?_
      refine lv_if_ne (tgt := 230) hx hb dX10_takeClause_186 (by decide) (fun q => absurd q (by decide)) (fun _ => ?_)
      refine lv_iload_n hx hb dX10_takeClause_189 rfl (lv_at hl 1 rfl) ?_
      refine lv_iconst (v := 4) hx hb dX10_takeClause_190 (by decide) ?_
      refine lv_icmp_ne (tgt := 203) hx hb dX10_takeClause_191 (by decide) (fun _ => ?_) (fun q => absurd q (by decide))
      refine lv_iload_n hx hb dX10_takeClause_203 rfl (lv_at hl 1 rfl) ?_
      refine lv_iconst (v := 5) hx hb dX10_takeClause_204 (by decide) ?_
      refine lv_icmp_ne (tgt := 216) hx hb dX10_takeClause_205 (by decide) (fun _ => ?_) (fun q => absurd q (by decide))
      refine lv_iload_n hx hb dX10_takeClause_216 rfl (lv_at hl 1 rfl) ?_
      refine lv_bipush (v := 6) hx hb dX10_takeClause_217 (by decide) ?_
      refine lv_icmp_ne (tgt := 240) hx hb dX10_takeClause_219 (by decide) (fun _ => ?_) (fun q => absurd q (by decide))
      refine lv_aload_n hx hb dX10_takeClause_240 rfl (lv_at hl 3 rfl) ?_
      refine lv_dup hx hb dX10_takeClause_241 rfl ?_
      refine va_get (D := eD E) (ci := 10) (v := .int (o1_vm 34 0)) (C := RX10) (T := TX10) (N := 79) hx hb hts in_X10 hown hK hP 0 rfl rfl 34 (by decide) lk0 (fun _ h9 => h9) rfl dX10_takeClause_242 ?_
      refine lv_iconst (v := 1) hx hb dX10_takeClause_245 (by decide) ?_
      have sv246_o1_vm340 : 0 ≤ (o1_vm 34 0).toInt ∧ (o1_vm 34 0).toInt ≤ 249 := by omega
      refine lv_iadd hx hb dX10_takeClause_246 ?_
      refine lv_topi (fun x246 e246 => ?_)
      have t246 := i_add e246 (by omega)
      refine va_put (D := eD E) (ci := 10) (v := .int x246) (ty := .int) (C := RX10) (T := TX10) (N := 79) hx hb hts in_X10 tyX10 tyX10_ok nmX10 hown hK hP hD hS 0 rfl rfl 34 (by decide) lk0 (fun _ h9 => h9) rfl (by decide +kernel) rfl rfl (Nat.le_of_ble_eq_true rfl) dX10_takeClause_247 (fun H locs hP hD hS => ?_)
      replace hP : va_P (eD E) vwCl (mdL E am (up2 o1_vm 34 0 x246)) H := hP
      replace hD : va_D A (mdL E am (up2 o1_vm 34 0 x246)) := hD
      generalize hv247 : up2 o1_vm 34 0 x246 = vm_247 at hP hD
      have hFz : fr lRd vm vm_247 := by first | exact hFz | (rw [← hv247]; exact hFz.up (by decide))
      have hMI : MdI vm_247 := by rw [← hv247]; exact hMI
      have hRd : RdM vm_247 := by rw [← hv247]; exact hRd
      have hat : atI vm_247 := by rw [← hv247]; exact (show 0 ≤ x246.toInt ∧ x246.toInt ≤ (o1_vm 32 0).toInt by omega)
      have hq247_34 : (vm_247 34 0).toInt = x246.toInt := by rw [← hv247]; rfl
      have hq247_37 : (vm_247 37 0).toInt = (o1_vm 37 0).toInt := by rw [← hv247]; rfl
      have hq247_38 : (vm_247 38 0).toInt = (o1_vm 38 0).toInt := by rw [← hv247]; rfl
      have hq247_41 : (vm_247 41 0).toInt = (o1_vm 41 0).toInt := by rw [← hv247]; rfl
      have hq247_43 : (vm_247 43 0).toInt = (o1_vm 43 0).toInt := by rw [← hv247]; rfl
      have hq247_48 : (vm_247 48 0).toInt = (o1_vm 48 0).toInt := by rw [← hv247]; rfl
      have hq247_51 : (vm_247 51 0).toInt = (o1_vm 51 0).toInt := by rw [← hv247]; rfl
      have hq247_55 : (vm_247 55 0).toInt = (o1_vm 55 0).toInt := by rw [← hv247]; rfl
      have hq247_58 : (vm_247 58 0).toInt = (o1_vm 58 0).toInt := by rw [← hv247]; rfl
      have hSM : SM S vm_247 := by rw [← hv247]; exact hSM1.sc (sc.rf.up (by omega))
      have hT247 : vm_247 31 = vm 31 ∧ vm_247 32 = vm 32 ∧ vm_247 33 = vm 33 := by rw [← hv247]; exact ⟨h1.1 31 (by decide) (by decide) (by decide) (by decide), h1.1 32 (by decide) (by decide) (by decide) (by decide), hfr1.1⟩
      have hp247 : (vm_247 34 0).toInt = (o1_vm 34 0).toInt + 1 := by omega
      refine lv_iload_n hx hb dX10_takeClause_250 rfl (lv_at hl 1 rfl) ?_
      refine lv_if_ne (tgt := 261) hx hb dX10_takeClause_251 (by decide) (fun q => absurd q (by decide)) (fun _ => ?_)
      refine lv_aload_n hx hb dX10_takeClause_254 rfl (lv_at hl 3 rfl) ?_
      refine mt_Vi (w1 := fun (u : Vf) => mdL E am u) (wf := fun (u : Vf) => mdL E am u) (wr := []) (As := []) (rest := []) (C := RX10) (ci := 10) ⟨hx, hb, hml, hown, hts⟩ (c_X10_takeGround l E H.size am vm_247 S hMI hat hRd hSM) (cwV 0 hts gX10_takeClause_X10_takeGround rfl rfl rfl (by decide +kernel) ⟨Nat.le_of_ble_eq_true rfl, Nat.le_of_ble_eq_true rfl⟩) hE hS hA hP hD [0, 1, 2, 3, 4, 5, 6, 7, 8, 9, 10, 11, 12, 13, 14, 15, 16, 17, 18, 19, 20, 21, 22, 23, 24, 25, 26, 27, 28, 29, 30, 31, 32, 33, 34, 35, 36, 37, 38, 39, 40, 41, 42, 43, 44, 45] [] rfl rfl (by decide) (by decide) (by decide) [0, 1, 2, 3, 4, 5, 6, 7, 8, 9, 10, 11, 12, 13, 14, 15, 16, 17, 18, 19, 20, 21, 22, 23, 24, 25, 26, 27, 28, 29, 30, 31, 32, 33, 34, 35, 36, 37, 38, 39, 40, 41, 42, 43, 44, 45] (by decide) (fun u => rfl) rfl rfl rfl rfl hl.1 rfl (Nat.le_of_ble_eq_true rfl) dX10_takeClause_255 ⟨Nat.zero_le _, Nat.zero_le _⟩ (fun r255 u255 H locs h255 hP hD hS => ?_)
      generalize u255 = o255_vm at hP hD h255
      try dsimp only at h255
      have hf255 := h255.2
      replace h255 := h255.1
      have hFn255 := h255.2
      replace h255 := h255.1
      replace hP : va_P (eD E) vwCl (mdL E am o255_vm) H := hP
      replace hD : va_D A (mdL E am o255_vm) := hD
      have hFz : fr lRd vm o255_vm := by first | exact hFz | exact hFz.tr hFn255 (by decide) | (rw [← hv255]; repeat' (first | exact hFz | refine fr.up ?_ (by decide) | refine fr.up3 ?_ (by decide)))
      have hMI := h255.1
      have hat := h255.2.1
      have hRdx := h255.2.2.2.2
      obtain ⟨hat1, hat2⟩ := id hat
      have hT := hMI.1.2.2.2.2.2.2.1
      have hm255 := h255.2.2.1
      have hz255 := h255.2.2.2.1
      have hCL : CK (clauseF (vm 31) (vm 32 0).toInt S (o1_vm 34 0).toInt) S (vm 31) (vm 32 0).toInt (vm 33 0).toInt r255.toInt (o255_vm 33 0).toInt (o255_vm 34 0).toInt o255_vm := by rw [cl_g (by omega)]; have q := hf255 (by omega) (o1_vm 34 0).toInt; rw [hT247.1, hT247.2.1, hT247.2.2, hp247] at q; exact TK.ck (g := fun x : ((((Unit × (Int × Int × Int)) × (Int × Int × Int)) × Unit) × (Int × Int × Int)) × (Int × Int × Int) => groundS S x.1.1.1.1.2.1 x.1.1.1.2.1 x.1.2.1 x.2.1) q (fun _ => ⟨rfl, rfl⟩)
      have hR := r255
      have hTx : r255.toInt = 0 → o255_vm 31 = vm 31 ∧ o255_vm 32 = vm 32 := fun q => by have z := hCL.txt okF.clause q hSM; rw [hT247.1, hT247.2.1] at z; exact z
      clear hf255
      refine lv_goto (tgt := 325) hx hb dX10_takeClause_258 (by decide) ?_
      refine lv_istore (lv' := [(4, .int r255), (3, .int 0), (2, .int 0), (1, .int r1), (0, .ref (am 0))]) hx hb dX10_takeClause_325 hl (by decide) rfl (fun ls hl => ?_)
      refine lv_iload hx hb dX10_takeClause_327 (lv_at hl 0 rfl) ?_
      refine lv_if_ne (tgt := 351) hx hb dX10_takeClause_329 (by decide) (fun c329 => ?_) (fun c329 => ?_)
      · have c329_ := i_ne c329
        have hnz : r255.toInt ≠ 0 := by omega
        refine lv_aload_n hx hb dX10_takeClause_351 rfl (lv_at hl 4 rfl) ?_
        refine lv_dup hx hb dX10_takeClause_352 rfl ?_
        refine va_get (D := eD E) (ci := 10) (v := .int (o255_vm 34 0)) (C := RX10) (T := TX10) (N := 79) hx hb hts in_X10 hown hK hP 0 rfl rfl 34 (by decide) lk0 (fun _ h9 => h9) rfl dX10_takeClause_353 ?_
        refine lv_iconst (v := 1) hx hb dX10_takeClause_356 (by decide) ?_
        refine lv_iadd hx hb dX10_takeClause_357 ?_
        refine lv_topi (fun x357 e357 => ?_)
        have t357 := i_add e357 (by omega)
        refine va_put (D := eD E) (ci := 10) (v := .int x357) (ty := .int) (C := RX10) (T := TX10) (N := 79) hx hb hts in_X10 tyX10 tyX10_ok nmX10 hown hK hP hD hS 0 rfl rfl 34 (by decide) lk0 (fun _ h9 => h9) rfl (by decide +kernel) rfl rfl (Nat.le_of_ble_eq_true rfl) dX10_takeClause_358 (fun H locs hP hD hS => ?_)
        replace hP : va_P (eD E) vwCl (mdL E am (up2 o255_vm 34 0 x357)) H := hP
        replace hD : va_D A (mdL E am (up2 o255_vm 34 0 x357)) := hD
        generalize hv358 : up2 o255_vm 34 0 x357 = vm_358 at hP hD
        have hFz : fr lRd vm vm_358 := by first | exact hFz | (rw [← hv358]; exact hFz.up (by decide))
        refine lv_iload hx hb dX10_takeClause_361 (lv_at hl 0 rfl) ?_
        subst hQ
        exact W.iret (v := r255) hx hb hr (fun t ht hW => ⟨⟨r255, (vm_358), rfl, (show ((MdI vm_358 ∧ (0 ≤ r255.toInt ∧ r255.toInt ≤ 4) ∧ (vm 34 0).toInt ≤ (vm_358 34 0).toInt ∧ (vm_358 34 0).toInt ≤ 251 ∧ (r255.toInt = 0 → atI vm_358 ∧ RdM vm_358 ∧ (vm 34 0).toInt < (vm_358 34 0).toInt)) ∧ fr lRd vm vm_358) ∧ ((skp (vm 31) (vm 32 0).toInt (vm 34 0).toInt < (vm 32 0).toInt → MF (clauseF (vm 31) (vm 32 0).toInt S (skp (vm 31) (vm 32 0).toInt (vm 34 0).toInt)) (vm 33 0).toInt r255.toInt (vm_358 33 0).toInt (fun y => (vm_358 34 0).toInt = y.1 ∧ SM y.2 vm_358)) ∧ (r255.toInt = 0 → vm_358 31 = vm 31 ∧ vm_358 32 = vm 32)) from ⟨⟨⟨(by rw [← hv358]; exact hMI), by omega, (by rw [← hv358]; show (vm 34 0).toInt ≤ x357.toInt; omega), (by rw [← hv358]; show x357.toInt ≤ 251; omega), (by first | exact fun q => absurd q (by omega) | exact fun q => ⟨(by rw [← hv358]; exact (show 0 ≤ x357.toInt ∧ x357.toInt ≤ (o333_vm 32 0).toInt by omega)), (by rw [← hv358]; exact hRd3), (by rw [← hv358]; show (vm 34 0).toInt < x357.toInt; omega)⟩)⟩, hFz⟩, (by first | exact ⟨fun hn => by rw [← hp1, ← hv358]; exact hCL.ok okF.clause hz0 hp333 hsg hz0 (show (o333_vm 33 0).toInt = _ by rw [hfr3.1]) (show x357.toInt = _ by omega) (hs333.sc.up (by omega)), fun q => by rw [← hv358]; exact ⟨(h333.1 31 (by decide) (by decide) (by decide) (by decide)).trans (hTx hz0).1, (h333.1 32 (by decide) (by decide) (by decide) (by decide)).trans (hTx hz0).2⟩⟩ | exact ⟨fun hn => by rw [← hp1, ← hv358]; exact hCL.bad hnz, fun q => absurd q hnz⟩)⟩), by rw [ht]; exact hP, hD⟩, hS.F ht⟩) hS.2.2 dX10_takeClause_363
      · have c329_ := i_eq c329
        refine lv_aload_n hx hb dX10_takeClause_332 rfl (lv_at hl 4 rfl) ?_
        refine mt_Vi (w1 := fun (u : Vf) => mdL E am u) (wf := fun (u : Vf) => mdL E am u) (wr := []) (As := []) (rest := []) (C := RX10) (ci := 10) ⟨hx, hb, hml, hown, hts⟩ (c_X10_here l E H.size am o255_vm hMI hat) (cwV 0 hts gX10_takeClause_X10_here rfl rfl rfl (by decide +kernel) ⟨Nat.le_of_ble_eq_true rfl, Nat.le_of_ble_eq_true rfl⟩) hE hS hA hP hD [0, 1, 2, 3, 4, 5, 6, 7, 8, 9, 10, 11, 12, 13, 14, 15, 16, 17, 18, 19, 20, 21, 22, 23, 24, 25, 26, 27, 28, 29, 30, 31, 32, 33, 34, 35, 36, 37, 38, 39, 40, 41, 42, 43, 44, 45] [] rfl rfl (by decide) (by decide) (by decide) [0, 1, 2, 3, 4, 5, 6, 7, 8, 9, 10, 11, 12, 13, 14, 15, 16, 17, 18, 19, 20, 21, 22, 23, 24, 25, 26, 27, 28, 29, 30, 31, 32, 33, 34, 35, 36, 37, 38, 39, 40, 41, 42, 43, 44, 45] (by decide) (fun u => rfl) rfl rfl rfl rfl hl.1 rfl (Nat.le_of_ble_eq_true rfl) dX10_takeClause_333 ⟨Nat.zero_le _, Nat.zero_le _⟩ (fun r333 u333 H locs h333 hP hD hS => ?_)
        generalize u333 = o333_vm at hP hD h333
        try dsimp only at h333
        have hf333 := h333.2
        replace h333 := h333.1
        have hFn333 := h333.2
        replace h333 := h333.1
        replace hP : va_P (eD E) vwCl (mdL E am o333_vm) H := hP
        replace hD : va_D A (mdL E am o333_vm) := hD
        have hFz : fr lRd vm o333_vm := by first | exact hFz | exact hFz.tr hFn333 (by decide) | (rw [← hv333]; repeat' (first | exact hFz | refine fr.up ?_ (by decide) | refine fr.up3 ?_ (by decide)))
        have hMI : MdI o333_vm := hMI.sn h333.1
        have hRd3 : RdM o333_vm := (hRdx (by omega)).sn h333.1
        have hat := h333.2.1
        obtain ⟨hat1, hat2⟩ := id hat
        have hq333_32 : (o333_vm 32 0).toInt = (o255_vm 32 0).toInt := by rw [h333.1 32 (by decide) (by decide) (by decide) (by decide)]
        have hm333 := h333.2.2
        have hp333 := hf333.1
        rw [(hTx (by omega)).1, (hTx (by omega)).2] at hp333
        have hg333 := hf333.2.2
        rw [(hTx (by omega)).1, (hTx (by omega)).2] at hg333
        have hfr3 := hf333.2.1
        have hs333 : sn o255_vm o333_vm := h333.1
        refine lv_bipush (v := 59) hx hb dX10_takeClause_336 (by decide) ?_
        refine lv_icmp_eq (tgt := 351) hx hb dX10_takeClause_338 (by decide) (fun c338 => ?_) (fun c338 => ?_)
        · have c338_ := i_eq c338
          have hz0 : r255.toInt = 0 := by omega
          have hsg : (o333_vm 34 0).toInt < (vm 32 0).toInt ∧ tc (vm 31) (o333_vm 34 0).toInt = 59 := by omega
          refine lv_aload_n hx hb dX10_takeClause_351 rfl (lv_at hl 4 rfl) ?_
          refine lv_dup hx hb dX10_takeClause_352 rfl ?_
          refine va_get (D := eD E) (ci := 10) (v := .int (o333_vm 34 0)) (C := RX10) (T := TX10) (N := 79) hx hb hts in_X10 hown hK hP 0 rfl rfl 34 (by decide) lk0 (fun _ h9 => h9) rfl dX10_takeClause_353 ?_
          refine lv_iconst (v := 1) hx hb dX10_takeClause_356 (by decide) ?_
          refine lv_iadd hx hb dX10_takeClause_357 ?_
          refine lv_topi (fun x357 e357 => ?_)
          have t357 := i_add e357 (by omega)
          refine va_put (D := eD E) (ci := 10) (v := .int x357) (ty := .int) (C := RX10) (T := TX10) (N := 79) hx hb hts in_X10 tyX10 tyX10_ok nmX10 hown hK hP hD hS 0 rfl rfl 34 (by decide) lk0 (fun _ h9 => h9) rfl (by decide +kernel) rfl rfl (Nat.le_of_ble_eq_true rfl) dX10_takeClause_358 (fun H locs hP hD hS => ?_)
          replace hP : va_P (eD E) vwCl (mdL E am (up2 o333_vm 34 0 x357)) H := hP
          replace hD : va_D A (mdL E am (up2 o333_vm 34 0 x357)) := hD
          generalize hv358 : up2 o333_vm 34 0 x357 = vm_358 at hP hD
          have hFz : fr lRd vm vm_358 := by first | exact hFz | (rw [← hv358]; exact hFz.up (by decide))
          refine lv_iload hx hb dX10_takeClause_361 (lv_at hl 0 rfl) ?_
          subst hQ
          exact W.iret (v := r255) hx hb hr (fun t ht hW => ⟨⟨r255, (vm_358), rfl, (show ((MdI vm_358 ∧ (0 ≤ r255.toInt ∧ r255.toInt ≤ 4) ∧ (vm 34 0).toInt ≤ (vm_358 34 0).toInt ∧ (vm_358 34 0).toInt ≤ 251 ∧ (r255.toInt = 0 → atI vm_358 ∧ RdM vm_358 ∧ (vm 34 0).toInt < (vm_358 34 0).toInt)) ∧ fr lRd vm vm_358) ∧ ((skp (vm 31) (vm 32 0).toInt (vm 34 0).toInt < (vm 32 0).toInt → MF (clauseF (vm 31) (vm 32 0).toInt S (skp (vm 31) (vm 32 0).toInt (vm 34 0).toInt)) (vm 33 0).toInt r255.toInt (vm_358 33 0).toInt (fun y => (vm_358 34 0).toInt = y.1 ∧ SM y.2 vm_358)) ∧ (r255.toInt = 0 → vm_358 31 = vm 31 ∧ vm_358 32 = vm 32)) from ⟨⟨⟨(by rw [← hv358]; exact hMI), by omega, (by rw [← hv358]; show (vm 34 0).toInt ≤ x357.toInt; omega), (by rw [← hv358]; show x357.toInt ≤ 251; omega), (by first | exact fun q => absurd q (by omega) | exact fun q => ⟨(by rw [← hv358]; exact (show 0 ≤ x357.toInt ∧ x357.toInt ≤ (o333_vm 32 0).toInt by omega)), (by rw [← hv358]; exact hRd3), (by rw [← hv358]; show (vm 34 0).toInt < x357.toInt; omega)⟩)⟩, hFz⟩, (by first | exact ⟨fun hn => by rw [← hp1, ← hv358]; exact hCL.ok okF.clause hz0 hp333 hsg hz0 (show (o333_vm 33 0).toInt = _ by rw [hfr3.1]) (show x357.toInt = _ by omega) (hs333.sc.up (by omega)), fun q => by rw [← hv358]; exact ⟨(h333.1 31 (by decide) (by decide) (by decide) (by decide)).trans (hTx hz0).1, (h333.1 32 (by decide) (by decide) (by decide) (by decide)).trans (hTx hz0).2⟩⟩ | exact ⟨fun hn => by rw [← hp1, ← hv358]; exact hCL.bad hnz, fun q => absurd q hnz⟩)⟩), by rw [ht]; exact hP, hD⟩, hS.F ht⟩) hS.2.2 dX10_takeClause_363
        · have c338_ := i_ne c338
          refine lv_aload_n hx hb dX10_takeClause_341 rfl (lv_at hl 4 rfl) ?_
          refine lv_iconst (v := 1) hx hb dX10_takeClause_342 (by decide) ?_
          refine lv_aload_n hx hb dX10_takeClause_343 rfl (lv_at hl 4 rfl) ?_
          refine va_get (D := eD E) (ci := 10) (v := .int (o333_vm 34 0)) (C := RX10) (T := TX10) (N := 79) hx hb hts in_X10 hown hK hP 0 rfl rfl 34 (by decide) lk0 (fun _ h9 => h9) rfl dX10_takeClause_344 ?_
          refine mt_Vi (w1 := fun (u : Vf) => mdL E am u) (wf := fun (u : Vf) => mdL E am u) (wr := []) (As := [.int 1, .int (o333_vm 34 0)]) (rest := []) (C := RX10) (ci := 10) ⟨hx, hb, hml, hown, hts⟩ (c_X10_fails l E H.size am o333_vm 1 (o333_vm 34 0)) (cwV 2 hts gX10_takeClause_X10_fails rfl rfl rfl (by decide +kernel) ⟨Nat.le_of_ble_eq_true rfl, Nat.le_of_ble_eq_true rfl⟩) hE hS hA hP hD [0, 1, 2, 3, 4, 5, 6, 7, 8, 9, 10, 11, 12, 13, 14, 15, 16, 17, 18, 19, 20, 21, 22, 23, 24, 25, 26, 27, 28, 29, 30, 31, 32, 33, 34, 35, 36, 37, 38, 39, 40, 41, 42, 43, 44, 45] [] rfl rfl (by decide) (by decide) (by decide) [0, 1, 2, 3, 4, 5, 6, 7, 8, 9, 10, 11, 12, 13, 14, 15, 16, 17, 18, 19, 20, 21, 22, 23, 24, 25, 26, 27, 28, 29, 30, 31, 32, 33, 34, 35, 36, 37, 38, 39, 40, 41, 42, 43, 44, 45] (by decide) (fun u => rfl) rfl rfl rfl rfl hl.1 rfl (Nat.le_of_ble_eq_true rfl) dX10_takeClause_347 ⟨Nat.zero_le _, Nat.zero_le _⟩ (fun r347 u347 H locs h347 hP hD hS => ?_)
          generalize u347 = o347_vm at hP hD h347
          try dsimp only at h347
          have hf347 := h347.2
          replace h347 := h347.1
          have hFn347 := h347.2
          replace h347 := h347.1
          replace hP : va_P (eD E) vwCl (mdL E am o347_vm) H := hP
          replace hD : va_D A (mdL E am o347_vm) := hD
          have hFz : fr lRd vm o347_vm := by first | exact hFz | exact hFz.tr hFn347 (by decide) | (rw [← hv347]; repeat' (first | exact hFz | refine fr.up ?_ (by decide) | refine fr.up3 ?_ (by decide)))
          have hr347 : r347.toInt = 1 := by rw [h347.1]; decide
          have hq347 : (o347_vm 34 0).toInt = (o333_vm 34 0).toInt := by rw [h347.2.2]
          have hw347 : (o347_vm 33 0).toInt = (o333_vm 34 0).toInt := by rw [hf347]; rfl
          subst hQ
          exact W.iret (v := r347) hx hb hr (fun t ht hW => ⟨⟨r347, (o347_vm), rfl, (show ((MdI o347_vm ∧ (0 ≤ r347.toInt ∧ r347.toInt ≤ 4) ∧ (vm 34 0).toInt ≤ (o347_vm 34 0).toInt ∧ (o347_vm 34 0).toInt ≤ 251 ∧ (r347.toInt = 0 → atI o347_vm ∧ RdM o347_vm ∧ (vm 34 0).toInt < (o347_vm 34 0).toInt)) ∧ fr lRd vm o347_vm) ∧ ((skp (vm 31) (vm 32 0).toInt (vm 34 0).toInt < (vm 32 0).toInt → MF (clauseF (vm 31) (vm 32 0).toInt S (skp (vm 31) (vm 32 0).toInt (vm 34 0).toInt)) (vm 33 0).toInt r347.toInt (o347_vm 33 0).toInt (fun y => (o347_vm 34 0).toInt = y.1 ∧ SM y.2 o347_vm)) ∧ (r347.toInt = 0 → o347_vm 31 = vm 31 ∧ o347_vm 32 = vm 32)) from ⟨⟨⟨hMI.sn h347.2.1, by omega, by omega, by omega, fun q => absurd q (by omega)⟩, hFz⟩, ⟨fun hn => by rw [← hp1]; exact hCL.no okF.clause (by omega) hp333 (by omega) hr347 hw347, fun q => absurd q (by omega)⟩⟩), by rw [ht]; exact hP, hD⟩, hS.F ht⟩) hS.2.2 dX10_takeClause_350
    · have c111_ := i_nle c111
      have hcl3 : clauseF (vm 31) (vm 32 0).toInt S (o1_vm 34 0).toInt = .inl (3, (o1_vm 34 0).toInt) := cl3_g (by omega) (by omega)
      refine lv_iconst (v := 1) hx hb dX10_takeClause_114 (by decide) ?_
      refine lv_goto (tgt := 184) hx hb dX10_takeClause_115 (by decide) ?_
      refine lv_istore_n (lv' := [(3, .int 1), (2, .int 0), (1, .int r1), (0, .ref (am 0))]) hx hb dX10_takeClause_184 rfl hl (by decide) rfl (fun ls hl => ?_)
      refine lv_iload_n hx hb dX10_takeClause_185 rfl (lv_at hl 0 rfl) ?_
      refine lv_if_ne (tgt := 230) hx hb dX10_takeClause_186 (by decide) (fun _ => ?_) (fun q => absurd q (by decide))
      refine lv_aload_n hx hb dX10_takeClause_230 rfl (lv_at hl 3 rfl) ?_
      refine lv_iconst (v := 3) hx hb dX10_takeClause_231 (by decide) ?_
      refine lv_aload_n hx hb dX10_takeClause_232 rfl (lv_at hl 3 rfl) ?_
      refine va_get (D := eD E) (ci := 10) (v := .int (o1_vm 34 0)) (C := RX10) (T := TX10) (N := 79) hx hb hts in_X10 hown hK hP 0 rfl rfl 34 (by decide) lk0 (fun _ h9 => h9) rfl dX10_takeClause_233 ?_
      refine mt_Vi (w1 := fun (u : Vf) => mdL E am u) (wf := fun (u : Vf) => mdL E am u) (wr := []) (As := [.int 3, .int (o1_vm 34 0)]) (rest := []) (C := RX10) (ci := 10) ⟨hx, hb, hml, hown, hts⟩ (c_X10_fails l E H.size am o1_vm 3 (o1_vm 34 0)) (cwV 2 hts gX10_takeClause_X10_fails rfl rfl rfl (by decide +kernel) ⟨Nat.le_of_ble_eq_true rfl, Nat.le_of_ble_eq_true rfl⟩) hE hS hA hP hD [0, 1, 2, 3, 4, 5, 6, 7, 8, 9, 10, 11, 12, 13, 14, 15, 16, 17, 18, 19, 20, 21, 22, 23, 24, 25, 26, 27, 28, 29, 30, 31, 32, 33, 34, 35, 36, 37, 38, 39, 40, 41, 42, 43, 44, 45] [] rfl rfl (by decide) (by decide) (by decide) [0, 1, 2, 3, 4, 5, 6, 7, 8, 9, 10, 11, 12, 13, 14, 15, 16, 17, 18, 19, 20, 21, 22, 23, 24, 25, 26, 27, 28, 29, 30, 31, 32, 33, 34, 35, 36, 37, 38, 39, 40, 41, 42, 43, 44, 45] (by decide) (fun u => rfl) rfl rfl rfl rfl hl.1 rfl (Nat.le_of_ble_eq_true rfl) dX10_takeClause_236 ⟨Nat.zero_le _, Nat.zero_le _⟩ (fun r236 u236 H locs h236 hP hD hS => ?_)
      generalize u236 = o236_vm at hP hD h236
      try dsimp only at h236
      have hf236 := h236.2
      replace h236 := h236.1
      have hFn236 := h236.2
      replace h236 := h236.1
      replace hP : va_P (eD E) vwCl (mdL E am o236_vm) H := hP
      replace hD : va_D A (mdL E am o236_vm) := hD
      have hFz : fr lRd vm o236_vm := by first | exact hFz | exact hFz.tr hFn236 (by decide) | (rw [← hv236]; repeat' (first | exact hFz | refine fr.up ?_ (by decide) | refine fr.up3 ?_ (by decide)))
      have hr236 : r236.toInt = 3 := by rw [h236.1]; decide
      have hq236 : (o236_vm 34 0).toInt = (o1_vm 34 0).toInt := by rw [h236.2.2]
      have hw236 : (o236_vm 33 0).toInt = (o1_vm 34 0).toInt := by rw [hf236]; rfl
      subst hQ
      exact W.iret (v := r236) hx hb hr (fun t ht hW => ⟨⟨r236, (o236_vm), rfl, (show ((MdI o236_vm ∧ (0 ≤ r236.toInt ∧ r236.toInt ≤ 4) ∧ (vm 34 0).toInt ≤ (o236_vm 34 0).toInt ∧ (o236_vm 34 0).toInt ≤ 251 ∧ (r236.toInt = 0 → atI o236_vm ∧ RdM o236_vm ∧ (vm 34 0).toInt < (o236_vm 34 0).toInt)) ∧ fr lRd vm o236_vm) ∧ ((skp (vm 31) (vm 32 0).toInt (vm 34 0).toInt < (vm 32 0).toInt → MF (clauseF (vm 31) (vm 32 0).toInt S (skp (vm 31) (vm 32 0).toInt (vm 34 0).toInt)) (vm 33 0).toInt r236.toInt (o236_vm 33 0).toInt (fun y => (o236_vm 34 0).toInt = y.1 ∧ SM y.2 o236_vm)) ∧ (r236.toInt = 0 → o236_vm 31 = vm 31 ∧ o236_vm 32 = vm 32)) from ⟨⟨⟨hMI.sn h236.2.1, by omega, by omega, by omega, fun q => absurd q (by omega)⟩, hFz⟩, ⟨fun hn => MF.no (by rw [← hp1]; exact hcl3) hr236 hw236, fun q => absurd q (by omega)⟩⟩), by rw [ht]; exact hP, hD⟩, hS.F ht⟩) hS.2.2 dX10_takeClause_239
