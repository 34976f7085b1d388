def rm_X10_fails : Room := { frames := 0, cells := 0, slots := 0, locals := 0 }
set_option maxHeartbeats 4000000 in
set_option maxRecDepth 100000 in
theorem c_X10_fails (l : Launch) (E : Ev) (sz : Nat) (am : Nat → Nat) (vm : Vf) (n : Int32) (wh : Int32) : Met l yX10_fails wsX10_fails rm_X10_fails (MtP E sz [.ref (am 0), .int n, .int wh] (mdL E am vm)) (va_Qi (fun (r : Int32) (u : Vf) => ((r = n ∧ sn vm u ∧ u 34 = vm 34) ∧ fr lRd vm u) ∧ (u = up2 vm 33 0 wh)) (MtB E (va_A (mdL E am vm) sz) (fun u => mdL E am u)) (va_A (mdL E am vm) sz)) 0 0 (va_A (mdL E am vm) sz) := by
  refine Met.ofW (cc := cX10_fails) (maxL := 3) (ret := (some .int)) (by decide) rfl ?_
  intro p e s m args below meth c s₁ B hml hv
  obtain ⟨rfl, hsz, hE, hP, hD0⟩ := hv
  subst hsz
  have hD := hD0.self (sz := s.heap.size)
  generalize hAe : va_A (mdL E am vm) s.heap.size = A at hD hE ⊢
  have hA : ∀ q : Nat, s.heap.size ≤ q → A q := fun q h => by rw [← hAe]; exact Or.inr h
  have hS : va_S A s.heap s.heap [] := va_S.rf
  have hx := B.exec
  have hb := B.bytes
  have hr := B.returns
  have hts := atoms_spec (ws := wsX10_fails) B.pre
  have hown : s.vm.findClass RX10 = some m.cls := findClass_of_methodNamed B.named
  have hlocks := B.notSynchronized
  have hK := hE.1
  have in_X10 : ∀ w ∈ u_ws RX10 TX10 79, w ∈ wsX10_fails := fun w h => List.mem_cons_of_mem _ (List.mem_append_right _ h)
  have lk0 := hts (.fieldLink RX10 74 "TidedGroundModel" "faultPlace" "I") (List.mem_of_getElem? (i := 1) rfl)
  have hl := lv_entry ([.ref (am 0), .int n, .int wh]) (n := 3) (Nat.le_of_ble_eq_true rfl)
  rw [lg_entry_eq]
  generalize (lg_sl ([.ref (am 0), .int n, .int wh]) ++ List.replicate (3 - (lg_sl ([.ref (am 0), .int n, .int wh])).length) Slot.unset).toArray = ls at hl ⊢
  have hl : lv_has ls 3 [(0, .ref (am 0)), (1, .int n), (2, .int wh)] := hl
  refine W_abs (fun Q hQ => ?_)
  have hFz : fr lRd vm vm := fr.rf
  refine lv_aload_n hx hb dX10_fails_0 rfl (lv_at hl 0 rfl) ?_
  refine lv_iload_n hx hb dX10_fails_1 rfl (lv_at hl 2 rfl) ?_
  refine va_put (D := eD E) (ci := 10) (v := .int wh) (ty := .int) (C := RX10) (T := TX10) (N := 79) hx hb hts in_X10 tyX10 tyX10_ok nmX10 hown hK hP hD hS 0 rfl rfl 33 (by decide) lk0 (fun _ h9 => h9) rfl (by decide +kernel) rfl rfl (Nat.le_of_ble_eq_true rfl) dX10_fails_2 (fun H locs hP hD hS => ?_)
  replace hP : va_P (eD E) vwCl (mdL E am (up2 vm 33 0 wh)) H := hP
  replace hD : va_D A (mdL E am (up2 vm 33 0 wh)) := hD
  generalize hv2 : up2 vm 33 0 wh = vm_2 at hP hD
  have hFz : fr lRd vm vm_2 := by first | exact hFz | (rw [← hv2]; exact hFz.up (by decide))
  refine lv_iload_n hx hb dX10_fails_5 rfl (lv_at hl 1 rfl) ?_
  subst hQ
  exact W.iret (v := n) hx hb hr (fun t ht hW => ⟨⟨n, (vm_2), rfl, (show ((n = n ∧ sn vm vm_2 ∧ vm_2 34 = vm 34) ∧ fr lRd vm vm_2) ∧ (vm_2 = up2 vm 33 0 wh) from ⟨⟨⟨rfl, (by rw [← hv2]; exact sn.rf.up (by omega)), (by rw [← hv2]; rfl)⟩, hFz⟩, hv2.symm⟩), by rw [ht]; exact hP, hD⟩, hS.F ht⟩) hS.2.2 dX10_fails_6
def rm_X10_here : Room := { frames := 0, cells := 0, slots := 0, locals := 0 }
set_option maxHeartbeats 4000000 in
set_option maxRecDepth 100000 in
theorem c_X10_here (l : Launch) (E : Ev) (sz : Nat) (am : Nat → Nat) (vm : Vf) (hMI : MdI vm) (hat : atI vm) : Met l yX10_here wsX10_here rm_X10_here (MtP E sz [.ref (am 0)] (mdL E am vm)) (va_Qi (fun (r : Int32) (u : Vf) => ((sn vm u ∧ atI u ∧ (vm 34 0).toInt ≤ (u 34 0).toInt ∧ (r.toInt = -1 ∨ (u 34 0).toInt < (vm 32 0).toInt)) ∧ fr lRd vm u) ∧ ((u 34 0).toInt = skp (vm 31) (vm 32 0).toInt (vm 34 0).toInt ∧ (u 33 = vm 33 ∧ u 35 = vm 35 ∧ u 36 = vm 36) ∧ ((r.toInt = -1 ∧ (vm 32 0).toInt ≤ (u 34 0).toInt) ∨ (r.toInt = tc (vm 31) (u 34 0).toInt ∧ (u 34 0).toInt < (vm 32 0).toInt)))) (MtB E (va_A (mdL E am vm) sz) (fun u => mdL E am u)) (va_A (mdL E am vm) sz)) 0 0 (va_A (mdL E am vm) sz) := by
  refine Met.ofW (cc := cX10_here) (maxL := 1) (ret := (some .int)) (by decide) rfl ?_
  intro p e s m args below meth c s₁ B hml hv
  obtain ⟨rfl, hsz, hE, hP, hD0⟩ := hv
  subst hsz
  have hD := hD0.self (sz := s.heap.size)
  generalize hAe : va_A (mdL E am vm) s.heap.size = A at hD hE ⊢
  have hA : ∀ q : Nat, s.heap.size ≤ q → A q := fun q h => by rw [← hAe]; exact Or.inr h
  have hS : va_S A s.heap s.heap [] := va_S.rf
  have hx := B.exec
  have hb := B.bytes
  have hr := B.returns
  have hts := atoms_spec (ws := wsX10_here) B.pre
  have hown : s.vm.findClass RX10 = some m.cls := findClass_of_methodNamed B.named
  have hlocks := B.notSynchronized
  have hK := hE.1
  have in_X10 : ∀ w ∈ u_ws RX10 TX10 79, w ∈ wsX10_here := fun w h => List.mem_cons_of_mem _ (List.mem_append_right _ h)
  have lk0 := hts (.fieldLink RX10 180 "TidedGroundModel" "at0" "I") (List.mem_of_getElem? (i := 1) rfl)
  have lk1 := hts (.fieldLink RX10 176 "TidedGroundModel" "texted" "I") (List.mem_of_getElem? (i := 2) rfl)
  have lk2 := hts (.fieldLink RX10 71 "TidedGroundModel" "text" "[I") (List.mem_of_getElem? (i := 3) rfl)
  have n_m1 : ((-1) : Int32).toInt = -1 := by decide
  have n_0 : (0 : Int32).toInt = 0 := by decide
  have n_1 : (1 : Int32).toInt = 1 := by decide
  have n_32 : (32 : Int32).toInt = 32 := by decide
  have hl := lv_entry ([.ref (am 0)]) (n := 1) (Nat.le_of_ble_eq_true rfl)
  rw [lg_entry_eq]
  generalize (lg_sl ([.ref (am 0)]) ++ List.replicate (1 - (lg_sl ([.ref (am 0)])).length) Slot.unset).toArray = ls at hl ⊢
  have hl : lv_has ls 1 [(0, .ref (am 0))] := hl
  refine W_abs (fun Q hQ => ?_)
  have hH := hMI.1
  obtain ⟨hT1, hT2, hT3, hT4, hT5⟩ := id hH.2.2.2.2.2.2
  obtain ⟨ha1, ha2⟩ := id hat
  have hFz : fr lRd vm vm := fr.rf
  have K0 : ∀ (μ : Nat) (vk : Vf) (H : Heap) (locs : List Loc) (ls : Array Slot), ((vm 32 0).toInt - (vk 34 0).toInt).toNat < μ → va_P (eD E) vwCl (mdL E am vk) H → va_D A (mdL E am vk) → va_S A s.heap H locs → (sn vm vk) → ((vm 34 0).toInt ≤ (vk 34 0).toInt) → ((vk 34 0).toInt ≤ (vk 32 0).toInt) → ((vk 32 0).toInt = (vm 32 0).toInt) → (fr lRd vm vk) → (skp (vm 31) (vm 32 0).toInt (vk 34 0).toInt = skp (vm 31) (vm 32 0).toInt (vm 34 0).toInt) → (vk 33 = vm 33 ∧ vk 35 = vm 35 ∧ vk 36 = vm 36) → lv_has ls 1 [(0, .ref (am 0))] → W p l e (headSpec wsX10_here rm_X10_here).room s m ([.ref (am 0)] : List Value).toArray below meth c H locs 0 0 Q (F0 m 0 ls []) := by
    intro μ
    induction μ with
    | zero =>
      intro vk H locs ls hμ0
      exact absurd hμ0 (Nat.not_lt_zero _)
    | succ μ ih0 =>
      intro vk H locs ls hμ0 hP hD hS h0_0 h0_1 h0_2 h0_3 h0_4 h0_5 h0_6 hl
      have hx0_0 := h0_5
      clear h0_5
      have hx0_1 := h0_6
      clear h0_6
      have hFz := h0_4
      refine lv_aload_n hx hb dX10_here_0 rfl (lv_at hl 0 rfl) ?_
      refine va_get (D := eD E) (ci := 10) (v := .int (vk 34 0)) (C := RX10) (T := TX10) (N := 79) hx hb hts in_X10 hown hK hP 0 rfl rfl 34 (by decide) lk0 (fun _ h9 => h9) rfl dX10_here_1 ?_
      refine lv_aload_n hx hb dX10_here_4 rfl (lv_at hl 0 rfl) ?_
      refine va_get (D := eD E) (ci := 10) (v := .int (vk 32 0)) (C := RX10) (T := TX10) (N := 79) hx hb hts in_X10 hown hK hP 0 rfl rfl 32 (by decide) lk1 (fun _ h9 => h9) rfl dX10_here_5 ?_
      refine lv_icmp_ge (tgt := 38) hx hb dX10_here_8 (by decide) (fun c8 => ?_) (fun c8 => ?_)
      · have c8_ := i_le c8
        refine lv_aload_n hx hb dX10_here_38 rfl (lv_at hl 0 rfl) ?_
        refine va_get (D := eD E) (ci := 10) (v := .int (vk 34 0)) (C := RX10) (T := TX10) (N := 79) hx hb hts in_X10 hown hK hP 0 rfl rfl 34 (by decide) lk0 (fun _ h9 => h9) rfl dX10_here_39 ?_
        refine lv_aload_n hx hb dX10_here_42 rfl (lv_at hl 0 rfl) ?_
        refine va_get (D := eD E) (ci := 10) (v := .int (vk 32 0)) (C := RX10) (T := TX10) (N := 79) hx hb hts in_X10 hown hK hP 0 rfl rfl 32 (by decide) lk1 (fun _ h9 => h9) rfl dX10_here_43 ?_
        refine lv_icmp_ge (tgt := 61) hx hb dX10_here_46 (by decide) (fun c46 => ?_) (fun c46 => ?_)
        · have c46_ := i_le c46
          refine lv_iconst (v := (-1)) hx hb dX10_here_61 (by decide) ?_
          subst hQ
          exact W.iret (v := (-1)) hx hb hr (fun t ht hW => ⟨⟨(-1), (vk), rfl, (show ((sn vm vk ∧ atI vk ∧ (vm 34 0).toInt ≤ (vk 34 0).toInt ∧ (((-1) : Int32).toInt = -1 ∨ (vk 34 0).toInt < (vm 32 0).toInt)) ∧ fr lRd vm vk) ∧ ((vk 34 0).toInt = skp (vm 31) (vm 32 0).toInt (vm 34 0).toInt ∧ (vk 33 = vm 33 ∧ vk 35 = vm 35 ∧ vk 36 = vm 36) ∧ ((((-1) : Int32).toInt = -1 ∧ (vm 32 0).toInt ≤ (vk 34 0).toInt) ∨ (((-1) : Int32).toInt = tc (vm 31) (vk 34 0).toInt ∧ (vk 34 0).toInt < (vm 32 0).toInt))) from ⟨⟨⟨h0_0, ⟨by omega, by omega⟩, by omega, by omega⟩, hFz⟩, ⟨sk_out hx0_0 (by omega), hx0_1, (by omega)⟩⟩), by rw [ht]; exact hP, hD⟩, hS.F ht⟩) hS.2.2 dX10_here_62
        · have c46_ := i_nle c46
          refine lv_aload_n hx hb dX10_here_49 rfl (lv_at hl 0 rfl) ?_
          refine va_get (D := eD E) (ci := 10) (v := .ref (am 31)) (C := RX10) (T := TX10) (N := 79) hx hb hts in_X10 hown hK hP 0 rfl rfl 31 (by decide) lk2 (fun _ h9 => h9) rfl dX10_here_50 ?_
          refine lv_aload_n hx hb dX10_here_53 rfl (lv_at hl 0 rfl) ?_
          refine va_get (D := eD E) (ci := 10) (v := .int (vk 34 0)) (C := RX10) (T := TX10) (N := 79) hx hb hts in_X10 hown hK hP 0 rfl rfl 34 (by decide) lk0 (fun _ h9 => h9) rfl dX10_here_54 ?_
          refine va_iald hx hb hK hP 19 0 rfl rfl (n := 250) (f := (vk 31)) (i_in (by omega) (by omega)) dX10_here_57 ?_
          refine lv_topi (fun x57 e57 => ?_)
          have tx57 : x57.toInt = tc (vm 31) (vk 34 0).toInt := by rw [e57, h0_0 31 (by decide) (by decide) (by decide) (by decide)]; rfl
          refine lv_goto (tgt := 62) hx hb dX10_here_58 (by decide) ?_
          subst hQ
          exact W.iret (v := x57) hx hb hr (fun t ht hW => ⟨⟨x57, (vk), rfl, (show ((sn vm vk ∧ atI vk ∧ (vm 34 0).toInt ≤ (vk 34 0).toInt ∧ (x57.toInt = -1 ∨ (vk 34 0).toInt < (vm 32 0).toInt)) ∧ fr lRd vm vk) ∧ ((vk 34 0).toInt = skp (vm 31) (vm 32 0).toInt (vm 34 0).toInt ∧ (vk 33 = vm 33 ∧ vk 35 = vm 35 ∧ vk 36 = vm 36) ∧ ((x57.toInt = -1 ∧ (vm 32 0).toInt ≤ (vk 34 0).toInt) ∨ (x57.toInt = tc (vm 31) (vk 34 0).toInt ∧ (vk 34 0).toInt < (vm 32 0).toInt))) from ⟨⟨⟨h0_0, ⟨by omega, by omega⟩, by omega, by omega⟩, hFz⟩, ⟨sk_out hx0_0 (by omega), hx0_1, (by omega)⟩⟩), by rw [ht]; exact hP, hD⟩, hS.F ht⟩) hS.2.2 dX10_here_62
      · have c8_ := i_nle c8
        refine lv_aload_n hx hb dX10_here_11 rfl (lv_at hl 0 rfl) ?_
        refine va_get (D := eD E) (ci := 10) (v := .ref (am 31)) (C := RX10) (T := TX10) (N := 79) hx hb hts in_X10 hown hK hP 0 rfl rfl 31 (by decide) lk2 (fun _ h9 => h9) rfl dX10_here_12 ?_
        refine lv_aload_n hx hb dX10_here_15 rfl (lv_at hl 0 rfl) ?_
        refine va_get (D := eD E) (ci := 10) (v := .int (vk 34 0)) (C := RX10) (T := TX10) (N := 79) hx hb hts in_X10 hown hK hP 0 rfl rfl 34 (by decide) lk0 (fun _ h9 => h9) rfl dX10_here_16 ?_
        refine va_iald hx hb hK hP 19 0 rfl rfl (n := 250) (f := (vk 31)) (i_in (by omega) (by omega)) dX10_here_19 ?_
        refine lv_topi (fun x19 e19 => ?_)
        have tx19 : x19.toInt = tc (vm 31) (vk 34 0).toInt := by rw [e19, h0_0 31 (by decide) (by decide) (by decide) (by decide)]; rfl
        refine lv_bipush (v := 32) hx hb dX10_here_20 (by decide) ?_
        refine lv_icmp_ne (tgt := 38) hx hb dX10_here_22 (by decide) (fun c22 => ?_) (fun c22 => ?_)
        · have c22_ := i_ne c22
          refine lv_aload_n hx hb dX10_here_38 rfl (lv_at hl 0 rfl) ?_
          refine va_get (D := eD E) (ci := 10) (v := .int (vk 34 0)) (C := RX10) (T := TX10) (N := 79) hx hb hts in_X10 hown hK hP 0 rfl rfl 34 (by decide) lk0 (fun _ h9 => h9) rfl dX10_here_39 ?_
          refine lv_aload_n hx hb dX10_here_42 rfl (lv_at hl 0 rfl) ?_
          refine va_get (D := eD E) (ci := 10) (v := .int (vk 32 0)) (C := RX10) (T := TX10) (N := 79) hx hb hts in_X10 hown hK hP 0 rfl rfl 32 (by decide) lk1 (fun _ h9 => h9) rfl dX10_here_43 ?_
          refine lv_icmp_ge (tgt := 61) hx hb dX10_here_46 (by decide) (fun c46 => ?_) (fun c46 => ?_)
          · have c46_ := i_le c46
            refine lv_iconst (v := (-1)) hx hb dX10_here_61 (by decide) ?_
            subst hQ
            exact W.iret (v := (-1)) hx hb hr (fun t ht hW => ⟨⟨(-1), (vk), rfl, (show ((sn vm vk ∧ atI vk ∧ (vm 34 0).toInt ≤ (vk 34 0).toInt ∧ (((-1) : Int32).toInt = -1 ∨ (vk 34 0).toInt < (vm 32 0).toInt)) ∧ fr lRd vm vk) ∧ ((vk 34 0).toInt = skp (vm 31) (vm 32 0).toInt (vm 34 0).toInt ∧ (vk 33 = vm 33 ∧ vk 35 = vm 35 ∧ vk 36 = vm 36) ∧ ((((-1) : Int32).toInt = -1 ∧ (vm 32 0).toInt ≤ (vk 34 0).toInt) ∨ (((-1) : Int32).toInt = tc (vm 31) (vk 34 0).toInt ∧ (vk 34 0).toInt < (vm 32 0).toInt))) from ⟨⟨⟨h0_0, ⟨by omega, by omega⟩, by omega, by omega⟩, hFz⟩, ⟨sk_out hx0_0 (by omega), hx0_1, (by omega)⟩⟩), by rw [ht]; exact hP, hD⟩, hS.F ht⟩) hS.2.2 dX10_here_62
          · have c46_ := i_nle c46
            refine lv_aload_n hx hb dX10_here_49 rfl (lv_at hl 0 rfl) ?_
            refine va_get (D := eD E) (ci := 10) (v := .ref (am 31)) (C := RX10) (T := TX10) (N := 79) hx hb hts in_X10 hown hK hP 0 rfl rfl 31 (by decide) lk2 (fun _ h9 => h9) rfl dX10_here_50 ?_
            refine lv_aload_n hx hb dX10_here_53 rfl (lv_at hl 0 rfl) ?_
            refine va_get (D := eD E) (ci := 10) (v := .int (vk 34 0)) (C := RX10) (T := TX10) (N := 79) hx hb hts in_X10 hown hK hP 0 rfl rfl 34 (by decide) lk0 (fun _ h9 => h9) rfl dX10_here_54 ?_
            refine va_iald hx hb hK hP 19 0 rfl rfl (n := 250) (f := (vk 31)) (i_in (by omega) (by omega)) dX10_here_57 ?_
            refine lv_topi (fun x57 e57 => ?_)
            have tx57 : x57.toInt = tc (vm 31) (vk 34 0).toInt := by rw [e57, h0_0 31 (by decide) (by decide) (by decide) (by decide)]; rfl
            refine lv_goto (tgt := 62) hx hb dX10_here_58 (by decide) ?_
            subst hQ
            exact W.iret (v := x57) hx hb hr (fun t ht hW => ⟨⟨x57, (vk), rfl, (show ((sn vm vk ∧ atI vk ∧ (vm 34 0).toInt ≤ (vk 34 0).toInt ∧ (x57.toInt = -1 ∨ (vk 34 0).toInt < (vm 32 0).toInt)) ∧ fr lRd vm vk) ∧ ((vk 34 0).toInt = skp (vm 31) (vm 32 0).toInt (vm 34 0).toInt ∧ (vk 33 = vm 33 ∧ vk 35 = vm 35 ∧ vk 36 = vm 36) ∧ ((x57.toInt = -1 ∧ (vm 32 0).toInt ≤ (vk 34 0).toInt) ∨ (x57.toInt = tc (vm 31) (vk 34 0).toInt ∧ (vk 34 0).toInt < (vm 32 0).toInt))) from ⟨⟨⟨h0_0, ⟨by omega, by omega⟩, by omega, by omega⟩, hFz⟩, ⟨sk_out hx0_0 (by omega), hx0_1, (by omega)⟩⟩), by rw [ht]; exact hP, hD⟩, hS.F ht⟩) hS.2.2 dX10_here_62
        · have c22_ := i_eq c22
          refine lv_aload_n hx hb dX10_here_25 rfl (lv_at hl 0 rfl) ?_
          refine lv_dup hx hb dX10_here_26 rfl ?_
          refine va_get (D := eD E) (ci := 10) (v := .int (vk 34 0)) (C := RX10) (T := TX10) (N := 79) hx hb hts in_X10 hown hK hP 0 rfl rfl 34 (by decide) lk0 (fun _ h9 => h9) rfl dX10_here_27 ?_
          refine lv_iconst (v := 1) hx hb dX10_here_30 (by decide) ?_
          refine lv_iadd hx hb dX10_here_31 ?_
          refine lv_topi (fun x31 e31 => ?_)
          have t31 := i_add e31 (by omega)
          have t31 := i_add e31 (by omega)
          refine va_put (D := eD E) (ci := 10) (v := .int x31) (ty := .int) (C := RX10) (T := TX10) (N := 79) hx hb hts in_X10 tyX10 tyX10_ok nmX10 hown hK hP hD hS 0 rfl rfl 34 (by decide) lk0 (fun _ h9 => h9) rfl (by decide +kernel) rfl rfl (Nat.le_of_ble_eq_true rfl) dX10_here_32 (fun H locs hP hD hS => ?_)
          replace hP : va_P (eD E) vwCl (mdL E am (up2 vk 34 0 x31)) H := hP
          replace hD : va_D A (mdL E am (up2 vk 34 0 x31)) := hD
          generalize hv32 : up2 vk 34 0 x31 = vm_32 at hP hD
          have hFz : fr lRd vm vm_32 := by first | exact hFz | (rw [← hv32]; exact hFz.up (by decide))
          have hq32 : (vm_32 34 0).toInt = x31.toInt := by rw [← hv32]; rfl
          have hs32 : sn vm vm_32 := by rw [← hv32]; exact h0_0.up (by omega)
          have hq32t : (vm_32 32 0).toInt = (vk 32 0).toInt := by rw [← hv32]; rfl
          refine lv_goto (tgt := 0) hx hb dX10_here_35 (by decide) ?_
          exact ih0  vm_32 _ _ ls (by omega) hP hD hS hs32 (by omega) (by omega) (by omega) hFz (by rw [hq32, show x31.toInt = (vk 34 0).toInt + 1 by omega]; exact (skp_step (by omega) (by omega)).trans hx0_0) (by rw [← hv32]; exact hx0_1) (lv_sub hl [0] rfl)
  exact K0 _  vm _ _ ls (Nat.lt_succ_self _) hP hD hS sn.rf (by omega) ha2 rfl hFz rfl ⟨rfl, rfl, rfl⟩ (lv_sub hl [0] rfl)
def rm_X10_takeNumber : Room := { frames := 1, cells := 0, slots := 0, locals := 25 }
set_option maxHeartbeats 4000000 in
set_option maxRecDepth 100000 in
theorem c_X10_takeNumber (l : Launch) (E : Ev) (sz : Nat) (am : Nat → Nat) (vm : Vf) (lo : Int32) (hi : Int32) (hMI : MdI vm) (hat : atI vm) : Met l yX10_takeNumber wsX10_takeNumber rm_X10_takeNumber (MtP E sz [.ref (am 0), .int lo, .int hi] (mdL E am vm)) (va_Qi (fun (r : Int32) (u : Vf) => ((sn vm u ∧ atI u ∧ (vm 34 0).toInt ≤ (u 34 0).toInt ∧ ((r.toInt = 0 ∧ lo.toInt ≤ (u 35 0).toInt ∧ (u 35 0).toInt ≤ hi.toInt) ∨ (1 ≤ r.toInt ∧ r.toInt ≤ 2))) ∧ fr lRd vm u) ∧ (MF (numF (vm 31) (vm 32 0).toInt lo.toInt hi.toInt (vm 34 0).toInt) (vm 33 0).toInt r.toInt (u 33 0).toInt (fun x => (u 35 0).toInt = x.1 ∧ (u 34 0).toInt = x.2.1 ∧ (u 36 0).toInt = x.2.2))) (MtB E (va_A (mdL E am vm) sz) (fun u => mdL E am u)) (va_A (mdL E am vm) sz)) 0 0 (va_A (mdL E am vm) sz) := by
  refine Met.ofW (cc := cX10_takeNumber) (maxL := 4) (ret := (some .int)) (by decide) rfl ?_
  intro p e s m args below meth c s₁ B hml hv
  obtain ⟨rfl, hsz, hE, hP, hD0⟩ := hv
  subst hsz
  have hD := hD0.self (sz := s.heap.size)
  generalize hAe : va_A (mdL E am vm) s.heap.size = A at hD hE ⊢
  have hA : ∀ q : Nat, s.heap.size ≤ q → A q := fun q h => by rw [← hAe]; exact Or.inr h
  have hS : va_S A s.heap s.heap [] := va_S.rf
  have hx := B.exec
  have hb := B.bytes
  have hr := B.returns
  have hts := atoms_spec (ws := wsX10_takeNumber) B.pre
  have hown : s.vm.findClass RX10 = some m.cls := findClass_of_methodNamed B.named
  have hlocks := B.notSynchronized
  have hK := hE.1
  have in_X10 : ∀ w ∈ u_ws RX10 TX10 79, w ∈ wsX10_takeNumber := fun w h => List.mem_cons_of_mem _ (List.mem_append_right _ h)
  have lk0 := hts (.constantLong RX10 187 48) (List.mem_of_getElem? (i := 1) rfl)
  have lk1 := hts (.constantLong RX10 189 57) (List.mem_of_getElem? (i := 2) rfl)
  have lk2 := hts (.fieldLink RX10 180 "TidedGroundModel" "at0" "I") (List.mem_of_getElem? (i := 3) rfl)
  have lk3 := hts (.fieldLink RX10 195 "TidedGroundModel" "numberAt" "I") (List.mem_of_getElem? (i := 4) rfl)
  have lk4 := hts (.fieldLink RX10 198 "TidedGroundModel" "number" "I") (List.mem_of_getElem? (i := 5) rfl)
  have lk5 := hts (.fieldLink RX10 176 "TidedGroundModel" "texted" "I") (List.mem_of_getElem? (i := 6) rfl)
  have lk6 := hts (.fieldLink RX10 71 "TidedGroundModel" "text" "[I") (List.mem_of_getElem? (i := 7) rfl)
  have n_0 : (0 : Int32).toInt = 0 := by decide
  have n_1 : (1 : Int32).toInt = 1 := by decide
  have n_2 : (2 : Int32).toInt = 2 := by decide
  have n_3 : (3 : Int32).toInt = 3 := by decide
  have n_10 : (10 : Int32).toInt = 10 := by decide
  have n_48 : (48 : Int32).toInt = 48 := by decide
  have n_10000 : (10000 : Int32).toInt = 10000 := by decide
  have hl := lv_entry ([.ref (am 0), .int lo, .int hi]) (n := 4) (Nat.le_of_ble_eq_true rfl)
  rw [lg_entry_eq]
  generalize (lg_sl ([.ref (am 0), .int lo, .int hi]) ++ List.replicate (4 - (lg_sl ([.ref (am 0), .int lo, .int hi])).length) Slot.unset).toArray = ls at hl ⊢
  have hl : lv_has ls 4 [(0, .ref (am 0)), (1, .int lo), (2, .int hi)] := hl
  refine W_abs (fun Q hQ => ?_)
  have hH := hMI.1
  obtain ⟨hT1, hT2, hT3, hT4, hT5⟩ := id hH.2.2.2.2.2.2
  obtain ⟨ha1, ha2⟩ := id hat
  have hFz : fr lRd vm vm := fr.rf
  refine lv_aload_n hx hb dX10_takeNumber_0 rfl (lv_at hl 0 rfl) ?_
  refine mt_Vi (w1 := fun (u : Vf) => mdL E am u) (wf := fun (u : Vf) => mdL E am u) (wr := []) (As := []) (rest := []) (C := RX10) (ci := 10) ⟨hx, hb, hml, hown, hts⟩ (c_X10_here l E s.heap.size am vm hMI hat) (cwV 0 hts gX10_takeNumber_X10_here rfl rfl rfl (by decide +kernel) ⟨Nat.le_of_ble_eq_true rfl, Nat.le_of_ble_eq_true rfl⟩) hE hS hA hP hD [0, 1, 2, 3, 4, 5, 6, 7, 8, 9, 10, 11, 12, 13, 14, 15, 16, 17, 18, 19, 20, 21, 22, 23, 24, 25, 26, 27, 28, 29, 30, 31, 32, 33, 34, 35, 36, 37, 38, 39, 40, 41, 42, 43, 44, 45] [] rfl rfl (by decide) (by decide) (by decide) [0, 1, 2, 3, 4, 5, 6, 7, 8, 9, 10, 11, 12, 13, 14, 15, 16, 17, 18, 19, 20, 21, 22, 23, 24, 25, 26, 27, 28, 29, 30, 31, 32, 33, 34, 35, 36, 37, 38, 39, 40, 41, 42, 43, 44, 45] (by decide) (fun u => rfl) rfl rfl rfl rfl hl.1 rfl (Nat.le_of_ble_eq_true rfl) dX10_takeNumber_1 ⟨Nat.zero_le _, Nat.zero_le _⟩ (fun r1 u1 H locs h1 hP hD hS => ?_)
  generalize u1 = o1_vm at hP hD h1
  try dsimp only at h1
  have hf1 := h1.2
  replace h1 := h1.1
  have hFn1 := h1.2
  replace h1 := h1.1
  replace hP : va_P (eD E) vwCl (mdL E am o1_vm) H := hP
  replace hD : va_D A (mdL E am o1_vm) := hD
  have hFz : fr lRd vm o1_vm := by first | exact hFz | exact hFz.tr hFn1 (by decide) | (rw [← hv1]; repeat' (first | exact hFz | refine fr.up ?_ (by decide) | refine fr.up3 ?_ (by decide)))
  have hq1 : (o1_vm 32 0).toInt = (vm 32 0).toInt := by rw [h1.1 32 (by decide) (by decide) (by decide) (by decide)]
  obtain ⟨ha3, ha4⟩ := id h1.2.1
  have hp1 := hf1.1
  have hfr1 := hf1.2.1
  have hrr1 := hf1.2.2
  refine lv_istore_n (lv' := [(3, .int r1), (0, .ref (am 0)), (1, .int lo), (2, .int hi)]) hx hb dX10_takeNumber_4 rfl hl (by decide) rfl (fun ls hl => ?_)
  refine lv_iload_n hx hb dX10_takeNumber_5 rfl (lv_at hl 0 rfl) ?_
  refine lv_i2l hx hb dX10_takeNumber_6 rfl ?_
  refine lv_ldc2 hx hb hown lk0 dX10_takeNumber_7 ?_
  refine lv_ldc2 hx hb hown lk1 dX10_takeNumber_10 ?_
  have lt13_0 : (r1.toInt64).toInt = r1.toInt := Int32.toInt_toInt64 _
  have lt13_1 : (48 : Int64).toInt = 48 := by decide
  have lt13_2 : (57 : Int64).toInt = 57 := by decide
  refine rd_S (As := [.long r1.toInt64, .long 48, .long 57]) (rest := []) ⟨hx, hb, hml, hown, hts⟩ (c_X10_in l E A r1.toInt64 48 57) (va_cwS 3 hts gX10_takeNumber_X10_in rfl rfl rfl (by decide +kernel) ⟨Nat.le_of_ble_eq_true rfl, Nat.le_of_ble_eq_true rfl⟩) (hE.kept hS.2.1) (hP.sub (ws' := []) [] rfl) rfl hl.1 rfl (Nat.le_of_ble_eq_true rfl) dX10_takeNumber_13 ⟨Nat.zero_le _, Nat.zero_le _⟩ (fun r13 h13 => ?_)
  refine lv_if_ne (tgt := 29) hx hb dX10_takeNumber_16 (by decide) (fun c16 => ?_) (fun c16 => ?_)
  · have c16_ := i_ne c16
    replace h13 := or_y h13 c16_
    clear c16_
    have hdg0 : (o1_vm 34 0).toInt < (vm 32 0).toInt ∧ 48 ≤ tc (vm 31) (o1_vm 34 0).toInt ∧ tc (vm 31) (o1_vm 34 0).toInt ≤ 57 := by omega
    clear hrr1 h13 hf1
    replace h1 := (⟨h1.1, h1.2.1, h1.2.2.1⟩ : _ ∧ _ ∧ _)
    refine lv_aload_n hx hb dX10_takeNumber_29 rfl (lv_at hl 1 rfl) ?_
    refine lv_aload_n hx hb dX10_takeNumber_30 rfl (lv_at hl 1 rfl) ?_
    refine va_get (D := eD E) (ci := 10) (v := .int (o1_vm 34 0)) (C := RX10) (T := TX10) (N := 79) hx hb hts in_X10 hown hK hP 0 rfl rfl 34 (by decide) lk2 (fun _ h9 => h9) rfl dX10_takeNumber_31 ?_
    refine va_put (D := eD E) (ci := 10) (v := .int (o1_vm 34 0)) (ty := .int) (C := RX10) (T := TX10) (N := 79) hx hb hts in_X10 tyX10 tyX10_ok nmX10 hown hK hP hD hS 0 rfl rfl 36 (by decide) lk3 (fun _ h9 => h9) rfl (by decide +kernel) rfl rfl (Nat.le_of_ble_eq_true rfl) dX10_takeNumber_34 (fun H locs hP hD hS => ?_)
    replace hP : va_P (eD E) vwCl (mdL E am (up2 o1_vm 36 0 (o1_vm 34 0))) H := hP
    replace hD : va_D A (mdL E am (up2 o1_vm 36 0 (o1_vm 34 0))) := hD
    generalize hv34 : up2 o1_vm 36 0 (o1_vm 34 0) = vm_34 at hP hD
    have hFz : fr lRd vm vm_34 := by first | exact hFz | (rw [← hv34]; exact hFz.up (by decide))
    have hs34 : sn vm vm_34 := by rw [← hv34]; exact h1.1.up (by omega)
    have hq34 : (vm_34 34 0).toInt = (o1_vm 34 0).toInt := by rw [← hv34]; rfl
    have hq34t : (vm_34 32 0).toInt = (o1_vm 32 0).toInt := by rw [← hv34]; rfl
    refine lv_aload_n hx hb dX10_takeNumber_37 rfl (lv_at hl 1 rfl) ?_
    refine lv_iconst (v := 0) hx hb dX10_takeNumber_38 (by decide) ?_
    refine va_put (D := eD E) (ci := 10) (v := .int 0) (ty := .int) (C := RX10) (T := TX10) (N := 79) hx hb hts in_X10 tyX10 tyX10_ok nmX10 hown hK hP hD hS 0 rfl rfl 35 (by decide) lk4 (fun _ h9 => h9) rfl (by decide +kernel) rfl rfl (Nat.le_of_ble_eq_true rfl) dX10_takeNumber_39 (fun H locs hP hD hS => ?_)
    replace hP : va_P (eD E) vwCl (mdL E am (up2 vm_34 35 0 0)) H := hP
    replace hD : va_D A (mdL E am (up2 vm_34 35 0 0)) := hD
    generalize hv39 : up2 vm_34 35 0 0 = vm_39 at hP hD
    have hFz : fr lRd vm vm_39 := by first | exact hFz | (rw [← hv39]; exact hFz.up (by decide))
    have hs39 : sn vm vm_39 := by rw [← hv39]; exact hs34.up (by omega)
    have hq39 : (vm_39 34 0).toInt = (vm_34 34 0).toInt := by rw [← hv39]; rfl
    have hq39t : (vm_39 32 0).toInt = (vm_34 32 0).toInt := by rw [← hv39]; rfl
    have hg39 : vm_39 33 = vm 33 ∧ (vm_39 36 0).toInt = (o1_vm 34 0).toInt ∧ (vm_39 35 0).toInt = 0 := by rw [← hv39, ← hv34]; exact ⟨hfr1.1, rfl, n_0⟩
    have hg39n := hg39.2.2
    have K42 : ∀ (μ : Nat) (vk : Vf) (H : Heap) (locs : List Loc) (ls : Array Slot), ((vm 32 0).toInt - (vk 34 0).toInt).toNat < μ → va_P (eD E) vwCl (mdL E am vk) H → va_D A (mdL E am vk) → va_S A s.heap H locs → (sn vm vk) → ((vm 34 0).toInt ≤ (vk 34 0).toInt) → ((vk 34 0).toInt ≤ (vk 32 0).toInt) → ((vk 32 0).toInt = (vm 32 0).toInt) → (fr lRd vm vk) → (dep (vm 31) (vm 32 0).toInt (vk 34 0).toInt = dep (vm 31) (vm 32 0).toInt (o1_vm 34 0).toInt) → ((vk 34 0).toInt - (o1_vm 34 0).toInt ≤ 3 → (vk 35 0).toInt = vv3 (vm 31) (o1_vm 34 0).toInt ((vk 34 0).toInt - (o1_vm 34 0).toInt).toNat) → (vk 33 = vm 33 ∧ (vk 36 0).toInt = (o1_vm 34 0).toInt) → (0 ≤ (vk 35 0).toInt ∧ (vk 35 0).toInt ≤ 100009 ∧ ((vk 34 0).toInt - (o1_vm 34 0).toInt < 3 → (vk 35 0).toInt ≤ 99) ∧ ((vk 34 0).toInt - (o1_vm 34 0).toInt < 2 → (vk 35 0).toInt ≤ 9) ∧ ((vk 34 0).toInt - (o1_vm 34 0).toInt < 1 → (vk 35 0).toInt = 0)) → ((o1_vm 34 0).toInt ≤ (vk 34 0).toInt) → lv_has ls 4 [(0, .ref (am 0)), (1, .int lo), (2, .int hi)] → W p l e (headSpec wsX10_takeNumber rm_X10_takeNumber).room s m ([.ref (am 0), .int lo, .int hi] : List Value).toArray below meth c H locs 0 0 Q (F0 m 42 ls []) := by
      intro μ
      induction μ with
      | zero =>
        intro vk H locs ls hμ42
        exact absurd hμ42 (Nat.not_lt_zero _)
      | succ μ ih42 =>
        intro vk H locs ls hμ42 hP hD hS h42_0 h42_1 h42_2 h42_3 h42_4 h42_5 h42_6 h42_7 h42_8 h42_9 hl
        have hx42_0 := h42_5
        clear h42_5
        have hx42_1 := h42_6
        clear h42_6
        have hx42_2 := h42_7
        clear h42_7
        have hx42_3 := h42_8
        clear h42_8
        have hx42_4 := h42_9
        clear h42_9
        have hFz := h42_4
        refine lv_aload_n hx hb dX10_takeNumber_42 rfl (lv_at hl 0 rfl) ?_
        refine va_get (D := eD E) (ci := 10) (v := .int (vk 34 0)) (C := RX10) (T := TX10) (N := 79) hx hb hts in_X10 hown hK hP 0 rfl rfl 34 (by decide) lk2 (fun _ h9 => h9) rfl dX10_takeNumber_43 ?_
        refine lv_aload_n hx hb dX10_takeNumber_46 rfl (lv_at hl 0 rfl) ?_
        refine va_get (D := eD E) (ci := 10) (v := .int (vk 32 0)) (C := RX10) (T := TX10) (N := 79) hx hb hts in_X10 hown hK hP 0 rfl rfl 32 (by decide) lk5 (fun _ h9 => h9) rfl dX10_takeNumber_47 ?_
        refine lv_icmp_ge (tgt := 129) hx hb dX10_takeNumber_50 (by decide) (fun c50 => ?_) (fun c50 => ?_)
        · have c50_ := i_le c50
          have hk36 := hx42_2.2
          have hstop : (vm 32 0).toInt ≤ (vk 34 0).toInt ∨ tc (vm 31) (vk 34 0).toInt < 48 ∨ 57 < tc (vm 31) (vk 34 0).toInt := by omega
          try clear h69
          have hde := de_out hx42_0 hstop
          clear hstop hx42_3
          refine lv_aload_n hx hb dX10_takeNumber_129 rfl (lv_at hl 0 rfl) ?_
          refine va_get (D := eD E) (ci := 10) (v := .int (vk 34 0)) (C := RX10) (T := TX10) (N := 79) hx hb hts in_X10 hown hK hP 0 rfl rfl 34 (by decide) lk2 (fun _ h9 => h9) rfl dX10_takeNumber_130 ?_
          refine lv_aload_n hx hb dX10_takeNumber_133 rfl (lv_at hl 0 rfl) ?_
          refine va_get (D := eD E) (ci := 10) (v := .int (vk 36 0)) (C := RX10) (T := TX10) (N := 79) hx hb hts in_X10 hown hK hP 0 rfl rfl 36 (by decide) lk3 (fun _ h9 => h9) rfl dX10_takeNumber_134 ?_
          refine lv_isub hx hb dX10_takeNumber_137 ?_
          refine lv_topi (fun x137 e137 => ?_)
          have t137 := i_sub e137 (by omega)
          refine lv_iconst (v := 3) hx hb dX10_takeNumber_138 (by decide) ?_
          refine lv_icmp_gt (tgt := 157) hx hb dX10_takeNumber_139 (by decide) (fun c139 => ?_) (fun c139 => ?_)
          · have c139_ := i_lt c139
            have hbig : 3 < (vk 34 0).toInt - (o1_vm 34 0).toInt := by omega
            refine lv_aload_n hx hb dX10_takeNumber_157 rfl (lv_at hl 0 rfl) ?_
            refine lv_iconst (v := 2) hx hb dX10_takeNumber_158 (by decide) ?_
            refine lv_aload_n hx hb dX10_takeNumber_159 rfl (lv_at hl 0 rfl) ?_
            refine va_get (D := eD E) (ci := 10) (v := .int (vk 36 0)) (C := RX10) (T := TX10) (N := 79) hx hb hts in_X10 hown hK hP 0 rfl rfl 36 (by decide) lk3 (fun _ h9 => h9) rfl dX10_takeNumber_160 ?_
            refine mt_Vi (w1 := fun (u : Vf) => mdL E am u) (wf := fun (u : Vf) => mdL E am u) (wr := []) (As := [.int 2, .int (vk 36 0)]) (rest := []) (C := RX10) (ci := 10) ⟨hx, hb, hml, hown, hts⟩ (c_X10_fails l E H.size am vk 2 (vk 36 0)) (cwV 2 hts gX10_takeNumber_X10_fails rfl rfl rfl (by decide +kernel) ⟨Nat.le_of_ble_eq_true rfl, Nat.le_of_ble_eq_true rfl⟩) hE hS hA hP hD [0, 1, 2, 3, 4, 5, 6, 7, 8, 9, 10, 11, 12, 13, 14, 15, 16, 17, 18, 19, 20, 21, 22, 23, 24, 25, 26, 27, 28, 29, 30, 31, 32, 33, 34, 35, 36, 37, 38, 39, 40, 41, 42, 43, 44, 45] [] rfl rfl (by decide) (by decide) (by decide) [0, 1, 2, 3, 4, 5, 6, 7, 8, 9, 10, 11, 12, 13, 14, 15, 16, 17, 18, 19, 20, 21, 22, 23, 24, 25, 26, 27, 28, 29, 30, 31, 32, 33, 34, 35, 36, 37, 38, 39, 40, 41, 42, 43, 44, 45] (by decide) (fun u => rfl) rfl rfl rfl rfl hl.1 rfl (Nat.le_of_ble_eq_true rfl) dX10_takeNumber_163 ⟨Nat.zero_le _, Nat.zero_le _⟩ (fun r163 u163 H locs h163 hP hD hS => ?_)
            generalize u163 = o163_vm at hP hD h163
            try dsimp only at h163
            have hf163 := h163.2
            replace h163 := h163.1
            have hFn163 := h163.2
            replace h163 := h163.1
            replace hP : va_P (eD E) vwCl (mdL E am o163_vm) H := hP
            replace hD : va_D A (mdL E am o163_vm) := hD
            have hFz : fr lRd vm o163_vm := by first | exact hFz | exact hFz.tr hFn163 (by decide) | (rw [← hv163]; repeat' (first | exact hFz | refine fr.up ?_ (by decide) | refine fr.up3 ?_ (by decide)))
            have hs163 := h42_0.tr h163.2.1
            have hq163 : (o163_vm 34 0).toInt = (vk 34 0).toInt := by rw [h163.2.2]
            have hq163t : (o163_vm 32 0).toInt = (vk 32 0).toInt := by rw [h163.2.1 32 (by decide) (by decide) (by decide) (by decide)]
            have hr163 : r163.toInt = 2 := by rw [h163.1]; decide
            have hw163 : (o163_vm 33 0).toInt = (vk 36 0).toInt := by rw [hf163]; rfl
            refine lv_goto (tgt := 170) hx hb dX10_takeNumber_166 (by decide) ?_
            subst hQ
            exact W.iret (v := r163) hx hb hr (fun t ht hW => ⟨⟨r163, (o163_vm), rfl, (show ((sn vm o163_vm ∧ atI o163_vm ∧ (vm 34 0).toInt ≤ (o163_vm 34 0).toInt ∧ ((r163.toInt = 0 ∧ lo.toInt ≤ (o163_vm 35 0).toInt ∧ (o163_vm 35 0).toInt ≤ hi.toInt) ∨ (1 ≤ r163.toInt ∧ r163.toInt ≤ 2))) ∧ fr lRd vm o163_vm) ∧ (MF (numF (vm 31) (vm 32 0).toInt lo.toInt hi.toInt (vm 34 0).toInt) (vm 33 0).toInt r163.toInt (o163_vm 33 0).toInt (fun x => (o163_vm 35 0).toInt = x.1 ∧ (o163_vm 34 0).toInt = x.2.1 ∧ (o163_vm 36 0).toInt = x.2.2)) from ⟨⟨⟨hs163, ⟨by omega, by omega⟩, by omega, by omega⟩, hFz⟩, (MF.no (by first | exact num_no2 hp1 hdg0 hde rfl (Or.inl hbig) | exact num_no2 hp1 hdg0 hde hval (by omega)) (by omega) (by omega))⟩), by rw [ht]; exact hP, hD⟩, hS.F ht⟩) hS.2.2 dX10_takeNumber_170
          · have c139_ := i_nlt c139
            have hsm : (vk 34 0).toInt - (o1_vm 34 0).toInt ≤ 3 := by omega
            have hval := hx42_1 hsm
            refine lv_aload_n hx hb dX10_takeNumber_142 rfl (lv_at hl 0 rfl) ?_
            refine va_get (D := eD E) (ci := 10) (v := .int (vk 35 0)) (C := RX10) (T := TX10) (N := 79) hx hb hts in_X10 hown hK hP 0 rfl rfl 35 (by decide) lk4 (fun _ h9 => h9) rfl dX10_takeNumber_143 ?_
            refine lv_i2l hx hb dX10_takeNumber_146 rfl ?_
            refine lv_iload_n hx hb dX10_takeNumber_147 rfl (lv_at hl 1 rfl) ?_
            refine lv_i2l hx hb dX10_takeNumber_148 rfl ?_
            refine lv_iload_n hx hb dX10_takeNumber_149 rfl (lv_at hl 2 rfl) ?_
            refine lv_i2l hx hb dX10_takeNumber_150 rfl ?_
            have lt151_0 : ((vk 35 0).toInt64).toInt = (vk 35 0).toInt := Int32.toInt_toInt64 _
            have lt151_1 : (lo.toInt64).toInt = lo.toInt := Int32.toInt_toInt64 _
            have lt151_2 : (hi.toInt64).toInt = hi.toInt := Int32.toInt_toInt64 _
            refine rd_S (As := [.long (vk 35 0).toInt64, .long lo.toInt64, .long hi.toInt64]) (rest := []) ⟨hx, hb, hml, hown, hts⟩ (c_X10_in l E A ((vk 35 0).toInt64) lo.toInt64 hi.toInt64) (va_cwS 3 hts gX10_takeNumber_X10_in rfl rfl rfl (by decide +kernel) ⟨Nat.le_of_ble_eq_true rfl, Nat.le_of_ble_eq_true rfl⟩) (hE.kept hS.2.1) (hP.sub (ws' := []) [] rfl) rfl hl.1 rfl (Nat.le_of_ble_eq_true rfl) dX10_takeNumber_151 ⟨Nat.zero_le _, Nat.zero_le _⟩ (fun r151 h151 => ?_)
            refine lv_if_ne (tgt := 169) hx hb dX10_takeNumber_154 (by decide) (fun c154 => ?_) (fun c154 => ?_)
            · have c154_ := i_ne c154
              replace h151 := or_y h151 c154_
              clear c154_
              refine lv_iconst (v := 0) hx hb dX10_takeNumber_169 (by decide) ?_
              subst hQ
              exact W.iret (v := 0) hx hb hr (fun t ht hW => ⟨⟨0, (vk), rfl, (show ((sn vm vk ∧ atI vk ∧ (vm 34 0).toInt ≤ (vk 34 0).toInt ∧ (((0 : Int32).toInt = 0 ∧ lo.toInt ≤ (vk 35 0).toInt ∧ (vk 35 0).toInt ≤ hi.toInt) ∨ (1 ≤ (0 : Int32).toInt ∧ (0 : Int32).toInt ≤ 2))) ∧ fr lRd vm vk) ∧ (MF (numF (vm 31) (vm 32 0).toInt lo.toInt hi.toInt (vm 34 0).toInt) (vm 33 0).toInt (0 : Int32).toInt (vk 33 0).toInt (fun x => (vk 35 0).toInt = x.1 ∧ (vk 34 0).toInt = x.2.1 ∧ (vk 36 0).toInt = x.2.2)) from ⟨⟨⟨h42_0, ⟨by omega, by omega⟩, by omega, by omega⟩, hFz⟩, (MF.ok (num_ok hp1 hdg0 hde hval (by omega)) n_0 (by rw [hx42_2.1]) ⟨rfl, rfl, hx42_2.2⟩)⟩), by rw [ht]; exact hP, hD⟩, hS.F ht⟩) hS.2.2 dX10_takeNumber_170
            · have c154_ := i_eq c154
              replace h151 := or_n h151 c154_
              refine lv_aload_n hx hb dX10_takeNumber_157 rfl (lv_at hl 0 rfl) ?_
              refine lv_iconst (v := 2) hx hb dX10_takeNumber_158 (by decide) ?_
              refine lv_aload_n hx hb dX10_takeNumber_159 rfl (lv_at hl 0 rfl) ?_
              refine va_get (D := eD E) (ci := 10) (v := .int (vk 36 0)) (C := RX10) (T := TX10) (N := 79) hx hb hts in_X10 hown hK hP 0 rfl rfl 36 (by decide) lk3 (fun _ h9 => h9) rfl dX10_takeNumber_160 ?_
              refine mt_Vi (w1 := fun (u : Vf) => mdL E am u) (wf := fun (u : Vf) => mdL E am u) (wr := []) (As := [.int 2, .int (vk 36 0)]) (rest := []) (C := RX10) (ci := 10) ⟨hx, hb, hml, hown, hts⟩ (c_X10_fails l E H.size am vk 2 (vk 36 0)) (cwV 2 hts gX10_takeNumber_X10_fails rfl rfl rfl (by decide +kernel) ⟨Nat.le_of_ble_eq_true rfl, Nat.le_of_ble_eq_true rfl⟩) hE hS hA hP hD [0, 1, 2, 3, 4, 5, 6, 7, 8, 9, 10, 11, 12, 13, 14, 15, 16, 17, 18, 19, 20, 21, 22, 23, 24, 25, 26, 27, 28, 29, 30, 31, 32, 33, 34, 35, 36, 37, 38, 39, 40, 41, 42, 43, 44, 45] [] rfl rfl (by decide) (by decide) (by decide) [0, 1, 2, 3, 4, 5, 6, 7, 8, 9, 10, 11, 12, 13, 14, 15, 16, 17, 18, 19, 20, 21, 22, 23, 24, 25, 26, 27, 28, 29, 30, 31, 32, 33, 34, 35, 36, 37, 38, 39, 40, 41, 42, 43, 44, 45] (by decide) (fun u => rfl) rfl rfl rfl rfl hl.1 rfl (Nat.le_of_ble_eq_true rfl) dX10_takeNumber_163 ⟨Nat.zero_le _, Nat.zero_le _⟩ (fun r163 u163 H locs h163 hP hD hS => ?_)
              generalize u163 = o163_vm at hP hD h163
              try dsimp only at h163
              have hf163 := h163.2
              replace h163 := h163.1
              have hFn163 := h163.2
              replace h163 := h163.1
              replace hP : va_P (eD E) vwCl (mdL E am o163_vm) H := hP
              replace hD : va_D A (mdL E am o163_vm) := hD
              have hFz : fr lRd vm o163_vm := by first | exact hFz | exact hFz.tr hFn163 (by decide) | (rw [← hv163]; repeat' (first | exact hFz | refine fr.up ?_ (by decide) | refine fr.up3 ?_ (by decide)))
              have hs163 := h42_0.tr h163.2.1
              have hq163 : (o163_vm 34 0).toInt = (vk 34 0).toInt := by rw [h163.2.2]
              have hq163t : (o163_vm 32 0).toInt = (vk 32 0).toInt := by rw [h163.2.1 32 (by decide) (by decide) (by decide) (by decide)]
              have hr163 : r163.toInt = 2 := by rw [h163.1]; decide
              have hw163 : (o163_vm 33 0).toInt = (vk 36 0).toInt := by rw [hf163]; rfl
              refine lv_goto (tgt := 170) hx hb dX10_takeNumber_166 (by decide) ?_
              subst hQ
              exact W.iret (v := r163) hx hb hr (fun t ht hW => ⟨⟨r163, (o163_vm), rfl, (show ((sn vm o163_vm ∧ atI o163_vm ∧ (vm 34 0).toInt ≤ (o163_vm 34 0).toInt ∧ ((r163.toInt = 0 ∧ lo.toInt ≤ (o163_vm 35 0).toInt ∧ (o163_vm 35 0).toInt ≤ hi.toInt) ∨ (1 ≤ r163.toInt ∧ r163.toInt ≤ 2))) ∧ fr lRd vm o163_vm) ∧ (MF (numF (vm 31) (vm 32 0).toInt lo.toInt hi.toInt (vm 34 0).toInt) (vm 33 0).toInt r163.toInt (o163_vm 33 0).toInt (fun x => (o163_vm 35 0).toInt = x.1 ∧ (o163_vm 34 0).toInt = x.2.1 ∧ (o163_vm 36 0).toInt = x.2.2)) from ⟨⟨⟨hs163, ⟨by omega, by omega⟩, by omega, by omega⟩, hFz⟩, (MF.no (by first | exact num_no2 hp1 hdg0 hde rfl (Or.inl hbig) | exact num_no2 hp1 hdg0 hde hval (by omega)) (by omega) (by omega))⟩), by rw [ht]; exact hP, hD⟩, hS.F ht⟩) hS.2.2 dX10_takeNumber_170
        · have c50_ := i_nle c50
          refine lv_aload_n hx hb dX10_takeNumber_53 rfl (lv_at hl 0 rfl) ?_
          refine va_get (D := eD E) (ci := 10) (v := .ref (am 31)) (C := RX10) (T := TX10) (N := 79) hx hb hts in_X10 hown hK hP 0 rfl rfl 31 (by decide) lk6 (fun _ h9 => h9) rfl dX10_takeNumber_54 ?_
          refine lv_aload_n hx hb dX10_takeNumber_57 rfl (lv_at hl 0 rfl) ?_
          refine va_get (D := eD E) (ci := 10) (v := .int (vk 34 0)) (C := RX10) (T := TX10) (N := 79) hx hb hts in_X10 hown hK hP 0 rfl rfl 34 (by decide) lk2 (fun _ h9 => h9) rfl dX10_takeNumber_58 ?_
          refine va_iald hx hb hK hP 19 0 rfl rfl (n := 250) (f := (vk 31)) (i_in (by omega) (by omega)) dX10_takeNumber_61 ?_
          refine lv_topi (fun x61 e61 => ?_)
          have tx61 : x61.toInt = tc (vm 31) (vk 34 0).toInt := by rw [e61, h42_0 31 (by decide) (by decide) (by decide) (by decide)]; rfl
          refine lv_i2l hx hb dX10_takeNumber_62 rfl ?_
          refine lv_ldc2 hx hb hown lk0 dX10_takeNumber_63 ?_
          refine lv_ldc2 hx hb hown lk1 dX10_takeNumber_66 ?_
          have lt69_0 : (x61.toInt64).toInt = x61.toInt := Int32.toInt_toInt64 _
          have lt69_1 : (48 : Int64).toInt = 48 := by decide
          have lt69_2 : (57 : Int64).toInt = 57 := by decide
          refine rd_S (As := [.long x61.toInt64, .long 48, .long 57]) (rest := []) ⟨hx, hb, hml, hown, hts⟩ (c_X10_in l E A x61.toInt64 48 57) (va_cwS 3 hts gX10_takeNumber_X10_in rfl rfl rfl (by decide +kernel) ⟨Nat.le_of_ble_eq_true rfl, Nat.le_of_ble_eq_true rfl⟩) (hE.kept hS.2.1) (hP.sub (ws' := []) [] rfl) rfl hl.1 rfl (Nat.le_of_ble_eq_true rfl) dX10_takeNumber_69 ⟨Nat.zero_le _, Nat.zero_le _⟩ (fun r69 h69 => ?_)
          refine lv_if_eq (tgt := 129) hx hb dX10_takeNumber_72 (by decide) (fun c72 => ?_) (fun c72 => ?_)
          · have c72_ := i_eq c72
            replace h69 := or_n h69 c72_
            have hk36 := hx42_2.2
            have hstop : (vm 32 0).toInt ≤ (vk 34 0).toInt ∨ tc (vm 31) (vk 34 0).toInt < 48 ∨ 57 < tc (vm 31) (vk 34 0).toInt := by omega
            try clear h69
            have hde := de_out hx42_0 hstop
            clear hstop hx42_3
            refine lv_aload_n hx hb dX10_takeNumber_129 rfl (lv_at hl 0 rfl) ?_
            refine va_get (D := eD E) (ci := 10) (v := .int (vk 34 0)) (C := RX10) (T := TX10) (N := 79) hx hb hts in_X10 hown hK hP 0 rfl rfl 34 (by decide) lk2 (fun _ h9 => h9) rfl dX10_takeNumber_130 ?_
            refine lv_aload_n hx hb dX10_takeNumber_133 rfl (lv_at hl 0 rfl) ?_
            refine va_get (D := eD E) (ci := 10) (v := .int (vk 36 0)) (C := RX10) (T := TX10) (N := 79) hx hb hts in_X10 hown hK hP 0 rfl rfl 36 (by decide) lk3 (fun _ h9 => h9) rfl dX10_takeNumber_134 ?_
            refine lv_isub hx hb dX10_takeNumber_137 ?_
            refine lv_topi (fun x137 e137 => ?_)
            have t137 := i_sub e137 (by omega)
            refine lv_iconst (v := 3) hx hb dX10_takeNumber_138 (by decide) ?_
            refine lv_icmp_gt (tgt := 157) hx hb dX10_takeNumber_139 (by decide) (fun c139 => ?_) (fun c139 => ?_)
            · have c139_ := i_lt c139
              have hbig : 3 < (vk 34 0).toInt - (o1_vm 34 0).toInt := by omega
              refine lv_aload_n hx hb dX10_takeNumber_157 rfl (lv_at hl 0 rfl) ?_
              refine lv_iconst (v := 2) hx hb dX10_takeNumber_158 (by decide) ?_
              refine lv_aload_n hx hb dX10_takeNumber_159 rfl (lv_at hl 0 rfl) ?_
              refine va_get (D := eD E) (ci := 10) (v := .int (vk 36 0)) (C := RX10) (T := TX10) (N := 79) hx hb hts in_X10 hown hK hP 0 rfl rfl 36 (by decide) lk3 (fun _ h9 => h9) rfl dX10_takeNumber_160 ?_
              refine mt_Vi (w1 := fun (u : Vf) => mdL E am u) (wf := fun (u : Vf) => mdL E am u) (wr := []) (As := [.int 2, .int (vk 36 0)]) (rest := []) (C := RX10) (ci := 10) ⟨hx, hb, hml, hown, hts⟩ (c_X10_fails l E H.size am vk 2 (vk 36 0)) (cwV 2 hts gX10_takeNumber_X10_fails rfl rfl rfl (by decide +kernel) ⟨Nat.le_of_ble_eq_true rfl, Nat.le_of_ble_eq_true rfl⟩) hE hS hA hP hD [0, 1, 2, 3, 4, 5, 6, 7, 8, 9, 10, 11, 12, 13, 14, 15, 16, 17, 18, 19, 20, 21, 22, 23, 24, 25, 26, 27, 28, 29, 30, 31, 32, 33, 34, 35, 36, 37, 38, 39, 40, 41, 42, 43, 44, 45] [] rfl rfl (by decide) (by decide) (by decide) [0, 1, 2, 3, 4, 5, 6, 7, 8, 9, 10, 11, 12, 13, 14, 15, 16, 17, 18, 19, 20, 21, 22, 23, 24, 25, 26, 27, 28, 29, 30, 31, 32, 33, 34, 35, 36, 37, 38, 39, 40, 41, 42, 43, 44, 45] (by decide) (fun u => rfl) rfl rfl rfl rfl hl.1 rfl (Nat.le_of_ble_eq_true rfl) dX10_takeNumber_163 ⟨Nat.zero_le _, Nat.zero_le _⟩ (fun r163 u163 H locs h163 hP hD hS => ?_)
              generalize u163 = o163_vm at hP hD h163
              try dsimp only at h163
              have hf163 := h163.2
              replace h163 := h163.1
              have hFn163 := h163.2
              replace h163 := h163.1
              replace hP : va_P (eD E) vwCl (mdL E am o163_vm) H := hP
              replace hD : va_D A (mdL E am o163_vm) := hD
              have hFz : fr lRd vm o163_vm := by first | exact hFz | exact hFz.tr hFn163 (by decide) | (rw [← hv163]; repeat' (first | exact hFz | refine fr.up ?_ (by decide) | refine fr.up3 ?_ (by decide)))
              have hs163 := h42_0.tr h163.2.1
              have hq163 : (o163_vm 34 0).toInt = (vk 34 0).toInt := by rw [h163.2.2]
              have hq163t : (o163_vm 32 0).toInt = (vk 32 0).toInt := by rw [h163.2.1 32 (by decide) (by decide) (by decide) (by decide)]
              have hr163 : r163.toInt = 2 := by rw [h163.1]; decide
              have hw163 : (o163_vm 33 0).toInt = (vk 36 0).toInt := by rw [hf163]; rfl
              refine lv_goto (tgt := 170) hx hb dX10_takeNumber_166 (by decide) ?_
              subst hQ
              exact W.iret (v := r163) hx hb hr (fun t ht hW => ⟨⟨r163, (o163_vm), rfl, (show ((sn vm o163_vm ∧ atI o163_vm ∧ (vm 34 0).toInt ≤ (o163_vm 34 0).toInt ∧ ((r163.toInt = 0 ∧ lo.toInt ≤ (o163_vm 35 0).toInt ∧ (o163_vm 35 0).toInt ≤ hi.toInt) ∨ (1 ≤ r163.toInt ∧ r163.toInt ≤ 2))) ∧ fr lRd vm o163_vm) ∧ (MF (numF (vm 31) (vm 32 0).toInt lo.toInt hi.toInt (vm 34 0).toInt) (vm 33 0).toInt r163.toInt (o163_vm 33 0).toInt (fun x => (o163_vm 35 0).toInt = x.1 ∧ (o163_vm 34 0).toInt = x.2.1 ∧ (o163_vm 36 0).toInt = x.2.2)) from ⟨⟨⟨hs163, ⟨by omega, by omega⟩, by omega, by omega⟩, hFz⟩, (MF.no (by first | exact num_no2 hp1 hdg0 hde rfl (Or.inl hbig) | exact num_no2 hp1 hdg0 hde hval (by omega)) (by omega) (by omega))⟩), by rw [ht]; exact hP, hD⟩, hS.F ht⟩) hS.2.2 dX10_takeNumber_170
            · have c139_ := i_nlt c139
              have hsm : (vk 34 0).toInt - (o1_vm 34 0).toInt ≤ 3 := by omega
              have hval := hx42_1 hsm
              refine lv_aload_n hx hb dX10_takeNumber_142 rfl (lv_at hl 0 rfl) ?_
              refine va_get (D := eD E) (ci := 10) (v := .int (vk 35 0)) (C := RX10) (T := TX10) (N := 79) hx hb hts in_X10 hown hK hP 0 rfl rfl 35 (by decide) lk4 (fun _ h9 => h9) rfl dX10_takeNumber_143 ?_
              refine lv_i2l hx hb dX10_takeNumber_146 rfl ?_
              refine lv_iload_n hx hb dX10_takeNumber_147 rfl (lv_at hl 1 rfl) ?_
              refine lv_i2l hx hb dX10_takeNumber_148 rfl ?_
              refine lv_iload_n hx hb dX10_takeNumber_149 rfl (lv_at hl 2 rfl) ?_
              refine lv_i2l hx hb dX10_takeNumber_150 rfl ?_
              have lt151_0 : ((vk 35 0).toInt64).toInt = (vk 35 0).toInt := Int32.toInt_toInt64 _
              have lt151_1 : (lo.toInt64).toInt = lo.toInt := Int32.toInt_toInt64 _
              have lt151_2 : (hi.toInt64).toInt = hi.toInt := Int32.toInt_toInt64 _
              refine rd_S (As := [.long (vk 35 0).toInt64, .long lo.toInt64, .long hi.toInt64]) (rest := []) ⟨hx, hb, hml, hown, hts⟩ (c_X10_in l E A ((vk 35 0).toInt64) lo.toInt64 hi.toInt64) (va_cwS 3 hts gX10_takeNumber_X10_in rfl rfl rfl (by decide +kernel) ⟨Nat.le_of_ble_eq_true rfl, Nat.le_of_ble_eq_true rfl⟩) (hE.kept hS.2.1) (hP.sub (ws' := []) [] rfl) rfl hl.1 rfl (Nat.le_of_ble_eq_true rfl) dX10_takeNumber_151 ⟨Nat.zero_le _, Nat.zero_le _⟩ (fun r151 h151 => ?_)
              refine lv_if_ne (tgt := 169) hx hb dX10_takeNumber_154 (by decide) (fun c154 => ?_) (fun c154 => ?_)
              · have c154_ := i_ne c154
                replace h151 := or_y h151 c154_
                clear c154_
                refine lv_iconst (v := 0) hx hb dX10_takeNumber_169 (by decide) ?_
                subst hQ
                exact W.iret (v := 0) hx hb hr (fun t ht hW => ⟨⟨0, (vk), rfl, (show ((sn vm vk ∧ atI vk ∧ (vm 34 0).toInt ≤ (vk 34 0).toInt ∧ (((0 : Int32).toInt = 0 ∧ lo.toInt ≤ (vk 35 0).toInt ∧ (vk 35 0).toInt ≤ hi.toInt) ∨ (1 ≤ (0 : Int32).toInt ∧ (0 : Int32).toInt ≤ 2))) ∧ fr lRd vm vk) ∧ (MF (numF (vm 31) (vm 32 0).toInt lo.toInt hi.toInt (vm 34 0).toInt) (vm 33 0).toInt (0 : Int32).toInt (vk 33 0).toInt (fun x => (vk 35 0).toInt = x.1 ∧ (vk 34 0).toInt = x.2.1 ∧ (vk 36 0).toInt = x.2.2)) from ⟨⟨⟨h42_0, ⟨by omega, by omega⟩, by omega, by omega⟩, hFz⟩, (MF.ok (num_ok hp1 hdg0 hde hval (by omega)) n_0 (by rw [hx42_2.1]) ⟨rfl, rfl, hx42_2.2⟩)⟩), by rw [ht]; exact hP, hD⟩, hS.F ht⟩) hS.2.2 dX10_takeNumber_170
              · have c154_ := i_eq c154
                replace h151 := or_n h151 c154_
                refine lv_aload_n hx hb dX10_takeNumber_157 rfl (lv_at hl 0 rfl) ?_
                refine lv_iconst (v := 2) hx hb dX10_takeNumber_158 (by decide) ?_
                refine lv_aload_n hx hb dX10_takeNumber_159 rfl (lv_at hl 0 rfl) ?_
                refine va_get (D := eD E) (ci := 10) (v := .int (vk 36 0)) (C := RX10) (T := TX10) (N := 79) hx hb hts in_X10 hown hK hP 0 rfl rfl 36 (by decide) lk3 (fun _ h9 => h9) rfl dX10_takeNumber_160 ?_
                refine mt_Vi (w1 := fun (u : Vf) => mdL E am u) (wf := fun (u : Vf) => mdL E am u) (wr := []) (As := [.int 2, .int (vk 36 0)]) (rest := []) (C := RX10) (ci := 10) ⟨hx, hb, hml, hown, hts⟩ (c_X10_fails l E H.size am vk 2 (vk 36 0)) (cwV 2 hts gX10_takeNumber_X10_fails rfl rfl rfl (by decide +kernel) ⟨Nat.le_of_ble_eq_true rfl, Nat.le_of_ble_eq_true rfl⟩) hE hS hA hP hD [0, 1, 2, 3, 4, 5, 6, 7, 8, 9, 10, 11, 12, 13, 14, 15, 16, 17, 18, 19, 20, 21, 22, 23, 24, 25, 26, 27, 28, 29, 30, 31, 32, 33, 34, 35, 36, 37, 38, 39, 40, 41, 42, 43, 44, 45] [] rfl rfl (by decide) (by decide) (by decide) [0, 1, 2, 3, 4, 5, 6, 7, 8, 9, 10, 11, 12, 13, 14, 15, 16, 17, 18, 19, 20, 21, 22, 23, 24, 25, 26, 27, 28, 29, 30, 31, 32, 33, 34, 35, 36, 37, 38, 39, 40, 41, 42, 43, 44, 45] (by decide) (fun u => rfl) rfl rfl rfl rfl hl.1 rfl (Nat.le_of_ble_eq_true rfl) dX10_takeNumber_163 ⟨Nat.zero_le _, Nat.zero_le _⟩ (fun r163 u163 H locs h163 hP hD hS => ?_)
                generalize u163 = o163_vm at hP hD h163
                try dsimp only at h163
                have hf163 := h163.2
                replace h163 := h163.1
                have hFn163 := h163.2
                replace h163 := h163.1
                replace hP : va_P (eD E) vwCl (mdL E am o163_vm) H := hP
                replace hD : va_D A (mdL E am o163_vm) := hD
                have hFz : fr lRd vm o163_vm := by first | exact hFz | exact hFz.tr hFn163 (by decide) | (rw [← hv163]; repeat' (first | exact hFz | refine fr.up ?_ (by decide) | refine fr.up3 ?_ (by decide)))
                have hs163 := h42_0.tr h163.2.1
                have hq163 : (o163_vm 34 0).toInt = (vk 34 0).toInt := by rw [h163.2.2]
                have hq163t : (o163_vm 32 0).toInt = (vk 32 0).toInt := by rw [h163.2.1 32 (by decide) (by decide) (by decide) (by decide)]
                have hr163 : r163.toInt = 2 := by rw [h163.1]; decide
                have hw163 : (o163_vm 33 0).toInt = (vk 36 0).toInt := by rw [hf163]; rfl
                refine lv_goto (tgt := 170) hx hb dX10_takeNumber_166 (by decide) ?_
                subst hQ
                exact W.iret (v := r163) hx hb hr (fun t ht hW => ⟨⟨r163, (o163_vm), rfl, (show ((sn vm o163_vm ∧ atI o163_vm ∧ (vm 34 0).toInt ≤ (o163_vm 34 0).toInt ∧ ((r163.toInt = 0 ∧ lo.toInt ≤ (o163_vm 35 0).toInt ∧ (o163_vm 35 0).toInt ≤ hi.toInt) ∨ (1 ≤ r163.toInt ∧ r163.toInt ≤ 2))) ∧ fr lRd vm o163_vm) ∧ (MF (numF (vm 31) (vm 32 0).toInt lo.toInt hi.toInt (vm 34 0).toInt) (vm 33 0).toInt r163.toInt (o163_vm 33 0).toInt (fun x => (o163_vm 35 0).toInt = x.1 ∧ (o163_vm 34 0).toInt = x.2.1 ∧ (o163_vm 36 0).toInt = x.2.2)) from ⟨⟨⟨hs163, ⟨by omega, by omega⟩, by omega, by omega⟩, hFz⟩, (MF.no (by first | exact num_no2 hp1 hdg0 hde rfl (Or.inl hbig) | exact num_no2 hp1 hdg0 hde hval (by omega)) (by omega) (by omega))⟩), by rw [ht]; exact hP, hD⟩, hS.F ht⟩) hS.2.2 dX10_takeNumber_170
          · have c72_ := i_ne c72
            replace h69 := or_y h69 c72_
            clear c72_
            have hdg : 48 ≤ tc (vm 31) (vk 34 0).toInt ∧ tc (vm 31) (vk 34 0).toInt ≤ 57 := by omega
            clear h69
            refine lv_aload_n hx hb dX10_takeNumber_75 rfl (lv_at hl 0 rfl) ?_
            refine lv_aload_n hx hb dX10_takeNumber_76 rfl (lv_at hl 0 rfl) ?_
            refine va_get (D := eD E) (ci := 10) (v := .int (vk 35 0)) (C := RX10) (T := TX10) (N := 79) hx hb hts in_X10 hown hK hP 0 rfl rfl 35 (by decide) lk4 (fun _ h9 => h9) rfl dX10_takeNumber_77 ?_
            refine lv_sipush (v := 10000) hx hb dX10_takeNumber_80 (by decide) ?_
            have K113 : ∀  (nn : Int32) (H : Heap) (locs : List Loc) (ls : Array Slot), va_P (eD E) vwCl (mdL E am vk) H → va_D A (mdL E am vk) → va_S A s.heap H locs → ((vk 34 0).toInt - (o1_vm 34 0).toInt < 3 → nn.toInt = vv3 (vm 31) (o1_vm 34 0).toInt ((vk 34 0).toInt + 1 - (o1_vm 34 0).toInt).toNat) → (0 ≤ nn.toInt ∧ nn.toInt ≤ 100009 ∧ ((vk 34 0).toInt + 1 - (o1_vm 34 0).toInt < 3 → nn.toInt ≤ 99) ∧ ((vk 34 0).toInt + 1 - (o1_vm 34 0).toInt < 2 → nn.toInt ≤ 9)) → lv_has ls 4 [(0, .ref (am 0)), (1, .int lo), (2, .int hi)] → W p l e (headSpec wsX10_takeNumber rm_X10_takeNumber).room s m ([.ref (am 0), .int lo, .int hi] : List Value).toArray below meth c H locs 0 0 Q (F0 m 113 ls [.int nn, .ref (am 0)]) := by
              intro nn H locs ls hP hD hS h113_0 h113_1 hl
              have hx113_0 := h113_0
              clear h113_0
              have hx113_1 := h113_1
              clear h113_1
              refine va_put (D := eD E) (ci := 10) (v := .int nn) (ty := .int) (C := RX10) (T := TX10) (N := 79) hx hb hts in_X10 tyX10 tyX10_ok nmX10 hown hK hP hD hS 0 rfl rfl 35 (by decide) lk4 (fun _ h9 => h9) rfl (by decide +kernel) rfl rfl (Nat.le_of_ble_eq_true rfl) dX10_takeNumber_113 (fun H locs hP hD hS => ?_)
              replace hP : va_P (eD E) vwCl (mdL E am (up2 vk 35 0 nn)) H := hP
              replace hD : va_D A (mdL E am (up2 vk 35 0 nn)) := hD
              generalize hv113 : up2 vk 35 0 nn = vm_113 at hP hD
              have hFz : fr lRd vm vm_113 := by first | exact hFz | (rw [← hv113]; exact hFz.up (by decide))
              have hs113 : sn vm vm_113 := by rw [← hv113]; exact h42_0.up (by omega)
              have hq113 : (vm_113 34 0).toInt = (vk 34 0).toInt := by rw [← hv113]; rfl
              have hq113t : (vm_113 32 0).toInt = (vk 32 0).toInt := by rw [← hv113]; rfl
              refine lv_aload_n hx hb dX10_takeNumber_116 rfl (lv_at hl 0 rfl) ?_
              refine lv_dup hx hb dX10_takeNumber_117 rfl ?_
              refine va_get (D := eD E) (ci := 10) (v := .int (vm_113 34 0)) (C := RX10) (T := TX10) (N := 79) hx hb hts in_X10 hown hK hP 0 rfl rfl 34 (by decide) lk2 (fun _ h9 => h9) rfl dX10_takeNumber_118 ?_
              refine lv_iconst (v := 1) hx hb dX10_takeNumber_121 (by decide) ?_
              refine lv_iadd hx hb dX10_takeNumber_122 ?_
              refine lv_topi (fun x122 e122 => ?_)
              have t122 := i_add e122 (by omega)
              refine va_put (D := eD E) (ci := 10) (v := .int x122) (ty := .int) (C := RX10) (T := TX10) (N := 79) hx hb hts in_X10 tyX10 tyX10_ok nmX10 hown hK hP hD hS 0 rfl rfl 34 (by decide) lk2 (fun _ h9 => h9) rfl (by decide +kernel) rfl rfl (Nat.le_of_ble_eq_true rfl) dX10_takeNumber_123 (fun H locs hP hD hS => ?_)
              replace hP : va_P (eD E) vwCl (mdL E am (up2 vm_113 34 0 x122)) H := hP
              replace hD : va_D A (mdL E am (up2 vm_113 34 0 x122)) := hD
              generalize hv123 : up2 vm_113 34 0 x122 = vm_123 at hP hD
              have hFz : fr lRd vm vm_123 := by first | exact hFz | (rw [← hv123]; exact hFz.up (by decide))
              have hs123 : sn vm vm_123 := by rw [← hv123]; exact hs113.up (by omega)
              have hq123 : (vm_123 34 0).toInt = x122.toInt := by rw [← hv123]; rfl
              have hq123t : (vm_123 32 0).toInt = (vm_113 32 0).toInt := by rw [← hv123]; rfl
              have hg123 : vm_123 33 = vm 33 ∧ (vm_123 36 0).toInt = (o1_vm 34 0).toInt ∧ (vm_123 35 0).toInt = nn.toInt := by rw [← hv123, ← hv113]; exact ⟨hx42_2.1, hx42_2.2, rfl⟩
              have hg123n := hg123.2.2
              refine lv_goto (tgt := 42) hx hb dX10_takeNumber_126 (by decide) ?_
              exact ih42  vm_123 _ _ ls (by omega) hP hD hS hs123 (by omega) (by omega) (by omega) hFz (by rw [show (vm_123 34 0).toInt = (vk 34 0).toInt + 1 by omega]; exact (dep_step (by omega) hdg).trans hx42_0) (fun q => by rw [hg123n, show (vm_123 34 0).toInt = (vk 34 0).toInt + 1 by omega]; exact hx113_0 (by omega)) ⟨hg123.1, hg123.2.1⟩ (by omega) (by omega) (lv_sub hl [0, 1, 2] rfl)
            refine lv_icmp_le (tgt := 93) hx hb dX10_takeNumber_83 (by decide) (fun c83 => ?_) (fun c83 => ?_)
            · have c83_ := i_le c83
              refine lv_bipush (v := 10) hx hb dX10_takeNumber_93 (by decide) ?_
              refine lv_aload_n hx hb dX10_takeNumber_95 rfl (lv_at hl 0 rfl) ?_
              refine va_get (D := eD E) (ci := 10) (v := .int (vk 35 0)) (C := RX10) (T := TX10) (N := 79) hx hb hts in_X10 hown hK hP 0 rfl rfl 35 (by decide) lk4 (fun _ h9 => h9) rfl dX10_takeNumber_96 ?_
              refine lv_imul hx hb dX10_takeNumber_99 ?_
              refine lv_topi (fun x99 e99 => ?_)
              have t99 := i_mul e99 (by rw [n_10]; omega)
              rw [n_10] at t99
              refine lv_aload_n hx hb dX10_takeNumber_100 rfl (lv_at hl 0 rfl) ?_
              refine va_get (D := eD E) (ci := 10) (v := .ref (am 31)) (C := RX10) (T := TX10) (N := 79) hx hb hts in_X10 hown hK hP 0 rfl rfl 31 (by decide) lk6 (fun _ h9 => h9) rfl dX10_takeNumber_101 ?_
              refine lv_aload_n hx hb dX10_takeNumber_104 rfl (lv_at hl 0 rfl) ?_
              refine va_get (D := eD E) (ci := 10) (v := .int (vk 34 0)) (C := RX10) (T := TX10) (N := 79) hx hb hts in_X10 hown hK hP 0 rfl rfl 34 (by decide) lk2 (fun _ h9 => h9) rfl dX10_takeNumber_105 ?_
              refine va_iald hx hb hK hP 19 0 rfl rfl (n := 250) (f := (vk 31)) (i_in (by omega) (by omega)) dX10_takeNumber_108 ?_
              refine lv_topi (fun x108 e108 => ?_)
              have tx108 : x108.toInt = tc (vm 31) (vk 34 0).toInt := by rw [e108, h42_0 31 (by decide) (by decide) (by decide) (by decide)]; rfl
              refine lv_iadd hx hb dX10_takeNumber_109 ?_
              refine lv_topi (fun x109 e109 => ?_)
              have t109 := i_add e109 (by omega)
              refine lv_bipush (v := 48) hx hb dX10_takeNumber_110 (by decide) ?_
              refine lv_isub hx hb dX10_takeNumber_112 ?_
              refine lv_topi (fun x112 e112 => ?_)
              have t112 := i_sub e112 (by omega)
              exact K113 x112 _ _ ls hP hD hS (fun q => by first | exact absurd q (by omega) | exact vv_in (by omega) (by omega) (by rw [← hx42_1 (by omega)]; omega)) (by omega) (lv_sub hl [0, 1, 2] rfl)
            · have c83_ := i_nle c83
              refine lv_aload_n hx hb dX10_takeNumber_86 rfl (lv_at hl 0 rfl) ?_
              refine va_get (D := eD E) (ci := 10) (v := .int (vk 35 0)) (C := RX10) (T := TX10) (N := 79) hx hb hts in_X10 hown hK hP 0 rfl rfl 35 (by decide) lk4 (fun _ h9 => h9) rfl dX10_takeNumber_87 ?_
              refine lv_goto (tgt := 113) hx hb dX10_takeNumber_90 (by decide) ?_
              exact K113 (vk 35 0) _ _ ls hP hD hS (fun q => by first | exact absurd q (by omega) | exact vv_in (by omega) (by omega) (by rw [← hx42_1 (by omega)]; omega)) (by omega) (lv_sub hl [0, 1, 2] rfl)
    exact K42 _  vm_39 _ _ ls (Nat.lt_succ_self _) hP hD hS hs39 (by omega) (by omega) (by omega) hFz (by rw [hq39, hq34]) (fun _ => by rw [show ((vm_39 34 0).toInt - (o1_vm 34 0).toInt).toNat = 0 by omega, hg39n]; rfl) ⟨hg39.1, hg39.2.1⟩ (by omega) (by omega) (lv_sub hl [1, 2, 3] rfl)
  · have c16_ := i_eq c16
    replace h13 := or_n h13 c16_
    refine lv_aload_n hx hb dX10_takeNumber_19 rfl (lv_at hl 1 rfl) ?_
    refine lv_iconst (v := 1) hx hb dX10_takeNumber_20 (by decide) ?_
    refine lv_aload_n hx hb dX10_takeNumber_21 rfl (lv_at hl 1 rfl) ?_
    refine va_get (D := eD E) (ci := 10) (v := .int (o1_vm 34 0)) (C := RX10) (T := TX10) (N := 79) hx hb hts in_X10 hown hK hP 0 rfl rfl 34 (by decide) lk2 (fun _ h9 => h9) rfl dX10_takeNumber_22 ?_
    refine mt_Vi (w1 := fun (u : Vf) => mdL E am u) (wf := fun (u : Vf) => mdL E am u) (wr := []) (As := [.int 1, .int (o1_vm 34 0)]) (rest := []) (C := RX10) (ci := 10) ⟨hx, hb, hml, hown, hts⟩ (c_X10_fails l E H.size am o1_vm 1 (o1_vm 34 0)) (cwV 2 hts gX10_takeNumber_X10_fails rfl rfl rfl (by decide +kernel) ⟨Nat.le_of_ble_eq_true rfl, Nat.le_of_ble_eq_true rfl⟩) hE hS hA hP hD [0, 1, 2, 3, 4, 5, 6, 7, 8, 9, 10, 11, 12, 13, 14, 15, 16, 17, 18, 19, 20, 21, 22, 23, 24, 25, 26, 27, 28, 29, 30, 31, 32, 33, 34, 35, 36, 37, 38, 39, 40, 41, 42, 43, 44, 45] [] rfl rfl (by decide) (by decide) (by decide) [0, 1, 2, 3, 4, 5, 6, 7, 8, 9, 10, 11, 12, 13, 14, 15, 16, 17, 18, 19, 20, 21, 22, 23, 24, 25, 26, 27, 28, 29, 30, 31, 32, 33, 34, 35, 36, 37, 38, 39, 40, 41, 42, 43, 44, 45] (by decide) (fun u => rfl) rfl rfl rfl rfl hl.1 rfl (Nat.le_of_ble_eq_true rfl) dX10_takeNumber_25 ⟨Nat.zero_le _, Nat.zero_le _⟩ (fun r25 u25 H locs h25 hP hD hS => ?_)
    generalize u25 = o25_vm at hP hD h25
    try dsimp only at h25
    have hf25 := h25.2
    replace h25 := h25.1
    have hFn25 := h25.2
    replace h25 := h25.1
    replace hP : va_P (eD E) vwCl (mdL E am o25_vm) H := hP
    replace hD : va_D A (mdL E am o25_vm) := hD
    have hFz : fr lRd vm o25_vm := by first | exact hFz | exact hFz.tr hFn25 (by decide) | (rw [← hv25]; repeat' (first | exact hFz | refine fr.up ?_ (by decide) | refine fr.up3 ?_ (by decide)))
    have hs25 := h1.1.tr h25.2.1
    have hq25 : (o25_vm 34 0).toInt = (o1_vm 34 0).toInt := by rw [h25.2.2]
    have hq25t : (o25_vm 32 0).toInt = (o1_vm 32 0).toInt := by rw [h25.2.1 32 (by decide) (by decide) (by decide) (by decide)]
    have hr25 : r25.toInt = 1 := by rw [h25.1]; decide
    have hw25 : (o25_vm 33 0).toInt = (o1_vm 34 0).toInt := by rw [hf25]; rfl
    subst hQ
    exact W.iret (v := r25) hx hb hr (fun t ht hW => ⟨⟨r25, (o25_vm), rfl, (show ((sn vm o25_vm ∧ atI o25_vm ∧ (vm 34 0).toInt ≤ (o25_vm 34 0).toInt ∧ ((r25.toInt = 0 ∧ lo.toInt ≤ (o25_vm 35 0).toInt ∧ (o25_vm 35 0).toInt ≤ hi.toInt) ∨ (1 ≤ r25.toInt ∧ r25.toInt ≤ 2))) ∧ fr lRd vm o25_vm) ∧ (MF (numF (vm 31) (vm 32 0).toInt lo.toInt hi.toInt (vm 34 0).toInt) (vm 33 0).toInt r25.toInt (o25_vm 33 0).toInt (fun x => (o25_vm 35 0).toInt = x.1 ∧ (o25_vm 34 0).toInt = x.2.1 ∧ (o25_vm 36 0).toInt = x.2.2)) from ⟨⟨⟨hs25, ⟨by omega, by omega⟩, by omega, by omega⟩, hFz⟩, (MF.no (num_no1 hp1 (by omega)) (by omega) (by omega))⟩), by rw [ht]; exact hP, hD⟩, hS.F ht⟩) hS.2.2 dX10_takeNumber_28
def rm_X10_into_39 : Room := { frames := 2, cells := 0, slots := 0, locals := 48 }
set_option maxHeartbeats 4000000 in
set_option maxRecDepth 100000 in
theorem c_X10_into_39 (l : Launch) (E : Ev) (sz : Nat) (am : Nat → Nat) (vm : Vf) (k : Int32) (lo : Int32) (hi : Int32) (hMI : MdI vm) (hat : atI vm) (hk : 0 ≤ k.toInt ∧ k.toInt ≤ 23) : Met l yX10_into wsX10_into rm_X10_into_39 (MtP E sz [.ref (am 0), .ref (am 39), .int k, .int lo, .int hi] (mdL E am vm)) (va_Qi (fun (r : Int32) (u : Vf) => ((scK 39 vm u ∧ (∃ x : Int32, u 39 = upd (vm 39) k.toNatClampNeg x ∧ ((r.toInt = 0 ∧ lo.toInt ≤ x.toInt ∧ x.toInt ≤ hi.toInt) ∨ (1 ≤ r.toInt ∧ r.toInt ≤ 2))) ∧ atI u ∧ (vm 34 0).toInt ≤ (u 34 0).toInt) ∧ fr lRd vm u) ∧ (MF (numF (vm 31) (vm 32 0).toInt lo.toInt hi.toInt (vm 34 0).toInt) (vm 33 0).toInt r.toInt (u 33 0).toInt (fun x => (u 35 0).toInt = x.1 ∧ (u 34 0).toInt = x.2.1 ∧ (u 36 0).toInt = x.2.2) ∧ u 39 = upd (vm 39) k.toNatClampNeg (u 35 0))) (MtB E (va_A (mdL E am vm) sz) (fun u => mdL E am u)) (va_A (mdL E am vm) sz)) 0 0 (va_A (mdL E am vm) sz) := by
  refine Met.ofW (cc := cX10_into) (maxL := 6) (ret := (some .int)) (by decide) rfl ?_
  intro p e s m args below meth c s₁ B hml hv
  obtain ⟨rfl, hsz, hE, hP, hD0⟩ := hv
  subst hsz
  have hD := hD0.self (sz := s.heap.size)
  generalize hAe : va_A (mdL E am vm) s.heap.size = A at hD hE ⊢
  have hA : ∀ q : Nat, s.heap.size ≤ q → A q := fun q h => by rw [← hAe]; exact Or.inr h
  have hS : va_S A s.heap s.heap [] := va_S.rf
  have hx := B.exec
  have hb := B.bytes
  have hr := B.returns
  have hts := atoms_spec (ws := wsX10_into) B.pre
  have hown : s.vm.findClass RX10 = some m.cls := findClass_of_methodNamed B.named
  have hlocks := B.notSynchronized
  have hK := hE.1
  have in_X10 : ∀ w ∈ u_ws RX10 TX10 79, w ∈ wsX10_into := fun w h => List.mem_cons_of_mem _ (List.mem_append_right _ h)
  have lk0 := hts (.fieldLink RX10 198 "TidedGroundModel" "number" "I") (List.mem_of_getElem? (i := 1) rfl)
  have hl := lv_entry ([.ref (am 0), .ref (am 39), .int k, .int lo, .int hi]) (n := 6) (Nat.le_of_ble_eq_true rfl)
  rw [lg_entry_eq]
  generalize (lg_sl ([.ref (am 0), .ref (am 39), .int k, .int lo, .int hi]) ++ List.replicate (6 - (lg_sl ([.ref (am 0), .ref (am 39), .int k, .int lo, .int hi])).length) Slot.unset).toArray = ls at hl ⊢
  have hl : lv_has ls 6 [(0, .ref (am 0)), (1, .ref (am 39)), (2, .int k), (3, .int lo), (4, .int hi)] := hl
  refine W_abs (fun Q hQ => ?_)
  have hH := hMI.1
  obtain ⟨hT1, hT2, hT3, hT4, hT5⟩ := id hH.2.2.2.2.2.2
  obtain ⟨ha1, ha2⟩ := id hat
  have hFz : fr lRd vm vm := fr.rf
  refine lv_aload_n hx hb dX10_into_0 rfl (lv_at hl 0 rfl) ?_
  refine lv_iload_n hx hb dX10_into_1 rfl (lv_at hl 3 rfl) ?_
  refine lv_iload hx hb dX10_into_2 (lv_at hl 4 rfl) ?_
  refine mt_Vi (w1 := fun (u : Vf) => mdL E am u) (wf := fun (u : Vf) => mdL E am u) (wr := []) (As := [.int lo, .int hi]) (rest := []) (C := RX10) (ci := 10) ⟨hx, hb, hml, hown, hts⟩ (c_X10_takeNumber l E s.heap.size am vm lo hi hMI hat) (cwV 2 hts gX10_into_X10_takeNumber rfl rfl rfl (by decide +kernel) ⟨Nat.le_of_ble_eq_true rfl, Nat.le_of_ble_eq_true rfl⟩) hE hS hA hP hD [0, 1, 2, 3, 4, 5, 6, 7, 8, 9, 10, 11, 12, 13, 14, 15, 16, 17, 18, 19, 20, 21, 22, 23, 24, 25, 26, 27, 28, 29, 30, 31, 32, 33, 34, 35, 36, 37, 38, 39, 40, 41, 42, 43, 44, 45] [] rfl rfl (by decide) (by decide) (by decide) [0, 1, 2, 3, 4, 5, 6, 7, 8, 9, 10, 11, 12, 13, 14, 15, 16, 17, 18, 19, 20, 21, 22, 23, 24, 25, 26, 27, 28, 29, 30, 31, 32, 33, 34, 35, 36, 37, 38, 39, 40, 41, 42, 43, 44, 45] (by decide) (fun u => rfl) rfl rfl rfl rfl hl.1 rfl (Nat.le_of_ble_eq_true rfl) dX10_into_4 ⟨Nat.zero_le _, Nat.zero_le _⟩ (fun r4 u4 H locs h4 hP hD hS => ?_)
  generalize u4 = o4_vm at hP hD h4
  try dsimp only at h4
  have hf4 := h4.2
  replace h4 := h4.1
  have hFn4 := h4.2
  replace h4 := h4.1
  replace hP : va_P (eD E) vwCl (mdL E am o4_vm) H := hP
  replace hD : va_D A (mdL E am o4_vm) := hD
  have hFz : fr lRd vm o4_vm := by first | exact hFz | exact hFz.tr hFn4 (by decide) | (rw [← hv4]; repeat' (first | exact hFz | refine fr.up ?_ (by decide) | refine fr.up3 ?_ (by decide)))
  have hq4 : o4_vm 39 = vm 39 := h4.1 39 (by decide) (by decide) (by decide) (by decide)
  refine lv_istore (lv' := [(5, .int r4), (0, .ref (am 0)), (1, .ref (am 39)), (2, .int k), (3, .int lo), (4, .int hi)]) hx hb dX10_into_7 hl (by decide) rfl (fun ls hl => ?_)
  refine lv_aload_n hx hb dX10_into_9 rfl (lv_at hl 2 rfl) ?_
  refine lv_iload_n hx hb dX10_into_10 rfl (lv_at hl 3 rfl) ?_
  refine lv_aload_n hx hb dX10_into_11 rfl (lv_at hl 1 rfl) ?_
  refine va_get (D := eD E) (ci := 10) (v := .int (o4_vm 35 0)) (C := RX10) (T := TX10) (N := 79) hx hb hts in_X10 hown hK hP 0 rfl rfl 35 (by decide) lk0 (fun _ h9 => h9) rfl dX10_into_12 ?_
  refine va_iast hx hb hK hP hD hS 20 0 rfl rfl (n := 24) (f := (o4_vm 39)) (i_in (by omega) (by omega)) dX10_into_15 (fun H locs hP hD hS => ?_)
  replace hP : va_P (eD E) vwCl (mdL E am (up2 o4_vm 39 k.toNatClampNeg (o4_vm 35 0))) H := hP
  replace hD : va_D A (mdL E am (up2 o4_vm 39 k.toNatClampNeg (o4_vm 35 0))) := hD
  generalize hv15 : up2 o4_vm 39 k.toNatClampNeg (o4_vm 35 0) = vm_15 at hP hD
  have hFz : fr lRd vm vm_15 := by first | exact hFz | (rw [← hv15]; exact hFz.up (by decide))
  refine lv_iload hx hb dX10_into_16 (lv_at hl 0 rfl) ?_
  subst hQ
  exact W.iret (v := r4) hx hb hr (fun t ht hW => ⟨⟨r4, (vm_15), rfl, (show ((scK 39 vm vm_15 ∧ (∃ x : Int32, vm_15 39 = upd (vm 39) k.toNatClampNeg x ∧ ((r4.toInt = 0 ∧ lo.toInt ≤ x.toInt ∧ x.toInt ≤ hi.toInt) ∨ (1 ≤ r4.toInt ∧ r4.toInt ≤ 2))) ∧ atI vm_15 ∧ (vm 34 0).toInt ≤ (vm_15 34 0).toInt) ∧ fr lRd vm vm_15) ∧ (MF (numF (vm 31) (vm 32 0).toInt lo.toInt hi.toInt (vm 34 0).toInt) (vm 33 0).toInt r4.toInt (vm_15 33 0).toInt (fun x => (vm_15 35 0).toInt = x.1 ∧ (vm_15 34 0).toInt = x.2.1 ∧ (vm_15 36 0).toInt = x.2.2) ∧ vm_15 39 = upd (vm 39) k.toNatClampNeg (vm_15 35 0)) from ⟨⟨⟨(fun t a1 a2 a3 a4 a5 a6 => by rw [← hv15, up2_ne a6]; exact h4.1 t a1 a2 a3 a4), ⟨o4_vm 35 0, (by rw [← hv15]; show upd (o4_vm 39) _ _ = _; rw [hq4]), h4.2.2.2⟩, (by rw [← hv15]; exact h4.2.1), (by rw [← hv15]; exact h4.2.2.1)⟩, hFz⟩, ⟨(by rw [← hv15]; exact hf4), (by rw [← hv15]; show upd (o4_vm 39) k.toNatClampNeg (o4_vm 35 0) = upd (vm 39) k.toNatClampNeg (o4_vm 35 0); rw [hq4])⟩⟩), by rw [ht]; exact hP, hD⟩, hS.F ht⟩) hS.2.2 dX10_into_18
def rm_X10_into_40 : Room := { frames := 2, cells := 0, slots := 0, locals := 48 }
set_option maxHeartbeats 4000000 in
set_option maxRecDepth 100000 in
theorem c_X10_into_40 (l : Launch) (E : Ev) (sz : Nat) (am : Nat → Nat) (vm : Vf) (k : Int32) (lo : Int32) (hi : Int32) (hMI : MdI vm) (hat : atI vm) (hk : 0 ≤ k.toInt ∧ k.toInt ≤ 23) : Met l yX10_into wsX10_into rm_X10_into_40 (MtP E sz [.ref (am 0), .ref (am 40), .int k, .int lo, .int hi] (mdL E am vm)) (va_Qi (fun (r : Int32) (u : Vf) => ((scK 40 vm u ∧ (∃ x : Int32, u 40 = upd (vm 40) k.toNatClampNeg x ∧ ((r.toInt = 0 ∧ lo.toInt ≤ x.toInt ∧ x.toInt ≤ hi.toInt) ∨ (1 ≤ r.toInt ∧ r.toInt ≤ 2))) ∧ atI u ∧ (vm 34 0).toInt ≤ (u 34 0).toInt) ∧ fr lRd vm u) ∧ (MF (numF (vm 31) (vm 32 0).toInt lo.toInt hi.toInt (vm 34 0).toInt) (vm 33 0).toInt r.toInt (u 33 0).toInt (fun x => (u 35 0).toInt = x.1 ∧ (u 34 0).toInt = x.2.1 ∧ (u 36 0).toInt = x.2.2) ∧ u 40 = upd (vm 40) k.toNatClampNeg (u 35 0))) (MtB E (va_A (mdL E am vm) sz) (fun u => mdL E am u)) (va_A (mdL E am vm) sz)) 0 0 (va_A (mdL E am vm) sz) := by
  refine Met.ofW (cc := cX10_into) (maxL := 6) (ret := (some .int)) (by decide) rfl ?_
  intro p e s m args below meth c s₁ B hml hv
  obtain ⟨rfl, hsz, hE, hP, hD0⟩ := hv
  subst hsz
  have hD := hD0.self (sz := s.heap.size)
  generalize hAe : va_A (mdL E am vm) s.heap.size = A at hD hE ⊢
  have hA : ∀ q : Nat, s.heap.size ≤ q → A q := fun q h => by rw [← hAe]; exact Or.inr h
  have hS : va_S A s.heap s.heap [] := va_S.rf
  have hx := B.exec
  have hb := B.bytes
  have hr := B.returns
  have hts := atoms_spec (ws := wsX10_into) B.pre
  have hown : s.vm.findClass RX10 = some m.cls := findClass_of_methodNamed B.named
  have hlocks := B.notSynchronized
  have hK := hE.1
  have in_X10 : ∀ w ∈ u_ws RX10 TX10 79, w ∈ wsX10_into := fun w h => List.mem_cons_of_mem _ (List.mem_append_right _ h)
  have lk0 := hts (.fieldLink RX10 198 "TidedGroundModel" "number" "I") (List.mem_of_getElem? (i := 1) rfl)
  have hl := lv_entry ([.ref (am 0), .ref (am 40), .int k, .int lo, .int hi]) (n := 6) (Nat.le_of_ble_eq_true rfl)
  rw [lg_entry_eq]
  generalize (lg_sl ([.ref (am 0), .ref (am 40), .int k, .int lo, .int hi]) ++ List.replicate (6 - (lg_sl ([.ref (am 0), .ref (am 40), .int k, .int lo, .int hi])).length) Slot.unset).toArray = ls at hl ⊢
  have hl : lv_has ls 6 [(0, .ref (am 0)), (1, .ref (am 40)), (2, .int k), (3, .int lo), (4, .int hi)] := hl
  refine W_abs (fun Q hQ => ?_)
  have hH := hMI.1
  obtain ⟨hT1, hT2, hT3, hT4, hT5⟩ := id hH.2.2.2.2.2.2
  obtain ⟨ha1, ha2⟩ := id hat
  have hFz : fr lRd vm vm := fr.rf
  refine lv_aload_n hx hb dX10_into_0 rfl (lv_at hl 0 rfl) ?_
  refine lv_iload_n hx hb dX10_into_1 rfl (lv_at hl 3 rfl) ?_
  refine lv_iload hx hb dX10_into_2 (lv_at hl 4 rfl) ?_
  refine mt_Vi (w1 := fun (u : Vf) => mdL E am u) (wf := fun (u : Vf) => mdL E am u) (wr := []) (As := [.int lo, .int hi]) (rest := []) (C := RX10) (ci := 10) ⟨hx, hb, hml, hown, hts⟩ (c_X10_takeNumber l E s.heap.size am vm lo hi hMI hat) (cwV 2 hts gX10_into_X10_takeNumber rfl rfl rfl (by decide +kernel) ⟨Nat.le_of_ble_eq_true rfl, Nat.le_of_ble_eq_true rfl⟩) hE hS hA hP hD [0, 1, 2, 3, 4, 5, 6, 7, 8, 9, 10, 11, 12, 13, 14, 15, 16, 17, 18, 19, 20, 21, 22, 23, 24, 25, 26, 27, 28, 29, 30, 31, 32, 33, 34, 35, 36, 37, 38, 39, 40, 41, 42, 43, 44, 45] [] rfl rfl (by decide) (by decide) (by decide) [0, 1, 2, 3, 4, 5, 6, 7, 8, 9, 10, 11, 12, 13, 14, 15, 16, 17, 18, 19, 20, 21, 22, 23, 24, 25, 26, 27, 28, 29, 30, 31, 32, 33, 34, 35, 36, 37, 38, 39, 40, 41, 42, 43, 44, 45] (by decide) (fun u => rfl) rfl rfl rfl rfl hl.1 rfl (Nat.le_of_ble_eq_true rfl) dX10_into_4 ⟨Nat.zero_le _, Nat.zero_le _⟩ (fun r4 u4 H locs h4 hP hD hS => ?_)
  generalize u4 = o4_vm at hP hD h4
  try dsimp only at h4
  have hf4 := h4.2
  replace h4 := h4.1
  have hFn4 := h4.2
  replace h4 := h4.1
  replace hP : va_P (eD E) vwCl (mdL E am o4_vm) H := hP
  replace hD : va_D A (mdL E am o4_vm) := hD
  have hFz : fr lRd vm o4_vm := by first | exact hFz | exact hFz.tr hFn4 (by decide) | (rw [← hv4]; repeat' (first | exact hFz | refine fr.up ?_ (by decide) | refine fr.up3 ?_ (by decide)))
  have hq4 : o4_vm 40 = vm 40 := h4.1 40 (by decide) (by decide) (by decide) (by decide)
  refine lv_istore (lv' := [(5, .int r4), (0, .ref (am 0)), (1, .ref (am 40)), (2, .int k), (3, .int lo), (4, .int hi)]) hx hb dX10_into_7 hl (by decide) rfl (fun ls hl => ?_)
  refine lv_aload_n hx hb dX10_into_9 rfl (lv_at hl 2 rfl) ?_
  refine lv_iload_n hx hb dX10_into_10 rfl (lv_at hl 3 rfl) ?_
  refine lv_aload_n hx hb dX10_into_11 rfl (lv_at hl 1 rfl) ?_
  refine va_get (D := eD E) (ci := 10) (v := .int (o4_vm 35 0)) (C := RX10) (T := TX10) (N := 79) hx hb hts in_X10 hown hK hP 0 rfl rfl 35 (by decide) lk0 (fun _ h9 => h9) rfl dX10_into_12 ?_
  refine va_iast hx hb hK hP hD hS 21 0 rfl rfl (n := 24) (f := (o4_vm 40)) (i_in (by omega) (by omega)) dX10_into_15 (fun H locs hP hD hS => ?_)
  replace hP : va_P (eD E) vwCl (mdL E am (up2 o4_vm 40 k.toNatClampNeg (o4_vm 35 0))) H := hP
  replace hD : va_D A (mdL E am (up2 o4_vm 40 k.toNatClampNeg (o4_vm 35 0))) := hD
  generalize hv15 : up2 o4_vm 40 k.toNatClampNeg (o4_vm 35 0) = vm_15 at hP hD
  have hFz : fr lRd vm vm_15 := by first | exact hFz | (rw [← hv15]; exact hFz.up (by decide))
  refine lv_iload hx hb dX10_into_16 (lv_at hl 0 rfl) ?_
  subst hQ
  exact W.iret (v := r4) hx hb hr (fun t ht hW => ⟨⟨r4, (vm_15), rfl, (show ((scK 40 vm vm_15 ∧ (∃ x : Int32, vm_15 40 = upd (vm 40) k.toNatClampNeg x ∧ ((r4.toInt = 0 ∧ lo.toInt ≤ x.toInt ∧ x.toInt ≤ hi.toInt) ∨ (1 ≤ r4.toInt ∧ r4.toInt ≤ 2))) ∧ atI vm_15 ∧ (vm 34 0).toInt ≤ (vm_15 34 0).toInt) ∧ fr lRd vm vm_15) ∧ (MF (numF (vm 31) (vm 32 0).toInt lo.toInt hi.toInt (vm 34 0).toInt) (vm 33 0).toInt r4.toInt (vm_15 33 0).toInt (fun x => (vm_15 35 0).toInt = x.1 ∧ (vm_15 34 0).toInt = x.2.1 ∧ (vm_15 36 0).toInt = x.2.2) ∧ vm_15 40 = upd (vm 40) k.toNatClampNeg (vm_15 35 0)) from ⟨⟨⟨(fun t a1 a2 a3 a4 a5 a6 => by rw [← hv15, up2_ne a6]; exact h4.1 t a1 a2 a3 a4), ⟨o4_vm 35 0, (by rw [← hv15]; show upd (o4_vm 40) _ _ = _; rw [hq4]), h4.2.2.2⟩, (by rw [← hv15]; exact h4.2.1), (by rw [← hv15]; exact h4.2.2.1)⟩, hFz⟩, ⟨(by rw [← hv15]; exact hf4), (by rw [← hv15]; show upd (o4_vm 40) k.toNatClampNeg (o4_vm 35 0) = upd (vm 40) k.toNatClampNeg (o4_vm 35 0); rw [hq4])⟩⟩), by rw [ht]; exact hP, hD⟩, hS.F ht⟩) hS.2.2 dX10_into_18
def rm_X10_into_45 : Room := { frames := 2, cells := 0, slots := 0, locals := 48 }
set_option maxHeartbeats 4000000 in
set_option maxRecDepth 100000 in
theorem c_X10_into_45 (l : Launch) (E : Ev) (sz : Nat) (am : Nat → Nat) (vm : Vf) (k : Int32) (lo : Int32) (hi : Int32) (hMI : MdI vm) (hat : atI vm) (hk : 0 ≤ k.toInt ∧ k.toInt ≤ 2) : Met l yX10_into wsX10_into rm_X10_into_45 (MtP E sz [.ref (am 0), .ref (am 45), .int k, .int lo, .int hi] (mdL E am vm)) (va_Qi (fun (r : Int32) (u : Vf) => ((scK 45 vm u ∧ (∃ x : Int32, u 45 = upd (vm 45) k.toNatClampNeg x ∧ ((r.toInt = 0 ∧ lo.toInt ≤ x.toInt ∧ x.toInt ≤ hi.toInt) ∨ (1 ≤ r.toInt ∧ r.toInt ≤ 2))) ∧ atI u ∧ (vm 34 0).toInt ≤ (u 34 0).toInt) ∧ fr lRd vm u) ∧ (MF (numF (vm 31) (vm 32 0).toInt lo.toInt hi.toInt (vm 34 0).toInt) (vm 33 0).toInt r.toInt (u 33 0).toInt (fun x => (u 35 0).toInt = x.1 ∧ (u 34 0).toInt = x.2.1 ∧ (u 36 0).toInt = x.2.2) ∧ u 45 = upd (vm 45) k.toNatClampNeg (u 35 0))) (MtB E (va_A (mdL E am vm) sz) (fun u => mdL E am u)) (va_A (mdL E am vm) sz)) 0 0 (va_A (mdL E am vm) sz) := by
  refine Met.ofW (cc := cX10_into) (maxL := 6) (ret := (some .int)) (by decide) rfl ?_
  intro p e s m args below meth c s₁ B hml hv
  obtain ⟨rfl, hsz, hE, hP, hD0⟩ := hv
  subst hsz
  have hD := hD0.self (sz := s.heap.size)
  generalize hAe : va_A (mdL E am vm) s.heap.size = A at hD hE ⊢
  have hA : ∀ q : Nat, s.heap.size ≤ q → A q := fun q h => by rw [← hAe]; exact Or.inr h
  have hS : va_S A s.heap s.heap [] := va_S.rf
  have hx := B.exec
  have hb := B.bytes
  have hr := B.returns
  have hts := atoms_spec (ws := wsX10_into) B.pre
  have hown : s.vm.findClass RX10 = some m.cls := findClass_of_methodNamed B.named
  have hlocks := B.notSynchronized
  have hK := hE.1
  have in_X10 : ∀ w ∈ u_ws RX10 TX10 79, w ∈ wsX10_into := fun w h => List.mem_cons_of_mem _ (List.mem_append_right _ h)
  have lk0 := hts (.fieldLink RX10 198 "TidedGroundModel" "number" "I") (List.mem_of_getElem? (i := 1) rfl)
  have hl := lv_entry ([.ref (am 0), .ref (am 45), .int k, .int lo, .int hi]) (n := 6) (Nat.le_of_ble_eq_true rfl)
  rw [lg_entry_eq]
  generalize (lg_sl ([.ref (am 0), .ref (am 45), .int k, .int lo, .int hi]) ++ List.replicate (6 - (lg_sl ([.ref (am 0), .ref (am 45), .int k, .int lo, .int hi])).length) Slot.unset).toArray = ls at hl ⊢
  have hl : lv_has ls 6 [(0, .ref (am 0)), (1, .ref (am 45)), (2, .int k), (3, .int lo), (4, .int hi)] := hl
  refine W_abs (fun Q hQ => ?_)
  have hH := hMI.1
  obtain ⟨hT1, hT2, hT3, hT4, hT5⟩ := id hH.2.2.2.2.2.2
  obtain ⟨ha1, ha2⟩ := id hat
  have hFz : fr lRd vm vm := fr.rf
  refine lv_aload_n hx hb dX10_into_0 rfl (lv_at hl 0 rfl) ?_
  refine lv_iload_n hx hb dX10_into_1 rfl (lv_at hl 3 rfl) ?_
  refine lv_iload hx hb dX10_into_2 (lv_at hl 4 rfl) ?_
  refine mt_Vi (w1 := fun (u : Vf) => mdL E am u) (wf := fun (u : Vf) => mdL E am u) (wr := []) (As := [.int lo, .int hi]) (rest := []) (C := RX10) (ci := 10) ⟨hx, hb, hml, hown, hts⟩ (c_X10_takeNumber l E s.heap.size am vm lo hi hMI hat) (cwV 2 hts gX10_into_X10_takeNumber rfl rfl rfl (by decide +kernel) ⟨Nat.le_of_ble_eq_true rfl, Nat.le_of_ble_eq_true rfl⟩) hE hS hA hP hD [0, 1, 2, 3, 4, 5, 6, 7, 8, 9, 10, 11, 12, 13, 14, 15, 16, 17, 18, 19, 20, 21, 22, 23, 24, 25, 26, 27, 28, 29, 30, 31, 32, 33, 34, 35, 36, 37, 38, 39, 40, 41, 42, 43, 44, 45] [] rfl rfl (by decide) (by decide) (by decide) [0, 1, 2, 3, 4, 5, 6, 7, 8, 9, 10, 11, 12, 13, 14, 15, 16, 17, 18, 19, 20, 21, 22, 23, 24, 25, 26, 27, 28, 29, 30, 31, 32, 33, 34, 35, 36, 37, 38, 39, 40, 41, 42, 43, 44, 45] (by decide) (fun u => rfl) rfl rfl rfl rfl hl.1 rfl (Nat.le_of_ble_eq_true rfl) dX10_into_4 ⟨Nat.zero_le _, Nat.zero_le _⟩ (fun r4 u4 H locs h4 hP hD hS => ?_)
  generalize u4 = o4_vm at hP hD h4
  try dsimp only at h4
  have hf4 := h4.2
  replace h4 := h4.1
  have hFn4 := h4.2
  replace h4 := h4.1
  replace hP : va_P (eD E) vwCl (mdL E am o4_vm) H := hP
  replace hD : va_D A (mdL E am o4_vm) := hD
  have hFz : fr lRd vm o4_vm := by first | exact hFz | exact hFz.tr hFn4 (by decide) | (rw [← hv4]; repeat' (first | exact hFz | refine fr.up ?_ (by decide) | refine fr.up3 ?_ (by decide)))
  have hq4 : o4_vm 45 = vm 45 := h4.1 45 (by decide) (by decide) (by decide) (by decide)
  refine lv_istore (lv' := [(5, .int r4), (0, .ref (am 0)), (1, .ref (am 45)), (2, .int k), (3, .int lo), (4, .int hi)]) hx hb dX10_into_7 hl (by decide) rfl (fun ls hl => ?_)
  refine lv_aload_n hx hb dX10_into_9 rfl (lv_at hl 2 rfl) ?_
  refine lv_iload_n hx hb dX10_into_10 rfl (lv_at hl 3 rfl) ?_
  refine lv_aload_n hx hb dX10_into_11 rfl (lv_at hl 1 rfl) ?_
  refine va_get (D := eD E) (ci := 10) (v := .int (o4_vm 35 0)) (C := RX10) (T := TX10) (N := 79) hx hb hts in_X10 hown hK hP 0 rfl rfl 35 (by decide) lk0 (fun _ h9 => h9) rfl dX10_into_12 ?_
  refine va_iast hx hb hK hP hD hS 24 0 rfl rfl (n := 3) (f := (o4_vm 45)) (i_in (by omega) (by omega)) dX10_into_15 (fun H locs hP hD hS => ?_)
  replace hP : va_P (eD E) vwCl (mdL E am (up2 o4_vm 45 k.toNatClampNeg (o4_vm 35 0))) H := hP
  replace hD : va_D A (mdL E am (up2 o4_vm 45 k.toNatClampNeg (o4_vm 35 0))) := hD
  generalize hv15 : up2 o4_vm 45 k.toNatClampNeg (o4_vm 35 0) = vm_15 at hP hD
  have hFz : fr lRd vm vm_15 := by first | exact hFz | (rw [← hv15]; exact hFz.up (by decide))
  refine lv_iload hx hb dX10_into_16 (lv_at hl 0 rfl) ?_
  subst hQ
  exact W.iret (v := r4) hx hb hr (fun t ht hW => ⟨⟨r4, (vm_15), rfl, (show ((scK 45 vm vm_15 ∧ (∃ x : Int32, vm_15 45 = upd (vm 45) k.toNatClampNeg x ∧ ((r4.toInt = 0 ∧ lo.toInt ≤ x.toInt ∧ x.toInt ≤ hi.toInt) ∨ (1 ≤ r4.toInt ∧ r4.toInt ≤ 2))) ∧ atI vm_15 ∧ (vm 34 0).toInt ≤ (vm_15 34 0).toInt) ∧ fr lRd vm vm_15) ∧ (MF (numF (vm 31) (vm 32 0).toInt lo.toInt hi.toInt (vm 34 0).toInt) (vm 33 0).toInt r4.toInt (vm_15 33 0).toInt (fun x => (vm_15 35 0).toInt = x.1 ∧ (vm_15 34 0).toInt = x.2.1 ∧ (vm_15 36 0).toInt = x.2.2) ∧ vm_15 45 = upd (vm 45) k.toNatClampNeg (vm_15 35 0)) from ⟨⟨⟨(fun t a1 a2 a3 a4 a5 a6 => by rw [← hv15, up2_ne a6]; exact h4.1 t a1 a2 a3 a4), ⟨o4_vm 35 0, (by rw [← hv15]; show upd (o4_vm 45) _ _ = _; rw [hq4]), h4.2.2.2⟩, (by rw [← hv15]; exact h4.2.1), (by rw [← hv15]; exact h4.2.2.1)⟩, hFz⟩, ⟨(by rw [← hv15]; exact hf4), (by rw [← hv15]; show upd (o4_vm 45) k.toNatClampNeg (o4_vm 35 0) = upd (vm 45) k.toNatClampNeg (o4_vm 35 0); rw [hq4])⟩⟩), by rw [ht]; exact hP, hD⟩, hS.F ht⟩) hS.2.2 dX10_into_18
def rm_X10_into_46 : Room := { frames := 2, cells := 0, slots := 0, locals := 48 }
set_option maxHeartbeats 4000000 in
set_option maxRecDepth 100000 in
theorem c_X10_into_46 (l : Launch) (E : Ev) (sz : Nat) (am : Nat → Nat) (vm : Vf) (k : Int32) (lo : Int32) (hi : Int32) (hMI : MdI vm) (hat : atI vm) (hk : 0 ≤ k.toInt ∧ k.toInt ≤ 2) : Met l yX10_into wsX10_into rm_X10_into_46 (MtP E sz [.ref (am 0), .ref (am 46), .int k, .int lo, .int hi] (mdL E am vm)) (va_Qi (fun (r : Int32) (u : Vf) => ((scK 46 vm u ∧ (∃ x : Int32, u 46 = upd (vm 46) k.toNatClampNeg x ∧ ((r.toInt = 0 ∧ lo.toInt ≤ x.toInt ∧ x.toInt ≤ hi.toInt) ∨ (1 ≤ r.toInt ∧ r.toInt ≤ 2))) ∧ atI u ∧ (vm 34 0).toInt ≤ (u 34 0).toInt) ∧ fr lRd vm u) ∧ (MF (numF (vm 31) (vm 32 0).toInt lo.toInt hi.toInt (vm 34 0).toInt) (vm 33 0).toInt r.toInt (u 33 0).toInt (fun x => (u 35 0).toInt = x.1 ∧ (u 34 0).toInt = x.2.1 ∧ (u 36 0).toInt = x.2.2) ∧ u 46 = upd (vm 46) k.toNatClampNeg (u 35 0))) (MtB E (va_A (mdL E am vm) sz) (fun u => mdL E am u)) (va_A (mdL E am vm) sz)) 0 0 (va_A (mdL E am vm) sz) := by
  refine Met.ofW (cc := cX10_into) (maxL := 6) (ret := (some .int)) (by decide) rfl ?_
  intro p e s m args below meth c s₁ B hml hv
  obtain ⟨rfl, hsz, hE, hP, hD0⟩ := hv
  subst hsz
  have hD := hD0.self (sz := s.heap.size)
  generalize hAe : va_A (mdL E am vm) s.heap.size = A at hD hE ⊢
  have hA : ∀ q : Nat, s.heap.size ≤ q → A q := fun q h => by rw [← hAe]; exact Or.inr h
  have hS : va_S A s.heap s.heap [] := va_S.rf
  have hx := B.exec
  have hb := B.bytes
  have hr := B.returns
  have hts := atoms_spec (ws := wsX10_into) B.pre
  have hown : s.vm.findClass RX10 = some m.cls := findClass_of_methodNamed B.named
  have hlocks := B.notSynchronized
  have hK := hE.1
  have in_X10 : ∀ w ∈ u_ws RX10 TX10 79, w ∈ wsX10_into := fun w h => List.mem_cons_of_mem _ (List.mem_append_right _ h)
  have lk0 := hts (.fieldLink RX10 198 "TidedGroundModel" "number" "I") (List.mem_of_getElem? (i := 1) rfl)
  have hl := lv_entry ([.ref (am 0), .ref (am 46), .int k, .int lo, .int hi]) (n := 6) (Nat.le_of_ble_eq_true rfl)
  rw [lg_entry_eq]
  generalize (lg_sl ([.ref (am 0), .ref (am 46), .int k, .int lo, .int hi]) ++ List.replicate (6 - (lg_sl ([.ref (am 0), .ref (am 46), .int k, .int lo, .int hi])).length) Slot.unset).toArray = ls at hl ⊢
  have hl : lv_has ls 6 [(0, .ref (am 0)), (1, .ref (am 46)), (2, .int k), (3, .int lo), (4, .int hi)] := hl
  refine W_abs (fun Q hQ => ?_)
  have hH := hMI.1
  obtain ⟨hT1, hT2, hT3, hT4, hT5⟩ := id hH.2.2.2.2.2.2
  obtain ⟨ha1, ha2⟩ := id hat
  have hFz : fr lRd vm vm := fr.rf
  refine lv_aload_n hx hb dX10_into_0 rfl (lv_at hl 0 rfl) ?_
  refine lv_iload_n hx hb dX10_into_1 rfl (lv_at hl 3 rfl) ?_
  refine lv_iload hx hb dX10_into_2 (lv_at hl 4 rfl) ?_
  refine mt_Vi (w1 := fun (u : Vf) => mdL E am u) (wf := fun (u : Vf) => mdL E am u) (wr := []) (As := [.int lo, .int hi]) (rest := []) (C := RX10) (ci := 10) ⟨hx, hb, hml, hown, hts⟩ (c_X10_takeNumber l E s.heap.size am vm lo hi hMI hat) (cwV 2 hts gX10_into_X10_takeNumber rfl rfl rfl (by decide +kernel) ⟨Nat.le_of_ble_eq_true rfl, Nat.le_of_ble_eq_true rfl⟩) hE hS hA hP hD [0, 1, 2, 3, 4, 5, 6, 7, 8, 9, 10, 11, 12, 13, 14, 15, 16, 17, 18, 19, 20, 21, 22, 23, 24, 25, 26, 27, 28, 29, 30, 31, 32, 33, 34, 35, 36, 37, 38, 39, 40, 41, 42, 43, 44, 45] [] rfl rfl (by decide) (by decide) (by decide) [0, 1, 2, 3, 4, 5, 6, 7, 8, 9, 10, 11, 12, 13, 14, 15, 16, 17, 18, 19, 20, 21, 22, 23, 24, 25, 26, 27, 28, 29, 30, 31, 32, 33, 34, 35, 36, 37, 38, 39, 40, 41, 42, 43, 44, 45] (by decide) (fun u => rfl) rfl rfl rfl rfl hl.1 rfl (Nat.le_of_ble_eq_true rfl) dX10_into_4 ⟨Nat.zero_le _, Nat.zero_le _⟩ (fun r4 u4 H locs h4 hP hD hS => ?_)
  generalize u4 = o4_vm at hP hD h4
  try dsimp only at h4
  have hf4 := h4.2
  replace h4 := h4.1
  have hFn4 := h4.2
  replace h4 := h4.1
  replace hP : va_P (eD E) vwCl (mdL E am o4_vm) H := hP
  replace hD : va_D A (mdL E am o4_vm) := hD
  have hFz : fr lRd vm o4_vm := by first | exact hFz | exact hFz.tr hFn4 (by decide) | (rw [← hv4]; repeat' (first | exact hFz | refine fr.up ?_ (by decide) | refine fr.up3 ?_ (by decide)))
  have hq4 : o4_vm 46 = vm 46 := h4.1 46 (by decide) (by decide) (by decide) (by decide)
  refine lv_istore (lv' := [(5, .int r4), (0, .ref (am 0)), (1, .ref (am 46)), (2, .int k), (3, .int lo), (4, .int hi)]) hx hb dX10_into_7 hl (by decide) rfl (fun ls hl => ?_)
  refine lv_aload_n hx hb dX10_into_9 rfl (lv_at hl 2 rfl) ?_
  refine lv_iload_n hx hb dX10_into_10 rfl (lv_at hl 3 rfl) ?_
  refine lv_aload_n hx hb dX10_into_11 rfl (lv_at hl 1 rfl) ?_
  refine va_get (D := eD E) (ci := 10) (v := .int (o4_vm 35 0)) (C := RX10) (T := TX10) (N := 79) hx hb hts in_X10 hown hK hP 0 rfl rfl 35 (by decide) lk0 (fun _ h9 => h9) rfl dX10_into_12 ?_
  refine va_iast hx hb hK hP hD hS 25 0 rfl rfl (n := 3) (f := (o4_vm 46)) (i_in (by omega) (by omega)) dX10_into_15 (fun H locs hP hD hS => ?_)
  replace hP : va_P (eD E) vwCl (mdL E am (up2 o4_vm 46 k.toNatClampNeg (o4_vm 35 0))) H := hP
  replace hD : va_D A (mdL E am (up2 o4_vm 46 k.toNatClampNeg (o4_vm 35 0))) := hD
  generalize hv15 : up2 o4_vm 46 k.toNatClampNeg (o4_vm 35 0) = vm_15 at hP hD
  have hFz : fr lRd vm vm_15 := by first | exact hFz | (rw [← hv15]; exact hFz.up (by decide))
  refine lv_iload hx hb dX10_into_16 (lv_at hl 0 rfl) ?_
  subst hQ
  exact W.iret (v := r4) hx hb hr (fun t ht hW => ⟨⟨r4, (vm_15), rfl, (show ((scK 46 vm vm_15 ∧ (∃ x : Int32, vm_15 46 = upd (vm 46) k.toNatClampNeg x ∧ ((r4.toInt = 0 ∧ lo.toInt ≤ x.toInt ∧ x.toInt ≤ hi.toInt) ∨ (1 ≤ r4.toInt ∧ r4.toInt ≤ 2))) ∧ atI vm_15 ∧ (vm 34 0).toInt ≤ (vm_15 34 0).toInt) ∧ fr lRd vm vm_15) ∧ (MF (numF (vm 31) (vm 32 0).toInt lo.toInt hi.toInt (vm 34 0).toInt) (vm 33 0).toInt r4.toInt (vm_15 33 0).toInt (fun x => (vm_15 35 0).toInt = x.1 ∧ (vm_15 34 0).toInt = x.2.1 ∧ (vm_15 36 0).toInt = x.2.2) ∧ vm_15 46 = upd (vm 46) k.toNatClampNeg (vm_15 35 0)) from ⟨⟨⟨(fun t a1 a2 a3 a4 a5 a6 => by rw [← hv15, up2_ne a6]; exact h4.1 t a1 a2 a3 a4), ⟨o4_vm 35 0, (by rw [← hv15]; show upd (o4_vm 46) _ _ = _; rw [hq4]), h4.2.2.2⟩, (by rw [← hv15]; exact h4.2.1), (by rw [← hv15]; exact h4.2.2.1)⟩, hFz⟩, ⟨(by rw [← hv15]; exact hf4), (by rw [← hv15]; show upd (o4_vm 46) k.toNatClampNeg (o4_vm 35 0) = upd (vm 46) k.toNatClampNeg (o4_vm 35 0); rw [hq4])⟩⟩), by rw [ht]; exact hP, hD⟩, hS.F ht⟩) hS.2.2 dX10_into_18
def rm_X10_into_50 : Room := { frames := 2, cells := 0, slots := 0, locals := 48 }
set_option maxHeartbeats 4000000 in
set_option maxRecDepth 100000 in
theorem c_X10_into_50 (l : Launch) (E : Ev) (sz : Nat) (am : Nat → Nat) (vm : Vf) (k : Int32) (lo : Int32) (hi : Int32) (hMI : MdI vm) (hat : atI vm) (hk : 0 ≤ k.toInt ∧ k.toInt ≤ 5) : Met l yX10_into wsX10_into rm_X10_into_50 (MtP E sz [.ref (am 0), .ref (am 50), .int k, .int lo, .int hi] (mdL E am vm)) (va_Qi (fun (r : Int32) (u : Vf) => ((scK 50 vm u ∧ (∃ x : Int32, u 50 = upd (vm 50) k.toNatClampNeg x ∧ ((r.toInt = 0 ∧ lo.toInt ≤ x.toInt ∧ x.toInt ≤ hi.toInt) ∨ (1 ≤ r.toInt ∧ r.toInt ≤ 2))) ∧ atI u ∧ (vm 34 0).toInt ≤ (u 34 0).toInt) ∧ fr lRd vm u) ∧ (MF (numF (vm 31) (vm 32 0).toInt lo.toInt hi.toInt (vm 34 0).toInt) (vm 33 0).toInt r.toInt (u 33 0).toInt (fun x => (u 35 0).toInt = x.1 ∧ (u 34 0).toInt = x.2.1 ∧ (u 36 0).toInt = x.2.2) ∧ u 50 = upd (vm 50) k.toNatClampNeg (u 35 0))) (MtB E (va_A (mdL E am vm) sz) (fun u => mdL E am u)) (va_A (mdL E am vm) sz)) 0 0 (va_A (mdL E am vm) sz) := by
  refine Met.ofW (cc := cX10_into) (maxL := 6) (ret := (some .int)) (by decide) rfl ?_
  intro p e s m args below meth c s₁ B hml hv
  obtain ⟨rfl, hsz, hE, hP, hD0⟩ := hv
  subst hsz
  have hD := hD0.self (sz := s.heap.size)
  generalize hAe : va_A (mdL E am vm) s.heap.size = A at hD hE ⊢
  have hA : ∀ q : Nat, s.heap.size ≤ q → A q := fun q h => by rw [← hAe]; exact Or.inr h
  have hS : va_S A s.heap s.heap [] := va_S.rf
  have hx := B.exec
  have hb := B.bytes
  have hr := B.returns
  have hts := atoms_spec (ws := wsX10_into) B.pre
  have hown : s.vm.findClass RX10 = some m.cls := findClass_of_methodNamed B.named
  have hlocks := B.notSynchronized
  have hK := hE.1
  have in_X10 : ∀ w ∈ u_ws RX10 TX10 79, w ∈ wsX10_into := fun w h => List.mem_cons_of_mem _ (List.mem_append_right _ h)
  have lk0 := hts (.fieldLink RX10 198 "TidedGroundModel" "number" "I") (List.mem_of_getElem? (i := 1) rfl)
  have hl := lv_entry ([.ref (am 0), .ref (am 50), .int k, .int lo, .int hi]) (n := 6) (Nat.le_of_ble_eq_true rfl)
  rw [lg_entry_eq]
  generalize (lg_sl ([.ref (am 0), .ref (am 50), .int k, .int lo, .int hi]) ++ List.replicate (6 - (lg_sl ([.ref (am 0), .ref (am 50), .int k, .int lo, .int hi])).length) Slot.unset).toArray = ls at hl ⊢
  have hl : lv_has ls 6 [(0, .ref (am 0)), (1, .ref (am 50)), (2, .int k), (3, .int lo), (4, .int hi)] := hl
  refine W_abs (fun Q hQ => ?_)
  have hH := hMI.1
  obtain ⟨hT1, hT2, hT3, hT4, hT5⟩ := id hH.2.2.2.2.2.2
  obtain ⟨ha1, ha2⟩ := id hat
  have hFz : fr lRd vm vm := fr.rf
  refine lv_aload_n hx hb dX10_into_0 rfl (lv_at hl 0 rfl) ?_
  refine lv_iload_n hx hb dX10_into_1 rfl (lv_at hl 3 rfl) ?_
  refine lv_iload hx hb dX10_into_2 (lv_at hl 4 rfl) ?_
  refine mt_Vi (w1 := fun (u : Vf) => mdL E am u) (wf := fun (u : Vf) => mdL E am u) (wr := []) (As := [.int lo, .int hi]) (rest := []) (C := RX10) (ci := 10) ⟨hx, hb, hml, hown, hts⟩ (c_X10_takeNumber l E s.heap.size am vm lo hi hMI hat) (cwV 2 hts gX10_into_X10_takeNumber rfl rfl rfl (by decide +kernel) ⟨Nat.le_of_ble_eq_true rfl, Nat.le_of_ble_eq_true rfl⟩) hE hS hA hP hD [0, 1, 2, 3, 4, 5, 6, 7, 8, 9, 10, 11, 12, 13, 14, 15, 16, 17, 18, 19, 20, 21, 22, 23, 24, 25, 26, 27, 28, 29, 30, 31, 32, 33, 34, 35, 36, 37, 38, 39, 40, 41, 42, 43, 44, 45] [] rfl rfl (by decide) (by decide) (by decide) [0, 1, 2, 3, 4, 5, 6, 7, 8, 9, 10, 11, 12, 13, 14, 15, 16, 17, 18, 19, 20, 21, 22, 23, 24, 25, 26, 27, 28, 29, 30, 31, 32, 33, 34, 35, 36, 37, 38, 39, 40, 41, 42, 43, 44, 45] (by decide) (fun u => rfl) rfl rfl rfl rfl hl.1 rfl (Nat.le_of_ble_eq_true rfl) dX10_into_4 ⟨Nat.zero_le _, Nat.zero_le _⟩ (fun r4 u4 H locs h4 hP hD hS => ?_)
  generalize u4 = o4_vm at hP hD h4
  try dsimp only at h4
  have hf4 := h4.2
  replace h4 := h4.1
  have hFn4 := h4.2
  replace h4 := h4.1
  replace hP : va_P (eD E) vwCl (mdL E am o4_vm) H := hP
  replace hD : va_D A (mdL E am o4_vm) := hD
  have hFz : fr lRd vm o4_vm := by first | exact hFz | exact hFz.tr hFn4 (by decide) | (rw [← hv4]; repeat' (first | exact hFz | refine fr.up ?_ (by decide) | refine fr.up3 ?_ (by decide)))
  have hq4 : o4_vm 50 = vm 50 := h4.1 50 (by decide) (by decide) (by decide) (by decide)
  refine lv_istore (lv' := [(5, .int r4), (0, .ref (am 0)), (1, .ref (am 50)), (2, .int k), (3, .int lo), (4, .int hi)]) hx hb dX10_into_7 hl (by decide) rfl (fun ls hl => ?_)
  refine lv_aload_n hx hb dX10_into_9 rfl (lv_at hl 2 rfl) ?_
  refine lv_iload_n hx hb dX10_into_10 rfl (lv_at hl 3 rfl) ?_
  refine lv_aload_n hx hb dX10_into_11 rfl (lv_at hl 1 rfl) ?_
  refine va_get (D := eD E) (ci := 10) (v := .int (o4_vm 35 0)) (C := RX10) (T := TX10) (N := 79) hx hb hts in_X10 hown hK hP 0 rfl rfl 35 (by decide) lk0 (fun _ h9 => h9) rfl dX10_into_12 ?_
  refine va_iast hx hb hK hP hD hS 28 0 rfl rfl (n := 6) (f := (o4_vm 50)) (i_in (by omega) (by omega)) dX10_into_15 (fun H locs hP hD hS => ?_)
  replace hP : va_P (eD E) vwCl (mdL E am (up2 o4_vm 50 k.toNatClampNeg (o4_vm 35 0))) H := hP
  replace hD : va_D A (mdL E am (up2 o4_vm 50 k.toNatClampNeg (o4_vm 35 0))) := hD
  generalize hv15 : up2 o4_vm 50 k.toNatClampNeg (o4_vm 35 0) = vm_15 at hP hD
  have hFz : fr lRd vm vm_15 := by first | exact hFz | (rw [← hv15]; exact hFz.up (by decide))
  refine lv_iload hx hb dX10_into_16 (lv_at hl 0 rfl) ?_
  subst hQ
  exact W.iret (v := r4) hx hb hr (fun t ht hW => ⟨⟨r4, (vm_15), rfl, (show ((scK 50 vm vm_15 ∧ (∃ x : Int32, vm_15 50 = upd (vm 50) k.toNatClampNeg x ∧ ((r4.toInt = 0 ∧ lo.toInt ≤ x.toInt ∧ x.toInt ≤ hi.toInt) ∨ (1 ≤ r4.toInt ∧ r4.toInt ≤ 2))) ∧ atI vm_15 ∧ (vm 34 0).toInt ≤ (vm_15 34 0).toInt) ∧ fr lRd vm vm_15) ∧ (MF (numF (vm 31) (vm 32 0).toInt lo.toInt hi.toInt (vm 34 0).toInt) (vm 33 0).toInt r4.toInt (vm_15 33 0).toInt (fun x => (vm_15 35 0).toInt = x.1 ∧ (vm_15 34 0).toInt = x.2.1 ∧ (vm_15 36 0).toInt = x.2.2) ∧ vm_15 50 = upd (vm 50) k.toNatClampNeg (vm_15 35 0)) from ⟨⟨⟨(fun t a1 a2 a3 a4 a5 a6 => by rw [← hv15, up2_ne a6]; exact h4.1 t a1 a2 a3 a4), ⟨o4_vm 35 0, (by rw [← hv15]; show upd (o4_vm 50) _ _ = _; rw [hq4]), h4.2.2.2⟩, (by rw [← hv15]; exact h4.2.1), (by rw [← hv15]; exact h4.2.2.1)⟩, hFz⟩, ⟨(by rw [← hv15]; exact hf4), (by rw [← hv15]; show upd (o4_vm 50) k.toNatClampNeg (o4_vm 35 0) = upd (vm 50) k.toNatClampNeg (o4_vm 35 0); rw [hq4])⟩⟩), by rw [ht]; exact hP, hD⟩, hS.F ht⟩) hS.2.2 dX10_into_18
def rm_X10_into_54 : Room := { frames := 2, cells := 0, slots := 0, locals := 48 }
set_option maxHeartbeats 4000000 in
set_option maxRecDepth 100000 in
theorem c_X10_into_54 (l : Launch) (E : Ev) (sz : Nat) (am : Nat → Nat) (vm : Vf) (k : Int32) (lo : Int32) (hi : Int32) (hMI : MdI vm) (hat : atI vm) (hk : 0 ≤ k.toInt ∧ k.toInt ≤ 5) : Met l yX10_into wsX10_into rm_X10_into_54 (MtP E sz [.ref (am 0), .ref (am 54), .int k, .int lo, .int hi] (mdL E am vm)) (va_Qi (fun (r : Int32) (u : Vf) => ((scK 54 vm u ∧ (∃ x : Int32, u 54 = upd (vm 54) k.toNatClampNeg x ∧ ((r.toInt = 0 ∧ lo.toInt ≤ x.toInt ∧ x.toInt ≤ hi.toInt) ∨ (1 ≤ r.toInt ∧ r.toInt ≤ 2))) ∧ atI u ∧ (vm 34 0).toInt ≤ (u 34 0).toInt) ∧ fr lRd vm u) ∧ (MF (numF (vm 31) (vm 32 0).toInt lo.toInt hi.toInt (vm 34 0).toInt) (vm 33 0).toInt r.toInt (u 33 0).toInt (fun x => (u 35 0).toInt = x.1 ∧ (u 34 0).toInt = x.2.1 ∧ (u 36 0).toInt = x.2.2) ∧ u 54 = upd (vm 54) k.toNatClampNeg (u 35 0))) (MtB E (va_A (mdL E am vm) sz) (fun u => mdL E am u)) (va_A (mdL E am vm) sz)) 0 0 (va_A (mdL E am vm) sz) := by
  refine Met.ofW (cc := cX10_into) (maxL := 6) (ret := (some .int)) (by decide) rfl ?_
  intro p e s m args below meth c s₁ B hml hv
  obtain ⟨rfl, hsz, hE, hP, hD0⟩ := hv
  subst hsz
  have hD := hD0.self (sz := s.heap.size)
  generalize hAe : va_A (mdL E am vm) s.heap.size = A at hD hE ⊢
  have hA : ∀ q : Nat, s.heap.size ≤ q → A q := fun q h => by rw [← hAe]; exact Or.inr h
  have hS : va_S A s.heap s.heap [] := va_S.rf
  have hx := B.exec
  have hb := B.bytes
  have hr := B.returns
  have hts := atoms_spec (ws := wsX10_into) B.pre
  have hown : s.vm.findClass RX10 = some m.cls := findClass_of_methodNamed B.named
  have hlocks := B.notSynchronized
  have hK := hE.1
  have in_X10 : ∀ w ∈ u_ws RX10 TX10 79, w ∈ wsX10_into := fun w h => List.mem_cons_of_mem _ (List.mem_append_right _ h)
  have lk0 := hts (.fieldLink RX10 198 "TidedGroundModel" "number" "I") (List.mem_of_getElem? (i := 1) rfl)
  have hl := lv_entry ([.ref (am 0), .ref (am 54), .int k, .int lo, .int hi]) (n := 6) (Nat.le_of_ble_eq_true rfl)
  rw [lg_entry_eq]
  generalize (lg_sl ([.ref (am 0), .ref (am 54), .int k, .int lo, .int hi]) ++ List.replicate (6 - (lg_sl ([.ref (am 0), .ref (am 54), .int k, .int lo, .int hi])).length) Slot.unset).toArray = ls at hl ⊢
  have hl : lv_has ls 6 [(0, .ref (am 0)), (1, .ref (am 54)), (2, .int k), (3, .int lo), (4, .int hi)] := hl
  refine W_abs (fun Q hQ => ?_)
  have hH := hMI.1
  obtain ⟨hT1, hT2, hT3, hT4, hT5⟩ := id hH.2.2.2.2.2.2
  obtain ⟨ha1, ha2⟩ := id hat
  have hFz : fr lRd vm vm := fr.rf
  refine lv_aload_n hx hb dX10_into_0 rfl (lv_at hl 0 rfl) ?_
  refine lv_iload_n hx hb dX10_into_1 rfl (lv_at hl 3 rfl) ?_
  refine lv_iload hx hb dX10_into_2 (lv_at hl 4 rfl) ?_
  refine mt_Vi (w1 := fun (u : Vf) => mdL E am u) (wf := fun (u : Vf) => mdL E am u) (wr := []) (As := [.int lo, .int hi]) (rest := []) (C := RX10) (ci := 10) ⟨hx, hb, hml, hown, hts⟩ (c_X10_takeNumber l E s.heap.size am vm lo hi hMI hat) (cwV 2 hts gX10_into_X10_takeNumber rfl rfl rfl (by decide +kernel) ⟨Nat.le_of_ble_eq_true rfl, Nat.le_of_ble_eq_true rfl⟩) hE hS hA hP hD [0, 1, 2, 3, 4, 5, 6, 7, 8, 9, 10, 11, 12, 13, 14, 15, 16, 17, 18, 19, 20, 21, 22, 23, 24, 25, 26, 27, 28, 29, 30, 31, 32, 33, 34, 35, 36, 37, 38, 39, 40, 41, 42, 43, 44, 45] [] rfl rfl (by decide) (by decide) (by decide) [0, 1, 2, 3, 4, 5, 6, 7, 8, 9, 10, 11, 12, 13, 14, 15, 16, 17, 18, 19, 20, 21, 22, 23, 24, 25, 26, 27, 28, 29, 30, 31, 32, 33, 34, 35, 36, 37, 38, 39, 40, 41, 42, 43, 44, 45] (by decide) (fun u => rfl) rfl rfl rfl rfl hl.1 rfl (Nat.le_of_ble_eq_true rfl) dX10_into_4 ⟨Nat.zero_le _, Nat.zero_le _⟩ (fun r4 u4 H locs h4 hP hD hS => ?_)
  generalize u4 = o4_vm at hP hD h4
  try dsimp only at h4
  have hf4 := h4.2
  replace h4 := h4.1
  have hFn4 := h4.2
  replace h4 := h4.1
  replace hP : va_P (eD E) vwCl (mdL E am o4_vm) H := hP
  replace hD : va_D A (mdL E am o4_vm) := hD
  have hFz : fr lRd vm o4_vm := by first | exact hFz | exact hFz.tr hFn4 (by decide) | (rw [← hv4]; repeat' (first | exact hFz | refine fr.up ?_ (by decide) | refine fr.up3 ?_ (by decide)))
  have hq4 : o4_vm 54 = vm 54 := h4.1 54 (by decide) (by decide) (by decide) (by decide)
  refine lv_istore (lv' := [(5, .int r4), (0, .ref (am 0)), (1, .ref (am 54)), (2, .int k), (3, .int lo), (4, .int hi)]) hx hb dX10_into_7 hl (by decide) rfl (fun ls hl => ?_)
  refine lv_aload_n hx hb dX10_into_9 rfl (lv_at hl 2 rfl) ?_
  refine lv_iload_n hx hb dX10_into_10 rfl (lv_at hl 3 rfl) ?_
  refine lv_aload_n hx hb dX10_into_11 rfl (lv_at hl 1 rfl) ?_
  refine va_get (D := eD E) (ci := 10) (v := .int (o4_vm 35 0)) (C := RX10) (T := TX10) (N := 79) hx hb hts in_X10 hown hK hP 0 rfl rfl 35 (by decide) lk0 (fun _ h9 => h9) rfl dX10_into_12 ?_
  refine va_iast hx hb hK hP hD hS 31 0 rfl rfl (n := 6) (f := (o4_vm 54)) (i_in (by omega) (by omega)) dX10_into_15 (fun H locs hP hD hS => ?_)
  replace hP : va_P (eD E) vwCl (mdL E am (up2 o4_vm 54 k.toNatClampNeg (o4_vm 35 0))) H := hP
  replace hD : va_D A (mdL E am (up2 o4_vm 54 k.toNatClampNeg (o4_vm 35 0))) := hD
  generalize hv15 : up2 o4_vm 54 k.toNatClampNeg (o4_vm 35 0) = vm_15 at hP hD
  have hFz : fr lRd vm vm_15 := by first | exact hFz | (rw [← hv15]; exact hFz.up (by decide))
  refine lv_iload hx hb dX10_into_16 (lv_at hl 0 rfl) ?_
  subst hQ
  exact W.iret (v := r4) hx hb hr (fun t ht hW => ⟨⟨r4, (vm_15), rfl, (show ((scK 54 vm vm_15 ∧ (∃ x : Int32, vm_15 54 = upd (vm 54) k.toNatClampNeg x ∧ ((r4.toInt = 0 ∧ lo.toInt ≤ x.toInt ∧ x.toInt ≤ hi.toInt) ∨ (1 ≤ r4.toInt ∧ r4.toInt ≤ 2))) ∧ atI vm_15 ∧ (vm 34 0).toInt ≤ (vm_15 34 0).toInt) ∧ fr lRd vm vm_15) ∧ (MF (numF (vm 31) (vm 32 0).toInt lo.toInt hi.toInt (vm 34 0).toInt) (vm 33 0).toInt r4.toInt (vm_15 33 0).toInt (fun x => (vm_15 35 0).toInt = x.1 ∧ (vm_15 34 0).toInt = x.2.1 ∧ (vm_15 36 0).toInt = x.2.2) ∧ vm_15 54 = upd (vm 54) k.toNatClampNeg (vm_15 35 0)) from ⟨⟨⟨(fun t a1 a2 a3 a4 a5 a6 => by rw [← hv15, up2_ne a6]; exact h4.1 t a1 a2 a3 a4), ⟨o4_vm 35 0, (by rw [← hv15]; show upd (o4_vm 54) _ _ = _; rw [hq4]), h4.2.2.2⟩, (by rw [← hv15]; exact h4.2.1), (by rw [← hv15]; exact h4.2.2.1)⟩, hFz⟩, ⟨(by rw [← hv15]; exact hf4), (by rw [← hv15]; show upd (o4_vm 54) k.toNatClampNeg (o4_vm 35 0) = upd (vm 54) k.toNatClampNeg (o4_vm 35 0); rw [hq4])⟩⟩), by rw [ht]; exact hP, hD⟩, hS.F ht⟩) hS.2.2 dX10_into_18
def rm_X10_into_57 : Room := { frames := 2, cells := 0, slots := 0, locals := 48 }
set_option maxHeartbeats 4000000 in
set_option maxRecDepth 100000 in
theorem c_X10_into_57 (l : Launch) (E : Ev) (sz : Nat) (am : Nat → Nat) (vm : Vf) (k : Int32) (lo : Int32) (hi : Int32) (hMI : MdI vm) (hat : atI vm) (hk : 0 ≤ k.toInt ∧ k.toInt ≤ 4) : Met l yX10_into wsX10_into rm_X10_into_57 (MtP E sz [.ref (am 0), .ref (am 57), .int k, .int lo, .int hi] (mdL E am vm)) (va_Qi (fun (r : Int32) (u : Vf) => ((scK 57 vm u ∧ (∃ x : Int32, u 57 = upd (vm 57) k.toNatClampNeg x ∧ ((r.toInt = 0 ∧ lo.toInt ≤ x.toInt ∧ x.toInt ≤ hi.toInt) ∨ (1 ≤ r.toInt ∧ r.toInt ≤ 2))) ∧ atI u ∧ (vm 34 0).toInt ≤ (u 34 0).toInt) ∧ fr lRd vm u) ∧ (MF (numF (vm 31) (vm 32 0).toInt lo.toInt hi.toInt (vm 34 0).toInt) (vm 33 0).toInt r.toInt (u 33 0).toInt (fun x => (u 35 0).toInt = x.1 ∧ (u 34 0).toInt = x.2.1 ∧ (u 36 0).toInt = x.2.2) ∧ u 57 = upd (vm 57) k.toNatClampNeg (u 35 0))) (MtB E (va_A (mdL E am vm) sz) (fun u => mdL E am u)) (va_A (mdL E am vm) sz)) 0 0 (va_A (mdL E am vm) sz) := by
  refine Met.ofW (cc := cX10_into) (maxL := 6) (ret := (some .int)) (by decide) rfl ?_
  intro p e s m args below meth c s₁ B hml hv
  obtain ⟨rfl, hsz, hE, hP, hD0⟩ := hv
  subst hsz
  have hD := hD0.self (sz := s.heap.size)
  generalize hAe : va_A (mdL E am vm) s.heap.size = A at hD hE ⊢
  have hA : ∀ q : Nat, s.heap.size ≤ q → A q := fun q h => by rw [← hAe]; exact Or.inr h
  have hS : va_S A s.heap s.heap [] := va_S.rf
  have hx := B.exec
  have hb := B.bytes
  have hr := B.returns
  have hts := atoms_spec (ws := wsX10_into) B.pre
  have hown : s.vm.findClass RX10 = some m.cls := findClass_of_methodNamed B.named
  have hlocks := B.notSynchronized
  have hK := hE.1
  have in_X10 : ∀ w ∈ u_ws RX10 TX10 79, w ∈ wsX10_into := fun w h => List.mem_cons_of_mem _ (List.mem_append_right _ h)
  have lk0 := hts (.fieldLink RX10 198 "TidedGroundModel" "number" "I") (List.mem_of_getElem? (i := 1) rfl)
  have hl := lv_entry ([.ref (am 0), .ref (am 57), .int k, .int lo, .int hi]) (n := 6) (Nat.le_of_ble_eq_true rfl)
  rw [lg_entry_eq]
  generalize (lg_sl ([.ref (am 0), .ref (am 57), .int k, .int lo, .int hi]) ++ List.replicate (6 - (lg_sl ([.ref (am 0), .ref (am 57), .int k, .int lo, .int hi])).length) Slot.unset).toArray = ls at hl ⊢
  have hl : lv_has ls 6 [(0, .ref (am 0)), (1, .ref (am 57)), (2, .int k), (3, .int lo), (4, .int hi)] := hl
  refine W_abs (fun Q hQ => ?_)
  have hH := hMI.1
  obtain ⟨hT1, hT2, hT3, hT4, hT5⟩ := id hH.2.2.2.2.2.2
  obtain ⟨ha1, ha2⟩ := id hat
  have hFz : fr lRd vm vm := fr.rf
  refine lv_aload_n hx hb dX10_into_0 rfl (lv_at hl 0 rfl) ?_
  refine lv_iload_n hx hb dX10_into_1 rfl (lv_at hl 3 rfl) ?_
  refine lv_iload hx hb dX10_into_2 (lv_at hl 4 rfl) ?_
  refine mt_Vi (w1 := fun (u : Vf) => mdL E am u) (wf := fun (u : Vf) => mdL E am u) (wr := []) (As := [.int lo, .int hi]) (rest := []) (C := RX10) (ci := 10) ⟨hx, hb, hml, hown, hts⟩ (c_X10_takeNumber l E s.heap.size am vm lo hi hMI hat) (cwV 2 hts gX10_into_X10_takeNumber rfl rfl rfl (by decide +kernel) ⟨Nat.le_of_ble_eq_true rfl, Nat.le_of_ble_eq_true rfl⟩) hE hS hA hP hD [0, 1, 2, 3, 4, 5, 6, 7, 8, 9, 10, 11, 12, 13, 14, 15, 16, 17, 18, 19, 20, 21, 22, 23, 24, 25, 26, 27, 28, 29, 30, 31, 32, 33, 34, 35, 36, 37, 38, 39, 40, 41, 42, 43, 44, 45] [] rfl rfl (by decide) (by decide) (by decide) [0, 1, 2, 3, 4, 5, 6, 7, 8, 9, 10, 11, 12, 13, 14, 15, 16, 17, 18, 19, 20, 21, 22, 23, 24, 25, 26, 27, 28, 29, 30, 31, 32, 33, 34, 35, 36, 37, 38, 39, 40, 41, 42, 43, 44, 45] (by decide) (fun u => rfl) rfl rfl rfl rfl hl.1 rfl (Nat.le_of_ble_eq_true rfl) dX10_into_4 ⟨Nat.zero_le _, Nat.zero_le _⟩ (fun r4 u4 H locs h4 hP hD hS => ?_)
  generalize u4 = o4_vm at hP hD h4
  try dsimp only at h4
  have hf4 := h4.2
  replace h4 := h4.1
  have hFn4 := h4.2
  replace h4 := h4.1
  replace hP : va_P (eD E) vwCl (mdL E am o4_vm) H := hP
  replace hD : va_D A (mdL E am o4_vm) := hD
  have hFz : fr lRd vm o4_vm := by first | exact hFz | exact hFz.tr hFn4 (by decide) | (rw [← hv4]; repeat' (first | exact hFz | refine fr.up ?_ (by decide) | refine fr.up3 ?_ (by decide)))
  have hq4 : o4_vm 57 = vm 57 := h4.1 57 (by decide) (by decide) (by decide) (by decide)
  refine lv_istore (lv' := [(5, .int r4), (0, .ref (am 0)), (1, .ref (am 57)), (2, .int k), (3, .int lo), (4, .int hi)]) hx hb dX10_into_7 hl (by decide) rfl (fun ls hl => ?_)
  refine lv_aload_n hx hb dX10_into_9 rfl (lv_at hl 2 rfl) ?_
  refine lv_iload_n hx hb dX10_into_10 rfl (lv_at hl 3 rfl) ?_
  refine lv_aload_n hx hb dX10_into_11 rfl (lv_at hl 1 rfl) ?_
  refine va_get (D := eD E) (ci := 10) (v := .int (o4_vm 35 0)) (C := RX10) (T := TX10) (N := 79) hx hb hts in_X10 hown hK hP 0 rfl rfl 35 (by decide) lk0 (fun _ h9 => h9) rfl dX10_into_12 ?_
  refine va_iast hx hb hK hP hD hS 33 0 rfl rfl (n := 5) (f := (o4_vm 57)) (i_in (by omega) (by omega)) dX10_into_15 (fun H locs hP hD hS => ?_)
  replace hP : va_P (eD E) vwCl (mdL E am (up2 o4_vm 57 k.toNatClampNeg (o4_vm 35 0))) H := hP
  replace hD : va_D A (mdL E am (up2 o4_vm 57 k.toNatClampNeg (o4_vm 35 0))) := hD
  generalize hv15 : up2 o4_vm 57 k.toNatClampNeg (o4_vm 35 0) = vm_15 at hP hD
  have hFz : fr lRd vm vm_15 := by first | exact hFz | (rw [← hv15]; exact hFz.up (by decide))
  refine lv_iload hx hb dX10_into_16 (lv_at hl 0 rfl) ?_
  subst hQ
  exact W.iret (v := r4) hx hb hr (fun t ht hW => ⟨⟨r4, (vm_15), rfl, (show ((scK 57 vm vm_15 ∧ (∃ x : Int32, vm_15 57 = upd (vm 57) k.toNatClampNeg x ∧ ((r4.toInt = 0 ∧ lo.toInt ≤ x.toInt ∧ x.toInt ≤ hi.toInt) ∨ (1 ≤ r4.toInt ∧ r4.toInt ≤ 2))) ∧ atI vm_15 ∧ (vm 34 0).toInt ≤ (vm_15 34 0).toInt) ∧ fr lRd vm vm_15) ∧ (MF (numF (vm 31) (vm 32 0).toInt lo.toInt hi.toInt (vm 34 0).toInt) (vm 33 0).toInt r4.toInt (vm_15 33 0).toInt (fun x => (vm_15 35 0).toInt = x.1 ∧ (vm_15 34 0).toInt = x.2.1 ∧ (vm_15 36 0).toInt = x.2.2) ∧ vm_15 57 = upd (vm 57) k.toNatClampNeg (vm_15 35 0)) from ⟨⟨⟨(fun t a1 a2 a3 a4 a5 a6 => by rw [← hv15, up2_ne a6]; exact h4.1 t a1 a2 a3 a4), ⟨o4_vm 35 0, (by rw [← hv15]; show upd (o4_vm 57) _ _ = _; rw [hq4]), h4.2.2.2⟩, (by rw [← hv15]; exact h4.2.1), (by rw [← hv15]; exact h4.2.2.1)⟩, hFz⟩, ⟨(by rw [← hv15]; exact hf4), (by rw [← hv15]; show upd (o4_vm 57) k.toNatClampNeg (o4_vm 35 0) = upd (vm 57) k.toNatClampNeg (o4_vm 35 0); rw [hq4])⟩⟩), by rw [ht]; exact hP, hD⟩, hS.F ht⟩) hS.2.2 dX10_into_18
def rm_X10_into_59 : Room := { frames := 2, cells := 0, slots := 0, locals := 48 }
set_option maxHeartbeats 4000000 in
set_option maxRecDepth 100000 in
theorem c_X10_into_59 (l : Launch) (E : Ev) (sz : Nat) (am : Nat → Nat) (vm : Vf) (k : Int32) (lo : Int32) (hi : Int32) (hMI : MdI vm) (hat : atI vm) (hk : 0 ≤ k.toInt ∧ k.toInt ≤ 3) : Met l yX10_into wsX10_into rm_X10_into_59 (MtP E sz [.ref (am 0), .ref (am 59), .int k, .int lo, .int hi] (mdL E am vm)) (va_Qi (fun (r : Int32) (u : Vf) => ((scK 59 vm u ∧ (∃ x : Int32, u 59 = upd (vm 59) k.toNatClampNeg x ∧ ((r.toInt = 0 ∧ lo.toInt ≤ x.toInt ∧ x.toInt ≤ hi.toInt) ∨ (1 ≤ r.toInt ∧ r.toInt ≤ 2))) ∧ atI u ∧ (vm 34 0).toInt ≤ (u 34 0).toInt) ∧ fr lRd vm u) ∧ (MF (numF (vm 31) (vm 32 0).toInt lo.toInt hi.toInt (vm 34 0).toInt) (vm 33 0).toInt r.toInt (u 33 0).toInt (fun x => (u 35 0).toInt = x.1 ∧ (u 34 0).toInt = x.2.1 ∧ (u 36 0).toInt = x.2.2) ∧ u 59 = upd (vm 59) k.toNatClampNeg (u 35 0))) (MtB E (va_A (mdL E am vm) sz) (fun u => mdL E am u)) (va_A (mdL E am vm) sz)) 0 0 (va_A (mdL E am vm) sz) := by
  refine Met.ofW (cc := cX10_into) (maxL := 6) (ret := (some .int)) (by decide) rfl ?_
  intro p e s m args below meth c s₁ B hml hv
  obtain ⟨rfl, hsz, hE, hP, hD0⟩ := hv
  subst hsz
  have hD := hD0.self (sz := s.heap.size)
  generalize hAe : va_A (mdL E am vm) s.heap.size = A at hD hE ⊢
  have hA : ∀ q : Nat, s.heap.size ≤ q → A q := fun q h => by rw [← hAe]; exact Or.inr h
  have hS : va_S A s.heap s.heap [] := va_S.rf
  have hx := B.exec
  have hb := B.bytes
  have hr := B.returns
  have hts := atoms_spec (ws := wsX10_into) B.pre
  have hown : s.vm.findClass RX10 = some m.cls := findClass_of_methodNamed B.named
  have hlocks := B.notSynchronized
  have hK := hE.1
  have in_X10 : ∀ w ∈ u_ws RX10 TX10 79, w ∈ wsX10_into := fun w h => List.mem_cons_of_mem _ (List.mem_append_right _ h)
  have lk0 := hts (.fieldLink RX10 198 "TidedGroundModel" "number" "I") (List.mem_of_getElem? (i := 1) rfl)
  have hl := lv_entry ([.ref (am 0), .ref (am 59), .int k, .int lo, .int hi]) (n := 6) (Nat.le_of_ble_eq_true rfl)
  rw [lg_entry_eq]
  generalize (lg_sl ([.ref (am 0), .ref (am 59), .int k, .int lo, .int hi]) ++ List.replicate (6 - (lg_sl ([.ref (am 0), .ref (am 59), .int k, .int lo, .int hi])).length) Slot.unset).toArray = ls at hl ⊢
  have hl : lv_has ls 6 [(0, .ref (am 0)), (1, .ref (am 59)), (2, .int k), (3, .int lo), (4, .int hi)] := hl
  refine W_abs (fun Q hQ => ?_)
  have hH := hMI.1
  obtain ⟨hT1, hT2, hT3, hT4, hT5⟩ := id hH.2.2.2.2.2.2
  obtain ⟨ha1, ha2⟩ := id hat
  have hFz : fr lRd vm vm := fr.rf
  refine lv_aload_n hx hb dX10_into_0 rfl (lv_at hl 0 rfl) ?_
  refine lv_iload_n hx hb dX10_into_1 rfl (lv_at hl 3 rfl) ?_
  refine lv_iload hx hb dX10_into_2 (lv_at hl 4 rfl) ?_
  refine mt_Vi (w1 := fun (u : Vf) => mdL E am u) (wf := fun (u : Vf) => mdL E am u) (wr := []) (As := [.int lo, .int hi]) (rest := []) (C := RX10) (ci := 10) ⟨hx, hb, hml, hown, hts⟩ (c_X10_takeNumber l E s.heap.size am vm lo hi hMI hat) (cwV 2 hts gX10_into_X10_takeNumber rfl rfl rfl (by decide +kernel) ⟨Nat.le_of_ble_eq_true rfl, Nat.le_of_ble_eq_true rfl⟩) hE hS hA hP hD [0, 1, 2, 3, 4, 5, 6, 7, 8, 9, 10, 11, 12, 13, 14, 15, 16, 17, 18, 19, 20, 21, 22, 23, 24, 25, 26, 27, 28, 29, 30, 31, 32, 33, 34, 35, 36, 37, 38, 39, 40, 41, 42, 43, 44, 45] [] rfl rfl (by decide) (by decide) (by decide) [0, 1, 2, 3, 4, 5, 6, 7, 8, 9, 10, 11, 12, 13, 14, 15, 16, 17, 18, 19, 20, 21, 22, 23, 24, 25, 26, 27, 28, 29, 30, 31, 32, 33, 34, 35, 36, 37, 38, 39, 40, 41, 42, 43, 44, 45] (by decide) (fun u => rfl) rfl rfl rfl rfl hl.1 rfl (Nat.le_of_ble_eq_true rfl) dX10_into_4 ⟨Nat.zero_le _, Nat.zero_le _⟩ (fun r4 u4 H locs h4 hP hD hS => ?_)
  generalize u4 = o4_vm at hP hD h4
  try dsimp only at h4
  have hf4 := h4.2
  replace h4 := h4.1
  have hFn4 := h4.2
  replace h4 := h4.1
  replace hP : va_P (eD E) vwCl (mdL E am o4_vm) H := hP
  replace hD : va_D A (mdL E am o4_vm) := hD
  have hFz : fr lRd vm o4_vm := by first | exact hFz | exact hFz.tr hFn4 (by decide) | (rw [← hv4]; repeat' (first | exact hFz | refine fr.up ?_ (by decide) | refine fr.up3 ?_ (by decide)))
  have hq4 : o4_vm 59 = vm 59 := h4.1 59 (by decide) (by decide) (by decide) (by decide)
  refine lv_istore (lv' := [(5, .int r4), (0, .ref (am 0)), (1, .ref (am 59)), (2, .int k), (3, .int lo), (4, .int hi)]) hx hb dX10_into_7 hl (by decide) rfl (fun ls hl => ?_)
  refine lv_aload_n hx hb dX10_into_9 rfl (lv_at hl 2 rfl) ?_
  refine lv_iload_n hx hb dX10_into_10 rfl (lv_at hl 3 rfl) ?_
  refine lv_aload_n hx hb dX10_into_11 rfl (lv_at hl 1 rfl) ?_
  refine va_get (D := eD E) (ci := 10) (v := .int (o4_vm 35 0)) (C := RX10) (T := TX10) (N := 79) hx hb hts in_X10 hown hK hP 0 rfl rfl 35 (by decide) lk0 (fun _ h9 => h9) rfl dX10_into_12 ?_
  refine va_iast hx hb hK hP hD hS 34 0 rfl rfl (n := 4) (f := (o4_vm 59)) (i_in (by omega) (by omega)) dX10_into_15 (fun H locs hP hD hS => ?_)
  replace hP : va_P (eD E) vwCl (mdL E am (up2 o4_vm 59 k.toNatClampNeg (o4_vm 35 0))) H := hP
  replace hD : va_D A (mdL E am (up2 o4_vm 59 k.toNatClampNeg (o4_vm 35 0))) := hD
  generalize hv15 : up2 o4_vm 59 k.toNatClampNeg (o4_vm 35 0) = vm_15 at hP hD
  have hFz : fr lRd vm vm_15 := by first | exact hFz | (rw [← hv15]; exact hFz.up (by decide))
  refine lv_iload hx hb dX10_into_16 (lv_at hl 0 rfl) ?_
  subst hQ
  exact W.iret (v := r4) hx hb hr (fun t ht hW => ⟨⟨r4, (vm_15), rfl, (show ((scK 59 vm vm_15 ∧ (∃ x : Int32, vm_15 59 = upd (vm 59) k.toNatClampNeg x ∧ ((r4.toInt = 0 ∧ lo.toInt ≤ x.toInt ∧ x.toInt ≤ hi.toInt) ∨ (1 ≤ r4.toInt ∧ r4.toInt ≤ 2))) ∧ atI vm_15 ∧ (vm 34 0).toInt ≤ (vm_15 34 0).toInt) ∧ fr lRd vm vm_15) ∧ (MF (numF (vm 31) (vm 32 0).toInt lo.toInt hi.toInt (vm 34 0).toInt) (vm 33 0).toInt r4.toInt (vm_15 33 0).toInt (fun x => (vm_15 35 0).toInt = x.1 ∧ (vm_15 34 0).toInt = x.2.1 ∧ (vm_15 36 0).toInt = x.2.2) ∧ vm_15 59 = upd (vm 59) k.toNatClampNeg (vm_15 35 0)) from ⟨⟨⟨(fun t a1 a2 a3 a4 a5 a6 => by rw [← hv15, up2_ne a6]; exact h4.1 t a1 a2 a3 a4), ⟨o4_vm 35 0, (by rw [← hv15]; show upd (o4_vm 59) _ _ = _; rw [hq4]), h4.2.2.2⟩, (by rw [← hv15]; exact h4.2.1), (by rw [← hv15]; exact h4.2.2.1)⟩, hFz⟩, ⟨(by rw [← hv15]; exact hf4), (by rw [← hv15]; show upd (o4_vm 59) k.toNatClampNeg (o4_vm 35 0) = upd (vm 59) k.toNatClampNeg (o4_vm 35 0); rw [hq4])⟩⟩), by rw [ht]; exact hP, hD⟩, hS.F ht⟩) hS.2.2 dX10_into_18
def rm_X10_into_60 : Room := { frames := 2, cells := 0, slots := 0, locals := 48 }
set_option maxHeartbeats 4000000 in
set_option maxRecDepth 100000 in
theorem c_X10_into_60 (l : Launch) (E : Ev) (sz : Nat) (am : Nat → Nat) (vm : Vf) (k : Int32) (lo : Int32) (hi : Int32) (hMI : MdI vm) (hat : atI vm) (hk : 0 ≤ k.toInt ∧ k.toInt ≤ 3) : Met l yX10_into wsX10_into rm_X10_into_60 (MtP E sz [.ref (am 0), .ref (am 60), .int k, .int lo, .int hi] (mdL E am vm)) (va_Qi (fun (r : Int32) (u : Vf) => ((scK 60 vm u ∧ (∃ x : Int32, u 60 = upd (vm 60) k.toNatClampNeg x ∧ ((r.toInt = 0 ∧ lo.toInt ≤ x.toInt ∧ x.toInt ≤ hi.toInt) ∨ (1 ≤ r.toInt ∧ r.toInt ≤ 2))) ∧ atI u ∧ (vm 34 0).toInt ≤ (u 34 0).toInt) ∧ fr lRd vm u) ∧ (MF (numF (vm 31) (vm 32 0).toInt lo.toInt hi.toInt (vm 34 0).toInt) (vm 33 0).toInt r.toInt (u 33 0).toInt (fun x => (u 35 0).toInt = x.1 ∧ (u 34 0).toInt = x.2.1 ∧ (u 36 0).toInt = x.2.2) ∧ u 60 = upd (vm 60) k.toNatClampNeg (u 35 0))) (MtB E (va_A (mdL E am vm) sz) (fun u => mdL E am u)) (va_A (mdL E am vm) sz)) 0 0 (va_A (mdL E am vm) sz) := by
  refine Met.ofW (cc := cX10_into) (maxL := 6) (ret := (some .int)) (by decide) rfl ?_
  intro p e s m args below meth c s₁ B hml hv
  obtain ⟨rfl, hsz, hE, hP, hD0⟩ := hv
  subst hsz
  have hD := hD0.self (sz := s.heap.size)
  generalize hAe : va_A (mdL E am vm) s.heap.size = A at hD hE ⊢
  have hA : ∀ q : Nat, s.heap.size ≤ q → A q := fun q h => by rw [← hAe]; exact Or.inr h
  have hS : va_S A s.heap s.heap [] := va_S.rf
  have hx := B.exec
  have hb := B.bytes
  have hr := B.returns
  have hts := atoms_spec (ws := wsX10_into) B.pre
  have hown : s.vm.findClass RX10 = some m.cls := findClass_of_methodNamed B.named
  have hlocks := B.notSynchronized
  have hK := hE.1
  have in_X10 : ∀ w ∈ u_ws RX10 TX10 79, w ∈ wsX10_into := fun w h => List.mem_cons_of_mem _ (List.mem_append_right _ h)
  have lk0 := hts (.fieldLink RX10 198 "TidedGroundModel" "number" "I") (List.mem_of_getElem? (i := 1) rfl)
  have hl := lv_entry ([.ref (am 0), .ref (am 60), .int k, .int lo, .int hi]) (n := 6) (Nat.le_of_ble_eq_true rfl)
  rw [lg_entry_eq]
  generalize (lg_sl ([.ref (am 0), .ref (am 60), .int k, .int lo, .int hi]) ++ List.replicate (6 - (lg_sl ([.ref (am 0), .ref (am 60), .int k, .int lo, .int hi])).length) Slot.unset).toArray = ls at hl ⊢
  have hl : lv_has ls 6 [(0, .ref (am 0)), (1, .ref (am 60)), (2, .int k), (3, .int lo), (4, .int hi)] := hl
  refine W_abs (fun Q hQ => ?_)
  have hH := hMI.1
  obtain ⟨hT1, hT2, hT3, hT4, hT5⟩ := id hH.2.2.2.2.2.2
  obtain ⟨ha1, ha2⟩ := id hat
  have hFz : fr lRd vm vm := fr.rf
  refine lv_aload_n hx hb dX10_into_0 rfl (lv_at hl 0 rfl) ?_
  refine lv_iload_n hx hb dX10_into_1 rfl (lv_at hl 3 rfl) ?_
  refine lv_iload hx hb dX10_into_2 (lv_at hl 4 rfl) ?_
  refine mt_Vi (w1 := fun (u : Vf) => mdL E am u) (wf := fun (u : Vf) => mdL E am u) (wr := []) (As := [.int lo, .int hi]) (rest := []) (C := RX10) (ci := 10) ⟨hx, hb, hml, hown, hts⟩ (c_X10_takeNumber l E s.heap.size am vm lo hi hMI hat) (cwV 2 hts gX10_into_X10_takeNumber rfl rfl rfl (by decide +kernel) ⟨Nat.le_of_ble_eq_true rfl, Nat.le_of_ble_eq_true rfl⟩) hE hS hA hP hD [0, 1, 2, 3, 4, 5, 6, 7, 8, 9, 10, 11, 12, 13, 14, 15, 16, 17, 18, 19, 20, 21, 22, 23, 24, 25, 26, 27, 28, 29, 30, 31, 32, 33, 34, 35, 36, 37, 38, 39, 40, 41, 42, 43, 44, 45] [] rfl rfl (by decide) (by decide) (by decide) [0, 1, 2, 3, 4, 5, 6, 7, 8, 9, 10, 11, 12, 13, 14, 15, 16, 17, 18, 19, 20, 21, 22, 23, 24, 25, 26, 27, 28, 29, 30, 31, 32, 33, 34, 35, 36, 37, 38, 39, 40, 41, 42, 43, 44, 45] (by decide) (fun u => rfl) rfl rfl rfl rfl hl.1 rfl (Nat.le_of_ble_eq_true rfl) dX10_into_4 ⟨Nat.zero_le _, Nat.zero_le _⟩ (fun r4 u4 H locs h4 hP hD hS => ?_)
  generalize u4 = o4_vm at hP hD h4
  try dsimp only at h4
  have hf4 := h4.2
  replace h4 := h4.1
  have hFn4 := h4.2
  replace h4 := h4.1
  replace hP : va_P (eD E) vwCl (mdL E am o4_vm) H := hP
  replace hD : va_D A (mdL E am o4_vm) := hD
  have hFz : fr lRd vm o4_vm := by first | exact hFz | exact hFz.tr hFn4 (by decide) | (rw [← hv4]; repeat' (first | exact hFz | refine fr.up ?_ (by decide) | refine fr.up3 ?_ (by decide)))
  have hq4 : o4_vm 60 = vm 60 := h4.1 60 (by decide) (by decide) (by decide) (by decide)
  refine lv_istore (lv' := [(5, .int r4), (0, .ref (am 0)), (1, .ref (am 60)), (2, .int k), (3, .int lo), (4, .int hi)]) hx hb dX10_into_7 hl (by decide) rfl (fun ls hl => ?_)
  refine lv_aload_n hx hb dX10_into_9 rfl (lv_at hl 2 rfl) ?_
  refine lv_iload_n hx hb dX10_into_10 rfl (lv_at hl 3 rfl) ?_
  refine lv_aload_n hx hb dX10_into_11 rfl (lv_at hl 1 rfl) ?_
  refine va_get (D := eD E) (ci := 10) (v := .int (o4_vm 35 0)) (C := RX10) (T := TX10) (N := 79) hx hb hts in_X10 hown hK hP 0 rfl rfl 35 (by decide) lk0 (fun _ h9 => h9) rfl dX10_into_12 ?_
  refine va_iast hx hb hK hP hD hS 35 0 rfl rfl (n := 4) (f := (o4_vm 60)) (i_in (by omega) (by omega)) dX10_into_15 (fun H locs hP hD hS => ?_)
  replace hP : va_P (eD E) vwCl (mdL E am (up2 o4_vm 60 k.toNatClampNeg (o4_vm 35 0))) H := hP
  replace hD : va_D A (mdL E am (up2 o4_vm 60 k.toNatClampNeg (o4_vm 35 0))) := hD
  generalize hv15 : up2 o4_vm 60 k.toNatClampNeg (o4_vm 35 0) = vm_15 at hP hD
  have hFz : fr lRd vm vm_15 := by first | exact hFz | (rw [← hv15]; exact hFz.up (by decide))
  refine lv_iload hx hb dX10_into_16 (lv_at hl 0 rfl) ?_
  subst hQ
  exact W.iret (v := r4) hx hb hr (fun t ht hW => ⟨⟨r4, (vm_15), rfl, (show ((scK 60 vm vm_15 ∧ (∃ x : Int32, vm_15 60 = upd (vm 60) k.toNatClampNeg x ∧ ((r4.toInt = 0 ∧ lo.toInt ≤ x.toInt ∧ x.toInt ≤ hi.toInt) ∨ (1 ≤ r4.toInt ∧ r4.toInt ≤ 2))) ∧ atI vm_15 ∧ (vm 34 0).toInt ≤ (vm_15 34 0).toInt) ∧ fr lRd vm vm_15) ∧ (MF (numF (vm 31) (vm 32 0).toInt lo.toInt hi.toInt (vm 34 0).toInt) (vm 33 0).toInt r4.toInt (vm_15 33 0).toInt (fun x => (vm_15 35 0).toInt = x.1 ∧ (vm_15 34 0).toInt = x.2.1 ∧ (vm_15 36 0).toInt = x.2.2) ∧ vm_15 60 = upd (vm 60) k.toNatClampNeg (vm_15 35 0)) from ⟨⟨⟨(fun t a1 a2 a3 a4 a5 a6 => by rw [← hv15, up2_ne a6]; exact h4.1 t a1 a2 a3 a4), ⟨o4_vm 35 0, (by rw [← hv15]; show upd (o4_vm 60) _ _ = _; rw [hq4]), h4.2.2.2⟩, (by rw [← hv15]; exact h4.2.1), (by rw [← hv15]; exact h4.2.2.1)⟩, hFz⟩, ⟨(by rw [← hv15]; exact hf4), (by rw [← hv15]; show upd (o4_vm 60) k.toNatClampNeg (o4_vm 35 0) = upd (vm 60) k.toNatClampNeg (o4_vm 35 0); rw [hq4])⟩⟩), by rw [ht]; exact hP, hD⟩, hS.F ht⟩) hS.2.2 dX10_into_18
def rm_X10_isAmong_12 : Room := { frames := 0, cells := 0, slots := 0, locals := 0 }
set_option maxHeartbeats 4000000 in
set_option maxRecDepth 100000 in
theorem c_X10_isAmong_12 (l : Launch) (E : Ev) (A : Nat → Prop) (qz : Nat) (fz : Nat → Int32) (n : Int32) (x : Int32) (hn : 0 ≤ n.toInt ∧ n.toInt ≤ 12) : Met l yX10_isAmong wsX10_isAmong rm_X10_isAmong_12 (RdP E A [.ref qz, .int n, .int x] ([(qz, .inl (eI E, 12, .inl fz))])) (vp_Si (fun r => ((r.toInt = 0 ∨ r.toInt = 1)) ∧ ((r.toInt = 1 ∧ anyE (fI fz) x.toInt (n.toInt).toNat = true) ∨ (r.toInt = 0 ∧ anyE (fI fz) x.toInt (n.toInt).toNat = false)))) 0 0 (fun _ => False) := by
  refine Met.ofW (cc := cX10_isAmong) (maxL := 5) (ret := (some .boolean)) (by decide) rfl ?_
  intro p e s m args below meth c s₁ B hml hv
  obtain ⟨rfl, hE, hP⟩ := hv
  have hx := B.exec
  have hb := B.bytes
  have hr := B.returns
  have hts := atoms_spec (ws := wsX10_isAmong) B.pre
  have hown : s.vm.findClass RX10 = some m.cls := findClass_of_methodNamed B.named
  have hlocks := B.notSynchronized
  have hK := hE.1
  have n_0 : (0 : Int32).toInt = 0 := by decide
  have n_1 : (1 : Int32).toInt = 1 := by decide
  have hl := lv_entry ([.ref qz, .int n, .int x]) (n := 5) (Nat.le_of_ble_eq_true rfl)
  rw [lg_entry_eq]
  generalize (lg_sl ([.ref qz, .int n, .int x]) ++ List.replicate (5 - (lg_sl ([.ref qz, .int n, .int x])).length) Slot.unset).toArray = ls at hl ⊢
  have hl : lv_has ls 5 [(0, .ref qz), (1, .int n), (2, .int x)] := hl
  refine W_abs (fun Q hQ => ?_)
  refine lv_iconst (v := 0) hx hb dX10_isAmong_0 (by decide) ?_
  refine lv_istore_n (lv' := [(3, .int 0), (0, .ref qz), (1, .int n), (2, .int x)]) hx hb dX10_isAmong_1 rfl hl (by decide) rfl (fun ls hl => ?_)
  refine lv_iconst (v := 0) hx hb dX10_isAmong_2 (by decide) ?_
  refine lv_istore (lv' := [(4, .int 0), (3, .int 0), (0, .ref qz), (1, .int n), (2, .int x)]) hx hb dX10_isAmong_3 hl (by decide) rfl (fun ls hl => ?_)
  have K5 : ∀ (μ : Nat) (is : Int32) (i : Int32) (ls : Array Slot), (12 - i.toInt).toNat < μ → (0 ≤ i.toInt ∧ i.toInt ≤ 12) → (is.toInt = 0 ∨ is.toInt = 1) → ((is.toInt = 1 ∧ anyE (fI fz) x.toInt (i.toInt).toNat = true) ∨ (is.toInt = 0 ∧ anyE (fI fz) x.toInt (i.toInt).toNat = false)) → (i.toInt ≤ n.toInt) → lv_has ls 5 [(0, .ref qz), (1, .int n), (2, .int x), (3, .int is), (4, .int i)] → W p l e (headSpec wsX10_isAmong rm_X10_isAmong_12).room s m ([.ref qz, .int n, .int x] : List Value).toArray below meth c s.heap [] 0 0 Q (F0 m 5 ls []) := by
    intro μ
    induction μ with
    | zero =>
      intro is i ls hμ5
      exact absurd hμ5 (Nat.not_lt_zero _)
    | succ μ ih5 =>
      intro is i ls hμ5 h5_0 h5_1 h5_2 h5_3 hl
      have hx5_0 := h5_2
      clear h5_2
      have hx5_1 := h5_3
      clear h5_3
      refine lv_iload hx hb dX10_isAmong_5 (lv_at hl 4 rfl) ?_
      refine lv_iload_n hx hb dX10_isAmong_7 rfl (lv_at hl 1 rfl) ?_
      refine lv_icmp_ge (tgt := 35) hx hb dX10_isAmong_8 (by decide) (fun c8 => ?_) (fun c8 => ?_)
      · have c8_ := i_le c8
        refine lv_iload_n hx hb dX10_isAmong_35 rfl (lv_at hl 3 rfl) ?_
        subst hQ
        exact W.zret (v := is) hx hb hr (nar_b (by omega)) (fun t ht hW => ⟨is, rfl, ⟨(by omega), (by rw [show n.toInt.toNat = i.toInt.toNat by omega]; exact hx5_0)⟩, ht⟩) (fun q h => absurd h List.not_mem_nil) dX10_isAmong_36
      · have c8_ := i_nle c8
        refine lv_iload_n hx hb dX10_isAmong_11 rfl (lv_at hl 3 rfl) ?_
        have K28 : ∀  (is2 : Int32) (ls : Array Slot), (is2.toInt = 0 ∨ is2.toInt = 1) → ((is2.toInt = 1 ∧ anyE (fI fz) x.toInt (i.toInt + 1).toNat = true) ∨ (is2.toInt = 0 ∧ anyE (fI fz) x.toInt (i.toInt + 1).toNat = false)) → lv_has ls 5 [(0, .ref qz), (1, .int n), (2, .int x), (3, .int is), (4, .int i)] → W p l e (headSpec wsX10_isAmong rm_X10_isAmong_12).room s m ([.ref qz, .int n, .int x] : List Value).toArray below meth c s.heap [] 0 0 Q (F0 m 28 ls [.int is2]) := by
          intro is2 ls h28_0 h28_1 hl
          have hx28_0 := h28_1
          clear h28_1
          refine lv_istore_n (lv' := [(3, .int is2), (0, .ref qz), (1, .int n), (2, .int x), (4, .int i)]) hx hb dX10_isAmong_28 rfl hl (by decide) rfl (fun ls hl => ?_)
          obtain ⟨x29, e29⟩ : ∃ y : Int32, y = i + 1 := ⟨_, rfl⟩
          refine lv_iinc (v := x29) (lv' := [(4, .int x29), (3, .int is2), (0, .ref qz), (1, .int n), (2, .int x)]) hx hb dX10_isAmong_29 hl (k := 4) rfl (by rw [e29]; rfl) (by decide) rfl (fun ls hl => ?_)
          have t29 := i_add e29 (by omega)
          refine lv_goto (tgt := 5) hx hb dX10_isAmong_32 (by decide) ?_
          exact ih5 is2 x29 ls (by omega) (by omega) (by omega) (by rw [show x29.toInt = i.toInt + 1 by omega]; exact hx28_0) (by omega) (lv_sub hl [2, 3, 4, 1, 0] rfl)
        refine lv_if_ne (tgt := 23) hx hb dX10_isAmong_12 (by decide) (fun c12 => ?_) (fun c12 => ?_)
        · have c12_ := i_ne c12
          refine lv_iconst (v := 1) hx hb dX10_isAmong_23 (by decide) ?_
          refine lv_goto (tgt := 28) hx hb dX10_isAmong_24 (by decide) ?_
          exact K28 1 ls (Or.inr (by decide)) (by first | exact Or.inl ⟨n_1, am_1 hx5_0 (by omega) (Or.inl (by omega))⟩ | exact Or.inl ⟨n_1, am_1 hx5_0 (by omega) (Or.inr (by rw [tx18]; omega))⟩ | exact Or.inr ⟨n_0, am_0 hx5_0 (by omega) (by omega) (by rw [tx18]; omega)⟩) (lv_sub hl [0, 1, 2, 3, 4] rfl)
        · have c12_ := i_eq c12
          refine lv_aload_n hx hb dX10_isAmong_15 rfl (lv_at hl 0 rfl) ?_
          refine lv_iload hx hb dX10_isAmong_16 (lv_at hl 4 rfl) ?_
          refine va_iald hx hb hK hP 0 0 rfl rfl (n := 12) (f := fz) (i_in (by omega) (by omega)) dX10_isAmong_18 ?_
          refine lv_topi (fun x18 e18 => ?_)
          have tx18 : fI fz i.toInt.toNat = x18.toInt := by rw [e18]; rfl
          refine lv_iload_n hx hb dX10_isAmong_19 rfl (lv_at hl 2 rfl) ?_
          refine lv_icmp_ne (tgt := 27) hx hb dX10_isAmong_20 (by decide) (fun c20 => ?_) (fun c20 => ?_)
          · have c20_ := i_ne c20
            refine lv_iconst (v := 0) hx hb dX10_isAmong_27 (by decide) ?_
            exact K28 0 ls (Or.inl (by decide)) (by first | exact Or.inl ⟨n_1, am_1 hx5_0 (by omega) (Or.inl (by omega))⟩ | exact Or.inl ⟨n_1, am_1 hx5_0 (by omega) (Or.inr (by rw [tx18]; omega))⟩ | exact Or.inr ⟨n_0, am_0 hx5_0 (by omega) (by omega) (by rw [tx18]; omega)⟩) (lv_sub hl [0, 1, 2, 3, 4] rfl)
          · have c20_ := i_eq c20
            refine lv_iconst (v := 1) hx hb dX10_isAmong_23 (by decide) ?_
            refine lv_goto (tgt := 28) hx hb dX10_isAmong_24 (by decide) ?_
            exact K28 1 ls (Or.inr (by decide)) (by first | exact Or.inl ⟨n_1, am_1 hx5_0 (by omega) (Or.inl (by omega))⟩ | exact Or.inl ⟨n_1, am_1 hx5_0 (by omega) (Or.inr (by rw [tx18]; omega))⟩ | exact Or.inr ⟨n_0, am_0 hx5_0 (by omega) (by omega) (by rw [tx18]; omega)⟩) (lv_sub hl [0, 1, 2, 3, 4] rfl)
  exact K5 _ 0 0 ls (Nat.lt_succ_self _) (by omega) (Or.inl (by decide)) (Or.inr ⟨n_0, by rw [n_0]; rfl⟩) (by omega) (lv_sub hl [2, 3, 4, 1, 0] rfl)
def rm_X10_isAmong_6 : Room := { frames := 0, cells := 0, slots := 0, locals := 0 }
set_option maxHeartbeats 4000000 in
set_option maxRecDepth 100000 in
theorem c_X10_isAmong_6 (l : Launch) (E : Ev) (A : Nat → Prop) (qz : Nat) (fz : Nat → Int32) (n : Int32) (x : Int32) (hn : 0 ≤ n.toInt ∧ n.toInt ≤ 6) : Met l yX10_isAmong wsX10_isAmong rm_X10_isAmong_6 (RdP E A [.ref qz, .int n, .int x] ([(qz, .inl (eI E, 6, .inl fz))])) (vp_Si (fun r => ((r.toInt = 0 ∨ r.toInt = 1)) ∧ ((r.toInt = 1 ∧ anyE (fI fz) x.toInt (n.toInt).toNat = true) ∨ (r.toInt = 0 ∧ anyE (fI fz) x.toInt (n.toInt).toNat = false)))) 0 0 (fun _ => False) := by
  refine Met.ofW (cc := cX10_isAmong) (maxL := 5) (ret := (some .boolean)) (by decide) rfl ?_
  intro p e s m args below meth c s₁ B hml hv
  obtain ⟨rfl, hE, hP⟩ := hv
  have hx := B.exec
  have hb := B.bytes
  have hr := B.returns
  have hts := atoms_spec (ws := wsX10_isAmong) B.pre
  have hown : s.vm.findClass RX10 = some m.cls := findClass_of_methodNamed B.named
  have hlocks := B.notSynchronized
  have hK := hE.1
  have n_0 : (0 : Int32).toInt = 0 := by decide
  have n_1 : (1 : Int32).toInt = 1 := by decide
  have hl := lv_entry ([.ref qz, .int n, .int x]) (n := 5) (Nat.le_of_ble_eq_true rfl)
  rw [lg_entry_eq]
  generalize (lg_sl ([.ref qz, .int n, .int x]) ++ List.replicate (5 - (lg_sl ([.ref qz, .int n, .int x])).length) Slot.unset).toArray = ls at hl ⊢
  have hl : lv_has ls 5 [(0, .ref qz), (1, .int n), (2, .int x)] := hl
  refine W_abs (fun Q hQ => ?_)
  refine lv_iconst (v := 0) hx hb dX10_isAmong_0 (by decide) ?_
  refine lv_istore_n (lv' := [(3, .int 0), (0, .ref qz), (1, .int n), (2, .int x)]) hx hb dX10_isAmong_1 rfl hl (by decide) rfl (fun ls hl => ?_)
  refine lv_iconst (v := 0) hx hb dX10_isAmong_2 (by decide) ?_
  refine lv_istore (lv' := [(4, .int 0), (3, .int 0), (0, .ref qz), (1, .int n), (2, .int x)]) hx hb dX10_isAmong_3 hl (by decide) rfl (fun ls hl => ?_)
  have K5 : ∀ (μ : Nat) (is : Int32) (i : Int32) (ls : Array Slot), (6 - i.toInt).toNat < μ → (0 ≤ i.toInt ∧ i.toInt ≤ 6) → (is.toInt = 0 ∨ is.toInt = 1) → ((is.toInt = 1 ∧ anyE (fI fz) x.toInt (i.toInt).toNat = true) ∨ (is.toInt = 0 ∧ anyE (fI fz) x.toInt (i.toInt).toNat = false)) → (i.toInt ≤ n.toInt) → lv_has ls 5 [(0, .ref qz), (1, .int n), (2, .int x), (3, .int is), (4, .int i)] → W p l e (headSpec wsX10_isAmong rm_X10_isAmong_6).room s m ([.ref qz, .int n, .int x] : List Value).toArray below meth c s.heap [] 0 0 Q (F0 m 5 ls []) := by
    intro μ
    induction μ with
    | zero =>
      intro is i ls hμ5
      exact absurd hμ5 (Nat.not_lt_zero _)
    | succ μ ih5 =>
      intro is i ls hμ5 h5_0 h5_1 h5_2 h5_3 hl
      have hx5_0 := h5_2
      clear h5_2
      have hx5_1 := h5_3
      clear h5_3
      refine lv_iload hx hb dX10_isAmong_5 (lv_at hl 4 rfl) ?_
      refine lv_iload_n hx hb dX10_isAmong_7 rfl (lv_at hl 1 rfl) ?_
      refine lv_icmp_ge (tgt := 35) hx hb dX10_isAmong_8 (by decide) (fun c8 => ?_) (fun c8 => ?_)
      · have c8_ := i_le c8
        refine lv_iload_n hx hb dX10_isAmong_35 rfl (lv_at hl 3 rfl) ?_
        subst hQ
        exact W.zret (v := is) hx hb hr (nar_b (by omega)) (fun t ht hW => ⟨is, rfl, ⟨(by omega), (by rw [show n.toInt.toNat = i.toInt.toNat by omega]; exact hx5_0)⟩, ht⟩) (fun q h => absurd h List.not_mem_nil) dX10_isAmong_36
      · have c8_ := i_nle c8
        refine lv_iload_n hx hb dX10_isAmong_11 rfl (lv_at hl 3 rfl) ?_
        have K28 : ∀  (is2 : Int32) (ls : Array Slot), (is2.toInt = 0 ∨ is2.toInt = 1) → ((is2.toInt = 1 ∧ anyE (fI fz) x.toInt (i.toInt + 1).toNat = true) ∨ (is2.toInt = 0 ∧ anyE (fI fz) x.toInt (i.toInt + 1).toNat = false)) → lv_has ls 5 [(0, .ref qz), (1, .int n), (2, .int x), (3, .int is), (4, .int i)] → W p l e (headSpec wsX10_isAmong rm_X10_isAmong_6).room s m ([.ref qz, .int n, .int x] : List Value).toArray below meth c s.heap [] 0 0 Q (F0 m 28 ls [.int is2]) := by
          intro is2 ls h28_0 h28_1 hl
          have hx28_0 := h28_1
          clear h28_1
          refine lv_istore_n (lv' := [(3, .int is2), (0, .ref qz), (1, .int n), (2, .int x), (4, .int i)]) hx hb dX10_isAmong_28 rfl hl (by decide) rfl (fun ls hl => ?_)
          obtain ⟨x29, e29⟩ : ∃ y : Int32, y = i + 1 := ⟨_, rfl⟩
          refine lv_iinc (v := x29) (lv' := [(4, .int x29), (3, .int is2), (0, .ref qz), (1, .int n), (2, .int x)]) hx hb dX10_isAmong_29 hl (k := 4) rfl (by rw [e29]; rfl) (by decide) rfl (fun ls hl => ?_)
          have t29 := i_add e29 (by omega)
          refine lv_goto (tgt := 5) hx hb dX10_isAmong_32 (by decide) ?_
          exact ih5 is2 x29 ls (by omega) (by omega) (by omega) (by rw [show x29.toInt = i.toInt + 1 by omega]; exact hx28_0) (by omega) (lv_sub hl [2, 3, 4, 1, 0] rfl)
        refine lv_if_ne (tgt := 23) hx hb dX10_isAmong_12 (by decide) (fun c12 => ?_) (fun c12 => ?_)
        · have c12_ := i_ne c12
          refine lv_iconst (v := 1) hx hb dX10_isAmong_23 (by decide) ?_
          refine lv_goto (tgt := 28) hx hb dX10_isAmong_24 (by decide) ?_
          exact K28 1 ls (Or.inr (by decide)) (by first | exact Or.inl ⟨n_1, am_1 hx5_0 (by omega) (Or.inl (by omega))⟩ | exact Or.inl ⟨n_1, am_1 hx5_0 (by omega) (Or.inr (by rw [tx18]; omega))⟩ | exact Or.inr ⟨n_0, am_0 hx5_0 (by omega) (by omega) (by rw [tx18]; omega)⟩) (lv_sub hl [0, 1, 2, 3, 4] rfl)
        · have c12_ := i_eq c12
          refine lv_aload_n hx hb dX10_isAmong_15 rfl (lv_at hl 0 rfl) ?_
          refine lv_iload hx hb dX10_isAmong_16 (lv_at hl 4 rfl) ?_
          refine va_iald hx hb hK hP 0 0 rfl rfl (n := 6) (f := fz) (i_in (by omega) (by omega)) dX10_isAmong_18 ?_
          refine lv_topi (fun x18 e18 => ?_)
          have tx18 : fI fz i.toInt.toNat = x18.toInt := by rw [e18]; rfl
          refine lv_iload_n hx hb dX10_isAmong_19 rfl (lv_at hl 2 rfl) ?_
          refine lv_icmp_ne (tgt := 27) hx hb dX10_isAmong_20 (by decide) (fun c20 => ?_) (fun c20 => ?_)
          · have c20_ := i_ne c20
            refine lv_iconst (v := 0) hx hb dX10_isAmong_27 (by decide) ?_
            exact K28 0 ls (Or.inl (by decide)) (by first | exact Or.inl ⟨n_1, am_1 hx5_0 (by omega) (Or.inl (by omega))⟩ | exact Or.inl ⟨n_1, am_1 hx5_0 (by omega) (Or.inr (by rw [tx18]; omega))⟩ | exact Or.inr ⟨n_0, am_0 hx5_0 (by omega) (by omega) (by rw [tx18]; omega)⟩) (lv_sub hl [0, 1, 2, 3, 4] rfl)
          · have c20_ := i_eq c20
            refine lv_iconst (v := 1) hx hb dX10_isAmong_23 (by decide) ?_
            refine lv_goto (tgt := 28) hx hb dX10_isAmong_24 (by decide) ?_
            exact K28 1 ls (Or.inr (by decide)) (by first | exact Or.inl ⟨n_1, am_1 hx5_0 (by omega) (Or.inl (by omega))⟩ | exact Or.inl ⟨n_1, am_1 hx5_0 (by omega) (Or.inr (by rw [tx18]; omega))⟩ | exact Or.inr ⟨n_0, am_0 hx5_0 (by omega) (by omega) (by rw [tx18]; omega)⟩) (lv_sub hl [0, 1, 2, 3, 4] rfl)
  exact K5 _ 0 0 ls (Nat.lt_succ_self _) (by omega) (Or.inl (by decide)) (Or.inr ⟨n_0, by rw [n_0]; rfl⟩) (by omega) (lv_sub hl [2, 3, 4, 1, 0] rfl)
def rm_X10_isAmong_5 : Room := { frames := 0, cells := 0, slots := 0, locals := 0 }
set_option maxHeartbeats 4000000 in
set_option maxRecDepth 100000 in
theorem c_X10_isAmong_5 (l : Launch) (E : Ev) (A : Nat → Prop) (qz : Nat) (fz : Nat → Int32) (n : Int32) (x : Int32) (hn : 0 ≤ n.toInt ∧ n.toInt ≤ 5) : Met l yX10_isAmong wsX10_isAmong rm_X10_isAmong_5 (RdP E A [.ref qz, .int n, .int x] ([(qz, .inl (eI E, 5, .inl fz))])) (vp_Si (fun r => ((r.toInt = 0 ∨ r.toInt = 1)) ∧ ((r.toInt = 1 ∧ anyE (fI fz) x.toInt (n.toInt).toNat = true) ∨ (r.toInt = 0 ∧ anyE (fI fz) x.toInt (n.toInt).toNat = false)))) 0 0 (fun _ => False) := by
  refine Met.ofW (cc := cX10_isAmong) (maxL := 5) (ret := (some .boolean)) (by decide) rfl ?_
  intro p e s m args below meth c s₁ B hml hv
  obtain ⟨rfl, hE, hP⟩ := hv
  have hx := B.exec
  have hb := B.bytes
  have hr := B.returns
  have hts := atoms_spec (ws := wsX10_isAmong) B.pre
  have hown : s.vm.findClass RX10 = some m.cls := findClass_of_methodNamed B.named
  have hlocks := B.notSynchronized
  have hK := hE.1
  have n_0 : (0 : Int32).toInt = 0 := by decide
  have n_1 : (1 : Int32).toInt = 1 := by decide
  have hl := lv_entry ([.ref qz, .int n, .int x]) (n := 5) (Nat.le_of_ble_eq_true rfl)
  rw [lg_entry_eq]
  generalize (lg_sl ([.ref qz, .int n, .int x]) ++ List.replicate (5 - (lg_sl ([.ref qz, .int n, .int x])).length) Slot.unset).toArray = ls at hl ⊢
  have hl : lv_has ls 5 [(0, .ref qz), (1, .int n), (2, .int x)] := hl
  refine W_abs (fun Q hQ => ?_)
  refine lv_iconst (v := 0) hx hb dX10_isAmong_0 (by decide) ?_
  refine lv_istore_n (lv' := [(3, .int 0), (0, .ref qz), (1, .int n), (2, .int x)]) hx hb dX10_isAmong_1 rfl hl (by decide) rfl (fun ls hl => ?_)
  refine lv_iconst (v := 0) hx hb dX10_isAmong_2 (by decide) ?_
  refine lv_istore (lv' := [(4, .int 0), (3, .int 0), (0, .ref qz), (1, .int n), (2, .int x)]) hx hb dX10_isAmong_3 hl (by decide) rfl (fun ls hl => ?_)
  have K5 : ∀ (μ : Nat) (is : Int32) (i : Int32) (ls : Array Slot), (5 - i.toInt).toNat < μ → (0 ≤ i.toInt ∧ i.toInt ≤ 5) → (is.toInt = 0 ∨ is.toInt = 1) → ((is.toInt = 1 ∧ anyE (fI fz) x.toInt (i.toInt).toNat = true) ∨ (is.toInt = 0 ∧ anyE (fI fz) x.toInt (i.toInt).toNat = false)) → (i.toInt ≤ n.toInt) → lv_has ls 5 [(0, .ref qz), (1, .int n), (2, .int x), (3, .int is), (4, .int i)] → W p l e (headSpec wsX10_isAmong rm_X10_isAmong_5).room s m ([.ref qz, .int n, .int x] : List Value).toArray below meth c s.heap [] 0 0 Q (F0 m 5 ls []) := by
    intro μ
    induction μ with
    | zero =>
      intro is i ls hμ5
      exact absurd hμ5 (Nat.not_lt_zero _)
    | succ μ ih5 =>
      intro is i ls hμ5 h5_0 h5_1 h5_2 h5_3 hl
      have hx5_0 := h5_2
      clear h5_2
      have hx5_1 := h5_3
      clear h5_3
      refine lv_iload hx hb dX10_isAmong_5 (lv_at hl 4 rfl) ?_
      refine lv_iload_n hx hb dX10_isAmong_7 rfl (lv_at hl 1 rfl) ?_
      refine lv_icmp_ge (tgt := 35) hx hb dX10_isAmong_8 (by decide) (fun c8 => ?_) (fun c8 => ?_)
      · have c8_ := i_le c8
        refine lv_iload_n hx hb dX10_isAmong_35 rfl (lv_at hl 3 rfl) ?_
        subst hQ
        exact W.zret (v := is) hx hb hr (nar_b (by omega)) (fun t ht hW => ⟨is, rfl, ⟨(by omega), (by rw [show n.toInt.toNat = i.toInt.toNat by omega]; exact hx5_0)⟩, ht⟩) (fun q h => absurd h List.not_mem_nil) dX10_isAmong_36
      · have c8_ := i_nle c8
        refine lv_iload_n hx hb dX10_isAmong_11 rfl (lv_at hl 3 rfl) ?_
        have K28 : ∀  (is2 : Int32) (ls : Array Slot), (is2.toInt = 0 ∨ is2.toInt = 1) → ((is2.toInt = 1 ∧ anyE (fI fz) x.toInt (i.toInt + 1).toNat = true) ∨ (is2.toInt = 0 ∧ anyE (fI fz) x.toInt (i.toInt + 1).toNat = false)) → lv_has ls 5 [(0, .ref qz), (1, .int n), (2, .int x), (3, .int is), (4, .int i)] → W p l e (headSpec wsX10_isAmong rm_X10_isAmong_5).room s m ([.ref qz, .int n, .int x] : List Value).toArray below meth c s.heap [] 0 0 Q (F0 m 28 ls [.int is2]) := by
          intro is2 ls h28_0 h28_1 hl
          have hx28_0 := h28_1
          clear h28_1
          refine lv_istore_n (lv' := [(3, .int is2), (0, .ref qz), (1, .int n), (2, .int x), (4, .int i)]) hx hb dX10_isAmong_28 rfl hl (by decide) rfl (fun ls hl => ?_)
          obtain ⟨x29, e29⟩ : ∃ y : Int32, y = i + 1 := ⟨_, rfl⟩
          refine lv_iinc (v := x29) (lv' := [(4, .int x29), (3, .int is2), (0, .ref qz), (1, .int n), (2, .int x)]) hx hb dX10_isAmong_29 hl (k := 4) rfl (by rw [e29]; rfl) (by decide) rfl (fun ls hl => ?_)
          have t29 := i_add e29 (by omega)
          refine lv_goto (tgt := 5) hx hb dX10_isAmong_32 (by decide) ?_
          exact ih5 is2 x29 ls (by omega) (by omega) (by omega) (by rw [show x29.toInt = i.toInt + 1 by omega]; exact hx28_0) (by omega) (lv_sub hl [2, 3, 4, 1, 0] rfl)
        refine lv_if_ne (tgt := 23) hx hb dX10_isAmong_12 (by decide) (fun c12 => ?_) (fun c12 => ?_)
        · have c12_ := i_ne c12
          refine lv_iconst (v := 1) hx hb dX10_isAmong_23 (by decide) ?_
          refine lv_goto (tgt := 28) hx hb dX10_isAmong_24 (by decide) ?_
          exact K28 1 ls (Or.inr (by decide)) (by first | exact Or.inl ⟨n_1, am_1 hx5_0 (by omega) (Or.inl (by omega))⟩ | exact Or.inl ⟨n_1, am_1 hx5_0 (by omega) (Or.inr (by rw [tx18]; omega))⟩ | exact Or.inr ⟨n_0, am_0 hx5_0 (by omega) (by omega) (by rw [tx18]; omega)⟩) (lv_sub hl [0, 1, 2, 3, 4] rfl)
        · have c12_ := i_eq c12
          refine lv_aload_n hx hb dX10_isAmong_15 rfl (lv_at hl 0 rfl) ?_
          refine lv_iload hx hb dX10_isAmong_16 (lv_at hl 4 rfl) ?_
          refine va_iald hx hb hK hP 0 0 rfl rfl (n := 5) (f := fz) (i_in (by omega) (by omega)) dX10_isAmong_18 ?_
          refine lv_topi (fun x18 e18 => ?_)
          have tx18 : fI fz i.toInt.toNat = x18.toInt := by rw [e18]; rfl
          refine lv_iload_n hx hb dX10_isAmong_19 rfl (lv_at hl 2 rfl) ?_
          refine lv_icmp_ne (tgt := 27) hx hb dX10_isAmong_20 (by decide) (fun c20 => ?_) (fun c20 => ?_)
          · have c20_ := i_ne c20
            refine lv_iconst (v := 0) hx hb dX10_isAmong_27 (by decide) ?_
            exact K28 0 ls (Or.inl (by decide)) (by first | exact Or.inl ⟨n_1, am_1 hx5_0 (by omega) (Or.inl (by omega))⟩ | exact Or.inl ⟨n_1, am_1 hx5_0 (by omega) (Or.inr (by rw [tx18]; omega))⟩ | exact Or.inr ⟨n_0, am_0 hx5_0 (by omega) (by omega) (by rw [tx18]; omega)⟩) (lv_sub hl [0, 1, 2, 3, 4] rfl)
          · have c20_ := i_eq c20
            refine lv_iconst (v := 1) hx hb dX10_isAmong_23 (by decide) ?_
            refine lv_goto (tgt := 28) hx hb dX10_isAmong_24 (by decide) ?_
            exact K28 1 ls (Or.inr (by decide)) (by first | exact Or.inl ⟨n_1, am_1 hx5_0 (by omega) (Or.inl (by omega))⟩ | exact Or.inl ⟨n_1, am_1 hx5_0 (by omega) (Or.inr (by rw [tx18]; omega))⟩ | exact Or.inr ⟨n_0, am_0 hx5_0 (by omega) (by omega) (by rw [tx18]; omega)⟩) (lv_sub hl [0, 1, 2, 3, 4] rfl)
  exact K5 _ 0 0 ls (Nat.lt_succ_self _) (by omega) (Or.inl (by decide)) (Or.inr ⟨n_0, by rw [n_0]; rfl⟩) (by omega) (lv_sub hl [2, 3, 4, 1, 0] rfl)
