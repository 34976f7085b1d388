def rm_X10_takeHouse : Room := { frames := 4, cells := 0, slots := 0, locals := 93 }
set_option maxHeartbeats 4000000 in
set_option maxRecDepth 100000 in
theorem c_X10_takeHouse (l : Launch) (E : Ev) (sz : Nat) (am : Nat → Nat) (vm : Vf) (S : St0) (hMI : MdI vm) (hat : atI vm) (hRd : RdM vm) (hw1 : 1 ≤ (vm 37 0).toInt) (hcn : (vm 48 0).toInt ≤ 5) (hSM : SM S vm) : Met l yX10_takeHouse wsX10_takeHouse rm_X10_takeHouse (MtP E sz [.ref (am 0)] (mdL E am vm)) (va_Qi (fun (r : Int32) (u : Vf) => ((MdI u ∧ atI u ∧ (vm 34 0).toInt ≤ (u 34 0).toInt ∧ (0 ≤ r.toInt ∧ r.toInt ≤ 4) ∧ (r.toInt = 0 → RdM u)) ∧ fr lRd vm u) ∧ (∀ wa, TK (houseP (vm 31) (vm 32 0).toInt S wa (vm 34 0).toInt) (houseF (vm 31) (vm 32 0).toInt S wa (vm 34 0).toInt) (vm 33 0).toInt r.toInt (u 33 0).toInt (fun x => (u 34 0).toInt = x.2.2.1 ∧ SM (houseS S (plc (S 37 0) x.1.1.2) x.2.1) u))) (MtB E (va_A (mdL E am vm) sz) (fun u => mdL E am u)) (va_A (mdL E am vm) sz)) 0 0 (va_A (mdL E am vm) sz) := by
  refine Met.ofW (cc := cX10_takeHouse) (maxL := 2) (ret := (some .int)) (by decide) rfl ?_
  intro p e s m args below meth c s₁ B hml hv
  obtain ⟨rfl, hsz, hE, hP, hD0⟩ := hv
  subst hsz
  have hD := hD0.self (sz := s.heap.size)
  generalize hAe : va_A (mdL E am vm) s.heap.size = A at hD hE ⊢
  have hA : ∀ q : Nat, s.heap.size ≤ q → A q := fun q h => by rw [← hAe]; exact Or.inr h
  have hS : va_S A s.heap s.heap [] := va_S.rf
  have hx := B.exec
  have hb := B.bytes
  have hr := B.returns
  have hts := atoms_spec (ws := wsX10_takeHouse) B.pre
  have hown : s.vm.findClass RX10 = some m.cls := findClass_of_methodNamed B.named
  have hlocks := B.notSynchronized
  have hK := hE.1
  have in_X10 : ∀ w ∈ u_ws RX10 TX10 79, w ∈ wsX10_takeHouse := fun w h => List.mem_cons_of_mem _ (List.mem_append_right _ h)
  have lk0 := hts (.fieldLink RX10 234 "TidedGroundModel" "readHouses" "I") (List.mem_of_getElem? (i := 1) rfl)
  have lk1 := hts (.fieldLink RX10 98 "TidedGroundModel" "readHouseAt" "[I") (List.mem_of_getElem? (i := 2) rfl)
  have lk2 := hts (.fieldLink RX10 101 "TidedGroundModel" "readHinge" "[I") (List.mem_of_getElem? (i := 3) rfl)
  have n_0 : (0 : Int32).toInt = 0 := by decide
  have n_1 : (1 : Int32).toInt = 1 := by decide
  have n_99 : (99 : Int32).toInt = 99 := by decide
  have hl := lv_entry ([.ref (am 0)]) (n := 2) (Nat.le_of_ble_eq_true rfl)
  rw [lg_entry_eq]
  generalize (lg_sl ([.ref (am 0)]) ++ List.replicate (2 - (lg_sl ([.ref (am 0)])).length) Slot.unset).toArray = ls at hl ⊢
  have hl : lv_has ls 2 [(0, .ref (am 0))] := hl
  refine W_abs (fun Q hQ => ?_)
  have hH := hMI.1
  obtain ⟨hT1, hT2, hT3, hT4, hT5⟩ := id hH.2.2.2.2.2.2
  obtain ⟨ha1, ha2⟩ := id hat
  obtain ⟨hrG, hrC, hrZ, hrMo, hrB, hrD⟩ := id hRd
  obtain ⟨hrc1, hrc2, hrc3, hrc4, hrc5, hrc6⟩ := id hrC
  have hd1 : 1 ≤ (vm 38 0).toInt := by rcases hrZ with q | q <;> omega
  have hs37 : S 37 0 = (vm 37 0).toInt := hSM 37 (by decide) 0
  have hs38 : S 38 0 = (vm 38 0).toInt := hSM 38 (by decide) 0
  have hs48 : S 48 0 = (vm 48 0).toInt := hSM 48 (by decide) 0
  have ha49 : S 49 = fI (vm 49) := hSM.at 49 (by decide)
  have hck : ∀ wa, chk (decide (6 ≤ S 48 0)) 3 wa = .inr () := fun wa => chk_off (by omega)
  have hFz : fr lRd vm vm := fr.rf
  refine lv_aload_n hx hb dX10_takeHouse_0 rfl (lv_at hl 0 rfl) ?_
  refine lv_dup hx hb dX10_takeHouse_1 rfl ?_
  refine va_get (D := eD E) (ci := 10) (v := .int (vm 48 0)) (C := RX10) (T := TX10) (N := 79) hx hb hts in_X10 hown hK hP 0 rfl rfl 48 (by decide) lk0 (fun _ h9 => h9) rfl dX10_takeHouse_2 ?_
  refine lv_iconst (v := 1) hx hb dX10_takeHouse_5 (by decide) ?_
  refine lv_iadd hx hb dX10_takeHouse_6 ?_
  refine lv_topi (fun x6 e6 => ?_)
  have t6 := i_add e6 (by omega)
  refine va_put (D := eD E) (ci := 10) (v := .int x6) (ty := .int) (C := RX10) (T := TX10) (N := 79) hx hb hts in_X10 tyX10 tyX10_ok nmX10 hown hK hP hD hS 0 rfl rfl 48 (by decide) lk0 (fun _ h9 => h9) rfl (by decide +kernel) rfl rfl (Nat.le_of_ble_eq_true rfl) dX10_takeHouse_7 (fun H locs hP hD hS => ?_)
  replace hP : va_P (eD E) vwCl (mdL E am (up2 vm 48 0 x6)) H := hP
  replace hD : va_D A (mdL E am (up2 vm 48 0 x6)) := hD
  generalize hv7 : up2 vm 48 0 x6 = vm_7 at hP hD
  have hFz : fr lRd vm vm_7 := by first | exact hFz | (rw [← hv7]; exact hFz.up (by decide))
  have hMI : MdI vm_7 := by rw [← hv7]; exact hMI
  have hat : atI vm_7 := by rw [← hv7]; exact hat
  have hq7 : (vm_7 48 0).toInt = x6.toInt := by rw [← hv7]; rfl
  have hq7_37 : (vm_7 37 0).toInt = (vm 37 0).toInt := by rw [← hv7]; rfl
  have hq7_38 : (vm_7 38 0).toInt = (vm 38 0).toInt := by rw [← hv7]; rfl
  have hq7_34 : (vm_7 34 0).toInt = (vm 34 0).toInt := by rw [← hv7]; rfl
  have hRd : RdM vm_7 := by rw [← hv7]; exact rd_house hRd ⟨by omega, by omega⟩ (by omega)
  have hrG : rdG vm_7 := by rw [← hv7]; exact hrG
  have hSM7 : SM (upS S 48 0 (S 48 0 + 1)) vm_7 := hSM.cnt hv7 (by omega)
  refine lv_aload_n hx hb dX10_takeHouse_10 rfl (lv_at hl 0 rfl) ?_
  refine lv_aload_n hx hb dX10_takeHouse_11 rfl (lv_at hl 0 rfl) ?_
  refine va_get (D := eD E) (ci := 10) (v := .ref (am 49)) (C := RX10) (T := TX10) (N := 79) hx hb hts in_X10 hown hK hP 0 rfl rfl 49 (by decide) lk1 (fun _ h9 => h9) rfl dX10_takeHouse_12 ?_
  refine lv_aload_n hx hb dX10_takeHouse_15 rfl (lv_at hl 0 rfl) ?_
  refine va_get (D := eD E) (ci := 10) (v := .int (vm_7 48 0)) (C := RX10) (T := TX10) (N := 79) hx hb hts in_X10 hown hK hP 0 rfl rfl 48 (by decide) lk0 (fun _ h9 => h9) rfl dX10_takeHouse_16 ?_
  have sv19_vm_7480 : 1 ≤ (vm_7 48 0).toInt ∧ (vm_7 48 0).toInt ≤ 6 := by omega
  refine lv_iconst (v := 1) hx hb dX10_takeHouse_19 (by decide) ?_
  refine lv_isub hx hb dX10_takeHouse_20 ?_
  refine lv_topi (fun x20 e20 => ?_)
  have t20 := i_sub e20 (by omega)
  refine mt_Vi (w1 := fun (u : Vf) => mdL E am u) (wf := fun (u : Vf) => mdL E am u) (wr := []) (As := [.ref (am 49), .int x20]) (rest := []) (C := RX10) (ci := 10) ⟨hx, hb, hml, hown, hts⟩ (c_X10_takeNewCell_49 l E H.size am vm_7 x20 hMI hat hrG (by omega) (by omega) (by omega)) (cwV 2 hts gX10_takeHouse_X10_takeNewCell rfl rfl rfl (by decide +kernel) ⟨Nat.le_of_ble_eq_true rfl, Nat.le_of_ble_eq_true rfl⟩) hE hS hA hP hD [0, 1, 2, 3, 4, 5, 6, 7, 8, 9, 10, 11, 12, 13, 14, 15, 16, 17, 18, 19, 20, 21, 22, 23, 24, 25, 26, 27, 28, 29, 30, 31, 32, 33, 34, 35, 36, 37, 38, 39, 40, 41, 42, 43, 44, 45] [] rfl rfl (by decide) (by decide) (by decide) [0, 1, 2, 3, 4, 5, 6, 7, 8, 9, 10, 11, 12, 13, 14, 15, 16, 17, 18, 19, 20, 21, 22, 23, 24, 25, 26, 27, 28, 29, 30, 31, 32, 33, 34, 35, 36, 37, 38, 39, 40, 41, 42, 43, 44, 45] (by decide) (fun u => rfl) rfl rfl rfl rfl hl.1 rfl (Nat.le_of_ble_eq_true rfl) dX10_takeHouse_21 ⟨Nat.zero_le _, Nat.zero_le _⟩ (fun r21 u21 H locs h21 hP hD hS => ?_)
  generalize u21 = o21_vm at hP hD h21
  try dsimp only at h21
  have hf21 := h21.2
  replace h21 := h21.1
  have hFn21 := h21.2
  replace h21 := h21.1
  replace hP : va_P (eD E) vwCl (mdL E am o21_vm) H := hP
  replace hD : va_D A (mdL E am o21_vm) := hD
  have hFz : fr lRd vm o21_vm := by first | exact hFz | exact hFz.tr hFn21 (by decide) | (rw [← hv21]; repeat' (first | exact hFz | refine fr.up ?_ (by decide) | refine fr.up3 ?_ (by decide)))
  have hMI : MdI o21_vm := hMI.on4 (h21.1.mem (by decide)) (by rw [h21.1 47 (by decide) (by decide) (by decide) (by decide) (by decide) (by decide)]; exact hMI.2.2.2.2.1) (h21.2.1 hMI.2.2.2.2.2.1) (by rw [h21.1 52 (by decide) (by decide) (by decide) (by decide) (by decide) (by decide)]; exact hMI.2.2.2.2.2.2.1) (by rw [h21.1 56 (by decide) (by decide) (by decide) (by decide) (by decide) (by decide)]; exact hMI.2.2.2.2.2.2.2)
  have hRd : RdM o21_vm := hRd.on (h21.1.mem (by decide))
  have hat := h21.2.2.1
  have hq21 : (o21_vm 48 0).toInt = (vm_7 48 0).toInt := by rw [h21.1 48 (by decide) (by decide) (by decide) (by decide) (by decide) (by decide)]
  have hg21 : MF (th (placeF (vm 31) (vm 32 0).toInt (S 37 0) (S 38 0) (vm 34 0).toInt) (fun z : ((Int × Int × Int) × (Int × Int × Int)) => chk (anyE (S 49) (plc (S 37 0) z) (S 48 0).toNat) 4 z.2.2.2)) (vm 33 0).toInt r21.toInt (o21_vm 33 0).toInt (fun z => (o21_vm 61 0).toInt = plc (S 37 0) z.1 ∧ (o21_vm 34 0).toInt = z.1.2.2.1 ∧ o21_vm 49 = upd (vm 49) x20.toNatClampNeg (o21_vm 61 0)) := by rw [hs37, hs38, ha49, hs48, show (vm 48 0).toInt = x20.toInt by omega]; rw [← hv7] at hf21; exact hf21
  have hh21 := fun wa => MF.pre (hck wa) hg21
  have hT21 : o21_vm 31 = vm 31 := by rw [h21.1 31 (by decide) (by decide) (by decide) (by decide) (by decide) (by decide), ← hv7]; rfl
  have hN21 : o21_vm 32 = vm 32 := by rw [h21.1 32 (by decide) (by decide) (by decide) (by decide) (by decide) (by decide), ← hv7]; rfl
  refine lv_istore_n (lv' := [(1, .int r21), (0, .ref (am 0))]) hx hb dX10_takeHouse_24 rfl hl (by decide) rfl (fun ls hl => ?_)
  refine lv_iload_n hx hb dX10_takeHouse_25 rfl (lv_at hl 0 rfl) ?_
  refine lv_if_le (tgt := 33) hx hb dX10_takeHouse_26 (by decide) (fun c26 => ?_) (fun c26 => ?_)
  · have c26_ := i_le c26
    refine lv_aload_n hx hb dX10_takeHouse_33 rfl (lv_at hl 1 rfl) ?_
    refine lv_aload_n hx hb dX10_takeHouse_34 rfl (lv_at hl 1 rfl) ?_
    refine va_get (D := eD E) (ci := 10) (v := .ref (am 50)) (C := RX10) (T := TX10) (N := 79) hx hb hts in_X10 hown hK hP 0 rfl rfl 50 (by decide) lk2 (fun _ h9 => h9) rfl dX10_takeHouse_35 ?_
    refine lv_aload_n hx hb dX10_takeHouse_38 rfl (lv_at hl 1 rfl) ?_
    refine va_get (D := eD E) (ci := 10) (v := .int (o21_vm 48 0)) (C := RX10) (T := TX10) (N := 79) hx hb hts in_X10 hown hK hP 0 rfl rfl 48 (by decide) lk0 (fun _ h9 => h9) rfl dX10_takeHouse_39 ?_
    have sv42_o21_vm480 : 1 ≤ (o21_vm 48 0).toInt ∧ (o21_vm 48 0).toInt ≤ 6 := by omega
    refine lv_iconst (v := 1) hx hb dX10_takeHouse_42 (by decide) ?_
    refine lv_isub hx hb dX10_takeHouse_43 ?_
    refine lv_topi (fun x43 e43 => ?_)
    have t43 := i_sub e43 (by omega)
    refine lv_iconst (v := 0) hx hb dX10_takeHouse_44 (by decide) ?_
    refine lv_bipush (v := 99) hx hb dX10_takeHouse_45 (by decide) ?_
    refine mt_Vi (w1 := fun (u : Vf) => mdL E am u) (wf := fun (u : Vf) => mdL E am u) (wr := []) (As := [.ref (am 50), .int x43, .int 0, .int 99]) (rest := []) (C := RX10) (ci := 10) ⟨hx, hb, hml, hown, hts⟩ (c_X10_into_50 l E H.size am o21_vm x43 0 99 hMI hat (by omega)) (cwV 4 hts gX10_takeHouse_X10_into rfl rfl rfl (by decide +kernel) ⟨Nat.le_of_ble_eq_true rfl, Nat.le_of_ble_eq_true rfl⟩) hE hS hA hP hD [0, 1, 2, 3, 4, 5, 6, 7, 8, 9, 10, 11, 12, 13, 14, 15, 16, 17, 18, 19, 20, 21, 22, 23, 24, 25, 26, 27, 28, 29, 30, 31, 32, 33, 34, 35, 36, 37, 38, 39, 40, 41, 42, 43, 44, 45] [] rfl rfl (by decide) (by decide) (by decide) [0, 1, 2, 3, 4, 5, 6, 7, 8, 9, 10, 11, 12, 13, 14, 15, 16, 17, 18, 19, 20, 21, 22, 23, 24, 25, 26, 27, 28, 29, 30, 31, 32, 33, 34, 35, 36, 37, 38, 39, 40, 41, 42, 43, 44, 45] (by decide) (fun u => rfl) rfl rfl rfl rfl hl.1 rfl (Nat.le_of_ble_eq_true rfl) dX10_takeHouse_47 ⟨Nat.zero_le _, Nat.zero_le _⟩ (fun r47 u47 H locs h47 hP hD hS => ?_)
    generalize u47 = o47_vm at hP hD h47
    try dsimp only at h47
    have hf47 := h47.2
    replace h47 := h47.1
    have hFn47 := h47.2
    replace h47 := h47.1
    replace hP : va_P (eD E) vwCl (mdL E am o47_vm) H := hP
    replace hD : va_D A (mdL E am o47_vm) := hD
    have hFz : fr lRd vm o47_vm := by first | exact hFz | exact hFz.tr hFn47 (by decide) | (rw [← hv47]; repeat' (first | exact hFz | refine fr.up ?_ (by decide) | refine fr.up3 ?_ (by decide)))
    have hMI : MdI o47_vm := hMI.on (h47.1.mem (by decide))
    obtain ⟨y47, hy47, hr47⟩ := id h47.2.1
    have hm47 := h47.2.2.2
    have hn47 := hf47.1
    rw [n_0, n_99, hT21, hN21] at hn47
    subst hQ
    exact W.iret (v := r47) hx hb hr (fun t ht hW => ⟨⟨r47, (o47_vm), rfl, (show ((MdI o47_vm ∧ atI o47_vm ∧ (vm 34 0).toInt ≤ (o47_vm 34 0).toInt ∧ (0 ≤ r47.toInt ∧ r47.toInt ≤ 4) ∧ (r47.toInt = 0 → RdM o47_vm)) ∧ fr lRd vm o47_vm) ∧ (∀ wa, TK (houseP (vm 31) (vm 32 0).toInt S wa (vm 34 0).toInt) (houseF (vm 31) (vm 32 0).toInt S wa (vm 34 0).toInt) (vm 33 0).toInt r47.toInt (o47_vm 33 0).toInt (fun x => (o47_vm 34 0).toInt = x.2.2.1 ∧ SM (houseS S (plc (S 37 0) x.1.1.2) x.2.1) o47_vm)) from ⟨⟨⟨hMI, h47.2.2.1, by omega, by omega, fun q => hRd.on (h47.1.mem (by decide))⟩, hFz⟩, (fun wa => MF.tk (MF.mono (MF.then (s := fun z : (Unit × ((Int × Int × Int) × (Int × Int × Int))) × Unit => numF (vm 31) (vm 32 0).toInt 0 99 z.1.2.2.2.1) (hh21 wa) (by omega) hn47 (((okF.chk (by decide)).th (fun _ => (okF.num.th (fun _ => okF.num)))).th (fun _ => (okF.chk (by decide)))) (fun z hz => by have q2 : (o21_vm 34 0).toInt = z.1.2.2.2.1 := hz.2.1; rw [q2])) (fun q z hz => ⟨hz.2.2.1, by have q1 : (o21_vm 61 0).toInt = plc (S 37 0) z.1.1.2 := hz.1.1; have q3 : (o47_vm 35 0).toInt = z.2.1 := hz.2.1; rw [← q1, ← q3]; exact SM.step (SM.step hSM7 h21.1 (by rw [hz.1.2.2, ← hv7]; rfl) (by show x20.toInt.toNat = (S 48 0).toNat; omega)) h47.1 hf47.2 (by show x43.toInt.toNat = (S 48 0).toNat; omega)⟩)))⟩), by rw [ht]; exact hP, hD⟩, hS.F ht⟩) hS.2.2 dX10_takeHouse_50
  · have c26_ := i_nle c26
    refine lv_iload_n hx hb dX10_takeHouse_29 rfl (lv_at hl 0 rfl) ?_
    refine lv_goto (tgt := 50) hx hb dX10_takeHouse_30 (by decide) ?_
    subst hQ
    exact W.iret (v := r21) hx hb hr (fun t ht hW => ⟨⟨r21, (o21_vm), rfl, (show ((MdI o21_vm ∧ atI o21_vm ∧ (vm 34 0).toInt ≤ (o21_vm 34 0).toInt ∧ (0 ≤ r21.toInt ∧ r21.toInt ≤ 4) ∧ (r21.toInt = 0 → RdM o21_vm)) ∧ fr lRd vm o21_vm) ∧ (∀ wa, TK (houseP (vm 31) (vm 32 0).toInt S wa (vm 34 0).toInt) (houseF (vm 31) (vm 32 0).toInt S wa (vm 34 0).toInt) (vm 33 0).toInt r21.toInt (o21_vm 33 0).toInt (fun x => (o21_vm 34 0).toInt = x.2.2.1 ∧ SM (houseS S (plc (S 37 0) x.1.1.2) x.2.1) o21_vm)) from ⟨⟨⟨hMI, hat, by omega, by omega, fun q => absurd q (by omega)⟩, hFz⟩, (fun wa => MF.tk ((hh21 wa).stop (by omega)))⟩), by rw [ht]; exact hP, hD⟩, hS.F ht⟩) hS.2.2 dX10_takeHouse_50
def rm_X10_takeWell : Room := { frames := 4, cells := 0, slots := 0, locals := 93 }
set_option maxHeartbeats 4000000 in
set_option maxRecDepth 100000 in
theorem c_X10_takeWell (l : Launch) (E : Ev) (sz : Nat) (am : Nat → Nat) (vm : Vf) (S : St0) (hMI : MdI vm) (hat : atI vm) (hRd : RdM vm) (hw1 : 1 ≤ (vm 37 0).toInt) (hcn : (vm 55 0).toInt ≤ 4) (hSM : SM S vm) : Met l yX10_takeWell wsX10_takeWell rm_X10_takeWell (MtP E sz [.ref (am 0)] (mdL E am vm)) (va_Qi (fun (r : Int32) (u : Vf) => ((MdI u ∧ atI u ∧ (vm 34 0).toInt ≤ (u 34 0).toInt ∧ (0 ≤ r.toInt ∧ r.toInt ≤ 4) ∧ (r.toInt = 0 → RdM u)) ∧ fr lRd vm u) ∧ (∀ wa, TK (wellP (vm 31) (vm 32 0).toInt S wa (vm 34 0).toInt) (wellF (vm 31) (vm 32 0).toInt S wa (vm 34 0).toInt) (vm 33 0).toInt r.toInt (u 33 0).toInt (fun x => (u 34 0).toInt = x.2.2.1 ∧ SM (wellS S (plc (S 37 0) x.1.1.2) x.2.1) u))) (MtB E (va_A (mdL E am vm) sz) (fun u => mdL E am u)) (va_A (mdL E am vm) sz)) 0 0 (va_A (mdL E am vm) sz) := by
  refine Met.ofW (cc := cX10_takeWell) (maxL := 2) (ret := (some .int)) (by decide) rfl ?_
  intro p e s m args below meth c s₁ B hml hv
  obtain ⟨rfl, hsz, hE, hP, hD0⟩ := hv
  subst hsz
  have hD := hD0.self (sz := s.heap.size)
  generalize hAe : va_A (mdL E am vm) s.heap.size = A at hD hE ⊢
  have hA : ∀ q : Nat, s.heap.size ≤ q → A q := fun q h => by rw [← hAe]; exact Or.inr h
  have hS : va_S A s.heap s.heap [] := va_S.rf
  have hx := B.exec
  have hb := B.bytes
  have hr := B.returns
  have hts := atoms_spec (ws := wsX10_takeWell) B.pre
  have hown : s.vm.findClass RX10 = some m.cls := findClass_of_methodNamed B.named
  have hlocks := B.notSynchronized
  have hK := hE.1
  have in_X10 : ∀ w ∈ u_ws RX10 TX10 79, w ∈ wsX10_takeWell := fun w h => List.mem_cons_of_mem _ (List.mem_append_right _ h)
  have lk0 := hts (.fieldLink RX10 240 "TidedGroundModel" "readWells" "I") (List.mem_of_getElem? (i := 1) rfl)
  have lk1 := hts (.fieldLink RX10 113 "TidedGroundModel" "readWellAt" "[I") (List.mem_of_getElem? (i := 2) rfl)
  have lk2 := hts (.fieldLink RX10 116 "TidedGroundModel" "readWellDeep" "[I") (List.mem_of_getElem? (i := 3) rfl)
  have n_0 : (0 : Int32).toInt = 0 := by decide
  have n_1 : (1 : Int32).toInt = 1 := by decide
  have n_99 : (99 : Int32).toInt = 99 := by decide
  have hl := lv_entry ([.ref (am 0)]) (n := 2) (Nat.le_of_ble_eq_true rfl)
  rw [lg_entry_eq]
  generalize (lg_sl ([.ref (am 0)]) ++ List.replicate (2 - (lg_sl ([.ref (am 0)])).length) Slot.unset).toArray = ls at hl ⊢
  have hl : lv_has ls 2 [(0, .ref (am 0))] := hl
  refine W_abs (fun Q hQ => ?_)
  have hH := hMI.1
  obtain ⟨hT1, hT2, hT3, hT4, hT5⟩ := id hH.2.2.2.2.2.2
  obtain ⟨ha1, ha2⟩ := id hat
  obtain ⟨hrG, hrC, hrZ, hrMo, hrB, hrD⟩ := id hRd
  obtain ⟨hrc1, hrc2, hrc3, hrc4, hrc5, hrc6⟩ := id hrC
  have hd1 : 1 ≤ (vm 38 0).toInt := by rcases hrZ with q | q <;> omega
  have hs37 : S 37 0 = (vm 37 0).toInt := hSM 37 (by decide) 0
  have hs38 : S 38 0 = (vm 38 0).toInt := hSM 38 (by decide) 0
  have hs55 : S 55 0 = (vm 55 0).toInt := hSM 55 (by decide) 0
  have ha56 : S 56 = fI (vm 56) := hSM.at 56 (by decide)
  have hck : ∀ wa, chk (decide (5 ≤ S 55 0)) 3 wa = .inr () := fun wa => chk_off (by omega)
  have hFz : fr lRd vm vm := fr.rf
  refine lv_aload_n hx hb dX10_takeWell_0 rfl (lv_at hl 0 rfl) ?_
  refine lv_dup hx hb dX10_takeWell_1 rfl ?_
  refine va_get (D := eD E) (ci := 10) (v := .int (vm 55 0)) (C := RX10) (T := TX10) (N := 79) hx hb hts in_X10 hown hK hP 0 rfl rfl 55 (by decide) lk0 (fun _ h9 => h9) rfl dX10_takeWell_2 ?_
  refine lv_iconst (v := 1) hx hb dX10_takeWell_5 (by decide) ?_
  refine lv_iadd hx hb dX10_takeWell_6 ?_
  refine lv_topi (fun x6 e6 => ?_)
  have t6 := i_add e6 (by omega)
  refine va_put (D := eD E) (ci := 10) (v := .int x6) (ty := .int) (C := RX10) (T := TX10) (N := 79) hx hb hts in_X10 tyX10 tyX10_ok nmX10 hown hK hP hD hS 0 rfl rfl 55 (by decide) lk0 (fun _ h9 => h9) rfl (by decide +kernel) rfl rfl (Nat.le_of_ble_eq_true rfl) dX10_takeWell_7 (fun H locs hP hD hS => ?_)
  replace hP : va_P (eD E) vwCl (mdL E am (up2 vm 55 0 x6)) H := hP
  replace hD : va_D A (mdL E am (up2 vm 55 0 x6)) := hD
  generalize hv7 : up2 vm 55 0 x6 = vm_7 at hP hD
  have hFz : fr lRd vm vm_7 := by first | exact hFz | (rw [← hv7]; exact hFz.up (by decide))
  have hMI : MdI vm_7 := by rw [← hv7]; exact hMI
  have hat : atI vm_7 := by rw [← hv7]; exact hat
  have hq7 : (vm_7 55 0).toInt = x6.toInt := by rw [← hv7]; rfl
  have hq7_37 : (vm_7 37 0).toInt = (vm 37 0).toInt := by rw [← hv7]; rfl
  have hq7_38 : (vm_7 38 0).toInt = (vm 38 0).toInt := by rw [← hv7]; rfl
  have hq7_34 : (vm_7 34 0).toInt = (vm 34 0).toInt := by rw [← hv7]; rfl
  have hrG : rdG vm_7 := by rw [← hv7]; exact hrG
  have hsl : scL lWe vm vm_7 := by rw [← hv7]; exact scL.rf.up (by decide)
  have hSM7 : SM (upS S 55 0 (S 55 0 + 1)) vm_7 := hSM.cnt hv7 (by omega)
  refine lv_aload_n hx hb dX10_takeWell_10 rfl (lv_at hl 0 rfl) ?_
  refine lv_aload_n hx hb dX10_takeWell_11 rfl (lv_at hl 0 rfl) ?_
  refine va_get (D := eD E) (ci := 10) (v := .ref (am 56)) (C := RX10) (T := TX10) (N := 79) hx hb hts in_X10 hown hK hP 0 rfl rfl 56 (by decide) lk1 (fun _ h9 => h9) rfl dX10_takeWell_12 ?_
  refine lv_aload_n hx hb dX10_takeWell_15 rfl (lv_at hl 0 rfl) ?_
  refine va_get (D := eD E) (ci := 10) (v := .int (vm_7 55 0)) (C := RX10) (T := TX10) (N := 79) hx hb hts in_X10 hown hK hP 0 rfl rfl 55 (by decide) lk0 (fun _ h9 => h9) rfl dX10_takeWell_16 ?_
  have sv19_vm_7550 : 1 ≤ (vm_7 55 0).toInt ∧ (vm_7 55 0).toInt ≤ 5 := by omega
  refine lv_iconst (v := 1) hx hb dX10_takeWell_19 (by decide) ?_
  refine lv_isub hx hb dX10_takeWell_20 ?_
  refine lv_topi (fun x20 e20 => ?_)
  have t20 := i_sub e20 (by omega)
  refine mt_Vi (w1 := fun (u : Vf) => mdL E am u) (wf := fun (u : Vf) => mdL E am u) (wr := []) (As := [.ref (am 56), .int x20]) (rest := []) (C := RX10) (ci := 10) ⟨hx, hb, hml, hown, hts⟩ (c_X10_takeNewCell_56 l E H.size am vm_7 x20 hMI hat hrG (by omega) (by omega) (by omega)) (cwV 2 hts gX10_takeWell_X10_takeNewCell rfl rfl rfl (by decide +kernel) ⟨Nat.le_of_ble_eq_true rfl, Nat.le_of_ble_eq_true rfl⟩) hE hS hA hP hD [0, 1, 2, 3, 4, 5, 6, 7, 8, 9, 10, 11, 12, 13, 14, 15, 16, 17, 18, 19, 20, 21, 22, 23, 24, 25, 26, 27, 28, 29, 30, 31, 32, 33, 34, 35, 36, 37, 38, 39, 40, 41, 42, 43, 44, 45] [] rfl rfl (by decide) (by decide) (by decide) [0, 1, 2, 3, 4, 5, 6, 7, 8, 9, 10, 11, 12, 13, 14, 15, 16, 17, 18, 19, 20, 21, 22, 23, 24, 25, 26, 27, 28, 29, 30, 31, 32, 33, 34, 35, 36, 37, 38, 39, 40, 41, 42, 43, 44, 45] (by decide) (fun u => rfl) rfl rfl rfl rfl hl.1 rfl (Nat.le_of_ble_eq_true rfl) dX10_takeWell_21 ⟨Nat.zero_le _, Nat.zero_le _⟩ (fun r21 u21 H locs h21 hP hD hS => ?_)
  generalize u21 = o21_vm at hP hD h21
  try dsimp only at h21
  have hf21 := h21.2
  replace h21 := h21.1
  have hFn21 := h21.2
  replace h21 := h21.1
  replace hP : va_P (eD E) vwCl (mdL E am o21_vm) H := hP
  replace hD : va_D A (mdL E am o21_vm) := hD
  have hFz : fr lRd vm o21_vm := by first | exact hFz | exact hFz.tr hFn21 (by decide) | (rw [← hv21]; repeat' (first | exact hFz | refine fr.up ?_ (by decide) | refine fr.up3 ?_ (by decide)))
  have hMI : MdI o21_vm := hMI.on4 (h21.1.mem (by decide)) (by rw [h21.1 47 (by decide) (by decide) (by decide) (by decide) (by decide) (by decide)]; exact hMI.2.2.2.2.1) (by rw [h21.1 49 (by decide) (by decide) (by decide) (by decide) (by decide) (by decide)]; exact hMI.2.2.2.2.2.1) (by rw [h21.1 52 (by decide) (by decide) (by decide) (by decide) (by decide) (by decide)]; exact hMI.2.2.2.2.2.2.1) (h21.2.1 hMI.2.2.2.2.2.2.2)
  have hat := h21.2.2.1
  have hq21 : (o21_vm 55 0).toInt = (vm_7 55 0).toInt := by rw [h21.1 55 (by decide) (by decide) (by decide) (by decide) (by decide) (by decide)]
  have hsl : scL lWe vm o21_vm := hsl.K h21.1 (by decide)
  have hq21_57 : o21_vm 57 = vm 57 := by rw [h21.1 57 (by decide) (by decide) (by decide) (by decide) (by decide) (by decide), ← hv7]; rfl
  have hg21 : MF (th (placeF (vm 31) (vm 32 0).toInt (S 37 0) (S 38 0) (vm 34 0).toInt) (fun z : ((Int × Int × Int) × (Int × Int × Int)) => chk (anyE (S 56) (plc (S 37 0) z) (S 55 0).toNat) 4 z.2.2.2)) (vm 33 0).toInt r21.toInt (o21_vm 33 0).toInt (fun z => (o21_vm 61 0).toInt = plc (S 37 0) z.1 ∧ (o21_vm 34 0).toInt = z.1.2.2.1 ∧ o21_vm 56 = upd (vm 56) x20.toNatClampNeg (o21_vm 61 0)) := by rw [hs37, hs38, ha56, hs55, show (vm 55 0).toInt = x20.toInt by omega]; rw [← hv7] at hf21; exact hf21
  have hh21 := fun wa => MF.pre (hck wa) hg21
  have hT21 : o21_vm 31 = vm 31 := by rw [h21.1 31 (by decide) (by decide) (by decide) (by decide) (by decide) (by decide), ← hv7]; rfl
  have hN21 : o21_vm 32 = vm 32 := by rw [h21.1 32 (by decide) (by decide) (by decide) (by decide) (by decide) (by decide), ← hv7]; rfl
  refine lv_istore_n (lv' := [(1, .int r21), (0, .ref (am 0))]) hx hb dX10_takeWell_24 rfl hl (by decide) rfl (fun ls hl => ?_)
  refine lv_iload_n hx hb dX10_takeWell_25 rfl (lv_at hl 0 rfl) ?_
  refine lv_if_le (tgt := 33) hx hb dX10_takeWell_26 (by decide) (fun c26 => ?_) (fun c26 => ?_)
  · have c26_ := i_le c26
    refine lv_aload_n hx hb dX10_takeWell_33 rfl (lv_at hl 1 rfl) ?_
    refine lv_aload_n hx hb dX10_takeWell_34 rfl (lv_at hl 1 rfl) ?_
    refine va_get (D := eD E) (ci := 10) (v := .ref (am 57)) (C := RX10) (T := TX10) (N := 79) hx hb hts in_X10 hown hK hP 0 rfl rfl 57 (by decide) lk2 (fun _ h9 => h9) rfl dX10_takeWell_35 ?_
    refine lv_aload_n hx hb dX10_takeWell_38 rfl (lv_at hl 1 rfl) ?_
    refine va_get (D := eD E) (ci := 10) (v := .int (o21_vm 55 0)) (C := RX10) (T := TX10) (N := 79) hx hb hts in_X10 hown hK hP 0 rfl rfl 55 (by decide) lk0 (fun _ h9 => h9) rfl dX10_takeWell_39 ?_
    have sv42_o21_vm550 : 1 ≤ (o21_vm 55 0).toInt ∧ (o21_vm 55 0).toInt ≤ 5 := by omega
    refine lv_iconst (v := 1) hx hb dX10_takeWell_42 (by decide) ?_
    refine lv_isub hx hb dX10_takeWell_43 ?_
    refine lv_topi (fun x43 e43 => ?_)
    have t43 := i_sub e43 (by omega)
    refine lv_iconst (v := 0) hx hb dX10_takeWell_44 (by decide) ?_
    refine lv_bipush (v := 99) hx hb dX10_takeWell_45 (by decide) ?_
    refine mt_Vi (w1 := fun (u : Vf) => mdL E am u) (wf := fun (u : Vf) => mdL E am u) (wr := []) (As := [.ref (am 57), .int x43, .int 0, .int 99]) (rest := []) (C := RX10) (ci := 10) ⟨hx, hb, hml, hown, hts⟩ (c_X10_into_57 l E H.size am o21_vm x43 0 99 hMI hat (by omega)) (cwV 4 hts gX10_takeWell_X10_into rfl rfl rfl (by decide +kernel) ⟨Nat.le_of_ble_eq_true rfl, Nat.le_of_ble_eq_true rfl⟩) hE hS hA hP hD [0, 1, 2, 3, 4, 5, 6, 7, 8, 9, 10, 11, 12, 13, 14, 15, 16, 17, 18, 19, 20, 21, 22, 23, 24, 25, 26, 27, 28, 29, 30, 31, 32, 33, 34, 35, 36, 37, 38, 39, 40, 41, 42, 43, 44, 45] [] rfl rfl (by decide) (by decide) (by decide) [0, 1, 2, 3, 4, 5, 6, 7, 8, 9, 10, 11, 12, 13, 14, 15, 16, 17, 18, 19, 20, 21, 22, 23, 24, 25, 26, 27, 28, 29, 30, 31, 32, 33, 34, 35, 36, 37, 38, 39, 40, 41, 42, 43, 44, 45] (by decide) (fun u => rfl) rfl rfl rfl rfl hl.1 rfl (Nat.le_of_ble_eq_true rfl) dX10_takeWell_47 ⟨Nat.zero_le _, Nat.zero_le _⟩ (fun r47 u47 H locs h47 hP hD hS => ?_)
    generalize u47 = o47_vm at hP hD h47
    try dsimp only at h47
    have hf47 := h47.2
    replace h47 := h47.1
    have hFn47 := h47.2
    replace h47 := h47.1
    replace hP : va_P (eD E) vwCl (mdL E am o47_vm) H := hP
    replace hD : va_D A (mdL E am o47_vm) := hD
    have hFz : fr lRd vm o47_vm := by first | exact hFz | exact hFz.tr hFn47 (by decide) | (rw [← hv47]; repeat' (first | exact hFz | refine fr.up ?_ (by decide) | refine fr.up3 ?_ (by decide)))
    have hMI : MdI o47_vm := hMI.on (h47.1.mem (by decide))
    obtain ⟨y47, hy47, hr47⟩ := id h47.2.1
    have hm47 := h47.2.2.2
    have hsl : scL lWe vm o47_vm := hsl.K h47.1 (by decide)
    have hq47 : (o47_vm 55 0).toInt = (o21_vm 55 0).toInt := by rw [h47.1 55 (by decide) (by decide) (by decide) (by decide) (by decide) (by decide)]
    rw [hq21_57, show x43 = vm 55 0 from i_eqr (by omega)] at hy47
    have hn47 := hf47.1
    rw [n_0, n_99, hT21, hN21] at hn47
    subst hQ
    exact W.iret (v := r47) hx hb hr (fun t ht hW => ⟨⟨r47, (o47_vm), rfl, (show ((MdI o47_vm ∧ atI o47_vm ∧ (vm 34 0).toInt ≤ (o47_vm 34 0).toInt ∧ (0 ≤ r47.toInt ∧ r47.toInt ≤ 4) ∧ (r47.toInt = 0 → RdM o47_vm)) ∧ fr lRd vm o47_vm) ∧ (∀ wa, TK (wellP (vm 31) (vm 32 0).toInt S wa (vm 34 0).toInt) (wellF (vm 31) (vm 32 0).toInt S wa (vm 34 0).toInt) (vm 33 0).toInt r47.toInt (o47_vm 33 0).toInt (fun x => (o47_vm 34 0).toInt = x.2.2.1 ∧ SM (wellS S (plc (S 37 0) x.1.1.2) x.2.1) o47_vm)) from ⟨⟨⟨hMI, h47.2.2.1, by omega, by omega, fun q => rd_well hRd hsl ⟨by omega, by omega⟩ (by omega) (by omega) hy47 (by omega)⟩, hFz⟩, (fun wa => MF.tk (MF.mono (MF.then (s := fun z : (Unit × ((Int × Int × Int) × (Int × Int × Int))) × Unit => numF (vm 31) (vm 32 0).toInt 0 99 z.1.2.2.2.1) (hh21 wa) (by omega) hn47 (((okF.chk (by decide)).th (fun _ => (okF.num.th (fun _ => okF.num)))).th (fun _ => (okF.chk (by decide)))) (fun z hz => by have q2 : (o21_vm 34 0).toInt = z.1.2.2.2.1 := hz.2.1; rw [q2])) (fun q z hz => ⟨hz.2.2.1, by have q1 : (o21_vm 61 0).toInt = plc (S 37 0) z.1.1.2 := hz.1.1; have q3 : (o47_vm 35 0).toInt = z.2.1 := hz.2.1; rw [← q1, ← q3]; exact SM.step (SM.step hSM7 h21.1 (by rw [hz.1.2.2, ← hv7]; rfl) (by show x20.toInt.toNat = (S 55 0).toNat; omega)) h47.1 hf47.2 (by show x43.toInt.toNat = (S 55 0).toNat; omega)⟩)))⟩), by rw [ht]; exact hP, hD⟩, hS.F ht⟩) hS.2.2 dX10_takeWell_50
  · have c26_ := i_nle c26
    refine lv_iload_n hx hb dX10_takeWell_29 rfl (lv_at hl 0 rfl) ?_
    refine lv_goto (tgt := 50) hx hb dX10_takeWell_30 (by decide) ?_
    subst hQ
    exact W.iret (v := r21) hx hb hr (fun t ht hW => ⟨⟨r21, (o21_vm), rfl, (show ((MdI o21_vm ∧ atI o21_vm ∧ (vm 34 0).toInt ≤ (o21_vm 34 0).toInt ∧ (0 ≤ r21.toInt ∧ r21.toInt ≤ 4) ∧ (r21.toInt = 0 → RdM o21_vm)) ∧ fr lRd vm o21_vm) ∧ (∀ wa, TK (wellP (vm 31) (vm 32 0).toInt S wa (vm 34 0).toInt) (wellF (vm 31) (vm 32 0).toInt S wa (vm 34 0).toInt) (vm 33 0).toInt r21.toInt (o21_vm 33 0).toInt (fun x => (o21_vm 34 0).toInt = x.2.2.1 ∧ SM (wellS S (plc (S 37 0) x.1.1.2) x.2.1) o21_vm)) from ⟨⟨⟨hMI, hat, by omega, by omega, fun q => absurd q (by omega)⟩, hFz⟩, (fun wa => MF.tk ((hh21 wa).stop (by omega)))⟩), by rw [ht]; exact hP, hD⟩, hS.F ht⟩) hS.2.2 dX10_takeWell_50
def rm_X10_takeCrack : Room := { frames := 3, cells := 0, slots := 0, locals := 73 }
set_option maxHeartbeats 4000000 in
set_option maxRecDepth 100000 in
theorem c_X10_takeCrack (l : Launch) (E : Ev) (sz : Nat) (am : Nat → Nat) (vm : Vf) (S : St0) (hMI : MdI vm) (hat : atI vm) (hRd : RdM vm) (hw1 : 1 ≤ (vm 37 0).toInt) (hcn : (vm 51 0).toInt ≤ 5) (hSM : SM S vm) : Met l yX10_takeCrack wsX10_takeCrack rm_X10_takeCrack (MtP E sz [.ref (am 0)] (mdL E am vm)) (va_Qi (fun (r : Int32) (u : Vf) => ((MdI u ∧ atI u ∧ (vm 34 0).toInt ≤ (u 34 0).toInt ∧ (0 ≤ r.toInt ∧ r.toInt ≤ 4) ∧ (r.toInt = 0 → RdM u)) ∧ fr lRd vm u) ∧ (∀ wa, TK (crackP (vm 31) (vm 32 0).toInt S wa (vm 34 0).toInt) (crackF (vm 31) (vm 32 0).toInt S wa (vm 34 0).toInt) (vm 33 0).toInt r.toInt (u 33 0).toInt (fun x => (u 34 0).toInt = x.2.2.1 ∧ SM (crackS S (plc (S 37 0) x.1.1.1.1.2) x.1.1.1.2.1 x.2.1) u))) (MtB E (va_A (mdL E am vm) sz) (fun u => mdL E am u)) (va_A (mdL E am vm) sz)) 0 0 (va_A (mdL E am vm) sz) := by
  refine Met.ofW (cc := cX10_takeCrack) (maxL := 6) (ret := (some .int)) (by decide) rfl ?_
  intro p e s m args below meth c s₁ B hml hv
  obtain ⟨rfl, hsz, hE, hP, hD0⟩ := hv
  subst hsz
  have hD := hD0.self (sz := s.heap.size)
  generalize hAe : va_A (mdL E am vm) s.heap.size = A at hD hE ⊢
  have hA : ∀ q : Nat, s.heap.size ≤ q → A q := fun q h => by rw [← hAe]; exact Or.inr h
  have hS : va_S A s.heap s.heap [] := va_S.rf
  have hx := B.exec
  have hb := B.bytes
  have hr := B.returns
  have hts := atoms_spec (ws := wsX10_takeCrack) B.pre
  have hown : s.vm.findClass RX10 = some m.cls := findClass_of_methodNamed B.named
  have hlocks := B.notSynchronized
  have hK := hE.1
  have in_X10 : ∀ w ∈ u_ws RX10 TX10 79, w ∈ wsX10_takeCrack := fun w h => List.mem_cons_of_mem _ (List.mem_append_right _ h)
  have lk0 := hts (.fieldLink RX10 237 "TidedGroundModel" "readCracks" "I") (List.mem_of_getElem? (i := 1) rfl)
  have lk1 := hts (.fieldLink RX10 198 "TidedGroundModel" "number" "I") (List.mem_of_getElem? (i := 2) rfl)
  have lk2 := hts (.fieldLink RX10 104 "TidedGroundModel" "readCrackAt" "[I") (List.mem_of_getElem? (i := 7) rfl)
  have lk3 := hts (.fieldLink RX10 210 "TidedGroundModel" "cellRead" "I") (List.mem_of_getElem? (i := 3) rfl)
  have lk4 := hts (.fieldLink RX10 107 "TidedGroundModel" "readCrackWay" "[I") (List.mem_of_getElem? (i := 8) rfl)
  have lk5 := hts (.fieldLink RX10 110 "TidedGroundModel" "readCrackOpen" "[I") (List.mem_of_getElem? (i := 9) rfl)
  have lk6 := hts (.fieldLink RX10 195 "TidedGroundModel" "numberAt" "I") (List.mem_of_getElem? (i := 6) rfl)
  have lk7 := hts (.fieldLink RX10 204 "TidedGroundModel" "readWide" "I") (List.mem_of_getElem? (i := 4) rfl)
  have lk8 := hts (.fieldLink RX10 207 "TidedGroundModel" "readDeep" "I") (List.mem_of_getElem? (i := 5) rfl)
  have n_0 : (0 : Int32).toInt = 0 := by decide
  have n_1 : (1 : Int32).toInt = 1 := by decide
  have n_2 : (2 : Int32).toInt = 2 := by decide
  have n_4 : (4 : Int32).toInt = 4 := by decide
  have n_60 : (60 : Int32).toInt = 60 := by decide
  have hl := lv_entry ([.ref (am 0)]) (n := 6) (Nat.le_of_ble_eq_true rfl)
  rw [lg_entry_eq]
  generalize (lg_sl ([.ref (am 0)]) ++ List.replicate (6 - (lg_sl ([.ref (am 0)])).length) Slot.unset).toArray = ls at hl ⊢
  have hl : lv_has ls 6 [(0, .ref (am 0))] := hl
  refine W_abs (fun Q hQ => ?_)
  have hH := hMI.1
  obtain ⟨hT1, hT2, hT3, hT4, hT5⟩ := id hH.2.2.2.2.2.2
  obtain ⟨ha1, ha2⟩ := id hat
  obtain ⟨hrG, hrC, hrZ, hrMo, hrB, hrD⟩ := id hRd
  obtain ⟨hrc1, hrc2, hrc3, hrc4, hrc5, hrc6⟩ := id hrC
  have hd1 : 1 ≤ (vm 38 0).toInt := by rcases hrZ with q | q <;> omega
  obtain ⟨hgw1, hgw2, hgw3⟩ := id hrG
  have hs37 : S 37 0 = (vm 37 0).toInt := hSM 37 (by decide) 0
  have hs38 : S 38 0 = (vm 38 0).toInt := hSM 38 (by decide) 0
  have hs51 : S 51 0 = (vm 51 0).toInt := hSM 51 (by decide) 0
  have ha52 : S 52 = fI (vm 52) := hSM.at 52 (by decide)
  have ha53 : S 53 = fI (vm 53) := hSM.at 53 (by decide)
  have hck : ∀ wa, chk (decide (6 ≤ S 51 0)) 3 wa = .inr () := fun wa => chk_off (by omega)
  have hFz : fr lRd vm vm := fr.rf
  refine lv_aload_n hx hb dX10_takeCrack_0 rfl (lv_at hl 0 rfl) ?_
  refine va_get (D := eD E) (ci := 10) (v := .int (vm 51 0)) (C := RX10) (T := TX10) (N := 79) hx hb hts in_X10 hown hK hP 0 rfl rfl 51 (by decide) lk0 (fun _ h9 => h9) rfl dX10_takeCrack_1 ?_
  refine lv_istore_n (lv' := [(1, .int (vm 51 0)), (0, .ref (am 0))]) hx hb dX10_takeCrack_4 rfl hl (by decide) rfl (fun ls hl => ?_)
  refine lv_aload_n hx hb dX10_takeCrack_5 rfl (lv_at hl 1 rfl) ?_
  refine lv_dup hx hb dX10_takeCrack_6 rfl ?_
  refine va_get (D := eD E) (ci := 10) (v := .int (vm 51 0)) (C := RX10) (T := TX10) (N := 79) hx hb hts in_X10 hown hK hP 0 rfl rfl 51 (by decide) lk0 (fun _ h9 => h9) rfl dX10_takeCrack_7 ?_
  refine lv_iconst (v := 1) hx hb dX10_takeCrack_10 (by decide) ?_
  refine lv_iadd hx hb dX10_takeCrack_11 ?_
  refine lv_topi (fun x11 e11 => ?_)
  have t11 := i_add e11 (by omega)
  refine va_put (D := eD E) (ci := 10) (v := .int x11) (ty := .int) (C := RX10) (T := TX10) (N := 79) hx hb hts in_X10 tyX10 tyX10_ok nmX10 hown hK hP hD hS 0 rfl rfl 51 (by decide) lk0 (fun _ h9 => h9) rfl (by decide +kernel) rfl rfl (Nat.le_of_ble_eq_true rfl) dX10_takeCrack_12 (fun H locs hP hD hS => ?_)
  replace hP : va_P (eD E) vwCl (mdL E am (up2 vm 51 0 x11)) H := hP
  replace hD : va_D A (mdL E am (up2 vm 51 0 x11)) := hD
  generalize hv12 : up2 vm 51 0 x11 = vm_12 at hP hD
  have hFz : fr lRd vm vm_12 := by first | exact hFz | (rw [← hv12]; exact hFz.up (by decide))
  have hMI : MdI vm_12 := by rw [← hv12]; exact hMI
  have hat : atI vm_12 := by rw [← hv12]; exact hat
  have hq12 : (vm_12 51 0).toInt = x11.toInt := by rw [← hv12]; rfl
  have hq12_37 : (vm_12 37 0).toInt = (vm 37 0).toInt := by rw [← hv12]; rfl
  have hq12_38 : (vm_12 38 0).toInt = (vm 38 0).toInt := by rw [← hv12]; rfl
  have hq12_34 : (vm_12 34 0).toInt = (vm 34 0).toInt := by rw [← hv12]; rfl
  have hRd : RdM vm_12 := by rw [← hv12]; exact rd_crack hRd ⟨by omega, by omega⟩ (by omega)
  have hrG : rdG vm_12 := by rw [← hv12]; exact hrG
  have hSM12 : SM (upS S 51 0 (S 51 0 + 1)) vm_12 := hSM.cnt hv12 (by omega)
  refine lv_aload_n hx hb dX10_takeCrack_15 rfl (lv_at hl 1 rfl) ?_
  refine mt_Vi (w1 := fun (u : Vf) => mdL E am u) (wf := fun (u : Vf) => mdL E am u) (wr := []) (As := []) (rest := []) (C := RX10) (ci := 10) ⟨hx, hb, hml, hown, hts⟩ (c_X10_takeCell l E H.size am vm_12 hMI hat hrG (by omega) (by omega)) (cwV 0 hts gX10_takeCrack_X10_takeCell rfl rfl rfl (by decide +kernel) ⟨Nat.le_of_ble_eq_true rfl, Nat.le_of_ble_eq_true rfl⟩) hE hS hA hP hD [0, 1, 2, 3, 4, 5, 6, 7, 8, 9, 10, 11, 12, 13, 14, 15, 16, 17, 18, 19, 20, 21, 22, 23, 24, 25, 26, 27, 28, 29, 30, 31, 32, 33, 34, 35, 36, 37, 38, 39, 40, 41, 42, 43, 44, 45] [] rfl rfl (by decide) (by decide) (by decide) [0, 1, 2, 3, 4, 5, 6, 7, 8, 9, 10, 11, 12, 13, 14, 15, 16, 17, 18, 19, 20, 21, 22, 23, 24, 25, 26, 27, 28, 29, 30, 31, 32, 33, 34, 35, 36, 37, 38, 39, 40, 41, 42, 43, 44, 45] (by decide) (fun u => rfl) rfl rfl rfl rfl hl.1 rfl (Nat.le_of_ble_eq_true rfl) dX10_takeCrack_16 ⟨Nat.zero_le _, Nat.zero_le _⟩ (fun r16 u16 H locs h16 hP hD hS => ?_)
  generalize u16 = o16_vm at hP hD h16
  try dsimp only at h16
  have hf16 := h16.2
  replace h16 := h16.1
  have hFn16 := h16.2
  replace h16 := h16.1
  replace hP : va_P (eD E) vwCl (mdL E am o16_vm) H := hP
  replace hD : va_D A (mdL E am o16_vm) := hD
  have hFz : fr lRd vm o16_vm := by first | exact hFz | exact hFz.tr hFn16 (by decide) | (rw [← hv16]; repeat' (first | exact hFz | refine fr.up ?_ (by decide) | refine fr.up3 ?_ (by decide)))
  have hMI : MdI o16_vm := hMI.sc h16.1
  have hRd : RdM o16_vm := hRd.sc h16.1
  have hat := h16.2.1
  have hq16 : (o16_vm 37 0).toInt = (vm 37 0).toInt := by rw [h16.1 37 (by decide) (by decide) (by decide) (by decide) (by decide)]; omega
  have hg16 : MF (placeF (vm 31) (vm 32 0).toInt (S 37 0) (S 38 0) (vm 34 0).toInt) (vm 33 0).toInt r16.toInt (o16_vm 33 0).toInt (fun z => (o16_vm 61 0).toInt = plc (S 37 0) z ∧ (o16_vm 34 0).toInt = z.2.2.1 ∧ (o16_vm 36 0).toInt = z.2.2.2) := by rw [hs37, hs38]; rw [← hv12] at hf16; exact hf16
  have hh16 := fun wa => MF.pre1 (hck wa) hg16
  have hT16 : o16_vm 31 = vm 31 := by rw [h16.1 31 (by decide) (by decide) (by decide) (by decide) (by decide), ← hv12]; rfl
  have hN16 : o16_vm 32 = vm 32 := by rw [h16.1 32 (by decide) (by decide) (by decide) (by decide) (by decide), ← hv12]; rfl
  have hSM16 := hSM12.sc h16.1
  have hF16 : o16_vm 52 = vm 52 ∧ o16_vm 53 = vm 53 ∧ (o16_vm 38 0).toInt = (vm 38 0).toInt := by rw [h16.1 52 (by decide) (by decide) (by decide) (by decide) (by decide), h16.1 53 (by decide) (by decide) (by decide) (by decide) (by decide), h16.1 38 (by decide) (by decide) (by decide) (by decide) (by decide), ← hv12]; exact ⟨rfl, rfl, rfl⟩
  refine lv_istore_n (lv' := [(2, .int r16), (1, .int (vm 51 0)), (0, .ref (am 0))]) hx hb dX10_takeCrack_19 rfl hl (by decide) rfl (fun ls hl => ?_)
  refine lv_iload_n hx hb dX10_takeCrack_20 rfl (lv_at hl 0 rfl) ?_
  have K34 : ∀  (fz : Int32) (vk : Vf) (H : Heap) (locs : List Loc) (ls : Array Slot), va_P (eD E) vwCl (mdL E am vk) H → va_D A (mdL E am vk) → va_S A s.heap H locs → (MdI vk) → (atI vk) → ((vm 34 0).toInt ≤ (vk 34 0).toInt) → (RdM vk) → ((fz.toInt = 0 ∧ 0 ≤ (vk 61 0).toInt ∧ (vk 61 0).toInt ≤ 23) ∨ (1 ≤ fz.toInt ∧ fz.toInt ≤ 2)) → ((vk 37 0).toInt = (vm 37 0).toInt) → (fr lRd vm vk) → (∀ wa, MF (crackQ (vm 31) (vm 32 0).toInt S wa (vm 34 0).toInt) (vm 33 0).toInt fz.toInt (vk 33 0).toInt (fun z => (vk 61 0).toInt = plc (S 37 0) z.1.2 ∧ (vk 35 0).toInt = z.2.1 ∧ (vk 34 0).toInt = z.2.2.1 ∧ (vk 36 0).toInt = z.2.2.2)) → (SM (upS S 51 0 (S 51 0 + 1)) vk) → (vk 52 = vm 52 ∧ vk 53 = vm 53 ∧ (vk 38 0).toInt = (vm 38 0).toInt) → (vk 31 = vm 31 ∧ vk 32 = vm 32) → lv_has ls 6 [(0, .ref (am 0)), (1, .int (vm 51 0)), (2, .int r16)] → W p l e (headSpec wsX10_takeCrack rm_X10_takeCrack).room s m ([.ref (am 0)] : List Value).toArray below meth c H locs 0 0 Q (F0 m 34 ls [.int fz]) := by
    intro fz vk H locs ls hP hD hS h34_0 h34_1 h34_2 h34_3 h34_4 h34_5 h34_6 h34_7 h34_8 h34_9 h34_10 hl
    have hx34_0 := h34_7
    clear h34_7
    have hx34_1 := h34_8
    clear h34_8
    have hx34_2 := h34_9
    clear h34_9
    have hx34_3 := h34_10
    clear h34_10
    have hMI := h34_0
    have hat := h34_1
    have hRd := h34_3
    have hFz := h34_6
    refine lv_istore_n (lv' := [(2, .int fz), (0, .ref (am 0)), (1, .int (vm 51 0))]) hx hb dX10_takeCrack_34 rfl hl (by decide) rfl (fun ls hl => ?_)
    refine lv_iload_n hx hb dX10_takeCrack_35 rfl (lv_at hl 0 rfl) ?_
    refine lv_if_le (tgt := 41) hx hb dX10_takeCrack_36 (by decide) (fun c36 => ?_) (fun c36 => ?_)
    · have c36_ := i_le c36
      have hk38 := hx34_2.2.2
      refine lv_aload_n hx hb dX10_takeCrack_41 rfl (lv_at hl 1 rfl) ?_
      refine va_get (D := eD E) (ci := 10) (v := .int (vk 35 0)) (C := RX10) (T := TX10) (N := 79) hx hb hts in_X10 hown hK hP 0 rfl rfl 35 (by decide) lk1 (fun _ h9 => h9) rfl dX10_takeCrack_42 ?_
      have K97 : ∀  (off : Int32) (H : Heap) (locs : List Loc) (ls : Array Slot), va_P (eD E) vwCl (mdL E am vk) H → va_D A (mdL E am vk) → va_S A s.heap H locs → ((off.toInt = 1 ∧ (((vk 35 0).toInt = 0 ∧ (vk 61 0).toInt % (vm 37 0).toInt = (vm 37 0).toInt - 1) ∨ ((vk 35 0).toInt ≠ 0 ∧ (vk 61 0).toInt / (vm 37 0).toInt = (vm 38 0).toInt - 1))) ∨ (off.toInt = 0 ∧ ¬ (((vk 35 0).toInt = 0 ∧ (vk 61 0).toInt % (vm 37 0).toInt = (vm 37 0).toInt - 1) ∨ ((vk 35 0).toInt ≠ 0 ∧ (vk 61 0).toInt / (vm 37 0).toInt = (vm 38 0).toInt - 1)))) → lv_has ls 6 [(0, .ref (am 0)), (1, .int (vm 51 0)), (2, .int fz)] → W p l e (headSpec wsX10_takeCrack rm_X10_takeCrack).room s m ([.ref (am 0)] : List Value).toArray below meth c H locs 0 0 Q (F0 m 97 ls [.int off]) := by
        intro off H locs ls hP hD hS h97_0 hl
        have hx97_0 := h97_0
        clear h97_0
        refine lv_istore_n (lv' := [(3, .int off), (0, .ref (am 0)), (1, .int (vm 51 0)), (2, .int fz)]) hx hb dX10_takeCrack_97 rfl hl (by decide) rfl (fun ls hl => ?_)
        refine lv_iload_n hx hb dX10_takeCrack_98 rfl (lv_at hl 0 rfl) ?_
        refine lv_if_eq (tgt := 112) hx hb dX10_takeCrack_99 (by decide) (fun c99 => ?_) (fun c99 => ?_)
        · have c99_ := i_eq c99
          have hhR : ∀ wa, MF (crackR (vm 31) (vm 32 0).toInt S wa (vm 34 0).toInt) (vm 33 0).toInt 0 (vk 33 0).toInt (fun z : ((Unit × ((Int × Int × Int) × (Int × Int × Int))) × (Int × Int × Int)) × Unit => (vk 61 0).toInt = plc (S 37 0) z.1.1.2 ∧ (vk 35 0).toInt = z.1.2.1 ∧ (vk 34 0).toInt = z.1.2.2.1 ∧ (vk 36 0).toInt = z.1.2.2.2) := fun wa => MF.andOk (y := ()) (hx34_0 wa) (by omega) (((okF.chk (by decide)).th (fun _ => (okF.num.th (fun _ => okF.num)))).th (fun _ => okF.num)) (fun z hz => chk_off (by rw [← hz.1, ← hz.2.1, hs37, hs38]; exact (hx97_0.resolve_left (fun q => absurd q.1 (by omega))).2)) rfl rfl (fun z _ hz => hz)
          refine lv_iconst (v := 0) hx hb dX10_takeCrack_112 (by decide) ?_
          refine lv_istore (lv' := [(4, .int 0), (3, .int off), (0, .ref (am 0)), (1, .int (vm 51 0)), (2, .int fz)]) hx hb dX10_takeCrack_113 hl (by decide) rfl (fun ls hl => ?_)
          refine lv_iconst (v := 0) hx hb dX10_takeCrack_115 (by decide) ?_
          refine lv_istore (lv' := [(5, .int 0), (4, .int 0), (3, .int off), (0, .ref (am 0)), (1, .int (vm 51 0)), (2, .int fz)]) hx hb dX10_takeCrack_116 hl (by decide) rfl (fun ls hl => ?_)
          have K118 : ∀ (μ : Nat) (ag : Int32) (i : Int32) (H : Heap) (locs : List Loc) (ls : Array Slot), (6 - i.toInt).toNat < μ → va_P (eD E) vwCl (mdL E am vk) H → va_D A (mdL E am vk) → va_S A s.heap H locs → (0 ≤ i.toInt ∧ i.toInt ≤ 6) → ((ag.toInt = 1 ∧ anyE2 (fI (vm 52)) (fI (vm 53)) (vk 61 0).toInt (vk 35 0).toInt (i.toInt).toNat = true) ∨ (ag.toInt = 0 ∧ anyE2 (fI (vm 52)) (fI (vm 53)) (vk 61 0).toInt (vk 35 0).toInt (i.toInt).toNat = false)) → (i.toInt ≤ (vm 51 0).toInt) → lv_has ls 6 [(0, .ref (am 0)), (1, .int (vm 51 0)), (2, .int fz), (3, .int off), (4, .int ag), (5, .int i)] → W p l e (headSpec wsX10_takeCrack rm_X10_takeCrack).room s m ([.ref (am 0)] : List Value).toArray below meth c H locs 0 0 Q (F0 m 118 ls []) := by
            intro μ
            induction μ with
            | zero =>
              intro ag i H locs ls hμ118
              exact absurd hμ118 (Nat.not_lt_zero _)
            | succ μ ih118 =>
              intro ag i H locs ls hμ118 hP hD hS h118_0 h118_1 h118_2 hl
              have hx118_0 := h118_1
              clear h118_1
              have hx118_1 := h118_2
              clear h118_2
              refine lv_iload hx hb dX10_takeCrack_118 (lv_at hl 5 rfl) ?_
              refine lv_iload_n hx hb dX10_takeCrack_120 rfl (lv_at hl 1 rfl) ?_
              refine lv_icmp_ge (tgt := 170) hx hb dX10_takeCrack_121 (by decide) (fun c121 => ?_) (fun c121 => ?_)
              · have c121_ := i_le c121
                have hag : (ag.toInt = 1 ∧ anyE2 (S 52) (S 53) (vk 61 0).toInt (vk 35 0).toInt (S 51 0).toNat = true) ∨ (ag.toInt = 0 ∧ anyE2 (S 52) (S 53) (vk 61 0).toInt (vk 35 0).toInt (S 51 0).toNat = false) := by rw [ha52, ha53, show (S 51 0).toNat = i.toInt.toNat by omega]; exact hx118_0
                refine lv_iload hx hb dX10_takeCrack_170 (lv_at hl 4 rfl) ?_
                refine lv_if_eq (tgt := 185) hx hb dX10_takeCrack_172 (by decide) (fun c172 => ?_) (fun c172 => ?_)
                · have c172_ := i_eq c172
                  have hhT : ∀ wa, MF (crackT (vm 31) (vm 32 0).toInt S wa (vm 34 0).toInt) (vm 33 0).toInt 0 (vk 33 0).toInt (fun z : (((Unit × ((Int × Int × Int) × (Int × Int × Int))) × (Int × Int × Int)) × Unit) × Unit => (vk 61 0).toInt = plc (S 37 0) z.1.1.1.2 ∧ (vk 35 0).toInt = z.1.1.2.1 ∧ (vk 34 0).toInt = z.1.1.2.2.1 ∧ (vk 36 0).toInt = z.1.1.2.2.2) := fun wa => MF.andOk (y := ()) (hhR wa) rfl ((((okF.chk (by decide)).th (fun _ => (okF.num.th (fun _ => okF.num)))).th (fun _ => okF.num)).th (fun _ => (okF.chk (by decide)))) (fun z hz => by show chk (anyE2 _ _ _ _ _) 4 _ = _; rw [← hz.1, ← hz.2.1, (hag.resolve_left (fun q => absurd q.1 (by omega))).2]; rfl) rfl rfl (fun z _ hz => hz)
                  refine lv_aload_n hx hb dX10_takeCrack_185 rfl (lv_at hl 0 rfl) ?_
                  refine va_get (D := eD E) (ci := 10) (v := .ref (am 52)) (C := RX10) (T := TX10) (N := 79) hx hb hts in_X10 hown hK hP 0 rfl rfl 52 (by decide) lk2 (fun _ h9 => h9) rfl dX10_takeCrack_186 ?_
                  refine lv_iload_n hx hb dX10_takeCrack_189 rfl (lv_at hl 1 rfl) ?_
                  refine lv_aload_n hx hb dX10_takeCrack_190 rfl (lv_at hl 0 rfl) ?_
                  refine va_get (D := eD E) (ci := 10) (v := .int (vk 61 0)) (C := RX10) (T := TX10) (N := 79) hx hb hts in_X10 hown hK hP 0 rfl rfl 61 (by decide) lk3 (fun _ h9 => h9) rfl dX10_takeCrack_191 ?_
                  refine va_iast hx hb hK hP hD hS 29 0 rfl rfl (n := 6) (f := (vk 52)) (i_in (by omega) (by omega)) dX10_takeCrack_194 (fun H locs hP hD hS => ?_)
                  replace hP : va_P (eD E) vwCl (mdL E am (up2 vk 52 ((vm 51 0).toNatClampNeg) (vk 61 0))) H := hP
                  replace hD : va_D A (mdL E am (up2 vk 52 ((vm 51 0).toNatClampNeg) (vk 61 0))) := hD
                  generalize hv194 : up2 vk 52 ((vm 51 0).toNatClampNeg) (vk 61 0) = vm_194 at hP hD
                  have hFz : fr lRd vm vm_194 := by first | exact hFz | (rw [← hv194]; exact hFz.up (by decide))
                  have hMI : MdI vm_194 := by rw [← hv194]; exact hMI.on4 (fun t ht => up2_ne (fun q => absurd (q ▸ ht) (by decide))) hMI.2.2.2.2.1 hMI.2.2.2.2.2.1 (upd_b hMI.2.2.2.2.2.2.1 (by omega) (by omega)) hMI.2.2.2.2.2.2.2
                  have hRd : RdM vm_194 := by rw [← hv194]; exact hRd
                  have hat : atI vm_194 := by rw [← hv194]; exact hat
                  have hq194 : (vm_194 34 0).toInt = (vk 34 0).toInt := by rw [← hv194]; rfl
                  have hSM194 : SM (upS (upS S 51 0 (S 51 0 + 1)) 52 (vm 51 0).toNatClampNeg (vk 61 0).toInt) vm_194 := by rw [← hv194]; exact hx34_1.up
                  refine lv_aload_n hx hb dX10_takeCrack_195 rfl (lv_at hl 0 rfl) ?_
                  refine va_get (D := eD E) (ci := 10) (v := .ref (am 53)) (C := RX10) (T := TX10) (N := 79) hx hb hts in_X10 hown hK hP 0 rfl rfl 53 (by decide) lk4 (fun _ h9 => h9) rfl dX10_takeCrack_196 ?_
                  refine lv_iload_n hx hb dX10_takeCrack_199 rfl (lv_at hl 1 rfl) ?_
                  refine lv_aload_n hx hb dX10_takeCrack_200 rfl (lv_at hl 0 rfl) ?_
                  refine va_get (D := eD E) (ci := 10) (v := .int (vm_194 35 0)) (C := RX10) (T := TX10) (N := 79) hx hb hts in_X10 hown hK hP 0 rfl rfl 35 (by decide) lk1 (fun _ h9 => h9) rfl dX10_takeCrack_201 ?_
                  refine va_iast hx hb hK hP hD hS 30 0 rfl rfl (n := 6) (f := (vm_194 53)) (i_in (by omega) (by omega)) dX10_takeCrack_204 (fun H locs hP hD hS => ?_)
                  replace hP : va_P (eD E) vwCl (mdL E am (up2 vm_194 53 ((vm 51 0).toNatClampNeg) (vm_194 35 0))) H := hP
                  replace hD : va_D A (mdL E am (up2 vm_194 53 ((vm 51 0).toNatClampNeg) (vm_194 35 0))) := hD
                  generalize hv204 : up2 vm_194 53 ((vm 51 0).toNatClampNeg) (vm_194 35 0) = vm_204 at hP hD
                  have hFz : fr lRd vm vm_204 := by first | exact hFz | (rw [← hv204]; exact hFz.up (by decide))
                  have hMI : MdI vm_204 := by rw [← hv204]; exact hMI
                  have hRd : RdM vm_204 := by rw [← hv204]; exact hRd
                  have hat : atI vm_204 := by rw [← hv204]; exact hat
                  have hq204 : (vm_204 34 0).toInt = (vm_194 34 0).toInt := by rw [← hv204]; rfl
                  have hSM204 : SM (upS (upS (upS S 51 0 (S 51 0 + 1)) 52 (vm 51 0).toNatClampNeg (vk 61 0).toInt) 53 (vm 51 0).toNatClampNeg (vm_194 35 0).toInt) vm_204 := by rw [← hv204]; exact hSM194.up
                  have hq204_35 : (vm_194 35 0).toInt = (vk 35 0).toInt := by rw [← hv194]; rfl
                  have hT204 : vm_204 31 = vm 31 ∧ vm_204 32 = vm 32 ∧ vm_204 33 = vk 33 ∧ vm_204 34 = vk 34 := by rw [← hv204, ← hv194]; exact ⟨hx34_3.1, hx34_3.2, rfl, rfl⟩
                  refine lv_aload_n hx hb dX10_takeCrack_205 rfl (lv_at hl 0 rfl) ?_
                  refine lv_aload_n hx hb dX10_takeCrack_206 rfl (lv_at hl 0 rfl) ?_
                  refine va_get (D := eD E) (ci := 10) (v := .ref (am 54)) (C := RX10) (T := TX10) (N := 79) hx hb hts in_X10 hown hK hP 0 rfl rfl 54 (by decide) lk5 (fun _ h9 => h9) rfl dX10_takeCrack_207 ?_
                  refine lv_iload_n hx hb dX10_takeCrack_210 rfl (lv_at hl 1 rfl) ?_
                  refine lv_iconst (v := 0) hx hb dX10_takeCrack_211 (by decide) ?_
                  refine lv_bipush (v := 60) hx hb dX10_takeCrack_212 (by decide) ?_
                  refine mt_Vi (w1 := fun (u : Vf) => mdL E am u) (wf := fun (u : Vf) => mdL E am u) (wr := []) (As := [.ref (am 54), .int (vm 51 0), .int 0, .int 60]) (rest := []) (C := RX10) (ci := 10) ⟨hx, hb, hml, hown, hts⟩ (c_X10_into_54 l E H.size am vm_204 (vm 51 0) 0 60 hMI hat (by omega)) (cwV 4 hts gX10_takeCrack_X10_into rfl rfl rfl (by decide +kernel) ⟨Nat.le_of_ble_eq_true rfl, Nat.le_of_ble_eq_true rfl⟩) hE hS hA hP hD [0, 1, 2, 3, 4, 5, 6, 7, 8, 9, 10, 11, 12, 13, 14, 15, 16, 17, 18, 19, 20, 21, 22, 23, 24, 25, 26, 27, 28, 29, 30, 31, 32, 33, 34, 35, 36, 37, 38, 39, 40, 41, 42, 43, 44, 45] [] rfl rfl (by decide) (by decide) (by decide) [0, 1, 2, 3, 4, 5, 6, 7, 8, 9, 10, 11, 12, 13, 14, 15, 16, 17, 18, 19, 20, 21, 22, 23, 24, 25, 26, 27, 28, 29, 30, 31, 32, 33, 34, 35, 36, 37, 38, 39, 40, 41, 42, 43, 44, 45] (by decide) (fun u => rfl) rfl rfl rfl rfl hl.1 rfl (Nat.le_of_ble_eq_true rfl) dX10_takeCrack_214 ⟨Nat.zero_le _, Nat.zero_le _⟩ (fun r214 u214 H locs h214 hP hD hS => ?_)
                  generalize u214 = o214_vm at hP hD h214
                  try dsimp only at h214
                  have hf214 := h214.2
                  replace h214 := h214.1
                  have hFn214 := h214.2
                  replace h214 := h214.1
                  replace hP : va_P (eD E) vwCl (mdL E am o214_vm) H := hP
                  replace hD : va_D A (mdL E am o214_vm) := hD
                  have hFz : fr lRd vm o214_vm := by first | exact hFz | exact hFz.tr hFn214 (by decide) | (rw [← hv214]; repeat' (first | exact hFz | refine fr.up ?_ (by decide) | refine fr.up3 ?_ (by decide)))
                  have hMI : MdI o214_vm := hMI.on (h214.1.mem (by decide))
                  obtain ⟨y214, hy214, hr214⟩ := id h214.2.1
                  have hm214 := h214.2.2.2
                  have hn214 := hf214.1
                  rw [n_0, n_60, hT204.1, hT204.2.1, hT204.2.2.1, hT204.2.2.2] at hn214
                  subst hQ
                  exact W.iret (v := r214) hx hb hr (fun t ht hW => ⟨⟨r214, (o214_vm), rfl, (show ((MdI o214_vm ∧ atI o214_vm ∧ (vm 34 0).toInt ≤ (o214_vm 34 0).toInt ∧ (0 ≤ r214.toInt ∧ r214.toInt ≤ 4) ∧ (r214.toInt = 0 → RdM o214_vm)) ∧ fr lRd vm o214_vm) ∧ (∀ wa, TK (crackP (vm 31) (vm 32 0).toInt S wa (vm 34 0).toInt) (crackF (vm 31) (vm 32 0).toInt S wa (vm 34 0).toInt) (vm 33 0).toInt r214.toInt (o214_vm 33 0).toInt (fun x => (o214_vm 34 0).toInt = x.2.2.1 ∧ SM (crackS S (plc (S 37 0) x.1.1.1.1.2) x.1.1.1.2.1 x.2.1) o214_vm)) from ⟨⟨⟨hMI, h214.2.2.1, by omega, by omega, fun q => hRd.on (h214.1.mem (by decide))⟩, hFz⟩, (fun wa => MF.tk (MF.mono (MF.then (s := fun z : (((Unit × ((Int × Int × Int) × (Int × Int × Int))) × (Int × Int × Int)) × Unit) × Unit => numF (vm 31) (vm 32 0).toInt 0 60 z.1.1.2.2.1) (hhT wa) rfl hn214 (((((okF.chk (by decide)).th (fun _ => (okF.num.th (fun _ => okF.num)))).th (fun _ => okF.num)).th (fun _ => (okF.chk (by decide)))).th (fun _ => (okF.chk (by decide)))) (fun z hz => by rw [hz.2.2.1])) (fun q z hz => ⟨hz.2.2.1, by have q1 : (vk 61 0).toInt = plc (S 37 0) z.1.1.1.1.2 := hz.1.1; have q2 : (vk 35 0).toInt = z.1.1.1.2.1 := hz.1.2.1; have q3 : (o214_vm 35 0).toInt = z.2.1 := hz.2.1; rw [← q1, ← q2, ← q3, ← hq204_35]; have hk51 : (vm 51 0).toNatClampNeg = (S 51 0).toNat := (by show (vm 51 0).toInt.toNat = _; omega); have hy := hSM204.step h214.1 hf214.2 hk51; rw [hk51] at hy; exact hy⟩)))⟩), by rw [ht]; exact hP, hD⟩, hS.F ht⟩) hS.2.2 dX10_takeCrack_217
                · have c172_ := i_ne c172
                  refine lv_aload_n hx hb dX10_takeCrack_175 rfl (lv_at hl 0 rfl) ?_
                  refine lv_iconst (v := 4) hx hb dX10_takeCrack_176 (by decide) ?_
                  refine lv_aload_n hx hb dX10_takeCrack_177 rfl (lv_at hl 0 rfl) ?_
                  refine va_get (D := eD E) (ci := 10) (v := .int (vk 36 0)) (C := RX10) (T := TX10) (N := 79) hx hb hts in_X10 hown hK hP 0 rfl rfl 36 (by decide) lk6 (fun _ h9 => h9) rfl dX10_takeCrack_178 ?_
                  refine mt_Vi (w1 := fun (u : Vf) => mdL E am u) (wf := fun (u : Vf) => mdL E am u) (wr := []) (As := [.int 4, .int (vk 36 0)]) (rest := []) (C := RX10) (ci := 10) ⟨hx, hb, hml, hown, hts⟩ (c_X10_fails l E H.size am vk 4 (vk 36 0)) (cwV 2 hts gX10_takeCrack_X10_fails rfl rfl rfl (by decide +kernel) ⟨Nat.le_of_ble_eq_true rfl, Nat.le_of_ble_eq_true rfl⟩) hE hS hA hP hD [0, 1, 2, 3, 4, 5, 6, 7, 8, 9, 10, 11, 12, 13, 14, 15, 16, 17, 18, 19, 20, 21, 22, 23, 24, 25, 26, 27, 28, 29, 30, 31, 32, 33, 34, 35, 36, 37, 38, 39, 40, 41, 42, 43, 44, 45] [] rfl rfl (by decide) (by decide) (by decide) [0, 1, 2, 3, 4, 5, 6, 7, 8, 9, 10, 11, 12, 13, 14, 15, 16, 17, 18, 19, 20, 21, 22, 23, 24, 25, 26, 27, 28, 29, 30, 31, 32, 33, 34, 35, 36, 37, 38, 39, 40, 41, 42, 43, 44, 45] (by decide) (fun u => rfl) rfl rfl rfl rfl hl.1 rfl (Nat.le_of_ble_eq_true rfl) dX10_takeCrack_181 ⟨Nat.zero_le _, Nat.zero_le _⟩ (fun r181 u181 H locs h181 hP hD hS => ?_)
                  generalize u181 = o181_vm at hP hD h181
                  try dsimp only at h181
                  have hf181 := h181.2
                  replace h181 := h181.1
                  have hFn181 := h181.2
                  replace h181 := h181.1
                  replace hP : va_P (eD E) vwCl (mdL E am o181_vm) H := hP
                  replace hD : va_D A (mdL E am o181_vm) := hD
                  have hFz : fr lRd vm o181_vm := by first | exact hFz | exact hFz.tr hFn181 (by decide) | (rw [← hv181]; repeat' (first | exact hFz | refine fr.up ?_ (by decide) | refine fr.up3 ?_ (by decide)))
                  have hr181 : r181.toInt = 4 := by rw [h181.1]; decide
                  have hq181 : (o181_vm 34 0).toInt = (vk 34 0).toInt := by rw [h181.2.2]
                  have hw181 : (o181_vm 33 0).toInt = (vk 36 0).toInt := by rw [hf181]; rfl
                  subst hQ
                  exact W.iret (v := r181) hx hb hr (fun t ht hW => ⟨⟨r181, (o181_vm), rfl, (show ((MdI o181_vm ∧ atI o181_vm ∧ (vm 34 0).toInt ≤ (o181_vm 34 0).toInt ∧ (0 ≤ r181.toInt ∧ r181.toInt ≤ 4) ∧ (r181.toInt = 0 → RdM o181_vm)) ∧ fr lRd vm o181_vm) ∧ (∀ wa, TK (crackP (vm 31) (vm 32 0).toInt S wa (vm 34 0).toInt) (crackF (vm 31) (vm 32 0).toInt S wa (vm 34 0).toInt) (vm 33 0).toInt r181.toInt (o181_vm 33 0).toInt (fun x => (o181_vm 34 0).toInt = x.2.2.1 ∧ SM (crackS S (plc (S 37 0) x.1.1.1.1.2) x.1.1.1.2.1 x.2.1) o181_vm)) from ⟨⟨⟨hMI.sn h181.2.1, hat.of h181.2.2 (h181.2.1 32 (by decide) (by decide) (by decide) (by decide)), by omega, by omega, fun q => absurd q (by omega)⟩, hFz⟩, (fun wa => MF.tk ((MF.andNo (s := fun z : ((Unit × ((Int × Int × Int) × (Int × Int × Int))) × (Int × Int × Int)) × Unit => chk (anyE2 (S 52) (S 53) (plc (S 37 0) z.1.1.2) z.1.2.1 (S 51 0).toNat) 4 z.1.2.2.2) (ok2 := fun _ => True) (k := 4) (q := (vk 36 0).toInt) (hhR wa) rfl ((((okF.chk (by decide)).th (fun _ => (okF.num.th (fun _ => okF.num)))).th (fun _ => okF.num)).th (fun _ => (okF.chk (by decide)))) (fun z hz => by show chk (anyE2 _ _ _ _ _) 4 _ = _; rw [← hz.1, ← hz.2.1, (hag.resolve_right (fun q => absurd q.1 (by omega))).2, ← hz.2.2.2]; rfl) (by omega) hw181).stop (by omega)))⟩), by rw [ht]; exact hP, hD⟩, hS.F ht⟩) hS.2.2 dX10_takeCrack_184
              · have c121_ := i_nle c121
                refine lv_iload hx hb dX10_takeCrack_124 (lv_at hl 4 rfl) ?_
                have K162 : ∀  (ag2 : Int32) (H : Heap) (locs : List Loc) (ls : Array Slot), va_P (eD E) vwCl (mdL E am vk) H → va_D A (mdL E am vk) → va_S A s.heap H locs → ((ag2.toInt = 1 ∧ anyE2 (fI (vm 52)) (fI (vm 53)) (vk 61 0).toInt (vk 35 0).toInt (i.toInt + 1).toNat = true) ∨ (ag2.toInt = 0 ∧ anyE2 (fI (vm 52)) (fI (vm 53)) (vk 61 0).toInt (vk 35 0).toInt (i.toInt + 1).toNat = false)) → lv_has ls 6 [(0, .ref (am 0)), (1, .int (vm 51 0)), (2, .int fz), (3, .int off), (4, .int ag), (5, .int i)] → W p l e (headSpec wsX10_takeCrack rm_X10_takeCrack).room s m ([.ref (am 0)] : List Value).toArray below meth c H locs 0 0 Q (F0 m 162 ls [.int ag2]) := by
                  intro ag2 H locs ls hP hD hS h162_0 hl
                  have hx162_0 := h162_0
                  clear h162_0
                  refine lv_istore (lv' := [(4, .int ag2), (0, .ref (am 0)), (1, .int (vm 51 0)), (2, .int fz), (3, .int off), (5, .int i)]) hx hb dX10_takeCrack_162 hl (by decide) rfl (fun ls hl => ?_)
                  obtain ⟨x164, e164⟩ : ∃ y : Int32, y = i + 1 := ⟨_, rfl⟩
                  refine lv_iinc (v := x164) (lv' := [(5, .int x164), (4, .int ag2), (0, .ref (am 0)), (1, .int (vm 51 0)), (2, .int fz), (3, .int off)]) hx hb dX10_takeCrack_164 hl (k := 5) rfl (by rw [e164]; rfl) (by decide) rfl (fun ls hl => ?_)
                  have t164 := i_add e164 (by omega)
                  refine lv_goto (tgt := 118) hx hb dX10_takeCrack_167 (by decide) ?_
                  exact ih118 ag2 x164 _ _ ls (by omega) hP hD hS (by omega) (by rw [show x164.toInt = i.toInt + 1 by omega]; exact hx162_0) (by omega) (lv_sub hl [2, 3, 4, 5, 1, 0] rfl)
                refine lv_if_ne (tgt := 157) hx hb dX10_takeCrack_126 (by decide) (fun c126 => ?_) (fun c126 => ?_)
                · have c126_ := i_ne c126
                  refine lv_iconst (v := 1) hx hb dX10_takeCrack_157 (by decide) ?_
                  refine lv_goto (tgt := 162) hx hb dX10_takeCrack_158 (by decide) ?_
                  exact K162 1 _ _ ls hP hD hS (by first | exact Or.inl ⟨n_1, am2_1 hx118_0 (by omega) (Or.inl (by omega))⟩ | exact Or.inl ⟨n_1, am2_1 hx118_0 (by omega) (Or.inr (by rw [tx135, tx149]; omega))⟩ | exact Or.inr ⟨n_0, am2_0 hx118_0 (by omega) (by omega) (by rw [tx135, tx149]; omega)⟩ | exact Or.inr ⟨n_0, am2_0 hx118_0 (by omega) (by omega) (by rw [tx135]; omega)⟩) (lv_sub hl [0, 1, 2, 3, 4, 5] rfl)
                · have c126_ := i_eq c126
                  refine lv_aload_n hx hb dX10_takeCrack_129 rfl (lv_at hl 0 rfl) ?_
                  refine va_get (D := eD E) (ci := 10) (v := .ref (am 52)) (C := RX10) (T := TX10) (N := 79) hx hb hts in_X10 hown hK hP 0 rfl rfl 52 (by decide) lk2 (fun _ h9 => h9) rfl dX10_takeCrack_130 ?_
                  refine lv_iload hx hb dX10_takeCrack_133 (lv_at hl 5 rfl) ?_
                  refine va_iald hx hb hK hP 29 0 rfl rfl (n := 6) (f := (vk 52)) (i_in (by omega) (by omega)) dX10_takeCrack_135 ?_
                  refine lv_topi (fun x135 e135 => ?_)
                  have tx135 : fI (vm 52) i.toInt.toNat = x135.toInt := by rw [e135, hx34_2.1]; rfl
                  refine lv_aload_n hx hb dX10_takeCrack_136 rfl (lv_at hl 0 rfl) ?_
                  refine va_get (D := eD E) (ci := 10) (v := .int (vk 61 0)) (C := RX10) (T := TX10) (N := 79) hx hb hts in_X10 hown hK hP 0 rfl rfl 61 (by decide) lk3 (fun _ h9 => h9) rfl dX10_takeCrack_137 ?_
                  refine lv_icmp_ne (tgt := 161) hx hb dX10_takeCrack_140 (by decide) (fun c140 => ?_) (fun c140 => ?_)
                  · have c140_ := i_ne c140
                    refine lv_iconst (v := 0) hx hb dX10_takeCrack_161 (by decide) ?_
                    exact K162 0 _ _ ls hP hD hS (by first | exact Or.inl ⟨n_1, am2_1 hx118_0 (by omega) (Or.inl (by omega))⟩ | exact Or.inl ⟨n_1, am2_1 hx118_0 (by omega) (Or.inr (by rw [tx135, tx149]; omega))⟩ | exact Or.inr ⟨n_0, am2_0 hx118_0 (by omega) (by omega) (by rw [tx135, tx149]; omega)⟩ | exact Or.inr ⟨n_0, am2_0 hx118_0 (by omega) (by omega) (by rw [tx135]; omega)⟩) (lv_sub hl [0, 1, 2, 3, 4, 5] rfl)
                  · have c140_ := i_eq c140
                    refine lv_aload_n hx hb dX10_takeCrack_143 rfl (lv_at hl 0 rfl) ?_
                    refine va_get (D := eD E) (ci := 10) (v := .ref (am 53)) (C := RX10) (T := TX10) (N := 79) hx hb hts in_X10 hown hK hP 0 rfl rfl 53 (by decide) lk4 (fun _ h9 => h9) rfl dX10_takeCrack_144 ?_
                    refine lv_iload hx hb dX10_takeCrack_147 (lv_at hl 5 rfl) ?_
                    refine va_iald hx hb hK hP 30 0 rfl rfl (n := 6) (f := (vk 53)) (i_in (by omega) (by omega)) dX10_takeCrack_149 ?_
                    refine lv_topi (fun x149 e149 => ?_)
                    have tx149 : fI (vm 53) i.toInt.toNat = x149.toInt := by rw [e149, hx34_2.2.1]; rfl
                    refine lv_aload_n hx hb dX10_takeCrack_150 rfl (lv_at hl 0 rfl) ?_
                    refine va_get (D := eD E) (ci := 10) (v := .int (vk 35 0)) (C := RX10) (T := TX10) (N := 79) hx hb hts in_X10 hown hK hP 0 rfl rfl 35 (by decide) lk1 (fun _ h9 => h9) rfl dX10_takeCrack_151 ?_
                    refine lv_icmp_ne (tgt := 161) hx hb dX10_takeCrack_154 (by decide) (fun c154 => ?_) (fun c154 => ?_)
                    · have c154_ := i_ne c154
                      refine lv_iconst (v := 0) hx hb dX10_takeCrack_161 (by decide) ?_
                      exact K162 0 _ _ ls hP hD hS (by first | exact Or.inl ⟨n_1, am2_1 hx118_0 (by omega) (Or.inl (by omega))⟩ | exact Or.inl ⟨n_1, am2_1 hx118_0 (by omega) (Or.inr (by rw [tx135, tx149]; omega))⟩ | exact Or.inr ⟨n_0, am2_0 hx118_0 (by omega) (by omega) (by rw [tx135, tx149]; omega)⟩ | exact Or.inr ⟨n_0, am2_0 hx118_0 (by omega) (by omega) (by rw [tx135]; omega)⟩) (lv_sub hl [0, 1, 2, 3, 4, 5] rfl)
                    · have c154_ := i_eq c154
                      refine lv_iconst (v := 1) hx hb dX10_takeCrack_157 (by decide) ?_
                      refine lv_goto (tgt := 162) hx hb dX10_takeCrack_158 (by decide) ?_
                      exact K162 1 _ _ ls hP hD hS (by first | exact Or.inl ⟨n_1, am2_1 hx118_0 (by omega) (Or.inl (by omega))⟩ | exact Or.inl ⟨n_1, am2_1 hx118_0 (by omega) (Or.inr (by rw [tx135, tx149]; omega))⟩ | exact Or.inr ⟨n_0, am2_0 hx118_0 (by omega) (by omega) (by rw [tx135, tx149]; omega)⟩ | exact Or.inr ⟨n_0, am2_0 hx118_0 (by omega) (by omega) (by rw [tx135]; omega)⟩) (lv_sub hl [0, 1, 2, 3, 4, 5] rfl)
          exact K118 _ 0 0 _ _ ls (Nat.lt_succ_self _) hP hD hS (by omega) (Or.inr ⟨n_0, by rw [n_0]; rfl⟩) (by omega) (lv_sub hl [3, 4, 5, 2, 1, 0] rfl)
        · have c99_ := i_ne c99
          refine lv_aload_n hx hb dX10_takeCrack_102 rfl (lv_at hl 1 rfl) ?_
          refine lv_iconst (v := 2) hx hb dX10_takeCrack_103 (by decide) ?_
          refine lv_aload_n hx hb dX10_takeCrack_104 rfl (lv_at hl 1 rfl) ?_
          refine va_get (D := eD E) (ci := 10) (v := .int (vk 36 0)) (C := RX10) (T := TX10) (N := 79) hx hb hts in_X10 hown hK hP 0 rfl rfl 36 (by decide) lk6 (fun _ h9 => h9) rfl dX10_takeCrack_105 ?_
          refine mt_Vi (w1 := fun (u : Vf) => mdL E am u) (wf := fun (u : Vf) => mdL E am u) (wr := []) (As := [.int 2, .int (vk 36 0)]) (rest := []) (C := RX10) (ci := 10) ⟨hx, hb, hml, hown, hts⟩ (c_X10_fails l E H.size am vk 2 (vk 36 0)) (cwV 2 hts gX10_takeCrack_X10_fails rfl rfl rfl (by decide +kernel) ⟨Nat.le_of_ble_eq_true rfl, Nat.le_of_ble_eq_true rfl⟩) hE hS hA hP hD [0, 1, 2, 3, 4, 5, 6, 7, 8, 9, 10, 11, 12, 13, 14, 15, 16, 17, 18, 19, 20, 21, 22, 23, 24, 25, 26, 27, 28, 29, 30, 31, 32, 33, 34, 35, 36, 37, 38, 39, 40, 41, 42, 43, 44, 45] [] rfl rfl (by decide) (by decide) (by decide) [0, 1, 2, 3, 4, 5, 6, 7, 8, 9, 10, 11, 12, 13, 14, 15, 16, 17, 18, 19, 20, 21, 22, 23, 24, 25, 26, 27, 28, 29, 30, 31, 32, 33, 34, 35, 36, 37, 38, 39, 40, 41, 42, 43, 44, 45] (by decide) (fun u => rfl) rfl rfl rfl rfl hl.1 rfl (Nat.le_of_ble_eq_true rfl) dX10_takeCrack_108 ⟨Nat.zero_le _, Nat.zero_le _⟩ (fun r108 u108 H locs h108 hP hD hS => ?_)
          generalize u108 = o108_vm at hP hD h108
          try dsimp only at h108
          have hf108 := h108.2
          replace h108 := h108.1
          have hFn108 := h108.2
          replace h108 := h108.1
          replace hP : va_P (eD E) vwCl (mdL E am o108_vm) H := hP
          replace hD : va_D A (mdL E am o108_vm) := hD
          have hFz : fr lRd vm o108_vm := by first | exact hFz | exact hFz.tr hFn108 (by decide) | (rw [← hv108]; repeat' (first | exact hFz | refine fr.up ?_ (by decide) | refine fr.up3 ?_ (by decide)))
          have hr108 : r108.toInt = 2 := by rw [h108.1]; decide
          have hq108 : (o108_vm 34 0).toInt = (vk 34 0).toInt := by rw [h108.2.2]
          have hw108 : (o108_vm 33 0).toInt = (vk 36 0).toInt := by rw [hf108]; rfl
          subst hQ
          exact W.iret (v := r108) hx hb hr (fun t ht hW => ⟨⟨r108, (o108_vm), rfl, (show ((MdI o108_vm ∧ atI o108_vm ∧ (vm 34 0).toInt ≤ (o108_vm 34 0).toInt ∧ (0 ≤ r108.toInt ∧ r108.toInt ≤ 4) ∧ (r108.toInt = 0 → RdM o108_vm)) ∧ fr lRd vm o108_vm) ∧ (∀ wa, TK (crackP (vm 31) (vm 32 0).toInt S wa (vm 34 0).toInt) (crackF (vm 31) (vm 32 0).toInt S wa (vm 34 0).toInt) (vm 33 0).toInt r108.toInt (o108_vm 33 0).toInt (fun x => (o108_vm 34 0).toInt = x.2.2.1 ∧ SM (crackS S (plc (S 37 0) x.1.1.1.1.2) x.1.1.1.2.1 x.2.1) o108_vm)) from ⟨⟨⟨hMI.sn h108.2.1, hat.of h108.2.2 (h108.2.1 32 (by decide) (by decide) (by decide) (by decide)), by omega, by omega, fun q => absurd q (by omega)⟩, hFz⟩, (fun wa => MF.tk ((MF.andNo (s := fun z : (Unit × ((Int × Int × Int) × (Int × Int × Int))) × (Int × Int × Int) => chk (decide ((z.2.1 = 0 ∧ plc (S 37 0) z.1.2 % S 37 0 = S 37 0 - 1) ∨ (z.2.1 ≠ 0 ∧ plc (S 37 0) z.1.2 / S 37 0 = S 38 0 - 1))) 2 z.2.2.2) (ok2 := fun _ => True) (k := 2) (q := (vk 36 0).toInt) (hx34_0 wa) (by omega) (((okF.chk (by decide)).th (fun _ => (okF.num.th (fun _ => okF.num)))).th (fun _ => okF.num)) (fun z hz => by show chk _ 2 z.2.2.2 = _; rw [← hz.2.2.2]; exact chk_on (by rw [← hz.1, ← hz.2.1, hs37, hs38]; exact (hx97_0.resolve_right (fun q => absurd q.1 (by omega))).2)) (by omega) hw108).stop3 (by omega)))⟩), by rw [ht]; exact hP, hD⟩, hS.F ht⟩) hS.2.2 dX10_takeCrack_111
      refine lv_if_ne (tgt := 74) hx hb dX10_takeCrack_45 (by decide) (fun c45 => ?_) (fun c45 => ?_)
      · have c45_ := i_ne c45
        refine lv_aload_n hx hb dX10_takeCrack_74 rfl (lv_at hl 1 rfl) ?_
        refine va_get (D := eD E) (ci := 10) (v := .int (vk 61 0)) (C := RX10) (T := TX10) (N := 79) hx hb hts in_X10 hown hK hP 0 rfl rfl 61 (by decide) lk3 (fun _ h9 => h9) rfl dX10_takeCrack_75 ?_
        refine lv_aload_n hx hb dX10_takeCrack_78 rfl (lv_at hl 1 rfl) ?_
        refine va_get (D := eD E) (ci := 10) (v := .int (vk 37 0)) (C := RX10) (T := TX10) (N := 79) hx hb hts in_X10 hown hK hP 0 rfl rfl 37 (by decide) lk7 (fun _ h9 => h9) rfl dX10_takeCrack_79 ?_
        refine lv_idiv hx hb dX10_takeCrack_82 (i_ne0 (by omega)) ?_
        refine lv_topi (fun x82 e82 => ?_)
        have t82 := i_div e82 (by omega) (by omega)
        have u82 := t82.1
        rw [h34_5] at u82
        refine lv_aload_n hx hb dX10_takeCrack_83 rfl (lv_at hl 1 rfl) ?_
        refine va_get (D := eD E) (ci := 10) (v := .int (vk 38 0)) (C := RX10) (T := TX10) (N := 79) hx hb hts in_X10 hown hK hP 0 rfl rfl 38 (by decide) lk8 (fun _ h9 => h9) rfl dX10_takeCrack_84 ?_
        refine lv_iconst (v := 1) hx hb dX10_takeCrack_87 (by decide) ?_
        refine lv_isub hx hb dX10_takeCrack_88 ?_
        refine lv_topi (fun x88 e88 => ?_)
        have t88 := i_sub e88 (by omega)
        refine lv_icmp_ne (tgt := 96) hx hb dX10_takeCrack_89 (by decide) (fun c89 => ?_) (fun c89 => ?_)
        · have c89_ := i_ne c89
          refine lv_iconst (v := 0) hx hb dX10_takeCrack_96 (by decide) ?_
          exact K97 0 _ _ ls hP hD hS (by first | exact Or.inl ⟨n_1, by omega⟩ | exact Or.inr ⟨n_0, by omega⟩) (lv_sub hl [1, 2, 0] rfl)
        · have c89_ := i_eq c89
          refine lv_iconst (v := 1) hx hb dX10_takeCrack_92 (by decide) ?_
          refine lv_goto (tgt := 97) hx hb dX10_takeCrack_93 (by decide) ?_
          exact K97 1 _ _ ls hP hD hS (by first | exact Or.inl ⟨n_1, by omega⟩ | exact Or.inr ⟨n_0, by omega⟩) (lv_sub hl [1, 2, 0] rfl)
      · have c45_ := i_eq c45
        refine lv_aload_n hx hb dX10_takeCrack_48 rfl (lv_at hl 1 rfl) ?_
        refine va_get (D := eD E) (ci := 10) (v := .int (vk 61 0)) (C := RX10) (T := TX10) (N := 79) hx hb hts in_X10 hown hK hP 0 rfl rfl 61 (by decide) lk3 (fun _ h9 => h9) rfl dX10_takeCrack_49 ?_
        refine lv_aload_n hx hb dX10_takeCrack_52 rfl (lv_at hl 1 rfl) ?_
        refine va_get (D := eD E) (ci := 10) (v := .int (vk 37 0)) (C := RX10) (T := TX10) (N := 79) hx hb hts in_X10 hown hK hP 0 rfl rfl 37 (by decide) lk7 (fun _ h9 => h9) rfl dX10_takeCrack_53 ?_
        refine lv_irem hx hb dX10_takeCrack_56 (i_ne0 (by omega)) ?_
        refine lv_topi (fun x56 e56 => ?_)
        have t56 := i_rem e56 (by omega) (by omega)
        have u56 := t56.1
        rw [h34_5] at u56
        refine lv_aload_n hx hb dX10_takeCrack_57 rfl (lv_at hl 1 rfl) ?_
        refine va_get (D := eD E) (ci := 10) (v := .int (vk 37 0)) (C := RX10) (T := TX10) (N := 79) hx hb hts in_X10 hown hK hP 0 rfl rfl 37 (by decide) lk7 (fun _ h9 => h9) rfl dX10_takeCrack_58 ?_
        refine lv_iconst (v := 1) hx hb dX10_takeCrack_61 (by decide) ?_
        refine lv_isub hx hb dX10_takeCrack_62 ?_
        refine lv_topi (fun x62 e62 => ?_)
        have t62 := i_sub e62 (by omega)
        refine lv_icmp_ne (tgt := 70) hx hb dX10_takeCrack_63 (by decide) (fun c63 => ?_) (fun c63 => ?_)
        · have c63_ := i_ne c63
          refine lv_iconst (v := 0) hx hb dX10_takeCrack_70 (by decide) ?_
          refine lv_goto (tgt := 97) hx hb dX10_takeCrack_71 (by decide) ?_
          exact K97 0 _ _ ls hP hD hS (by first | exact Or.inl ⟨n_1, by omega⟩ | exact Or.inr ⟨n_0, by omega⟩) (lv_sub hl [1, 2, 0] rfl)
        · have c63_ := i_eq c63
          refine lv_iconst (v := 1) hx hb dX10_takeCrack_66 (by decide) ?_
          refine lv_goto (tgt := 97) hx hb dX10_takeCrack_67 (by decide) ?_
          exact K97 1 _ _ ls hP hD hS (by first | exact Or.inl ⟨n_1, by omega⟩ | exact Or.inr ⟨n_0, by omega⟩) (lv_sub hl [1, 2, 0] rfl)
    · have c36_ := i_nle c36
      refine lv_iload_n hx hb dX10_takeCrack_39 rfl (lv_at hl 0 rfl) ?_
      subst hQ
      exact W.iret (v := fz) hx hb hr (fun t ht hW => ⟨⟨fz, (vk), rfl, (show ((MdI vk ∧ atI vk ∧ (vm 34 0).toInt ≤ (vk 34 0).toInt ∧ (0 ≤ fz.toInt ∧ fz.toInt ≤ 4) ∧ (fz.toInt = 0 → RdM vk)) ∧ fr lRd vm vk) ∧ (∀ wa, TK (crackP (vm 31) (vm 32 0).toInt S wa (vm 34 0).toInt) (crackF (vm 31) (vm 32 0).toInt S wa (vm 34 0).toInt) (vm 33 0).toInt fz.toInt (vk 33 0).toInt (fun x => (vk 34 0).toInt = x.2.2.1 ∧ SM (crackS S (plc (S 37 0) x.1.1.1.1.2) x.1.1.1.2.1 x.2.1) vk)) from ⟨⟨⟨hMI, hat, by omega, by omega, fun q => absurd q (by omega)⟩, hFz⟩, (fun wa => MF.tk (((hx34_0 wa).stop (s := fun z : (Unit × ((Int × Int × Int) × (Int × Int × Int))) × (Int × Int × Int) => chk (decide ((z.2.1 = 0 ∧ plc (S 37 0) z.1.2 % S 37 0 = S 37 0 - 1) ∨ (z.2.1 ≠ 0 ∧ plc (S 37 0) z.1.2 / S 37 0 = S 38 0 - 1))) 2 z.2.2.2) (ok2 := fun _ => True) (by omega)).stop3 (by omega)))⟩), by rw [ht]; exact hP, hD⟩, hS.F ht⟩) hS.2.2 dX10_takeCrack_40
  refine lv_if_le (tgt := 28) hx hb dX10_takeCrack_21 (by decide) (fun c21 => ?_) (fun c21 => ?_)
  · have c21_ := i_le c21
    have hgd : r16.toInt = 0 := by omega
    refine lv_aload_n hx hb dX10_takeCrack_28 rfl (lv_at hl 2 rfl) ?_
    refine lv_iconst (v := 0) hx hb dX10_takeCrack_29 (by decide) ?_
    refine lv_iconst (v := 1) hx hb dX10_takeCrack_30 (by decide) ?_
    refine mt_Vi (w1 := fun (u : Vf) => mdL E am u) (wf := fun (u : Vf) => mdL E am u) (wr := []) (As := [.int 0, .int 1]) (rest := []) (C := RX10) (ci := 10) ⟨hx, hb, hml, hown, hts⟩ (c_X10_takeNumber l E H.size am o16_vm 0 1 hMI hat) (cwV 2 hts gX10_takeCrack_X10_takeNumber rfl rfl rfl (by decide +kernel) ⟨Nat.le_of_ble_eq_true rfl, Nat.le_of_ble_eq_true rfl⟩) hE hS hA hP hD [0, 1, 2, 3, 4, 5, 6, 7, 8, 9, 10, 11, 12, 13, 14, 15, 16, 17, 18, 19, 20, 21, 22, 23, 24, 25, 26, 27, 28, 29, 30, 31, 32, 33, 34, 35, 36, 37, 38, 39, 40, 41, 42, 43, 44, 45] [] rfl rfl (by decide) (by decide) (by decide) [0, 1, 2, 3, 4, 5, 6, 7, 8, 9, 10, 11, 12, 13, 14, 15, 16, 17, 18, 19, 20, 21, 22, 23, 24, 25, 26, 27, 28, 29, 30, 31, 32, 33, 34, 35, 36, 37, 38, 39, 40, 41, 42, 43, 44, 45] (by decide) (fun u => rfl) rfl rfl rfl rfl hl.1 rfl (Nat.le_of_ble_eq_true rfl) dX10_takeCrack_31 ⟨Nat.zero_le _, Nat.zero_le _⟩ (fun r31 u31 H locs h31 hP hD hS => ?_)
    generalize u31 = o31_vm at hP hD h31
    try dsimp only at h31
    have hf31 := h31.2
    replace h31 := h31.1
    have hFn31 := h31.2
    replace h31 := h31.1
    replace hP : va_P (eD E) vwCl (mdL E am o31_vm) H := hP
    replace hD : va_D A (mdL E am o31_vm) := hD
    have hFz : fr lRd vm o31_vm := by first | exact hFz | exact hFz.tr hFn31 (by decide) | (rw [← hv31]; repeat' (first | exact hFz | refine fr.up ?_ (by decide) | refine fr.up3 ?_ (by decide)))
    have hMI : MdI o31_vm := hMI.sn h31.1
    have hRd : RdM o31_vm := hRd.sn h31.1
    have hat := h31.2.1
    have hq31 : (o31_vm 37 0).toInt = (o16_vm 37 0).toInt := by rw [h31.1 37 (by decide) (by decide) (by decide) (by decide)]
    have hq31c : (o31_vm 61 0).toInt = (o16_vm 61 0).toInt := by rw [h31.1 61 (by decide) (by decide) (by decide) (by decide)]
    have hn31 := hf31
    rw [n_0, n_1, hT16, hN16] at hn31
    have hSM31 := hSM16.sn h31.1
    have hF31 : o31_vm 52 = vm 52 ∧ o31_vm 53 = vm 53 ∧ (o31_vm 38 0).toInt = (vm 38 0).toInt := by rw [h31.1 52 (by decide) (by decide) (by decide) (by decide), h31.1 53 (by decide) (by decide) (by decide) (by decide), h31.1 38 (by decide) (by decide) (by decide) (by decide)]; exact hF16
    have hc31 : (o31_vm 61 0).toInt = (o16_vm 61 0).toInt := by rw [h31.1 61 (by decide) (by decide) (by decide) (by decide)]
    exact K34 r31 o31_vm _ _ ls hP hD hS hMI hat (by omega) hRd (by omega) (by omega) hFz (by first | exact fun wa => (hh16 wa).stop hbad | exact fun wa => MF.mono (MF.then (s := fun z : Unit × ((Int × Int × Int) × (Int × Int × Int)) => numF (vm 31) (vm 32 0).toInt 0 1 z.2.2.2.1) (hh16 wa) hgd hn31 ((okF.chk (by decide)).th (fun _ => (okF.num.th (fun _ => okF.num)))) (fun z hz => by have q2 : (o16_vm 34 0).toInt = z.2.2.2.1 := hz.2.1; rw [q2])) (fun q z hz => ⟨hc31.trans hz.1.1, hz.2.1, hz.2.2.1, hz.2.2.2⟩)) (by first | exact hSM16 | exact hSM31) (by first | exact hF16 | exact hF31) (by first | exact ⟨hT16, hN16⟩ | exact ⟨(h31.1 31 (by decide) (by decide) (by decide) (by decide)).trans hT16, (h31.1 32 (by decide) (by decide) (by decide) (by decide)).trans hN16⟩) (lv_sub hl [2, 1, 0] rfl)
  · have c21_ := i_nle c21
    have hbad : r16.toInt ≠ 0 := by omega
    refine lv_iload_n hx hb dX10_takeCrack_24 rfl (lv_at hl 0 rfl) ?_
    refine lv_goto (tgt := 34) hx hb dX10_takeCrack_25 (by decide) ?_
    exact K34 r16 o16_vm _ _ ls hP hD hS hMI hat (by omega) hRd (by omega) (by omega) hFz (by first | exact fun wa => (hh16 wa).stop hbad | exact fun wa => MF.mono (MF.then (s := fun z : Unit × ((Int × Int × Int) × (Int × Int × Int)) => numF (vm 31) (vm 32 0).toInt 0 1 z.2.2.2.1) (hh16 wa) hgd hn31 ((okF.chk (by decide)).th (fun _ => (okF.num.th (fun _ => okF.num)))) (fun z hz => by have q2 : (o16_vm 34 0).toInt = z.2.2.2.1 := hz.2.1; rw [q2])) (fun q z hz => ⟨hc31.trans hz.1.1, hz.2.1, hz.2.2.1, hz.2.2.2⟩)) (by first | exact hSM16 | exact hSM31) (by first | exact hF16 | exact hF31) (by first | exact ⟨hT16, hN16⟩ | exact ⟨(h31.1 31 (by decide) (by decide) (by decide) (by decide)).trans hT16, (h31.1 32 (by decide) (by decide) (by decide) (by decide)).trans hN16⟩) (lv_sub hl [2, 1, 0] rfl)
def rm_X10_takeDeed : Room := { frames := 3, cells := 0, slots := 0, locals := 73 }
set_option maxHeartbeats 4000000 in
set_option maxRecDepth 100000 in
theorem c_X10_takeDeed (l : Launch) (E : Ev) (sz : Nat) (am : Nat → Nat) (vm : Vf) (S : St0) (hMI : MdI vm) (hat : atI vm) (hRd : RdM vm) (hcn : (vm 58 0).toInt ≤ 3) (hSM : SM S vm) : Met l yX10_takeDeed wsX10_takeDeed rm_X10_takeDeed (MtP E sz [.ref (am 0)] (mdL E am vm)) (va_Qi (fun (r : Int32) (u : Vf) => ((MdI u ∧ atI u ∧ (vm 34 0).toInt ≤ (u 34 0).toInt ∧ (0 ≤ r.toInt ∧ r.toInt ≤ 4) ∧ (r.toInt = 0 → RdM u)) ∧ fr lRd vm u) ∧ (∀ wa, TK (deedP (vm 31) (vm 32 0).toInt S wa (vm 34 0).toInt) (deedF (vm 31) (vm 32 0).toInt S wa (vm 34 0).toInt) (vm 33 0).toInt r.toInt (u 33 0).toInt (fun x => (u 34 0).toInt = x.1.2.2.1 ∧ SM (deedS S x.1.1.2.1 x.1.2.1) u))) (MtB E (va_A (mdL E am vm) sz) (fun u => mdL E am u)) (va_A (mdL E am vm) sz)) 0 0 (va_A (mdL E am vm) sz) := by
  refine Met.ofW (cc := cX10_takeDeed) (maxL := 3) (ret := (some .int)) (by decide) rfl ?_
  intro p e s m args below meth c s₁ B hml hv
  obtain ⟨rfl, hsz, hE, hP, hD0⟩ := hv
  subst hsz
  have hD := hD0.self (sz := s.heap.size)
  generalize hAe : va_A (mdL E am vm) s.heap.size = A at hD hE ⊢
  have hA : ∀ q : Nat, s.heap.size ≤ q → A q := fun q h => by rw [← hAe]; exact Or.inr h
  have hS : va_S A s.heap s.heap [] := va_S.rf
  have hx := B.exec
  have hb := B.bytes
  have hr := B.returns
  have hts := atoms_spec (ws := wsX10_takeDeed) B.pre
  have hown : s.vm.findClass RX10 = some m.cls := findClass_of_methodNamed B.named
  have hlocks := B.notSynchronized
  have hK := hE.1
  have in_X10 : ∀ w ∈ u_ws RX10 TX10 79, w ∈ wsX10_takeDeed := fun w h => List.mem_cons_of_mem _ (List.mem_append_right _ h)
  have lk0 := hts (.fieldLink RX10 243 "TidedGroundModel" "readDeeds" "I") (List.mem_of_getElem? (i := 1) rfl)
  have lk1 := hts (.fieldLink RX10 119 "TidedGroundModel" "readDeedLow" "[I") (List.mem_of_getElem? (i := 2) rfl)
  have lk2 := hts (.fieldLink RX10 122 "TidedGroundModel" "readDeedHigh" "[I") (List.mem_of_getElem? (i := 3) rfl)
  have lk3 := hts (.fieldLink RX10 195 "TidedGroundModel" "numberAt" "I") (List.mem_of_getElem? (i := 4) rfl)
  have n_0 : (0 : Int32).toInt = 0 := by decide
  have n_1 : (1 : Int32).toInt = 1 := by decide
  have n_4 : (4 : Int32).toInt = 4 := by decide
  have n_300 : (300 : Int32).toInt = 300 := by decide
  have hl := lv_entry ([.ref (am 0)]) (n := 3) (Nat.le_of_ble_eq_true rfl)
  rw [lg_entry_eq]
  generalize (lg_sl ([.ref (am 0)]) ++ List.replicate (3 - (lg_sl ([.ref (am 0)])).length) Slot.unset).toArray = ls at hl ⊢
  have hl : lv_has ls 3 [(0, .ref (am 0))] := hl
  refine W_abs (fun Q hQ => ?_)
  have hH := hMI.1
  obtain ⟨hT1, hT2, hT3, hT4, hT5⟩ := id hH.2.2.2.2.2.2
  obtain ⟨ha1, ha2⟩ := id hat
  obtain ⟨hrG, hrC, hrZ, hrMo, hrB, hrD⟩ := id hRd
  obtain ⟨hrc1, hrc2, hrc3, hrc4, hrc5, hrc6⟩ := id hrC
  have hs58 : S 58 0 = (vm 58 0).toInt := hSM 58 (by decide) 0
  have hck : ∀ wa, chk (decide (4 ≤ S 58 0)) 3 wa = .inr () := fun wa => chk_off (by omega)
  have hFz : fr lRd vm vm := fr.rf
  refine lv_aload_n hx hb dX10_takeDeed_0 rfl (lv_at hl 0 rfl) ?_
  refine va_get (D := eD E) (ci := 10) (v := .int (vm 58 0)) (C := RX10) (T := TX10) (N := 79) hx hb hts in_X10 hown hK hP 0 rfl rfl 58 (by decide) lk0 (fun _ h9 => h9) rfl dX10_takeDeed_1 ?_
  refine lv_istore_n (lv' := [(1, .int (vm 58 0)), (0, .ref (am 0))]) hx hb dX10_takeDeed_4 rfl hl (by decide) rfl (fun ls hl => ?_)
  refine lv_aload_n hx hb dX10_takeDeed_5 rfl (lv_at hl 1 rfl) ?_
  refine lv_dup hx hb dX10_takeDeed_6 rfl ?_
  refine va_get (D := eD E) (ci := 10) (v := .int (vm 58 0)) (C := RX10) (T := TX10) (N := 79) hx hb hts in_X10 hown hK hP 0 rfl rfl 58 (by decide) lk0 (fun _ h9 => h9) rfl dX10_takeDeed_7 ?_
  refine lv_iconst (v := 1) hx hb dX10_takeDeed_10 (by decide) ?_
  refine lv_iadd hx hb dX10_takeDeed_11 ?_
  refine lv_topi (fun x11 e11 => ?_)
  have t11 := i_add e11 (by omega)
  refine va_put (D := eD E) (ci := 10) (v := .int x11) (ty := .int) (C := RX10) (T := TX10) (N := 79) hx hb hts in_X10 tyX10 tyX10_ok nmX10 hown hK hP hD hS 0 rfl rfl 58 (by decide) lk0 (fun _ h9 => h9) rfl (by decide +kernel) rfl rfl (Nat.le_of_ble_eq_true rfl) dX10_takeDeed_12 (fun H locs hP hD hS => ?_)
  replace hP : va_P (eD E) vwCl (mdL E am (up2 vm 58 0 x11)) H := hP
  replace hD : va_D A (mdL E am (up2 vm 58 0 x11)) := hD
  generalize hv12 : up2 vm 58 0 x11 = vm_12 at hP hD
  have hFz : fr lRd vm vm_12 := by first | exact hFz | (rw [← hv12]; exact hFz.up (by decide))
  have hMI : MdI vm_12 := by rw [← hv12]; exact hMI
  have hat : atI vm_12 := by rw [← hv12]; exact hat
  have hq12 : (vm_12 58 0).toInt = x11.toInt := by rw [← hv12]; rfl
  have hq12_37 : (vm_12 37 0).toInt = (vm 37 0).toInt := by rw [← hv12]; rfl
  have hq12_38 : (vm_12 38 0).toInt = (vm 38 0).toInt := by rw [← hv12]; rfl
  have hq12_34 : (vm_12 34 0).toInt = (vm 34 0).toInt := by rw [← hv12]; rfl
  have hRd : RdM vm_12 := by rw [← hv12]; exact rd_deed hRd (by omega)
  have hrG : rdG vm_12 := by rw [← hv12]; exact hrG
  have hSM12 : SM (upS S 58 0 (S 58 0 + 1)) vm_12 := hSM.cnt hv12 (by omega)
  refine lv_aload_n hx hb dX10_takeDeed_15 rfl (lv_at hl 1 rfl) ?_
  refine lv_aload_n hx hb dX10_takeDeed_16 rfl (lv_at hl 1 rfl) ?_
  refine va_get (D := eD E) (ci := 10) (v := .ref (am 59)) (C := RX10) (T := TX10) (N := 79) hx hb hts in_X10 hown hK hP 0 rfl rfl 59 (by decide) lk1 (fun _ h9 => h9) rfl dX10_takeDeed_17 ?_
  refine lv_iload_n hx hb dX10_takeDeed_20 rfl (lv_at hl 0 rfl) ?_
  refine lv_iconst (v := 0) hx hb dX10_takeDeed_21 (by decide) ?_
  refine lv_sipush (v := 300) hx hb dX10_takeDeed_22 (by decide) ?_
  refine mt_Vi (w1 := fun (u : Vf) => mdL E am u) (wf := fun (u : Vf) => mdL E am u) (wr := []) (As := [.ref (am 59), .int (vm 58 0), .int 0, .int 300]) (rest := []) (C := RX10) (ci := 10) ⟨hx, hb, hml, hown, hts⟩ (c_X10_into_59 l E H.size am vm_12 (vm 58 0) 0 300 hMI hat (by omega)) (cwV 4 hts gX10_takeDeed_X10_into rfl rfl rfl (by decide +kernel) ⟨Nat.le_of_ble_eq_true rfl, Nat.le_of_ble_eq_true rfl⟩) hE hS hA hP hD [0, 1, 2, 3, 4, 5, 6, 7, 8, 9, 10, 11, 12, 13, 14, 15, 16, 17, 18, 19, 20, 21, 22, 23, 24, 25, 26, 27, 28, 29, 30, 31, 32, 33, 34, 35, 36, 37, 38, 39, 40, 41, 42, 43, 44, 45] [] rfl rfl (by decide) (by decide) (by decide) [0, 1, 2, 3, 4, 5, 6, 7, 8, 9, 10, 11, 12, 13, 14, 15, 16, 17, 18, 19, 20, 21, 22, 23, 24, 25, 26, 27, 28, 29, 30, 31, 32, 33, 34, 35, 36, 37, 38, 39, 40, 41, 42, 43, 44, 45] (by decide) (fun u => rfl) rfl rfl rfl rfl hl.1 rfl (Nat.le_of_ble_eq_true rfl) dX10_takeDeed_25 ⟨Nat.zero_le _, Nat.zero_le _⟩ (fun r25 u25 H locs h25 hP hD hS => ?_)
  generalize u25 = o25_vm at hP hD h25
  try dsimp only at h25
  have hf25 := h25.2
  replace h25 := h25.1
  have hFn25 := h25.2
  replace h25 := h25.1
  replace hP : va_P (eD E) vwCl (mdL E am o25_vm) H := hP
  replace hD : va_D A (mdL E am o25_vm) := hD
  have hFz : fr lRd vm o25_vm := by first | exact hFz | exact hFz.tr hFn25 (by decide) | (rw [← hv25]; repeat' (first | exact hFz | refine fr.up ?_ (by decide) | refine fr.up3 ?_ (by decide)))
  have hMI : MdI o25_vm := hMI.on (h25.1.mem (by decide))
  have hRd : RdM o25_vm := hRd.on (h25.1.mem (by decide))
  have hat := h25.2.2.1
  obtain ⟨y25, hy25, hr25⟩ := id h25.2.1
  have hm25 := h25.2.2.2
  have hn25 := hf25.1
  rw [n_0, n_300, ← hv12] at hn25
  have hh25 := fun wa => MF.pre1 (hck wa) hn25
  have hT25 : o25_vm 31 = vm 31 := by rw [h25.1 31 (by decide) (by decide) (by decide) (by decide) (by decide) (by decide), ← hv12]; rfl
  have hN25 : o25_vm 32 = vm 32 := by rw [h25.1 32 (by decide) (by decide) (by decide) (by decide) (by decide) (by decide), ← hv12]; rfl
  have hSM25 : SM (upS (upS S 58 0 (S 58 0 + 1)) 59 (S 58 0).toNat (o25_vm 35 0).toInt) o25_vm := hSM12.step h25.1 hf25.2 (by show (vm 58 0).toInt.toNat = (S 58 0).toNat; omega)
  have hd25 : o25_vm 59 (vm 58 0).toNatClampNeg = o25_vm 35 0 := by rw [hf25.2]; exact upd_at
  refine lv_istore_n (lv' := [(2, .int r25), (1, .int (vm 58 0)), (0, .ref (am 0))]) hx hb dX10_takeDeed_28 rfl hl (by decide) rfl (fun ls hl => ?_)
  refine lv_iload_n hx hb dX10_takeDeed_29 rfl (lv_at hl 0 rfl) ?_
  have K50 : ∀  (fz : Int32) (vk : Vf) (H : Heap) (locs : List Loc) (ls : Array Slot), va_P (eD E) vwCl (mdL E am vk) H → va_D A (mdL E am vk) → va_S A s.heap H locs → (MdI vk) → (atI vk) → ((vm 34 0).toInt ≤ (vk 34 0).toInt) → (RdM vk) → (0 ≤ fz.toInt ∧ fz.toInt ≤ 2) → (fr lRd vm vk) → (∀ wa, MF (deedQ (vm 31) (vm 32 0).toInt S wa (vm 34 0).toInt) (vm 33 0).toInt fz.toInt (vk 33 0).toInt (fun z => (vk 59 (vm 58 0).toNatClampNeg).toInt = z.1.2.1 ∧ (vk 60 (vm 58 0).toNatClampNeg).toInt = z.2.1 ∧ (vk 34 0).toInt = z.2.2.1 ∧ (vk 36 0).toInt = z.2.2.2 ∧ SM (deedS S z.1.2.1 z.2.1) vk)) → lv_has ls 3 [(0, .ref (am 0)), (1, .int (vm 58 0)), (2, .int r25)] → W p l e (headSpec wsX10_takeDeed rm_X10_takeDeed).room s m ([.ref (am 0)] : List Value).toArray below meth c H locs 0 0 Q (F0 m 50 ls [.int fz]) := by
    intro fz vk H locs ls hP hD hS h50_0 h50_1 h50_2 h50_3 h50_4 h50_5 h50_6 hl
    have hx50_0 := h50_6
    clear h50_6
    have hMI := h50_0
    have hat := h50_1
    have hRd := h50_3
    have hFz := h50_5
    refine lv_istore_n (lv' := [(2, .int fz), (0, .ref (am 0)), (1, .int (vm 58 0))]) hx hb dX10_takeDeed_50 rfl hl (by decide) rfl (fun ls hl => ?_)
    refine lv_iload_n hx hb dX10_takeDeed_51 rfl (lv_at hl 0 rfl) ?_
    refine lv_if_ne (tgt := 82) hx hb dX10_takeDeed_52 (by decide) (fun c52 => ?_) (fun c52 => ?_)
    · have c52_ := i_ne c52
      have hbad : fz.toInt ≠ 0 := by omega
      refine lv_iload_n hx hb dX10_takeDeed_82 rfl (lv_at hl 0 rfl) ?_
      subst hQ
      exact W.iret (v := fz) hx hb hr (fun t ht hW => ⟨⟨fz, (vk), rfl, (show ((MdI vk ∧ atI vk ∧ (vm 34 0).toInt ≤ (vk 34 0).toInt ∧ (0 ≤ fz.toInt ∧ fz.toInt ≤ 4) ∧ (fz.toInt = 0 → RdM vk)) ∧ fr lRd vm vk) ∧ (∀ wa, TK (deedP (vm 31) (vm 32 0).toInt S wa (vm 34 0).toInt) (deedF (vm 31) (vm 32 0).toInt S wa (vm 34 0).toInt) (vm 33 0).toInt fz.toInt (vk 33 0).toInt (fun x => (vk 34 0).toInt = x.1.2.2.1 ∧ SM (deedS S x.1.1.2.1 x.1.2.1) vk)) from ⟨⟨⟨hMI, hat, by omega, by omega, fun _ => hRd⟩, hFz⟩, (fun wa => by first | exact MF.tk ((hx50_0 wa).stop hbad) | exact MF.tk (MF.andOk (y := ()) (hx50_0 wa) hgd (((okF.chk (by decide)).th (fun _ => okF.num)).th (fun _ => okF.num)) (fun z hz => chk_off (by have q1 := hz.1; have q2 := hz.2.1; omega)) (by omega) rfl (fun z _ hz => ⟨hz.2.2.1, hz.2.2.2.2⟩)))⟩), by rw [ht]; exact hP, hD⟩, hS.F ht⟩) hS.2.2 dX10_takeDeed_83
    · have c52_ := i_eq c52
      have hgd : fz.toInt = 0 := by omega
      refine lv_aload_n hx hb dX10_takeDeed_55 rfl (lv_at hl 1 rfl) ?_
      refine va_get (D := eD E) (ci := 10) (v := .ref (am 60)) (C := RX10) (T := TX10) (N := 79) hx hb hts in_X10 hown hK hP 0 rfl rfl 60 (by decide) lk2 (fun _ h9 => h9) rfl dX10_takeDeed_56 ?_
      refine lv_iload_n hx hb dX10_takeDeed_59 rfl (lv_at hl 2 rfl) ?_
      refine va_iald hx hb hK hP 35 0 rfl rfl (n := 4) (f := (vk 60)) (i_in (by omega) (by omega)) dX10_takeDeed_60 ?_
      refine lv_topi (fun x60 e60 => ?_)
      have tx60 : x60.toInt = (vk 60 (vm 58 0).toNatClampNeg).toInt := by rw [e60]
      refine lv_aload_n hx hb dX10_takeDeed_61 rfl (lv_at hl 1 rfl) ?_
      refine va_get (D := eD E) (ci := 10) (v := .ref (am 59)) (C := RX10) (T := TX10) (N := 79) hx hb hts in_X10 hown hK hP 0 rfl rfl 59 (by decide) lk1 (fun _ h9 => h9) rfl dX10_takeDeed_62 ?_
      refine lv_iload_n hx hb dX10_takeDeed_65 rfl (lv_at hl 2 rfl) ?_
      refine va_iald hx hb hK hP 34 0 rfl rfl (n := 4) (f := (vk 59)) (i_in (by omega) (by omega)) dX10_takeDeed_66 ?_
      refine lv_topi (fun x66 e66 => ?_)
      have tx66 : x66.toInt = (vk 59 (vm 58 0).toNatClampNeg).toInt := by rw [e66]
      refine lv_icmp_ge (tgt := 82) hx hb dX10_takeDeed_67 (by decide) (fun c67 => ?_) (fun c67 => ?_)
      · have c67_ := i_le c67
        refine lv_iload_n hx hb dX10_takeDeed_82 rfl (lv_at hl 0 rfl) ?_
        subst hQ
        exact W.iret (v := fz) hx hb hr (fun t ht hW => ⟨⟨fz, (vk), rfl, (show ((MdI vk ∧ atI vk ∧ (vm 34 0).toInt ≤ (vk 34 0).toInt ∧ (0 ≤ fz.toInt ∧ fz.toInt ≤ 4) ∧ (fz.toInt = 0 → RdM vk)) ∧ fr lRd vm vk) ∧ (∀ wa, TK (deedP (vm 31) (vm 32 0).toInt S wa (vm 34 0).toInt) (deedF (vm 31) (vm 32 0).toInt S wa (vm 34 0).toInt) (vm 33 0).toInt fz.toInt (vk 33 0).toInt (fun x => (vk 34 0).toInt = x.1.2.2.1 ∧ SM (deedS S x.1.1.2.1 x.1.2.1) vk)) from ⟨⟨⟨hMI, hat, by omega, by omega, fun _ => hRd⟩, hFz⟩, (fun wa => by first | exact MF.tk ((hx50_0 wa).stop hbad) | exact MF.tk (MF.andOk (y := ()) (hx50_0 wa) hgd (((okF.chk (by decide)).th (fun _ => okF.num)).th (fun _ => okF.num)) (fun z hz => chk_off (by have q1 := hz.1; have q2 := hz.2.1; omega)) (by omega) rfl (fun z _ hz => ⟨hz.2.2.1, hz.2.2.2.2⟩)))⟩), by rw [ht]; exact hP, hD⟩, hS.F ht⟩) hS.2.2 dX10_takeDeed_83
      · have c67_ := i_nle c67
        refine lv_aload_n hx hb dX10_takeDeed_70 rfl (lv_at hl 1 rfl) ?_
        refine lv_iconst (v := 4) hx hb dX10_takeDeed_71 (by decide) ?_
        refine lv_aload_n hx hb dX10_takeDeed_72 rfl (lv_at hl 1 rfl) ?_
        refine va_get (D := eD E) (ci := 10) (v := .int (vk 36 0)) (C := RX10) (T := TX10) (N := 79) hx hb hts in_X10 hown hK hP 0 rfl rfl 36 (by decide) lk3 (fun _ h9 => h9) rfl dX10_takeDeed_73 ?_
        refine mt_Vi (w1 := fun (u : Vf) => mdL E am u) (wf := fun (u : Vf) => mdL E am u) (wr := []) (As := [.int 4, .int (vk 36 0)]) (rest := []) (C := RX10) (ci := 10) ⟨hx, hb, hml, hown, hts⟩ (c_X10_fails l E H.size am vk 4 (vk 36 0)) (cwV 2 hts gX10_takeDeed_X10_fails rfl rfl rfl (by decide +kernel) ⟨Nat.le_of_ble_eq_true rfl, Nat.le_of_ble_eq_true rfl⟩) hE hS hA hP hD [0, 1, 2, 3, 4, 5, 6, 7, 8, 9, 10, 11, 12, 13, 14, 15, 16, 17, 18, 19, 20, 21, 22, 23, 24, 25, 26, 27, 28, 29, 30, 31, 32, 33, 34, 35, 36, 37, 38, 39, 40, 41, 42, 43, 44, 45] [] rfl rfl (by decide) (by decide) (by decide) [0, 1, 2, 3, 4, 5, 6, 7, 8, 9, 10, 11, 12, 13, 14, 15, 16, 17, 18, 19, 20, 21, 22, 23, 24, 25, 26, 27, 28, 29, 30, 31, 32, 33, 34, 35, 36, 37, 38, 39, 40, 41, 42, 43, 44, 45] (by decide) (fun u => rfl) rfl rfl rfl rfl hl.1 rfl (Nat.le_of_ble_eq_true rfl) dX10_takeDeed_76 ⟨Nat.zero_le _, Nat.zero_le _⟩ (fun r76 u76 H locs h76 hP hD hS => ?_)
        generalize u76 = o76_vm at hP hD h76
        try dsimp only at h76
        have hf76 := h76.2
        replace h76 := h76.1
        have hFn76 := h76.2
        replace h76 := h76.1
        replace hP : va_P (eD E) vwCl (mdL E am o76_vm) H := hP
        replace hD : va_D A (mdL E am o76_vm) := hD
        have hFz : fr lRd vm o76_vm := by first | exact hFz | exact hFz.tr hFn76 (by decide) | (rw [← hv76]; repeat' (first | exact hFz | refine fr.up ?_ (by decide) | refine fr.up3 ?_ (by decide)))
        have hr76 : r76.toInt = 4 := by rw [h76.1]; decide
        have hq76 : (o76_vm 34 0).toInt = (vk 34 0).toInt := by rw [h76.2.2]
        have hw76 : (o76_vm 33 0).toInt = (vk 36 0).toInt := by rw [hf76]; rfl
        refine lv_goto (tgt := 83) hx hb dX10_takeDeed_79 (by decide) ?_
        subst hQ
        exact W.iret (v := r76) hx hb hr (fun t ht hW => ⟨⟨r76, (o76_vm), rfl, (show ((MdI o76_vm ∧ atI o76_vm ∧ (vm 34 0).toInt ≤ (o76_vm 34 0).toInt ∧ (0 ≤ r76.toInt ∧ r76.toInt ≤ 4) ∧ (r76.toInt = 0 → RdM o76_vm)) ∧ fr lRd vm o76_vm) ∧ (∀ wa, TK (deedP (vm 31) (vm 32 0).toInt S wa (vm 34 0).toInt) (deedF (vm 31) (vm 32 0).toInt S wa (vm 34 0).toInt) (vm 33 0).toInt r76.toInt (o76_vm 33 0).toInt (fun x => (o76_vm 34 0).toInt = x.1.2.2.1 ∧ SM (deedS S x.1.1.2.1 x.1.2.1) o76_vm)) from ⟨⟨⟨hMI.sn h76.2.1, hat.of h76.2.2 (h76.2.1 32 (by decide) (by decide) (by decide) (by decide)), by omega, by omega, fun q => absurd q (by omega)⟩, hFz⟩, (fun wa => MF.tk (MF.andNo (k := 4) (q := (vk 36 0).toInt) (hx50_0 wa) (by omega) (((okF.chk (by decide)).th (fun _ => okF.num)).th (fun _ => okF.num)) (fun z hz => by show chk _ 4 z.2.2.2 = _; rw [← hz.2.2.2.1]; exact chk_on (by have q1 := hz.1; have q2 := hz.2.1; omega)) (by omega) hw76))⟩), by rw [ht]; exact hP, hD⟩, hS.F ht⟩) hS.2.2 dX10_takeDeed_83
  refine lv_if_le (tgt := 37) hx hb dX10_takeDeed_30 (by decide) (fun c30 => ?_) (fun c30 => ?_)
  · have c30_ := i_le c30
    have hgd : r25.toInt = 0 := by omega
    refine lv_aload_n hx hb dX10_takeDeed_37 rfl (lv_at hl 2 rfl) ?_
    refine lv_aload_n hx hb dX10_takeDeed_38 rfl (lv_at hl 2 rfl) ?_
    refine va_get (D := eD E) (ci := 10) (v := .ref (am 60)) (C := RX10) (T := TX10) (N := 79) hx hb hts in_X10 hown hK hP 0 rfl rfl 60 (by decide) lk2 (fun _ h9 => h9) rfl dX10_takeDeed_39 ?_
    refine lv_iload_n hx hb dX10_takeDeed_42 rfl (lv_at hl 1 rfl) ?_
    refine lv_iconst (v := 0) hx hb dX10_takeDeed_43 (by decide) ?_
    refine lv_sipush (v := 300) hx hb dX10_takeDeed_44 (by decide) ?_
    refine mt_Vi (w1 := fun (u : Vf) => mdL E am u) (wf := fun (u : Vf) => mdL E am u) (wr := []) (As := [.ref (am 60), .int (vm 58 0), .int 0, .int 300]) (rest := []) (C := RX10) (ci := 10) ⟨hx, hb, hml, hown, hts⟩ (c_X10_into_60 l E H.size am o25_vm (vm 58 0) 0 300 hMI hat (by omega)) (cwV 4 hts gX10_takeDeed_X10_into rfl rfl rfl (by decide +kernel) ⟨Nat.le_of_ble_eq_true rfl, Nat.le_of_ble_eq_true rfl⟩) hE hS hA hP hD [0, 1, 2, 3, 4, 5, 6, 7, 8, 9, 10, 11, 12, 13, 14, 15, 16, 17, 18, 19, 20, 21, 22, 23, 24, 25, 26, 27, 28, 29, 30, 31, 32, 33, 34, 35, 36, 37, 38, 39, 40, 41, 42, 43, 44, 45] [] rfl rfl (by decide) (by decide) (by decide) [0, 1, 2, 3, 4, 5, 6, 7, 8, 9, 10, 11, 12, 13, 14, 15, 16, 17, 18, 19, 20, 21, 22, 23, 24, 25, 26, 27, 28, 29, 30, 31, 32, 33, 34, 35, 36, 37, 38, 39, 40, 41, 42, 43, 44, 45] (by decide) (fun u => rfl) rfl rfl rfl rfl hl.1 rfl (Nat.le_of_ble_eq_true rfl) dX10_takeDeed_47 ⟨Nat.zero_le _, Nat.zero_le _⟩ (fun r47 u47 H locs h47 hP hD hS => ?_)
    generalize u47 = o47_vm at hP hD h47
    try dsimp only at h47
    have hf47 := h47.2
    replace h47 := h47.1
    have hFn47 := h47.2
    replace h47 := h47.1
    replace hP : va_P (eD E) vwCl (mdL E am o47_vm) H := hP
    replace hD : va_D A (mdL E am o47_vm) := hD
    have hFz : fr lRd vm o47_vm := by first | exact hFz | exact hFz.tr hFn47 (by decide) | (rw [← hv47]; repeat' (first | exact hFz | refine fr.up ?_ (by decide) | refine fr.up3 ?_ (by decide)))
    have hMI : MdI o47_vm := hMI.on (h47.1.mem (by decide))
    have hRd : RdM o47_vm := hRd.on (h47.1.mem (by decide))
    have hat := h47.2.2.1
    obtain ⟨y47, hy47, hr47⟩ := id h47.2.1
    have hm47 := h47.2.2.2
    have hn47 := hf47.1
    rw [n_0, n_300, hT25, hN25] at hn47
    have hSM47 : SM (deedS S (o25_vm 35 0).toInt (o47_vm 35 0).toInt) o47_vm := hSM25.step h47.1 hf47.2 (by show (vm 58 0).toInt.toNat = (S 58 0).toNat; omega)
    have hd47 : o47_vm 59 (vm 58 0).toNatClampNeg = o25_vm 35 0 ∧ o47_vm 60 (vm 58 0).toNatClampNeg = o47_vm 35 0 := ⟨by rw [h47.1 59 (by decide) (by decide) (by decide) (by decide) (by decide) (by decide)]; exact hd25, by rw [hf47.2]; exact upd_at⟩
    exact K50 r47 o47_vm _ _ ls hP hD hS hMI hat (by omega) hRd (by omega) hFz (by first | exact fun wa => (hh25 wa).stop hbad | exact fun wa => MF.mono (MF.then (s := fun z : Unit × (Int × Int × Int) => numF (vm 31) (vm 32 0).toInt 0 300 z.2.2.1) (hh25 wa) hgd hn47 ((okF.chk (by decide)).th (fun _ => okF.num)) (fun z hz => by have q2 : (o25_vm 34 0).toInt = z.2.2.1 := hz.2.1; rw [q2])) (fun q z hz => ⟨(by rw [hd47.1]; exact hz.1.1), (by rw [hd47.2]; exact hz.2.1), hz.2.2.1, hz.2.2.2, by have q1 : (o25_vm 35 0).toInt = z.1.2.1 := hz.1.1; have q3 : (o47_vm 35 0).toInt = z.2.1 := hz.2.1; rw [← q1, ← q3]; exact hSM47⟩)) (lv_sub hl [2, 1, 0] rfl)
  · have c30_ := i_nle c30
    have hbad : r25.toInt ≠ 0 := by omega
    refine lv_iload_n hx hb dX10_takeDeed_33 rfl (lv_at hl 0 rfl) ?_
    refine lv_goto (tgt := 50) hx hb dX10_takeDeed_34 (by decide) ?_
    exact K50 r25 o25_vm _ _ ls hP hD hS hMI hat (by omega) hRd (by omega) hFz (by first | exact fun wa => (hh25 wa).stop hbad | exact fun wa => MF.mono (MF.then (s := fun z : Unit × (Int × Int × Int) => numF (vm 31) (vm 32 0).toInt 0 300 z.2.2.1) (hh25 wa) hgd hn47 ((okF.chk (by decide)).th (fun _ => okF.num)) (fun z hz => by have q2 : (o25_vm 34 0).toInt = z.2.2.1 := hz.2.1; rw [q2])) (fun q z hz => ⟨(by rw [hd47.1]; exact hz.1.1), (by rw [hd47.2]; exact hz.2.1), hz.2.2.1, hz.2.2.2, by have q1 : (o25_vm 35 0).toInt = z.1.2.1 := hz.1.1; have q3 : (o47_vm 35 0).toInt = z.2.1 := hz.2.1; rw [← q1, ← q3]; exact hSM47⟩)) (lv_sub hl [2, 1, 0] rfl)
