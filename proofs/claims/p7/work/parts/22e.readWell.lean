def rm_X2_readWell : Room := { frames := 3, cells := 0, slots := 0, locals := 69 }
set_option maxHeartbeats 4000000 in
set_option maxRecDepth 100000 in
theorem c_X2_readWell (l : Launch) (E : Ev) (sz : Nat) (qr : Nat) (qx : Nat) (fx : Nat → Int32) (ln : Int32) (ps : Int32) (fn : Int32) (fa : Int32) (na : Int32) (cx : Int32) (ck : Int32) (ap : Nat → Nat) (vp : Vf) (wd : Int32) (S : St0) (hln : 0 ≤ ln.toInt ∧ ln.toInt ≤ 250) (hps : 0 ≤ ps.toInt ∧ ps.toInt ≤ ln.toInt) (hI : PlanI vp) (hRp : Rp S vp cx ck) : Met l yX2_readWell wsX2_readWell rm_X2_readWell (MtP E sz [.ref qr, .int wd] (rdL E qr qx fx ln ps fn fa na cx ck ap vp)) (va_Qv (fun (u : Int32 × Int32 × Int32 × Int32 × Vf) => (PlanI u.2.2.2.2 ∧ (ps.toInt ≤ u.1.toInt ∧ u.1.toInt ≤ ln.toInt + 1) ∧ (u.2.1.toInt ≠ 0 ∨ u.1.toInt ≤ ln.toInt)) ∧ (CF (wellF fx ln.toInt S wd.toInt ps.toInt) fn.toInt fa.toInt u.2.1.toInt u.2.2.1.toInt (fun z => u.1.toInt = z.2 ∧ Rp (wellS S (plc (S 37 0) z.1.1.1.2) z.1.2.1) u.2.2.2.2 cx ck))) (MtB E (va_A (rdL E qr qx fx ln ps fn fa na cx ck ap vp) sz) (fun u => rdL E qr qx fx ln u.1 u.2.1 u.2.2.1 u.2.2.2.1 cx ck ap u.2.2.2.2)) (va_A (rdL E qr qx fx ln ps fn fa na cx ck ap vp) sz)) 0 0 (va_A (rdL E qr qx fx ln ps fn fa na cx ck ap vp) sz) := by
  refine Met.ofW (cc := cX2_readWell) (maxL := 4) (ret := none) (by decide) rfl ?_
  intro p e s m args below meth c s₁ B hml hv
  obtain ⟨rfl, hsz, hE, hP, hD0⟩ := hv
  subst hsz
  have hD := hD0.self (sz := s.heap.size)
  generalize hAe : va_A (rdL E qr qx fx ln ps fn fa na cx ck ap vp) s.heap.size = A at hD hE ⊢
  have hA : ∀ q : Nat, s.heap.size ≤ q → A q := fun q h => by rw [← hAe]; exact Or.inr h
  have hS : va_S A s.heap s.heap [] := va_S.rf
  have hx := B.exec
  have hb := B.bytes
  have hr := B.returns
  have hts := atoms_spec (ws := wsX2_readWell) B.pre
  have hown : s.vm.findClass RX2 = some m.cls := findClass_of_methodNamed B.named
  have hlocks := B.notSynchronized
  have hK := hE.1
  have in_X2 : ∀ w ∈ u_ws RX2 TX2 9, w ∈ wsX2_readWell := fun w h => List.mem_cons_of_mem _ (List.mem_append_left _ (List.mem_append_left _ (List.mem_append_right _ h)))
  have in_X1 : ∀ w ∈ u_ws RX1 TX1 11, w ∈ wsX2_readWell := fun w h => List.mem_cons_of_mem _ (List.mem_append_left _ (List.mem_append_right _ h))
  have in_X5 : ∀ w ∈ u_ws RX5 TX5 4, w ∈ wsX2_readWell := fun w h => List.mem_cons_of_mem _ (List.mem_append_right _ h)
  have lk0 := hts (.fieldLink RX2 28 "TidedGround$Reader" "plan" "LTidedGround$Plan;") (List.mem_of_getElem? (i := 1) rfl)
  have lk1 := hts (.fieldLink RX2 161 "TidedGround$Plan" "wells" "LTidedGround$Sites;") (List.mem_of_getElem? (i := 2) rfl)
  have lk2 := hts (.fieldLink RX2 139 "TidedGround$Sites" "count" "I") (List.mem_of_getElem? (i := 3) rfl)
  have lk3 := hts (.fieldLink RX2 87 "TidedGround$Reader" "numberAt" "I") (List.mem_of_getElem? (i := 4) rfl)
  have n_0 : (0 : Int32).toInt = 0 := by decide
  have n_1 : (1 : Int32).toInt = 1 := by decide
  have n_3 : (3 : Int32).toInt = 3 := by decide
  have n_4 : (4 : Int32).toInt = 4 := by decide
  have n_5 : (5 : Int32).toInt = 5 := by decide
  have n_59 : (59 : Int32).toInt = 59 := by decide
  have n_99 : (99 : Int32).toInt = 99 := by decide
  have hl := lv_entry ([.ref qr, .int wd]) (n := 4) (Nat.le_of_ble_eq_true rfl)
  rw [lg_entry_eq]
  generalize (lg_sl ([.ref qr, .int wd]) ++ List.replicate (4 - (lg_sl ([.ref qr, .int wd])).length) Slot.unset).toArray = ls at hl ⊢
  have hl : lv_has ls 4 [(0, .ref qr), (1, .int wd)] := hl
  refine W_abs (fun Q hQ => ?_)
  obtain ⟨hg, hmc, hm0, hm1, hm2, hs0, hs1, hs2, hs3⟩ := id hI
  obtain ⟨hg1, hg2, hg3, hg4⟩ := id hg
  have hz0 := hm0.1
  have hz1 := hm1.1
  have hz2 := hm2.1
  have hc0 := hs0.1
  have hc1 := hs1.1
  have hc2 := hs2.1
  have hc3 := hs3.1
  have hg5 : 0 ≤ (vp 2 0).toInt := by rw [hg3]; exact Int.mul_nonneg hg1.1 hg2.1
  have hRl := hRp.2.2.2.2.2.1
  have hcn := hRl.1
  refine lv_aload_n hx hb dX2_readWell_0 rfl (lv_at hl 0 rfl) ?_
  refine lv_aload_n hx hb dX2_readWell_1 rfl (lv_at hl 0 rfl) ?_
  refine va_get (D := eD E) (ci := 2) (v := .ref (ap 0)) (C := RX2) (T := TX2) (N := 9) hx hb hts in_X2 hown hK hP 0 rfl rfl 3 (by decide) lk0 (fun _ h9 => h9) rfl dX2_readWell_2 ?_
  refine va_get (D := eD E) (ci := 1) (v := .ref (ap 9)) (C := RX1) (T := TX1) (N := 11) hx hb hts in_X1 hown hK hP 2 rfl rfl 9 (by decide) lk1 (fun _ h9 => h9) rfl dX2_readWell_5 ?_
  refine va_get (D := eD E) (ci := 5) (v := .int (vp 80 0)) (C := RX5) (T := TX5) (N := 4) hx hb hts in_X5 hown hK hP 23 rfl rfl 0 (by decide) lk2 (fun _ h9 => h9) rfl dX2_readWell_8 ?_
  refine lv_iconst (v := 5) hx hb dX2_readWell_11 (by decide) ?_
  have K20 : ∀  (w : Int32) (H : Heap) (locs : List Loc) (ls : Array Slot), va_P (eD E) vwCl (rdL E qr qx fx ln ps fn fa na cx ck ap vp) H → va_D A (rdL E qr qx fx ln ps fn fa na cx ck ap vp) → va_S A s.heap H locs → ((w.toInt = 0 ∧ (vp 80 0).toInt < 5) ∨ w.toInt = 1) → ((w.toInt = 0 ∧ (vp 80 0).toInt < 5) ∨ (w.toInt = 1 ∧ 5 ≤ (vp 80 0).toInt)) → lv_has ls 4 [(0, .ref qr), (1, .int wd)] → W p l e (headSpec wsX2_readWell rm_X2_readWell).room s m ([.ref qr, .int wd] : List Value).toArray below meth c H locs 0 0 Q (F0 m 20 ls [.int w, .ref qr]) := by
    intro w H locs ls hP hD hS h20_0 h20_1 hl
    have hx20_0 := h20_1
    clear h20_1
    refine lv_iconst (v := 3) hx hb dX2_readWell_20 (by decide) ?_
    refine lv_iload_n hx hb dX2_readWell_21 rfl (lv_at hl 1 rfl) ?_
    refine mt_Vv (w1 := fun (u : Int32 × Int32) => rbL E qr qx fx ln ps u.1 u.2 na cx ck ap) (wf := fun (u : Int32 × Int32) => rdL E qr qx fx ln ps u.1 u.2 na cx ck ap vp) (wr := [((ap 0), .inr (1, [.int (vp 0 0), .int (vp 1 0), .int (vp 2 0), .ref (ap 3), .ref (ap 4), .int (vp 5 0), .ref (ap 6), .ref (ap 7), .ref (ap 8), .ref (ap 9), .ref (ap 10)])), ((ap 3), .inl (eI E, 24, .inl (vp 3))), ((ap 4), .inl (eI E, 24, .inl (vp 4))), ((ap 6), .inl (eM E, 3, .inr (.inr (.inr (.inr (fun i => some (ap (20 + 10 * i)))))))), ((ap 20), .inr (0, [.int (vp 20 0), .int (vp 21 0), .int (vp 22 0), .ref (ap 23), .ref (ap 24)])), ((ap 23), .inl (eI E, 18, .inl (vp 23))), ((ap 24), .inl (eI E, 24, .inl (vp 24))), ((ap 30), .inr (0, [.int (vp 30 0), .int (vp 31 0), .int (vp 32 0), .ref (ap 33), .ref (ap 34)])), ((ap 33), .inl (eI E, 18, .inl (vp 33))), ((ap 34), .inl (eI E, 24, .inl (vp 34))), ((ap 40), .inr (0, [.int (vp 40 0), .int (vp 41 0), .int (vp 42 0), .ref (ap 43), .ref (ap 44)])), ((ap 43), .inl (eI E, 18, .inl (vp 43))), ((ap 44), .inl (eI E, 24, .inl (vp 44))), ((ap 7), .inr (5, [.int (vp 60 0), .ref (ap 61), .ref (ap 62), .ref (ap 63)])), ((ap 61), .inl (eI E, 6, .inl (vp 61))), ((ap 62), .inl (eI E, 6, .inl (vp 62))), ((ap 63), .inl (eI E, 6, .inl (vp 63))), ((ap 8), .inr (5, [.int (vp 70 0), .ref (ap 71), .ref (ap 72), .ref (ap 73)])), ((ap 71), .inl (eI E, 6, .inl (vp 71))), ((ap 72), .inl (eI E, 6, .inl (vp 72))), ((ap 73), .inl (eI E, 6, .inl (vp 73))), ((ap 9), .inr (5, [.int (vp 80 0), .ref (ap 81), .ref (ap 82), .ref (ap 83)])), ((ap 81), .inl (eI E, 6, .inl (vp 81))), ((ap 82), .inl (eI E, 6, .inl (vp 82))), ((ap 83), .inl (eI E, 6, .inl (vp 83))), ((ap 10), .inr (5, [.int (vp 90 0), .ref (ap 91), .ref (ap 92), .ref (ap 93)])), ((ap 91), .inl (eI E, 6, .inl (vp 91))), ((ap 92), .inl (eI E, 6, .inl (vp 92))), ((ap 93), .inl (eI E, 6, .inl (vp 93)))]) (As := [.int w, .int 3, .int wd]) (rest := []) (C := RX2) (ci := 2) ⟨hx, hb, hml, hown, hts⟩ (c_X2_refuseIf l E H.size qr qx fx ln ps fn fa na cx ck ap w 3 wd (by omega)) (cwV 3 hts gX2_readWell_X2_refuseIf rfl rfl rfl (by decide +kernel) ⟨Nat.le_of_ble_eq_true rfl, Nat.le_of_ble_eq_true rfl⟩) hE hS hA hP hD [0, 1] [2, 3, 4, 5, 6, 7, 8, 9, 10, 11, 12, 13, 14, 15, 16, 17, 18, 19, 20, 21, 22, 23, 24, 25, 26, 27, 28, 29, 30] rfl rfl (by decide) (by decide) (by decide) [29, 30, 0, 1, 2, 3, 4, 5, 6, 7, 8, 9, 10, 11, 12, 13, 14, 15, 16, 17, 18, 19, 20, 21, 22, 23, 24, 25, 26, 27, 28] (by decide) (fun u => rfl) rfl rfl rfl rfl hl.1 rfl (Nat.le_of_ble_eq_true rfl) dX2_readWell_22 ⟨Nat.zero_le _, Nat.zero_le _⟩ (fun u22 H locs h22 hP hD hS => ?_)
    obtain ⟨o22_fn, o22_fa⟩ := u22
    try dsimp only at h22
    have hf22 := h22.2
    replace h22 := h22.1
    replace hP : va_P (eD E) vwCl (rdL E qr qx fx ln ps o22_fn o22_fa na cx ck ap vp) H := hP
    replace hD : va_D A (rdL E qr qx fx ln ps o22_fn o22_fa na cx ck ap vp) := hD
    rw [n_3] at hf22
    have hk22 : CF (chk (decide (5 ≤ S 55 0)) 3 wd.toInt) fn.toInt fa.toInt o22_fn.toInt o22_fa.toInt (fun _ => True) := CF.chk (fun _ => ckB (by omega)) hf22
    clear hf22 hx20_0
    refine lv_aload_n hx hb dX2_readWell_25 rfl (lv_at hl 0 rfl) ?_
    refine mt_Vi (w1 := fun (u : Int32 × Int32 × Int32 × Int32) => rdL E qr qx fx ln u.1 u.2.1 u.2.2.1 u.2.2.2 cx ck ap vp) (wf := fun (u : Int32 × Int32 × Int32 × Int32) => rdL E qr qx fx ln u.1 u.2.1 u.2.2.1 u.2.2.2 cx ck ap vp) (wr := []) (As := []) (rest := []) (C := RX2) (ci := 2) ⟨hx, hb, hml, hown, hts⟩ (c_X2_readPlace l E H.size qr qx fx ln ps o22_fn o22_fa na cx ck ap vp (by omega) (by omega) hI) (cwV 0 hts gX2_readWell_X2_readPlace rfl rfl rfl (by decide +kernel) ⟨Nat.le_of_ble_eq_true rfl, Nat.le_of_ble_eq_true rfl⟩) hE hS hA hP hD [0, 1, 2, 3, 4, 5, 6, 7, 8, 9, 10, 11, 12, 13, 14, 15, 16, 17, 18, 19, 20, 21, 22, 23, 24, 25, 26, 27, 28, 29, 30] [] rfl rfl (by decide) (by decide) (by decide) [0, 1, 2, 3, 4, 5, 6, 7, 8, 9, 10, 11, 12, 13, 14, 15, 16, 17, 18, 19, 20, 21, 22, 23, 24, 25, 26, 27, 28, 29, 30] (by decide) (fun u => rfl) rfl rfl rfl rfl hl.1 rfl (Nat.le_of_ble_eq_true rfl) dX2_readWell_26 ⟨Nat.zero_le _, Nat.zero_le _⟩ (fun r26 u26 H locs h26 hP hD hS => ?_)
    obtain ⟨o26_ps, o26_fn, o26_fa, o26_na⟩ := u26
    try dsimp only at h26
    have hf26 := h26.2
    replace h26 := h26.1
    replace hP : va_P (eD E) vwCl (rdL E qr qx fx ln o26_ps o26_fn o26_fa o26_na cx ck ap vp) H := hP
    replace hD : va_D A (rdL E qr qx fx ln o26_ps o26_fn o26_fa o26_na cx ck ap vp) := hD
    rw [hRp.1.1, hRp.1.2.1] at hf26
    have hs26 := CF.then (s := fun _ : Unit => placeF fx ln.toInt (S 37 0) (S 38 0) ps.toInt) hk22 hf26 (okF.chk (by decide)) (fun _ _ => rfl)
    refine lv_istore_n (lv' := [(2, .int r26), (0, .ref qr), (1, .int wd)]) hx hb dX2_readWell_29 rfl hl (by decide) rfl (fun ls hl => ?_)
    refine lv_aload_n hx hb dX2_readWell_30 rfl (lv_at hl 1 rfl) ?_
    refine lv_aload_n hx hb dX2_readWell_31 rfl (lv_at hl 1 rfl) ?_
    refine va_get (D := eD E) (ci := 2) (v := .ref (ap 0)) (C := RX2) (T := TX2) (N := 9) hx hb hts in_X2 hown hK hP 0 rfl rfl 3 (by decide) lk0 (fun _ h9 => h9) rfl dX2_readWell_32 ?_
    refine va_get (D := eD E) (ci := 1) (v := .ref (ap 9)) (C := RX1) (T := TX1) (N := 11) hx hb hts in_X1 hown hK hP 2 rfl rfl 9 (by decide) lk1 (fun _ h9 => h9) rfl dX2_readWell_35 ?_
    refine lv_iload_n hx hb dX2_readWell_38 rfl (lv_at hl 0 rfl) ?_
    refine rd_V (As := [.int r26]) (rest := [.ref qr]) (C := RX5) (ci := 5) ⟨hx, hb, hml, hown, hts⟩ (c_X5_stands l E A (ap 9) (ap 81) (ap 82) (ap 83) (vp 80 0) (vp 81) (vp 82) (vp 83) r26 (by omega)) (cwV 1 hts gX2_readWell_X5_stands rfl rfl rfl (by decide +kernel) ⟨Nat.le_of_ble_eq_true rfl, Nat.le_of_ble_eq_true rfl⟩) (hE.kept hS.2.1) (hP.sub (ws' := sitesL E (ap 9) (ap 81) (ap 82) (ap 83) (vp 80 0) (vp 81) (vp 82) (vp 83)) [23, 24, 25, 26] rfl) rfl rfl rfl rfl hl.1 rfl (Nat.le_of_ble_eq_true rfl) dX2_readWell_39 ⟨Nat.zero_le _, Nat.zero_le _⟩ (fun r39 h39 => ?_)
    have hf39 := h39.2
    replace h39 := h39.1
    refine lv_iconst (v := 4) hx hb dX2_readWell_42 (by decide) ?_
    refine lv_aload_n hx hb dX2_readWell_43 rfl (lv_at hl 1 rfl) ?_
    refine va_get (D := eD E) (ci := 2) (v := .int o26_na) (C := RX2) (T := TX2) (N := 9) hx hb hts in_X2 hown hK hP 0 rfl rfl 6 (by decide) lk3 (fun _ h9 => h9) rfl dX2_readWell_44 ?_
    refine mt_Vv (w1 := fun (u : Int32 × Int32) => rbL E qr qx fx ln o26_ps u.1 u.2 o26_na cx ck ap) (wf := fun (u : Int32 × Int32) => rdL E qr qx fx ln o26_ps u.1 u.2 o26_na cx ck ap vp) (wr := [((ap 0), .inr (1, [.int (vp 0 0), .int (vp 1 0), .int (vp 2 0), .ref (ap 3), .ref (ap 4), .int (vp 5 0), .ref (ap 6), .ref (ap 7), .ref (ap 8), .ref (ap 9), .ref (ap 10)])), ((ap 3), .inl (eI E, 24, .inl (vp 3))), ((ap 4), .inl (eI E, 24, .inl (vp 4))), ((ap 6), .inl (eM E, 3, .inr (.inr (.inr (.inr (fun i => some (ap (20 + 10 * i)))))))), ((ap 20), .inr (0, [.int (vp 20 0), .int (vp 21 0), .int (vp 22 0), .ref (ap 23), .ref (ap 24)])), ((ap 23), .inl (eI E, 18, .inl (vp 23))), ((ap 24), .inl (eI E, 24, .inl (vp 24))), ((ap 30), .inr (0, [.int (vp 30 0), .int (vp 31 0), .int (vp 32 0), .ref (ap 33), .ref (ap 34)])), ((ap 33), .inl (eI E, 18, .inl (vp 33))), ((ap 34), .inl (eI E, 24, .inl (vp 34))), ((ap 40), .inr (0, [.int (vp 40 0), .int (vp 41 0), .int (vp 42 0), .ref (ap 43), .ref (ap 44)])), ((ap 43), .inl (eI E, 18, .inl (vp 43))), ((ap 44), .inl (eI E, 24, .inl (vp 44))), ((ap 7), .inr (5, [.int (vp 60 0), .ref (ap 61), .ref (ap 62), .ref (ap 63)])), ((ap 61), .inl (eI E, 6, .inl (vp 61))), ((ap 62), .inl (eI E, 6, .inl (vp 62))), ((ap 63), .inl (eI E, 6, .inl (vp 63))), ((ap 8), .inr (5, [.int (vp 70 0), .ref (ap 71), .ref (ap 72), .ref (ap 73)])), ((ap 71), .inl (eI E, 6, .inl (vp 71))), ((ap 72), .inl (eI E, 6, .inl (vp 72))), ((ap 73), .inl (eI E, 6, .inl (vp 73))), ((ap 9), .inr (5, [.int (vp 80 0), .ref (ap 81), .ref (ap 82), .ref (ap 83)])), ((ap 81), .inl (eI E, 6, .inl (vp 81))), ((ap 82), .inl (eI E, 6, .inl (vp 82))), ((ap 83), .inl (eI E, 6, .inl (vp 83))), ((ap 10), .inr (5, [.int (vp 90 0), .ref (ap 91), .ref (ap 92), .ref (ap 93)])), ((ap 91), .inl (eI E, 6, .inl (vp 91))), ((ap 92), .inl (eI E, 6, .inl (vp 92))), ((ap 93), .inl (eI E, 6, .inl (vp 93)))]) (As := [.int r39, .int 4, .int o26_na]) (rest := []) (C := RX2) (ci := 2) ⟨hx, hb, hml, hown, hts⟩ (c_X2_refuseIf l E H.size qr qx fx ln o26_ps o26_fn o26_fa o26_na cx ck ap r39 4 o26_na (by omega)) (cwV 3 hts gX2_readWell_X2_refuseIf rfl rfl rfl (by decide +kernel) ⟨Nat.le_of_ble_eq_true rfl, Nat.le_of_ble_eq_true rfl⟩) hE hS hA hP hD [0, 1] [2, 3, 4, 5, 6, 7, 8, 9, 10, 11, 12, 13, 14, 15, 16, 17, 18, 19, 20, 21, 22, 23, 24, 25, 26, 27, 28, 29, 30] rfl rfl (by decide) (by decide) (by decide) [29, 30, 0, 1, 2, 3, 4, 5, 6, 7, 8, 9, 10, 11, 12, 13, 14, 15, 16, 17, 18, 19, 20, 21, 22, 23, 24, 25, 26, 27, 28] (by decide) (fun u => rfl) rfl rfl rfl rfl hl.1 rfl (Nat.le_of_ble_eq_true rfl) dX2_readWell_47 ⟨Nat.zero_le _, Nat.zero_le _⟩ (fun u47 H locs h47 hP hD hS => ?_)
    obtain ⟨o47_fn, o47_fa⟩ := u47
    try dsimp only at h47
    have hf47 := h47.2
    replace h47 := h47.1
    replace hP : va_P (eD E) vwCl (rdL E qr qx fx ln o26_ps o47_fn o47_fa o26_na cx ck ap vp) H := hP
    replace hD : va_D A (rdL E qr qx fx ln o26_ps o47_fn o47_fa o26_na cx ck ap vp) := hD
    rw [n_4] at hf47
    have hk47 : CF (chk (anyE (S 56) r26.toInt (S 55 0).toNat) 4 o26_na.toInt) o26_fn.toInt o26_fa.toInt o47_fn.toInt o47_fa.toInt (fun _ => True) := CF.chk (fun _ => ckA hf39 (by rw [hcn]; exact any_congr _ (fun j hj => (hRl.2 j (by omega)).1))) hf47
    clear hf47 hf39
    have hs47 := CF.then (s := fun z : Unit × ((Int × Int × Int) × (Int × Int × Int)) => chk (anyE (S 56) (plc (S 37 0) z.2) (S 55 0).toNat) 4 z.2.2.2.2) hs26 hk47 ((okF.chk (by decide)).th (fun _ => okF.num.th (fun _ => okF.num))) (fun z hz => by rw [hz.2.1, hz.2.2.2])
    refine lv_aload_n hx hb dX2_readWell_50 rfl (lv_at hl 1 rfl) ?_
    refine lv_iconst (v := 0) hx hb dX2_readWell_51 (by decide) ?_
    refine lv_bipush (v := 99) hx hb dX2_readWell_52 (by decide) ?_
    refine mt_Vi (w1 := fun (u : Int32 × Int32 × Int32 × Int32) => rbL E qr qx fx ln u.1 u.2.1 u.2.2.1 u.2.2.2 cx ck ap) (wf := fun (u : Int32 × Int32 × Int32 × Int32) => rdL E qr qx fx ln u.1 u.2.1 u.2.2.1 u.2.2.2 cx ck ap vp) (wr := [((ap 0), .inr (1, [.int (vp 0 0), .int (vp 1 0), .int (vp 2 0), .ref (ap 3), .ref (ap 4), .int (vp 5 0), .ref (ap 6), .ref (ap 7), .ref (ap 8), .ref (ap 9), .ref (ap 10)])), ((ap 3), .inl (eI E, 24, .inl (vp 3))), ((ap 4), .inl (eI E, 24, .inl (vp 4))), ((ap 6), .inl (eM E, 3, .inr (.inr (.inr (.inr (fun i => some (ap (20 + 10 * i)))))))), ((ap 20), .inr (0, [.int (vp 20 0), .int (vp 21 0), .int (vp 22 0), .ref (ap 23), .ref (ap 24)])), ((ap 23), .inl (eI E, 18, .inl (vp 23))), ((ap 24), .inl (eI E, 24, .inl (vp 24))), ((ap 30), .inr (0, [.int (vp 30 0), .int (vp 31 0), .int (vp 32 0), .ref (ap 33), .ref (ap 34)])), ((ap 33), .inl (eI E, 18, .inl (vp 33))), ((ap 34), .inl (eI E, 24, .inl (vp 34))), ((ap 40), .inr (0, [.int (vp 40 0), .int (vp 41 0), .int (vp 42 0), .ref (ap 43), .ref (ap 44)])), ((ap 43), .inl (eI E, 18, .inl (vp 43))), ((ap 44), .inl (eI E, 24, .inl (vp 44))), ((ap 7), .inr (5, [.int (vp 60 0), .ref (ap 61), .ref (ap 62), .ref (ap 63)])), ((ap 61), .inl (eI E, 6, .inl (vp 61))), ((ap 62), .inl (eI E, 6, .inl (vp 62))), ((ap 63), .inl (eI E, 6, .inl (vp 63))), ((ap 8), .inr (5, [.int (vp 70 0), .ref (ap 71), .ref (ap 72), .ref (ap 73)])), ((ap 71), .inl (eI E, 6, .inl (vp 71))), ((ap 72), .inl (eI E, 6, .inl (vp 72))), ((ap 73), .inl (eI E, 6, .inl (vp 73))), ((ap 9), .inr (5, [.int (vp 80 0), .ref (ap 81), .ref (ap 82), .ref (ap 83)])), ((ap 81), .inl (eI E, 6, .inl (vp 81))), ((ap 82), .inl (eI E, 6, .inl (vp 82))), ((ap 83), .inl (eI E, 6, .inl (vp 83))), ((ap 10), .inr (5, [.int (vp 90 0), .ref (ap 91), .ref (ap 92), .ref (ap 93)])), ((ap 91), .inl (eI E, 6, .inl (vp 91))), ((ap 92), .inl (eI E, 6, .inl (vp 92))), ((ap 93), .inl (eI E, 6, .inl (vp 93)))]) (As := [.int 0, .int 99]) (rest := []) (C := RX2) (ci := 2) ⟨hx, hb, hml, hown, hts⟩ (c_X2_readNumber l E H.size qr qx fx ln o26_ps o47_fn o47_fa o26_na cx ck ap 0 99 (by omega) (by omega)) (cwV 2 hts gX2_readWell_X2_readNumber rfl rfl rfl (by decide +kernel) ⟨Nat.le_of_ble_eq_true rfl, Nat.le_of_ble_eq_true rfl⟩) hE hS hA hP hD [0, 1] [2, 3, 4, 5, 6, 7, 8, 9, 10, 11, 12, 13, 14, 15, 16, 17, 18, 19, 20, 21, 22, 23, 24, 25, 26, 27, 28, 29, 30] rfl rfl (by decide) (by decide) (by decide) [29, 30, 0, 1, 2, 3, 4, 5, 6, 7, 8, 9, 10, 11, 12, 13, 14, 15, 16, 17, 18, 19, 20, 21, 22, 23, 24, 25, 26, 27, 28] (by decide) (fun u => rfl) rfl rfl rfl rfl hl.1 rfl (Nat.le_of_ble_eq_true rfl) dX2_readWell_54 ⟨Nat.zero_le _, Nat.zero_le _⟩ (fun r54 u54 H locs h54 hP hD hS => ?_)
    obtain ⟨o54_ps, o54_fn, o54_fa, o54_na⟩ := u54
    try dsimp only at h54
    have hf54 := h54.2
    replace h54 := h54.1
    replace hP : va_P (eD E) vwCl (rdL E qr qx fx ln o54_ps o54_fn o54_fa o54_na cx ck ap vp) H := hP
    replace hD : va_D A (rdL E qr qx fx ln o54_ps o54_fn o54_fa o54_na cx ck ap vp) := hD
    have pb54 : 0 ≤ r54.toInt ∧ r54.toInt ≤ 99 := pb_rn h54.1 (by decide) (by decide)
    rw [n_0, n_99] at hf54
    have hs54 := CF.then (s := fun z : (Unit × ((Int × Int × Int) × (Int × Int × Int))) × Unit => numF fx ln.toInt 0 99 z.1.2.2.2.1) hs47 hf54 (((okF.chk (by decide)).th (fun _ => okF.num.th (fun _ => okF.num))).th (fun _ => okF.chk (by decide))) (fun z hz => by rw [hz.1.2.2.1])
    refine lv_istore_n (lv' := [(3, .int r54), (2, .int r26), (0, .ref qr), (1, .int wd)]) hx hb dX2_readWell_57 rfl hl (by decide) rfl (fun ls hl => ?_)
    refine lv_aload_n hx hb dX2_readWell_58 rfl (lv_at hl 2 rfl) ?_
    refine lv_bipush (v := 59) hx hb dX2_readWell_59 (by decide) ?_
    refine mt_Vv (w1 := fun (u : Int32 × Int32 × Int32) => rbL E qr qx fx ln u.1 u.2.1 u.2.2 o54_na cx ck ap) (wf := fun (u : Int32 × Int32 × Int32) => rdL E qr qx fx ln u.1 u.2.1 u.2.2 o54_na cx ck ap vp) (wr := [((ap 0), .inr (1, [.int (vp 0 0), .int (vp 1 0), .int (vp 2 0), .ref (ap 3), .ref (ap 4), .int (vp 5 0), .ref (ap 6), .ref (ap 7), .ref (ap 8), .ref (ap 9), .ref (ap 10)])), ((ap 3), .inl (eI E, 24, .inl (vp 3))), ((ap 4), .inl (eI E, 24, .inl (vp 4))), ((ap 6), .inl (eM E, 3, .inr (.inr (.inr (.inr (fun i => some (ap (20 + 10 * i)))))))), ((ap 20), .inr (0, [.int (vp 20 0), .int (vp 21 0), .int (vp 22 0), .ref (ap 23), .ref (ap 24)])), ((ap 23), .inl (eI E, 18, .inl (vp 23))), ((ap 24), .inl (eI E, 24, .inl (vp 24))), ((ap 30), .inr (0, [.int (vp 30 0), .int (vp 31 0), .int (vp 32 0), .ref (ap 33), .ref (ap 34)])), ((ap 33), .inl (eI E, 18, .inl (vp 33))), ((ap 34), .inl (eI E, 24, .inl (vp 34))), ((ap 40), .inr (0, [.int (vp 40 0), .int (vp 41 0), .int (vp 42 0), .ref (ap 43), .ref (ap 44)])), ((ap 43), .inl (eI E, 18, .inl (vp 43))), ((ap 44), .inl (eI E, 24, .inl (vp 44))), ((ap 7), .inr (5, [.int (vp 60 0), .ref (ap 61), .ref (ap 62), .ref (ap 63)])), ((ap 61), .inl (eI E, 6, .inl (vp 61))), ((ap 62), .inl (eI E, 6, .inl (vp 62))), ((ap 63), .inl (eI E, 6, .inl (vp 63))), ((ap 8), .inr (5, [.int (vp 70 0), .ref (ap 71), .ref (ap 72), .ref (ap 73)])), ((ap 71), .inl (eI E, 6, .inl (vp 71))), ((ap 72), .inl (eI E, 6, .inl (vp 72))), ((ap 73), .inl (eI E, 6, .inl (vp 73))), ((ap 9), .inr (5, [.int (vp 80 0), .ref (ap 81), .ref (ap 82), .ref (ap 83)])), ((ap 81), .inl (eI E, 6, .inl (vp 81))), ((ap 82), .inl (eI E, 6, .inl (vp 82))), ((ap 83), .inl (eI E, 6, .inl (vp 83))), ((ap 10), .inr (5, [.int (vp 90 0), .ref (ap 91), .ref (ap 92), .ref (ap 93)])), ((ap 91), .inl (eI E, 6, .inl (vp 91))), ((ap 92), .inl (eI E, 6, .inl (vp 92))), ((ap 93), .inl (eI E, 6, .inl (vp 93)))]) (As := [.int 59]) (rest := []) (C := RX2) (ci := 2) ⟨hx, hb, hml, hown, hts⟩ (c_X2_readSign l E H.size qr qx fx ln o54_ps o54_fn o54_fa o54_na cx ck ap 59 (by omega) (by omega)) (cwV 1 hts gX2_readWell_X2_readSign rfl rfl rfl (by decide +kernel) ⟨Nat.le_of_ble_eq_true rfl, Nat.le_of_ble_eq_true rfl⟩) hE hS hA hP hD [0, 1] [2, 3, 4, 5, 6, 7, 8, 9, 10, 11, 12, 13, 14, 15, 16, 17, 18, 19, 20, 21, 22, 23, 24, 25, 26, 27, 28, 29, 30] rfl rfl (by decide) (by decide) (by decide) [29, 30, 0, 1, 2, 3, 4, 5, 6, 7, 8, 9, 10, 11, 12, 13, 14, 15, 16, 17, 18, 19, 20, 21, 22, 23, 24, 25, 26, 27, 28] (by decide) (fun u => rfl) rfl rfl rfl rfl hl.1 rfl (Nat.le_of_ble_eq_true rfl) dX2_readWell_61 ⟨Nat.zero_le _, Nat.zero_le _⟩ (fun u61 H locs h61 hP hD hS => ?_)
    obtain ⟨o61_ps, o61_fn, o61_fa⟩ := u61
    try dsimp only at h61
    have hf61 := h61.2
    replace h61 := h61.1
    replace hP : va_P (eD E) vwCl (rdL E qr qx fx ln o61_ps o61_fn o61_fa o54_na cx ck ap vp) H := hP
    replace hD : va_D A (rdL E qr qx fx ln o61_ps o61_fn o61_fa o54_na cx ck ap vp) := hD
    rw [n_59] at hf61
    have hs61 := CF.then (s := fun z : ((Unit × ((Int × Int × Int) × (Int × Int × Int))) × Unit) × (Int × Int × Int) => sgnF fx ln.toInt 59 z.2.2.1) hs54 hf61 ((((okF.chk (by decide)).th (fun _ => okF.num.th (fun _ => okF.num))).th (fun _ => okF.chk (by decide))).th (fun _ => okF.num)) (fun z hz => by rw [hz.2.2.1])
    refine lv_aload_n hx hb dX2_readWell_64 rfl (lv_at hl 2 rfl) ?_
    refine lv_aload_n hx hb dX2_readWell_65 rfl (lv_at hl 2 rfl) ?_
    refine va_get (D := eD E) (ci := 2) (v := .ref (ap 0)) (C := RX2) (T := TX2) (N := 9) hx hb hts in_X2 hown hK hP 0 rfl rfl 3 (by decide) lk0 (fun _ h9 => h9) rfl dX2_readWell_66 ?_
    refine va_get (D := eD E) (ci := 1) (v := .ref (ap 9)) (C := RX1) (T := TX1) (N := 11) hx hb hts in_X1 hown hK hP 2 rfl rfl 9 (by decide) lk1 (fun _ h9 => h9) rfl dX2_readWell_69 ?_
    refine lv_iload_n hx hb dX2_readWell_72 rfl (lv_at hl 1 rfl) ?_
    refine lv_iload_n hx hb dX2_readWell_73 rfl (lv_at hl 0 rfl) ?_
    refine lv_iconst (v := 0) hx hb dX2_readWell_74 (by decide) ?_
    refine mt_Vv (w1 := fun (u : Int32 × (Nat → Int32) × (Nat → Int32) × (Nat → Int32)) => adL E qr qx ln o61_ps o61_fn o61_fa o54_na cx ck ap (ap 9) (ap 81) (ap 82) (ap 83) u.1 u.2.1 u.2.2.1 u.2.2.2) (wf := fun (u : Int32 × (Nat → Int32) × (Nat → Int32) × (Nat → Int32)) => rdL E qr qx fx ln o61_ps o61_fn o61_fa o54_na cx ck ap (up3 (up3 (up3 (up2 vp 80 0 u.1) 81 u.2.1) 82 u.2.2.1) 83 u.2.2.2)) (wr := [(qx, .inl (eI E, 250, .inl fx)), ((ap 0), .inr (1, [.int (vp 0 0), .int (vp 1 0), .int (vp 2 0), .ref (ap 3), .ref (ap 4), .int (vp 5 0), .ref (ap 6), .ref (ap 7), .ref (ap 8), .ref (ap 9), .ref (ap 10)])), ((ap 3), .inl (eI E, 24, .inl (vp 3))), ((ap 4), .inl (eI E, 24, .inl (vp 4))), ((ap 6), .inl (eM E, 3, .inr (.inr (.inr (.inr (fun i => some (ap (20 + 10 * i)))))))), ((ap 20), .inr (0, [.int (vp 20 0), .int (vp 21 0), .int (vp 22 0), .ref (ap 23), .ref (ap 24)])), ((ap 23), .inl (eI E, 18, .inl (vp 23))), ((ap 24), .inl (eI E, 24, .inl (vp 24))), ((ap 30), .inr (0, [.int (vp 30 0), .int (vp 31 0), .int (vp 32 0), .ref (ap 33), .ref (ap 34)])), ((ap 33), .inl (eI E, 18, .inl (vp 33))), ((ap 34), .inl (eI E, 24, .inl (vp 34))), ((ap 40), .inr (0, [.int (vp 40 0), .int (vp 41 0), .int (vp 42 0), .ref (ap 43), .ref (ap 44)])), ((ap 43), .inl (eI E, 18, .inl (vp 43))), ((ap 44), .inl (eI E, 24, .inl (vp 44))), ((ap 7), .inr (5, [.int (vp 60 0), .ref (ap 61), .ref (ap 62), .ref (ap 63)])), ((ap 61), .inl (eI E, 6, .inl (vp 61))), ((ap 62), .inl (eI E, 6, .inl (vp 62))), ((ap 63), .inl (eI E, 6, .inl (vp 63))), ((ap 8), .inr (5, [.int (vp 70 0), .ref (ap 71), .ref (ap 72), .ref (ap 73)])), ((ap 71), .inl (eI E, 6, .inl (vp 71))), ((ap 72), .inl (eI E, 6, .inl (vp 72))), ((ap 73), .inl (eI E, 6, .inl (vp 73))), ((ap 10), .inr (5, [.int (vp 90 0), .ref (ap 91), .ref (ap 92), .ref (ap 93)])), ((ap 91), .inl (eI E, 6, .inl (vp 91))), ((ap 92), .inl (eI E, 6, .inl (vp 92))), ((ap 93), .inl (eI E, 6, .inl (vp 93)))]) (As := [.ref (ap 9), .int r26, .int r54, .int 0]) (rest := []) (C := RX2) (ci := 2) ⟨hx, hb, hml, hown, hts⟩ (c_X2_addTo l E H.size qr qx ln o61_ps o61_fn o61_fa o54_na cx ck ap (ap 9) (ap 81) (ap 82) (ap 83) (vp 80 0) (vp 81) (vp 82) (vp 83) r26 r54 0 (si_wide hs2 (by omega)) (by omega)) (cwV 4 hts gX2_readWell_X2_addTo rfl rfl rfl (by decide +kernel) ⟨Nat.le_of_ble_eq_true rfl, Nat.le_of_ble_eq_true rfl⟩) hE hS hA hP hD [0, 23, 24, 25, 26] [1, 2, 3, 4, 5, 6, 7, 8, 9, 10, 11, 12, 13, 14, 15, 16, 17, 18, 19, 20, 21, 22, 27, 28, 29, 30] rfl rfl (by decide) (by decide) (by decide) [26, 0, 1, 2, 3, 4, 5, 6, 7, 8, 9, 10, 11, 12, 13, 14, 15, 16, 17, 18, 19, 20, 21, 27, 28, 29, 30, 22, 23, 24, 25] (by decide) (fun u => rfl) rfl rfl rfl rfl hl.1 rfl (Nat.le_of_ble_eq_true rfl) dX2_readWell_75 ⟨Nat.zero_le _, Nat.zero_le _⟩ (fun u75 H locs h75 hP hD hS => ?_)
    obtain ⟨o75_n, o75_f1, o75_f2, o75_f3⟩ := u75
    try dsimp only at h75
    have hf75 := h75.2
    replace h75 := h75.1
    replace hP : va_P (eD E) vwCl (rdL E qr qx fx ln o61_ps o61_fn o61_fa o54_na cx ck ap (up3 (up3 (up3 (up2 vp 80 0 o75_n) 81 o75_f1) 82 o75_f2) 83 o75_f3)) H := hP
    replace hD : va_D A (rdL E qr qx fx ln o61_ps o61_fn o61_fa o54_na cx ck ap (up3 (up3 (up3 (up2 vp 80 0 o75_n) 81 o75_f1) 82 o75_f2) 83 o75_f3)) := hD
    generalize hv75 : up3 (up3 (up3 (up2 vp 80 0 o75_n) 81 o75_f1) 82 o75_f2) 83 o75_f3 = vp_75 at hP hD
    have hI2 : PlanI vp_75 := by rw [← hv75]; exact pl_s2 hI h75.1 (h75.2.2.elim (fun f61 => by have f54 := z_back h61.2.2.2 f61; have f47 := rn_ok h54 f54; have f26 := rf_ok h47 f47.1; have f22 := z_back h26.2.2.2 f26.2; have f20 := rf_ok h22 f22; have q := h75.2.1; have w := h20_0; clear h61 h54 h47 h26 h22 h75; omega) (fun e => by have q := e; have w := hc2; clear h61 h54 h47 h26 h22 h75; omega))
    subst hQ
    exact W.vret hx hb hr (fun t ht hW => ⟨⟨(o61_ps, o61_fn, o61_fa, o54_na, vp_75), rfl, (show (PlanI vp_75 ∧ (ps.toInt ≤ o61_ps.toInt ∧ o61_ps.toInt ≤ ln.toInt + 1) ∧ (o61_fn.toInt ≠ 0 ∨ o61_ps.toInt ≤ ln.toInt)) ∧ (CF (wellF fx ln.toInt S wd.toInt ps.toInt) fn.toInt fa.toInt o61_fn.toInt o61_fa.toInt (fun z => o61_ps.toInt = z.2 ∧ Rp (wellS S (plc (S 37 0) z.1.1.1.2) z.1.2.1) vp_75 cx ck)) from ⟨⟨hI2, ⟨Int.le_trans (Int.le_trans h26.2.1 h54.2.1) h61.1, h61.2.1⟩, h61.2.2.1⟩, (hs61.mono2 (fun q1 q2 z hzz hz => ⟨hz.2, by have hq6 := chk_no (th_get (th_get (th_get (th_get hzz).1).1).1).1; have hl6 : (vp 80 0).toInt < 6 := Int.lt_of_lt_of_le (by rw [hcn]; exact Int.not_le.mp hq6) (by decide); rw [← hv75, ← hz.1.1.1.2.1, ← hz.1.2.1]; exact rp_well hRp hs2.1.1 (hf75.1 q2 hl6).1 (hf75.1 q2 hl6).2.1 (hf75.1 q2 hl6).2.2.1⟩))⟩), by rw [ht]; exact hP, hD⟩, hS.F ht⟩) hS.2.2 dX2_readWell_78
  refine lv_icmp_lt (tgt := 19) hx hb dX2_readWell_12 (by decide) (fun c12 => ?_) (fun c12 => ?_)
  · have c12_ := i_lt c12
    refine lv_iconst (v := 0) hx hb dX2_readWell_19 (by decide) ?_
    exact K20 0 _ _ ls hP hD hS (by omega) (Or.inl ⟨by decide, by omega⟩) (lv_sub hl [0, 1] rfl)
  · have c12_ := i_nlt c12
    refine lv_iconst (v := 1) hx hb dX2_readWell_15 (by decide) ?_
    refine lv_goto (tgt := 20) hx hb dX2_readWell_16 (by decide) ?_
    exact K20 1 _ _ ls hP hD hS (by omega) (Or.inr ⟨by decide, by omega⟩) (lv_sub hl [0, 1] rfl)
