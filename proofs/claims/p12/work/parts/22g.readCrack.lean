def rm_X2_readCrack : Room := { frames := 3, cells := 0, slots := 0, locals := 69 }
set_option maxHeartbeats 4000000 in
set_option maxRecDepth 100000 in
theorem c_X2_readCrack (l : Launch) (E : Ev) (sz : Nat) (qr : Nat) (qx : Nat) (fx : Nat → Int32) (ln : Int32) (ps : Int32) (fn : Int32) (fa : Int32) (na : Int32) (cx : Int32) (ck : Int32) (ap : Nat → Nat) (vp : Vf) (wd : Int32) (S : St0) (hln : 0 ≤ ln.toInt ∧ ln.toInt ≤ 250) (hps : 0 ≤ ps.toInt ∧ ps.toInt ≤ ln.toInt) (hI : PlanI vp) (hRp : Rp S vp cx ck) : Met l yX2_readCrack wsX2_readCrack rm_X2_readCrack (MtP E sz [.ref qr, .int wd] (rdL E qr qx fx ln ps fn fa na cx ck ap vp)) (va_Qv (fun (u : Int32 × Int32 × Int32 × Int32 × Vf) => (PlanI u.2.2.2.2 ∧ (ps.toInt ≤ u.1.toInt ∧ u.1.toInt ≤ ln.toInt + 1) ∧ (u.2.1.toInt ≠ 0 ∨ u.1.toInt ≤ ln.toInt)) ∧ (CF (crackF fx ln.toInt S wd.toInt ps.toInt) fn.toInt fa.toInt u.2.1.toInt u.2.2.1.toInt (fun z => u.1.toInt = z.2 ∧ Rp (crackS S (plc (S 37 0) z.1.1.1.1.1.2) z.1.1.1.1.2.1 z.1.2.1) u.2.2.2.2 cx ck))) (MtB E (va_A (rdL E qr qx fx ln ps fn fa na cx ck ap vp) sz) (fun u => rdL E qr qx fx ln u.1 u.2.1 u.2.2.1 u.2.2.2.1 cx ck ap u.2.2.2.2)) (va_A (rdL E qr qx fx ln ps fn fa na cx ck ap vp) sz)) 0 0 (va_A (rdL E qr qx fx ln ps fn fa na cx ck ap vp) sz) := by
  refine Met.ofW (cc := cX2_readCrack) (maxL := 5) (ret := none) (by decide) rfl ?_
  intro p e s m args below meth c s₁ B hml hv
  obtain ⟨rfl, hsz, hE, hP, hD0⟩ := hv
  subst hsz
  have hD := hD0.self (sz := s.heap.size)
  generalize hAe : va_A (rdL E qr qx fx ln ps fn fa na cx ck ap vp) s.heap.size = A at hD hE ⊢
  have hA : ∀ q : Nat, s.heap.size ≤ q → A q := fun q h => by rw [← hAe]; exact Or.inr h
  have hS : va_S A s.heap s.heap [] := va_S.rf
  have hx := B.exec
  have hb := B.bytes
  have hr := B.returns
  have hts := atoms_spec (ws := wsX2_readCrack) B.pre
  have hown : s.vm.findClass RX2 = some m.cls := findClass_of_methodNamed B.named
  have hlocks := B.notSynchronized
  have hK := hE.1
  have in_X2 : ∀ w ∈ u_ws RX2 TX2 9, w ∈ wsX2_readCrack := fun w h => List.mem_cons_of_mem _ (List.mem_append_left _ (List.mem_append_left _ (List.mem_append_right _ h)))
  have in_X1 : ∀ w ∈ u_ws RX1 TX1 11, w ∈ wsX2_readCrack := fun w h => List.mem_cons_of_mem _ (List.mem_append_left _ (List.mem_append_right _ h))
  have in_X5 : ∀ w ∈ u_ws RX5 TX5 4, w ∈ wsX2_readCrack := fun w h => List.mem_cons_of_mem _ (List.mem_append_right _ h)
  have lk0 := hts (.fieldLink RX2 28 "TidedGround$Reader" "plan" "LTidedGround$Plan;") (List.mem_of_getElem? (i := 1) rfl)
  have lk1 := hts (.fieldLink RX2 152 "TidedGround$Plan" "cracks" "LTidedGround$Sites;") (List.mem_of_getElem? (i := 2) rfl)
  have lk2 := hts (.fieldLink RX2 139 "TidedGround$Sites" "count" "I") (List.mem_of_getElem? (i := 3) rfl)
  have lk3 := hts (.fieldLink RX2 87 "TidedGround$Reader" "numberAt" "I") (List.mem_of_getElem? (i := 4) rfl)
  have n_m1 : ((-1) : Int32).toInt = -1 := by decide
  have n_0 : (0 : Int32).toInt = 0 := by decide
  have n_1 : (1 : Int32).toInt = 1 := by decide
  have n_2 : (2 : Int32).toInt = 2 := by decide
  have n_3 : (3 : Int32).toInt = 3 := by decide
  have n_4 : (4 : Int32).toInt = 4 := by decide
  have n_6 : (6 : Int32).toInt = 6 := by decide
  have n_30 : (30 : Int32).toInt = 30 := by decide
  have n_59 : (59 : Int32).toInt = 59 := by decide
  have n_60 : (60 : Int32).toInt = 60 := by decide
  have hl := lv_entry ([.ref qr, .int wd]) (n := 5) (Nat.le_of_ble_eq_true rfl)
  rw [lg_entry_eq]
  generalize (lg_sl ([.ref qr, .int wd]) ++ List.replicate (5 - (lg_sl ([.ref qr, .int wd])).length) Slot.unset).toArray = ls at hl ⊢
  have hl : lv_has ls 5 [(0, .ref qr), (1, .int wd)] := hl
  refine W_abs (fun Q hQ => ?_)
  obtain ⟨hg, hmc, hm0, hm1, hm2, hs0, hs1, hs2, hs3⟩ := id hI
  obtain ⟨hg1, hg2, hg3, hg4⟩ := id hg
  have hz0 := hm0.1
  have hz1 := hm1.1
  have hz2 := hm2.1
  have hc0 := hs0.1
  have hc1 := hs1.1
  have hc2 := hs2.1
  have hc3 := hs3.1
  have hg5 : 0 ≤ (vp 2 0).toInt := by rw [hg3]; exact Int.mul_nonneg hg1.1 hg2.1
  have hRl := hRp.2.2.2.2.1
  have hcn := hRl.1
  refine lv_aload_n hx hb dX2_readCrack_0 rfl (lv_at hl 0 rfl) ?_
  refine lv_aload_n hx hb dX2_readCrack_1 rfl (lv_at hl 0 rfl) ?_
  refine va_get (D := eD E) (ci := 2) (v := .ref (ap 0)) (C := RX2) (T := TX2) (N := 9) hx hb hts in_X2 hown hK hP 0 rfl rfl 3 (by decide) lk0 (fun _ h9 => h9) rfl dX2_readCrack_2 ?_
  refine va_get (D := eD E) (ci := 1) (v := .ref (ap 8)) (C := RX1) (T := TX1) (N := 11) hx hb hts in_X1 hown hK hP 2 rfl rfl 8 (by decide) lk1 (fun _ h9 => h9) rfl dX2_readCrack_5 ?_
  refine va_get (D := eD E) (ci := 5) (v := .int (vp 70 0)) (C := RX5) (T := TX5) (N := 4) hx hb hts in_X5 hown hK hP 19 rfl rfl 0 (by decide) lk2 (fun _ h9 => h9) rfl dX2_readCrack_8 ?_
  refine lv_bipush (v := 6) hx hb dX2_readCrack_11 (by decide) ?_
  have K21 : ∀  (w : Int32) (H : Heap) (locs : List Loc) (ls : Array Slot), va_P (eD E) vwCl (rdL E qr qx fx ln ps fn fa na cx ck ap vp) H → va_D A (rdL E qr qx fx ln ps fn fa na cx ck ap vp) → va_S A s.heap H locs → ((w.toInt = 0 ∧ (vp 70 0).toInt < 6) ∨ (w.toInt = 1 ∧ 6 ≤ (vp 70 0).toInt)) → lv_has ls 5 [(0, .ref qr), (1, .int wd)] → W p l e (headSpec wsX2_readCrack rm_X2_readCrack).room s m ([.ref qr, .int wd] : List Value).toArray below meth c H locs 0 0 Q (F0 m 21 ls [.int w, .ref qr]) := by
    intro w H locs ls hP hD hS h21_0 hl
    have hx21_0 := h21_0
    clear h21_0
    refine lv_iconst (v := 3) hx hb dX2_readCrack_21 (by decide) ?_
    refine lv_iload_n hx hb dX2_readCrack_22 rfl (lv_at hl 1 rfl) ?_
    refine mt_Vv (w1 := fun (u : Int32 × Int32) => rbL E qr qx fx ln ps u.1 u.2 na cx ck ap) (wf := fun (u : Int32 × Int32) => rdL E qr qx fx ln ps u.1 u.2 na cx ck ap vp) (wr := [((ap 0), .inr (1, [.int (vp 0 0), .int (vp 1 0), .int (vp 2 0), .ref (ap 3), .ref (ap 4), .int (vp 5 0), .ref (ap 6), .ref (ap 7), .ref (ap 8), .ref (ap 9), .ref (ap 10)])), ((ap 3), .inl (eI E, 24, .inl (vp 3))), ((ap 4), .inl (eI E, 24, .inl (vp 4))), ((ap 6), .inl (eM E, 3, .inr (.inr (.inr (.inr (fun i => some (ap (20 + 10 * i)))))))), ((ap 20), .inr (0, [.int (vp 20 0), .int (vp 21 0), .int (vp 22 0), .ref (ap 23), .ref (ap 24)])), ((ap 23), .inl (eI E, 18, .inl (vp 23))), ((ap 24), .inl (eI E, 24, .inl (vp 24))), ((ap 30), .inr (0, [.int (vp 30 0), .int (vp 31 0), .int (vp 32 0), .ref (ap 33), .ref (ap 34)])), ((ap 33), .inl (eI E, 18, .inl (vp 33))), ((ap 34), .inl (eI E, 24, .inl (vp 34))), ((ap 40), .inr (0, [.int (vp 40 0), .int (vp 41 0), .int (vp 42 0), .ref (ap 43), .ref (ap 44)])), ((ap 43), .inl (eI E, 18, .inl (vp 43))), ((ap 44), .inl (eI E, 24, .inl (vp 44))), ((ap 7), .inr (5, [.int (vp 60 0), .ref (ap 61), .ref (ap 62), .ref (ap 63)])), ((ap 61), .inl (eI E, 6, .inl (vp 61))), ((ap 62), .inl (eI E, 6, .inl (vp 62))), ((ap 63), .inl (eI E, 6, .inl (vp 63))), ((ap 8), .inr (5, [.int (vp 70 0), .ref (ap 71), .ref (ap 72), .ref (ap 73)])), ((ap 71), .inl (eI E, 6, .inl (vp 71))), ((ap 72), .inl (eI E, 6, .inl (vp 72))), ((ap 73), .inl (eI E, 6, .inl (vp 73))), ((ap 9), .inr (5, [.int (vp 80 0), .ref (ap 81), .ref (ap 82), .ref (ap 83)])), ((ap 81), .inl (eI E, 6, .inl (vp 81))), ((ap 82), .inl (eI E, 6, .inl (vp 82))), ((ap 83), .inl (eI E, 6, .inl (vp 83))), ((ap 10), .inr (5, [.int (vp 90 0), .ref (ap 91), .ref (ap 92), .ref (ap 93)])), ((ap 91), .inl (eI E, 6, .inl (vp 91))), ((ap 92), .inl (eI E, 6, .inl (vp 92))), ((ap 93), .inl (eI E, 6, .inl (vp 93)))]) (As := [.int w, .int 3, .int wd]) (rest := []) (C := RX2) (ci := 2) ⟨hx, hb, hml, hown, hts⟩ (c_X2_refuseIf l E H.size qr qx fx ln ps fn fa na cx ck ap w 3 wd (by omega)) (cwV 3 hts gX2_readCrack_X2_refuseIf rfl rfl rfl (by decide +kernel) ⟨Nat.le_of_ble_eq_true rfl, Nat.le_of_ble_eq_true rfl⟩) hE hS hA hP hD [0, 1] [2, 3, 4, 5, 6, 7, 8, 9, 10, 11, 12, 13, 14, 15, 16, 17, 18, 19, 20, 21, 22, 23, 24, 25, 26, 27, 28, 29, 30] rfl rfl (by decide) (by decide) (by decide) [29, 30, 0, 1, 2, 3, 4, 5, 6, 7, 8, 9, 10, 11, 12, 13, 14, 15, 16, 17, 18, 19, 20, 21, 22, 23, 24, 25, 26, 27, 28] (by decide) (fun u => rfl) rfl rfl rfl rfl hl.1 rfl (Nat.le_of_ble_eq_true rfl) dX2_readCrack_23 ⟨Nat.zero_le _, Nat.zero_le _⟩ (fun u23 H locs h23 hP hD hS => ?_)
    obtain ⟨o23_fn, o23_fa⟩ := u23
    try dsimp only at h23
    have hf23 := h23.2
    replace h23 := h23.1
    replace hP : va_P (eD E) vwCl (rdL E qr qx fx ln ps o23_fn o23_fa na cx ck ap vp) H := hP
    replace hD : va_D A (rdL E qr qx fx ln ps o23_fn o23_fa na cx ck ap vp) := hD
    rw [n_3] at hf23
    have hk23 : CF (chk (decide (6 ≤ S 51 0)) 3 wd.toInt) fn.toInt fa.toInt o23_fn.toInt o23_fa.toInt (fun _ => True) := CF.chk (fun _ => ckB (by omega)) hf23
    clear hf23 hx21_0
    refine lv_aload_n hx hb dX2_readCrack_26 rfl (lv_at hl 0 rfl) ?_
    refine mt_Vi (w1 := fun (u : Int32 × Int32 × Int32 × Int32) => rdL E qr qx fx ln u.1 u.2.1 u.2.2.1 u.2.2.2 cx ck ap vp) (wf := fun (u : Int32 × Int32 × Int32 × Int32) => rdL E qr qx fx ln u.1 u.2.1 u.2.2.1 u.2.2.2 cx ck ap vp) (wr := []) (As := []) (rest := []) (C := RX2) (ci := 2) ⟨hx, hb, hml, hown, hts⟩ (c_X2_readPlace l E H.size qr qx fx ln ps o23_fn o23_fa na cx ck ap vp (by omega) (by omega) hI) (cwV 0 hts gX2_readCrack_X2_readPlace rfl rfl rfl (by decide +kernel) ⟨Nat.le_of_ble_eq_true rfl, Nat.le_of_ble_eq_true rfl⟩) hE hS hA hP hD [0, 1, 2, 3, 4, 5, 6, 7, 8, 9, 10, 11, 12, 13, 14, 15, 16, 17, 18, 19, 20, 21, 22, 23, 24, 25, 26, 27, 28, 29, 30] [] rfl rfl (by decide) (by decide) (by decide) [0, 1, 2, 3, 4, 5, 6, 7, 8, 9, 10, 11, 12, 13, 14, 15, 16, 17, 18, 19, 20, 21, 22, 23, 24, 25, 26, 27, 28, 29, 30] (by decide) (fun u => rfl) rfl rfl rfl rfl hl.1 rfl (Nat.le_of_ble_eq_true rfl) dX2_readCrack_27 ⟨Nat.zero_le _, Nat.zero_le _⟩ (fun r27 u27 H locs h27 hP hD hS => ?_)
    obtain ⟨o27_ps, o27_fn, o27_fa, o27_na⟩ := u27
    try dsimp only at h27
    have hf27 := h27.2
    replace h27 := h27.1
    replace hP : va_P (eD E) vwCl (rdL E qr qx fx ln o27_ps o27_fn o27_fa o27_na cx ck ap vp) H := hP
    replace hD : va_D A (rdL E qr qx fx ln o27_ps o27_fn o27_fa o27_na cx ck ap vp) := hD
    rw [hRp.1.1, hRp.1.2.1] at hf27
    have hs27 := CF.then (s := fun z : Unit => placeF fx ln.toInt (S 37 0) (S 38 0) ps.toInt) hk23 hf27 (okF.chk (by decide)) (fun z hz => by rfl)
    refine lv_istore_n (lv' := [(2, .int r27), (0, .ref qr), (1, .int wd)]) hx hb dX2_readCrack_30 rfl hl (by decide) rfl (fun ls hl => ?_)
    refine lv_aload_n hx hb dX2_readCrack_31 rfl (lv_at hl 1 rfl) ?_
    refine lv_iconst (v := 0) hx hb dX2_readCrack_32 (by decide) ?_
    refine lv_iconst (v := 1) hx hb dX2_readCrack_33 (by decide) ?_
    refine mt_Vi (w1 := fun (u : Int32 × Int32 × Int32 × Int32) => rbL E qr qx fx ln u.1 u.2.1 u.2.2.1 u.2.2.2 cx ck ap) (wf := fun (u : Int32 × Int32 × Int32 × Int32) => rdL E qr qx fx ln u.1 u.2.1 u.2.2.1 u.2.2.2 cx ck ap vp) (wr := [((ap 0), .inr (1, [.int (vp 0 0), .int (vp 1 0), .int (vp 2 0), .ref (ap 3), .ref (ap 4), .int (vp 5 0), .ref (ap 6), .ref (ap 7), .ref (ap 8), .ref (ap 9), .ref (ap 10)])), ((ap 3), .inl (eI E, 24, .inl (vp 3))), ((ap 4), .inl (eI E, 24, .inl (vp 4))), ((ap 6), .inl (eM E, 3, .inr (.inr (.inr (.inr (fun i => some (ap (20 + 10 * i)))))))), ((ap 20), .inr (0, [.int (vp 20 0), .int (vp 21 0), .int (vp 22 0), .ref (ap 23), .ref (ap 24)])), ((ap 23), .inl (eI E, 18, .inl (vp 23))), ((ap 24), .inl (eI E, 24, .inl (vp 24))), ((ap 30), .inr (0, [.int (vp 30 0), .int (vp 31 0), .int (vp 32 0), .ref (ap 33), .ref (ap 34)])), ((ap 33), .inl (eI E, 18, .inl (vp 33))), ((ap 34), .inl (eI E, 24, .inl (vp 34))), ((ap 40), .inr (0, [.int (vp 40 0), .int (vp 41 0), .int (vp 42 0), .ref (ap 43), .ref (ap 44)])), ((ap 43), .inl (eI E, 18, .inl (vp 43))), ((ap 44), .inl (eI E, 24, .inl (vp 44))), ((ap 7), .inr (5, [.int (vp 60 0), .ref (ap 61), .ref (ap 62), .ref (ap 63)])), ((ap 61), .inl (eI E, 6, .inl (vp 61))), ((ap 62), .inl (eI E, 6, .inl (vp 62))), ((ap 63), .inl (eI E, 6, .inl (vp 63))), ((ap 8), .inr (5, [.int (vp 70 0), .ref (ap 71), .ref (ap 72), .ref (ap 73)])), ((ap 71), .inl (eI E, 6, .inl (vp 71))), ((ap 72), .inl (eI E, 6, .inl (vp 72))), ((ap 73), .inl (eI E, 6, .inl (vp 73))), ((ap 9), .inr (5, [.int (vp 80 0), .ref (ap 81), .ref (ap 82), .ref (ap 83)])), ((ap 81), .inl (eI E, 6, .inl (vp 81))), ((ap 82), .inl (eI E, 6, .inl (vp 82))), ((ap 83), .inl (eI E, 6, .inl (vp 83))), ((ap 10), .inr (5, [.int (vp 90 0), .ref (ap 91), .ref (ap 92), .ref (ap 93)])), ((ap 91), .inl (eI E, 6, .inl (vp 91))), ((ap 92), .inl (eI E, 6, .inl (vp 92))), ((ap 93), .inl (eI E, 6, .inl (vp 93)))]) (As := [.int 0, .int 1]) (rest := []) (C := RX2) (ci := 2) ⟨hx, hb, hml, hown, hts⟩ (c_X2_readNumber l E H.size qr qx fx ln o27_ps o27_fn o27_fa o27_na cx ck ap 0 1 (by omega) (by omega)) (cwV 2 hts gX2_readCrack_X2_readNumber rfl rfl rfl (by decide +kernel) ⟨Nat.le_of_ble_eq_true rfl, Nat.le_of_ble_eq_true rfl⟩) hE hS hA hP hD [0, 1] [2, 3, 4, 5, 6, 7, 8, 9, 10, 11, 12, 13, 14, 15, 16, 17, 18, 19, 20, 21, 22, 23, 24, 25, 26, 27, 28, 29, 30] rfl rfl (by decide) (by decide) (by decide) [29, 30, 0, 1, 2, 3, 4, 5, 6, 7, 8, 9, 10, 11, 12, 13, 14, 15, 16, 17, 18, 19, 20, 21, 22, 23, 24, 25, 26, 27, 28] (by decide) (fun u => rfl) rfl rfl rfl rfl hl.1 rfl (Nat.le_of_ble_eq_true rfl) dX2_readCrack_34 ⟨Nat.zero_le _, Nat.zero_le _⟩ (fun r34 u34 H locs h34 hP hD hS => ?_)
    obtain ⟨o34_ps, o34_fn, o34_fa, o34_na⟩ := u34
    try dsimp only at h34
    have hf34 := h34.2
    replace h34 := h34.1
    replace hP : va_P (eD E) vwCl (rdL E qr qx fx ln o34_ps o34_fn o34_fa o34_na cx ck ap vp) H := hP
    replace hD : va_D A (rdL E qr qx fx ln o34_ps o34_fn o34_fa o34_na cx ck ap vp) := hD
    have pb34 : 0 ≤ r34.toInt ∧ r34.toInt ≤ 1 := pb_rn h34.1 (by decide) (by decide)
    rw [n_0, n_1] at hf34
    have hs34 := CF.then (s := fun z : Unit × ((Int × Int × Int) × (Int × Int × Int)) => numF fx ln.toInt 0 1 z.2.2.2.1) hs27 hf34 ((okF.chk (by decide)).th (fun _ => (okF.num.th (fun _ => okF.num)))) (fun z hz => by rw [hz.2.2.1])
    refine lv_istore_n (lv' := [(3, .int r34), (2, .int r27), (0, .ref qr), (1, .int wd)]) hx hb dX2_readCrack_37 rfl hl (by decide) rfl (fun ls hl => ?_)
    refine lv_aload_n hx hb dX2_readCrack_38 rfl (lv_at hl 2 rfl) ?_
    refine lv_aload_n hx hb dX2_readCrack_39 rfl (lv_at hl 2 rfl) ?_
    refine va_get (D := eD E) (ci := 2) (v := .ref (ap 0)) (C := RX2) (T := TX2) (N := 9) hx hb hts in_X2 hown hK hP 0 rfl rfl 3 (by decide) lk0 (fun _ h9 => h9) rfl dX2_readCrack_40 ?_
    refine lv_iload_n hx hb dX2_readCrack_43 rfl (lv_at hl 1 rfl) ?_
    refine lv_iload_n hx hb dX2_readCrack_44 rfl (lv_at hl 0 rfl) ?_
    have K53 : ∀  (sd : Int32) (H : Heap) (locs : List Loc) (ls : Array Slot), va_P (eD E) vwCl (rdL E qr qx fx ln o34_ps o34_fn o34_fa o34_na cx ck ap vp) H → va_D A (rdL E qr qx fx ln o34_ps o34_fn o34_fa o34_na cx ck ap vp) → va_S A s.heap H locs → ((r34.toInt = 0 ∧ sd.toInt = 2) ∨ (r34.toInt ≠ 0 ∧ sd.toInt = 3)) → lv_has ls 5 [(0, .ref qr), (1, .int wd), (2, .int r27), (3, .int r34)] → W p l e (headSpec wsX2_readCrack rm_X2_readCrack).room s m ([.ref qr, .int wd] : List Value).toArray below meth c H locs 0 0 Q (F0 m 53 ls [.int sd, .int r27, .ref (ap 0), .ref qr]) := by
      intro sd H locs ls hP hD hS h53_0 hl
      have hx53_0 := h53_0
      clear h53_0
      refine rd_V (As := [.int r27, .int sd]) (rest := [.ref qr]) (C := RX1) (ci := 1) ⟨hx, hb, hml, hown, hts⟩ (c_X1_beside l E A ap vp r27 sd hI (by omega)) (cwV 2 hts gX2_readCrack_X1_beside rfl rfl rfl (by decide +kernel) ⟨Nat.le_of_ble_eq_true rfl, Nat.le_of_ble_eq_true rfl⟩) (hE.kept hS.2.1) (hP.sub (ws' := planL E ap vp) [2, 3, 4, 5, 6, 7, 8, 9, 10, 11, 12, 13, 14, 15, 16, 17, 18, 19, 20, 21, 22, 23, 24, 25, 26, 27, 28, 29, 30] rfl) rfl rfl rfl rfl hl.1 rfl (Nat.le_of_ble_eq_true rfl) dX2_readCrack_53 ⟨Nat.zero_le _, Nat.zero_le _⟩ (fun r53 h53 => ?_)
      have hf53 := h53.2
      replace h53 := h53.1
      obtain ⟨hf53, -⟩ := hf53
      rw [hRp.1.1, hRp.1.2.1] at hf53
      refine lv_iconst (v := (-1)) hx hb dX2_readCrack_56 (by decide) ?_
      have K65 : ∀  (w4 : Int32) (H : Heap) (locs : List Loc) (ls : Array Slot), va_P (eD E) vwCl (rdL E qr qx fx ln o34_ps o34_fn o34_fa o34_na cx ck ap vp) H → va_D A (rdL E qr qx fx ln o34_ps o34_fn o34_fa o34_na cx ck ap vp) → va_S A s.heap H locs → ((w4.toInt = 0 ∧ r53.toInt ≠ -1) ∨ (w4.toInt = 1 ∧ r53.toInt = -1)) → lv_has ls 5 [(0, .ref qr), (1, .int wd), (2, .int r27), (3, .int r34)] → W p l e (headSpec wsX2_readCrack rm_X2_readCrack).room s m ([.ref qr, .int wd] : List Value).toArray below meth c H locs 0 0 Q (F0 m 65 ls [.int w4, .ref qr]) := by
        intro w4 H locs ls hP hD hS h65_0 hl
        have hx65_0 := h65_0
        clear h65_0
        refine lv_iconst (v := 2) hx hb dX2_readCrack_65 (by decide) ?_
        refine lv_aload_n hx hb dX2_readCrack_66 rfl (lv_at hl 0 rfl) ?_
        refine va_get (D := eD E) (ci := 2) (v := .int o34_na) (C := RX2) (T := TX2) (N := 9) hx hb hts in_X2 hown hK hP 0 rfl rfl 6 (by decide) lk3 (fun _ h9 => h9) rfl dX2_readCrack_67 ?_
        refine mt_Vv (w1 := fun (u : Int32 × Int32) => rbL E qr qx fx ln o34_ps u.1 u.2 o34_na cx ck ap) (wf := fun (u : Int32 × Int32) => rdL E qr qx fx ln o34_ps u.1 u.2 o34_na cx ck ap vp) (wr := [((ap 0), .inr (1, [.int (vp 0 0), .int (vp 1 0), .int (vp 2 0), .ref (ap 3), .ref (ap 4), .int (vp 5 0), .ref (ap 6), .ref (ap 7), .ref (ap 8), .ref (ap 9), .ref (ap 10)])), ((ap 3), .inl (eI E, 24, .inl (vp 3))), ((ap 4), .inl (eI E, 24, .inl (vp 4))), ((ap 6), .inl (eM E, 3, .inr (.inr (.inr (.inr (fun i => some (ap (20 + 10 * i)))))))), ((ap 20), .inr (0, [.int (vp 20 0), .int (vp 21 0), .int (vp 22 0), .ref (ap 23), .ref (ap 24)])), ((ap 23), .inl (eI E, 18, .inl (vp 23))), ((ap 24), .inl (eI E, 24, .inl (vp 24))), ((ap 30), .inr (0, [.int (vp 30 0), .int (vp 31 0), .int (vp 32 0), .ref (ap 33), .ref (ap 34)])), ((ap 33), .inl (eI E, 18, .inl (vp 33))), ((ap 34), .inl (eI E, 24, .inl (vp 34))), ((ap 40), .inr (0, [.int (vp 40 0), .int (vp 41 0), .int (vp 42 0), .ref (ap 43), .ref (ap 44)])), ((ap 43), .inl (eI E, 18, .inl (vp 43))), ((ap 44), .inl (eI E, 24, .inl (vp 44))), ((ap 7), .inr (5, [.int (vp 60 0), .ref (ap 61), .ref (ap 62), .ref (ap 63)])), ((ap 61), .inl (eI E, 6, .inl (vp 61))), ((ap 62), .inl (eI E, 6, .inl (vp 62))), ((ap 63), .inl (eI E, 6, .inl (vp 63))), ((ap 8), .inr (5, [.int (vp 70 0), .ref (ap 71), .ref (ap 72), .ref (ap 73)])), ((ap 71), .inl (eI E, 6, .inl (vp 71))), ((ap 72), .inl (eI E, 6, .inl (vp 72))), ((ap 73), .inl (eI E, 6, .inl (vp 73))), ((ap 9), .inr (5, [.int (vp 80 0), .ref (ap 81), .ref (ap 82), .ref (ap 83)])), ((ap 81), .inl (eI E, 6, .inl (vp 81))), ((ap 82), .inl (eI E, 6, .inl (vp 82))), ((ap 83), .inl (eI E, 6, .inl (vp 83))), ((ap 10), .inr (5, [.int (vp 90 0), .ref (ap 91), .ref (ap 92), .ref (ap 93)])), ((ap 91), .inl (eI E, 6, .inl (vp 91))), ((ap 92), .inl (eI E, 6, .inl (vp 92))), ((ap 93), .inl (eI E, 6, .inl (vp 93)))]) (As := [.int w4, .int 2, .int o34_na]) (rest := []) (C := RX2) (ci := 2) ⟨hx, hb, hml, hown, hts⟩ (c_X2_refuseIf l E H.size qr qx fx ln o34_ps o34_fn o34_fa o34_na cx ck ap w4 2 o34_na (by omega)) (cwV 3 hts gX2_readCrack_X2_refuseIf rfl rfl rfl (by decide +kernel) ⟨Nat.le_of_ble_eq_true rfl, Nat.le_of_ble_eq_true rfl⟩) hE hS hA hP hD [0, 1] [2, 3, 4, 5, 6, 7, 8, 9, 10, 11, 12, 13, 14, 15, 16, 17, 18, 19, 20, 21, 22, 23, 24, 25, 26, 27, 28, 29, 30] rfl rfl (by decide) (by decide) (by decide) [29, 30, 0, 1, 2, 3, 4, 5, 6, 7, 8, 9, 10, 11, 12, 13, 14, 15, 16, 17, 18, 19, 20, 21, 22, 23, 24, 25, 26, 27, 28] (by decide) (fun u => rfl) rfl rfl rfl rfl hl.1 rfl (Nat.le_of_ble_eq_true rfl) dX2_readCrack_70 ⟨Nat.zero_le _, Nat.zero_le _⟩ (fun u70 H locs h70 hP hD hS => ?_)
        obtain ⟨o70_fn, o70_fa⟩ := u70
        try dsimp only at h70
        have hf70 := h70.2
        replace h70 := h70.1
        replace hP : va_P (eD E) vwCl (rdL E qr qx fx ln o34_ps o70_fn o70_fa o34_na cx ck ap vp) H := hP
        replace hD : va_D A (rdL E qr qx fx ln o34_ps o70_fn o70_fa o34_na cx ck ap vp) := hD
        rw [n_2] at hf70
        have hk70 : CF (chk (decide ((r34.toInt = 0 ∧ r27.toInt % S 37 0 = S 37 0 - 1) ∨ (r34.toInt ≠ 0 ∧ r27.toInt / S 37 0 = S 38 0 - 1))) 2 o34_na.toInt) o34_fn.toInt o34_fa.toInt o70_fn.toInt o70_fa.toInt (fun _ => True) := CF.chk (fun q => ckB (by obtain ⟨-, -, y, hy, hyo⟩ := hf27.get (okF.num.th (fun _ => okF.num)) (by omega); have hp := place_lt hy; rw [← hyo.1] at hp; have hb := hf53 hp.1 hp.2.2.2; omega)) hf70
        clear hf70 hf27 hf53 hx53_0 hx65_0
        have hs70 := CF.then (s := fun z : (Unit × ((Int × Int × Int) × (Int × Int × Int))) × (Int × Int × Int) => chk (decide ((z.2.1 = 0 ∧ plc (S 37 0) z.1.2 % S 37 0 = S 37 0 - 1) ∨ (z.2.1 ≠ 0 ∧ plc (S 37 0) z.1.2 / S 37 0 = S 38 0 - 1))) 2 z.2.2.2) hs34 hk70 (((okF.chk (by decide)).th (fun _ => (okF.num.th (fun _ => okF.num)))).th (fun _ => okF.num)) (fun z hz => by rw [hz.1.2.1, hz.2.1, hz.2.2.2])
        refine lv_aload_n hx hb dX2_readCrack_73 rfl (lv_at hl 0 rfl) ?_
        refine lv_aload_n hx hb dX2_readCrack_74 rfl (lv_at hl 0 rfl) ?_
        refine va_get (D := eD E) (ci := 2) (v := .ref (ap 0)) (C := RX2) (T := TX2) (N := 9) hx hb hts in_X2 hown hK hP 0 rfl rfl 3 (by decide) lk0 (fun _ h9 => h9) rfl dX2_readCrack_75 ?_
        refine va_get (D := eD E) (ci := 1) (v := .ref (ap 8)) (C := RX1) (T := TX1) (N := 11) hx hb hts in_X1 hown hK hP 2 rfl rfl 8 (by decide) lk1 (fun _ h9 => h9) rfl dX2_readCrack_78 ?_
        refine lv_iload_n hx hb dX2_readCrack_81 rfl (lv_at hl 2 rfl) ?_
        refine lv_iload_n hx hb dX2_readCrack_82 rfl (lv_at hl 3 rfl) ?_
        refine rd_V (As := [.int r27, .int r34]) (rest := [.ref qr]) (C := RX5) (ci := 5) ⟨hx, hb, hml, hown, hts⟩ (c_X5_find l E A (ap 8) (ap 71) (ap 72) (ap 73) (vp 70 0) (vp 71) (vp 72) (vp 73) r27 r34 (by omega)) (cwV 2 hts gX2_readCrack_X5_find rfl rfl rfl (by decide +kernel) ⟨Nat.le_of_ble_eq_true rfl, Nat.le_of_ble_eq_true rfl⟩) (hE.kept hS.2.1) (hP.sub (ws' := sitesL E (ap 8) (ap 71) (ap 72) (ap 73) (vp 70 0) (vp 71) (vp 72) (vp 73)) [19, 20, 21, 22] rfl) rfl rfl rfl rfl hl.1 rfl (Nat.le_of_ble_eq_true rfl) dX2_readCrack_83 ⟨Nat.zero_le _, Nat.zero_le _⟩ (fun r83 h83 => ?_)
        have hf83 := h83.2
        replace h83 := h83.1
        obtain ⟨hf83, -⟩ := hf83
        refine lv_iconst (v := (-1)) hx hb dX2_readCrack_86 (by decide) ?_
        have K95 : ∀  (w5 : Int32) (H : Heap) (locs : List Loc) (ls : Array Slot), va_P (eD E) vwCl (rdL E qr qx fx ln o34_ps o70_fn o70_fa o34_na cx ck ap vp) H → va_D A (rdL E qr qx fx ln o34_ps o70_fn o70_fa o34_na cx ck ap vp) → va_S A s.heap H locs → ((w5.toInt = 0 ∧ r83.toInt = -1) ∨ (w5.toInt = 1 ∧ r83.toInt ≠ -1)) → lv_has ls 5 [(0, .ref qr), (1, .int wd), (2, .int r27), (3, .int r34)] → W p l e (headSpec wsX2_readCrack rm_X2_readCrack).room s m ([.ref qr, .int wd] : List Value).toArray below meth c H locs 0 0 Q (F0 m 95 ls [.int w5, .ref qr]) := by
          intro w5 H locs ls hP hD hS h95_0 hl
          have hx95_0 := h95_0
          clear h95_0
          refine lv_iconst (v := 4) hx hb dX2_readCrack_95 (by decide) ?_
          refine lv_aload_n hx hb dX2_readCrack_96 rfl (lv_at hl 0 rfl) ?_
          refine va_get (D := eD E) (ci := 2) (v := .int o34_na) (C := RX2) (T := TX2) (N := 9) hx hb hts in_X2 hown hK hP 0 rfl rfl 6 (by decide) lk3 (fun _ h9 => h9) rfl dX2_readCrack_97 ?_
          refine mt_Vv (w1 := fun (u : Int32 × Int32) => rbL E qr qx fx ln o34_ps u.1 u.2 o34_na cx ck ap) (wf := fun (u : Int32 × Int32) => rdL E qr qx fx ln o34_ps u.1 u.2 o34_na cx ck ap vp) (wr := [((ap 0), .inr (1, [.int (vp 0 0), .int (vp 1 0), .int (vp 2 0), .ref (ap 3), .ref (ap 4), .int (vp 5 0), .ref (ap 6), .ref (ap 7), .ref (ap 8), .ref (ap 9), .ref (ap 10)])), ((ap 3), .inl (eI E, 24, .inl (vp 3))), ((ap 4), .inl (eI E, 24, .inl (vp 4))), ((ap 6), .inl (eM E, 3, .inr (.inr (.inr (.inr (fun i => some (ap (20 + 10 * i)))))))), ((ap 20), .inr (0, [.int (vp 20 0), .int (vp 21 0), .int (vp 22 0), .ref (ap 23), .ref (ap 24)])), ((ap 23), .inl (eI E, 18, .inl (vp 23))), ((ap 24), .inl (eI E, 24, .inl (vp 24))), ((ap 30), .inr (0, [.int (vp 30 0), .int (vp 31 0), .int (vp 32 0), .ref (ap 33), .ref (ap 34)])), ((ap 33), .inl (eI E, 18, .inl (vp 33))), ((ap 34), .inl (eI E, 24, .inl (vp 34))), ((ap 40), .inr (0, [.int (vp 40 0), .int (vp 41 0), .int (vp 42 0), .ref (ap 43), .ref (ap 44)])), ((ap 43), .inl (eI E, 18, .inl (vp 43))), ((ap 44), .inl (eI E, 24, .inl (vp 44))), ((ap 7), .inr (5, [.int (vp 60 0), .ref (ap 61), .ref (ap 62), .ref (ap 63)])), ((ap 61), .inl (eI E, 6, .inl (vp 61))), ((ap 62), .inl (eI E, 6, .inl (vp 62))), ((ap 63), .inl (eI E, 6, .inl (vp 63))), ((ap 8), .inr (5, [.int (vp 70 0), .ref (ap 71), .ref (ap 72), .ref (ap 73)])), ((ap 71), .inl (eI E, 6, .inl (vp 71))), ((ap 72), .inl (eI E, 6, .inl (vp 72))), ((ap 73), .inl (eI E, 6, .inl (vp 73))), ((ap 9), .inr (5, [.int (vp 80 0), .ref (ap 81), .ref (ap 82), .ref (ap 83)])), ((ap 81), .inl (eI E, 6, .inl (vp 81))), ((ap 82), .inl (eI E, 6, .inl (vp 82))), ((ap 83), .inl (eI E, 6, .inl (vp 83))), ((ap 10), .inr (5, [.int (vp 90 0), .ref (ap 91), .ref (ap 92), .ref (ap 93)])), ((ap 91), .inl (eI E, 6, .inl (vp 91))), ((ap 92), .inl (eI E, 6, .inl (vp 92))), ((ap 93), .inl (eI E, 6, .inl (vp 93)))]) (As := [.int w5, .int 4, .int o34_na]) (rest := []) (C := RX2) (ci := 2) ⟨hx, hb, hml, hown, hts⟩ (c_X2_refuseIf l E H.size qr qx fx ln o34_ps o70_fn o70_fa o34_na cx ck ap w5 4 o34_na (by omega)) (cwV 3 hts gX2_readCrack_X2_refuseIf rfl rfl rfl (by decide +kernel) ⟨Nat.le_of_ble_eq_true rfl, Nat.le_of_ble_eq_true rfl⟩) hE hS hA hP hD [0, 1] [2, 3, 4, 5, 6, 7, 8, 9, 10, 11, 12, 13, 14, 15, 16, 17, 18, 19, 20, 21, 22, 23, 24, 25, 26, 27, 28, 29, 30] rfl rfl (by decide) (by decide) (by decide) [29, 30, 0, 1, 2, 3, 4, 5, 6, 7, 8, 9, 10, 11, 12, 13, 14, 15, 16, 17, 18, 19, 20, 21, 22, 23, 24, 25, 26, 27, 28] (by decide) (fun u => rfl) rfl rfl rfl rfl hl.1 rfl (Nat.le_of_ble_eq_true rfl) dX2_readCrack_100 ⟨Nat.zero_le _, Nat.zero_le _⟩ (fun u100 H locs h100 hP hD hS => ?_)
          obtain ⟨o100_fn, o100_fa⟩ := u100
          try dsimp only at h100
          have hf100 := h100.2
          replace h100 := h100.1
          replace hP : va_P (eD E) vwCl (rdL E qr qx fx ln o34_ps o100_fn o100_fa o34_na cx ck ap vp) H := hP
          replace hD : va_D A (rdL E qr qx fx ln o34_ps o100_fn o100_fa o34_na cx ck ap vp) := hD
          rw [n_4] at hf100
          have hk100 : CF (chk (anyE2 (S 52) (S 53) r27.toInt r34.toInt (S 51 0).toNat) 4 o34_na.toInt) o70_fn.toInt o70_fa.toInt o100_fn.toInt o100_fa.toInt (fun _ => True) := CF.chk (fun _ => ckF hf83 hx95_0 (by rw [hcn]; exact any2_congr _ (fun j hj => ⟨(hRl.2 j (by omega)).1, (hRl.2 j (by omega)).2.1⟩))) hf100
          clear hf100 hf83 hx95_0
          have hs100 := CF.then (s := fun z : ((Unit × ((Int × Int × Int) × (Int × Int × Int))) × (Int × Int × Int)) × Unit => chk (anyE2 (S 52) (S 53) (plc (S 37 0) z.1.1.2) z.1.2.1 (S 51 0).toNat) 4 z.1.2.2.2) hs70 hk100 ((((okF.chk (by decide)).th (fun _ => (okF.num.th (fun _ => okF.num)))).th (fun _ => okF.num)).th (fun _ => (okF.chk (by decide)))) (fun z hz => by rw [hz.1.1.2.1, hz.1.2.1, hz.1.2.2.2])
          refine lv_aload_n hx hb dX2_readCrack_103 rfl (lv_at hl 0 rfl) ?_
          refine lv_iconst (v := 0) hx hb dX2_readCrack_104 (by decide) ?_
          refine lv_bipush (v := 60) hx hb dX2_readCrack_105 (by decide) ?_
          refine mt_Vi (w1 := fun (u : Int32 × Int32 × Int32 × Int32) => rbL E qr qx fx ln u.1 u.2.1 u.2.2.1 u.2.2.2 cx ck ap) (wf := fun (u : Int32 × Int32 × Int32 × Int32) => rdL E qr qx fx ln u.1 u.2.1 u.2.2.1 u.2.2.2 cx ck ap vp) (wr := [((ap 0), .inr (1, [.int (vp 0 0), .int (vp 1 0), .int (vp 2 0), .ref (ap 3), .ref (ap 4), .int (vp 5 0), .ref (ap 6), .ref (ap 7), .ref (ap 8), .ref (ap 9), .ref (ap 10)])), ((ap 3), .inl (eI E, 24, .inl (vp 3))), ((ap 4), .inl (eI E, 24, .inl (vp 4))), ((ap 6), .inl (eM E, 3, .inr (.inr (.inr (.inr (fun i => some (ap (20 + 10 * i)))))))), ((ap 20), .inr (0, [.int (vp 20 0), .int (vp 21 0), .int (vp 22 0), .ref (ap 23), .ref (ap 24)])), ((ap 23), .inl (eI E, 18, .inl (vp 23))), ((ap 24), .inl (eI E, 24, .inl (vp 24))), ((ap 30), .inr (0, [.int (vp 30 0), .int (vp 31 0), .int (vp 32 0), .ref (ap 33), .ref (ap 34)])), ((ap 33), .inl (eI E, 18, .inl (vp 33))), ((ap 34), .inl (eI E, 24, .inl (vp 34))), ((ap 40), .inr (0, [.int (vp 40 0), .int (vp 41 0), .int (vp 42 0), .ref (ap 43), .ref (ap 44)])), ((ap 43), .inl (eI E, 18, .inl (vp 43))), ((ap 44), .inl (eI E, 24, .inl (vp 44))), ((ap 7), .inr (5, [.int (vp 60 0), .ref (ap 61), .ref (ap 62), .ref (ap 63)])), ((ap 61), .inl (eI E, 6, .inl (vp 61))), ((ap 62), .inl (eI E, 6, .inl (vp 62))), ((ap 63), .inl (eI E, 6, .inl (vp 63))), ((ap 8), .inr (5, [.int (vp 70 0), .ref (ap 71), .ref (ap 72), .ref (ap 73)])), ((ap 71), .inl (eI E, 6, .inl (vp 71))), ((ap 72), .inl (eI E, 6, .inl (vp 72))), ((ap 73), .inl (eI E, 6, .inl (vp 73))), ((ap 9), .inr (5, [.int (vp 80 0), .ref (ap 81), .ref (ap 82), .ref (ap 83)])), ((ap 81), .inl (eI E, 6, .inl (vp 81))), ((ap 82), .inl (eI E, 6, .inl (vp 82))), ((ap 83), .inl (eI E, 6, .inl (vp 83))), ((ap 10), .inr (5, [.int (vp 90 0), .ref (ap 91), .ref (ap 92), .ref (ap 93)])), ((ap 91), .inl (eI E, 6, .inl (vp 91))), ((ap 92), .inl (eI E, 6, .inl (vp 92))), ((ap 93), .inl (eI E, 6, .inl (vp 93)))]) (As := [.int 0, .int 60]) (rest := []) (C := RX2) (ci := 2) ⟨hx, hb, hml, hown, hts⟩ (c_X2_readNumber l E H.size qr qx fx ln o34_ps o100_fn o100_fa o34_na cx ck ap 0 60 (by omega) (by omega)) (cwV 2 hts gX2_readCrack_X2_readNumber rfl rfl rfl (by decide +kernel) ⟨Nat.le_of_ble_eq_true rfl, Nat.le_of_ble_eq_true rfl⟩) hE hS hA hP hD [0, 1] [2, 3, 4, 5, 6, 7, 8, 9, 10, 11, 12, 13, 14, 15, 16, 17, 18, 19, 20, 21, 22, 23, 24, 25, 26, 27, 28, 29, 30] rfl rfl (by decide) (by decide) (by decide) [29, 30, 0, 1, 2, 3, 4, 5, 6, 7, 8, 9, 10, 11, 12, 13, 14, 15, 16, 17, 18, 19, 20, 21, 22, 23, 24, 25, 26, 27, 28] (by decide) (fun u => rfl) rfl rfl rfl rfl hl.1 rfl (Nat.le_of_ble_eq_true rfl) dX2_readCrack_107 ⟨Nat.zero_le _, Nat.zero_le _⟩ (fun r107 u107 H locs h107 hP hD hS => ?_)
          obtain ⟨o107_ps, o107_fn, o107_fa, o107_na⟩ := u107
          try dsimp only at h107
          have hf107 := h107.2
          replace h107 := h107.1
          replace hP : va_P (eD E) vwCl (rdL E qr qx fx ln o107_ps o107_fn o107_fa o107_na cx ck ap vp) H := hP
          replace hD : va_D A (rdL E qr qx fx ln o107_ps o107_fn o107_fa o107_na cx ck ap vp) := hD
          have pb107 : 0 ≤ r107.toInt ∧ r107.toInt ≤ 60 := pb_rn h107.1 (by decide) (by decide)
          rw [n_0, n_60] at hf107
          have hs107 := CF.then (s := fun z : (((Unit × ((Int × Int × Int) × (Int × Int × Int))) × (Int × Int × Int)) × Unit) × Unit => numF fx ln.toInt 0 60 z.1.1.2.2.1) hs100 hf107 (((((okF.chk (by decide)).th (fun _ => (okF.num.th (fun _ => okF.num)))).th (fun _ => okF.num)).th (fun _ => (okF.chk (by decide)))).th (fun _ => (okF.chk (by decide)))) (fun z hz => by rw [hz.1.1.2.2.1])
          refine lv_istore (lv' := [(4, .int r107), (0, .ref qr), (1, .int wd), (2, .int r27), (3, .int r34)]) hx hb dX2_readCrack_110 hl (by decide) rfl (fun ls hl => ?_)
          refine lv_aload_n hx hb dX2_readCrack_112 rfl (lv_at hl 1 rfl) ?_
          refine lv_bipush (v := 59) hx hb dX2_readCrack_113 (by decide) ?_
          refine mt_Vv (w1 := fun (u : Int32 × Int32 × Int32) => rbL E qr qx fx ln u.1 u.2.1 u.2.2 o107_na cx ck ap) (wf := fun (u : Int32 × Int32 × Int32) => rdL E qr qx fx ln u.1 u.2.1 u.2.2 o107_na cx ck ap vp) (wr := [((ap 0), .inr (1, [.int (vp 0 0), .int (vp 1 0), .int (vp 2 0), .ref (ap 3), .ref (ap 4), .int (vp 5 0), .ref (ap 6), .ref (ap 7), .ref (ap 8), .ref (ap 9), .ref (ap 10)])), ((ap 3), .inl (eI E, 24, .inl (vp 3))), ((ap 4), .inl (eI E, 24, .inl (vp 4))), ((ap 6), .inl (eM E, 3, .inr (.inr (.inr (.inr (fun i => some (ap (20 + 10 * i)))))))), ((ap 20), .inr (0, [.int (vp 20 0), .int (vp 21 0), .int (vp 22 0), .ref (ap 23), .ref (ap 24)])), ((ap 23), .inl (eI E, 18, .inl (vp 23))), ((ap 24), .inl (eI E, 24, .inl (vp 24))), ((ap 30), .inr (0, [.int (vp 30 0), .int (vp 31 0), .int (vp 32 0), .ref (ap 33), .ref (ap 34)])), ((ap 33), .inl (eI E, 18, .inl (vp 33))), ((ap 34), .inl (eI E, 24, .inl (vp 34))), ((ap 40), .inr (0, [.int (vp 40 0), .int (vp 41 0), .int (vp 42 0), .ref (ap 43), .ref (ap 44)])), ((ap 43), .inl (eI E, 18, .inl (vp 43))), ((ap 44), .inl (eI E, 24, .inl (vp 44))), ((ap 7), .inr (5, [.int (vp 60 0), .ref (ap 61), .ref (ap 62), .ref (ap 63)])), ((ap 61), .inl (eI E, 6, .inl (vp 61))), ((ap 62), .inl (eI E, 6, .inl (vp 62))), ((ap 63), .inl (eI E, 6, .inl (vp 63))), ((ap 8), .inr (5, [.int (vp 70 0), .ref (ap 71), .ref (ap 72), .ref (ap 73)])), ((ap 71), .inl (eI E, 6, .inl (vp 71))), ((ap 72), .inl (eI E, 6, .inl (vp 72))), ((ap 73), .inl (eI E, 6, .inl (vp 73))), ((ap 9), .inr (5, [.int (vp 80 0), .ref (ap 81), .ref (ap 82), .ref (ap 83)])), ((ap 81), .inl (eI E, 6, .inl (vp 81))), ((ap 82), .inl (eI E, 6, .inl (vp 82))), ((ap 83), .inl (eI E, 6, .inl (vp 83))), ((ap 10), .inr (5, [.int (vp 90 0), .ref (ap 91), .ref (ap 92), .ref (ap 93)])), ((ap 91), .inl (eI E, 6, .inl (vp 91))), ((ap 92), .inl (eI E, 6, .inl (vp 92))), ((ap 93), .inl (eI E, 6, .inl (vp 93)))]) (As := [.int 59]) (rest := []) (C := RX2) (ci := 2) ⟨hx, hb, hml, hown, hts⟩ (c_X2_readSign l E H.size qr qx fx ln o107_ps o107_fn o107_fa o107_na cx ck ap 59 (by omega) (by omega)) (cwV 1 hts gX2_readCrack_X2_readSign rfl rfl rfl (by decide +kernel) ⟨Nat.le_of_ble_eq_true rfl, Nat.le_of_ble_eq_true rfl⟩) hE hS hA hP hD [0, 1] [2, 3, 4, 5, 6, 7, 8, 9, 10, 11, 12, 13, 14, 15, 16, 17, 18, 19, 20, 21, 22, 23, 24, 25, 26, 27, 28, 29, 30] rfl rfl (by decide) (by decide) (by decide) [29, 30, 0, 1, 2, 3, 4, 5, 6, 7, 8, 9, 10, 11, 12, 13, 14, 15, 16, 17, 18, 19, 20, 21, 22, 23, 24, 25, 26, 27, 28] (by decide) (fun u => rfl) rfl rfl rfl rfl hl.1 rfl (Nat.le_of_ble_eq_true rfl) dX2_readCrack_115 ⟨Nat.zero_le _, Nat.zero_le _⟩ (fun u115 H locs h115 hP hD hS => ?_)
          obtain ⟨o115_ps, o115_fn, o115_fa⟩ := u115
          try dsimp only at h115
          have hf115 := h115.2
          replace h115 := h115.1
          replace hP : va_P (eD E) vwCl (rdL E qr qx fx ln o115_ps o115_fn o115_fa o107_na cx ck ap vp) H := hP
          replace hD : va_D A (rdL E qr qx fx ln o115_ps o115_fn o115_fa o107_na cx ck ap vp) := hD
          rw [n_59] at hf115
          have hs115 := CF.then (s := fun z : ((((Unit × ((Int × Int × Int) × (Int × Int × Int))) × (Int × Int × Int)) × Unit) × Unit) × (Int × Int × Int) => sgnF fx ln.toInt 59 z.2.2.1) hs107 hf115 ((((((okF.chk (by decide)).th (fun _ => (okF.num.th (fun _ => okF.num)))).th (fun _ => okF.num)).th (fun _ => (okF.chk (by decide)))).th (fun _ => (okF.chk (by decide)))).th (fun _ => okF.num)) (fun z hz => by rw [hz.2.2.1])
          refine lv_aload_n hx hb dX2_readCrack_118 rfl (lv_at hl 1 rfl) ?_
          refine lv_aload_n hx hb dX2_readCrack_119 rfl (lv_at hl 1 rfl) ?_
          refine va_get (D := eD E) (ci := 2) (v := .ref (ap 0)) (C := RX2) (T := TX2) (N := 9) hx hb hts in_X2 hown hK hP 0 rfl rfl 3 (by decide) lk0 (fun _ h9 => h9) rfl dX2_readCrack_120 ?_
          refine va_get (D := eD E) (ci := 1) (v := .ref (ap 8)) (C := RX1) (T := TX1) (N := 11) hx hb hts in_X1 hown hK hP 2 rfl rfl 8 (by decide) lk1 (fun _ h9 => h9) rfl dX2_readCrack_123 ?_
          refine lv_iload_n hx hb dX2_readCrack_126 rfl (lv_at hl 3 rfl) ?_
          refine lv_iload_n hx hb dX2_readCrack_127 rfl (lv_at hl 4 rfl) ?_
          refine lv_iload hx hb dX2_readCrack_128 (lv_at hl 0 rfl) ?_
          refine lv_bipush (v := 30) hx hb dX2_readCrack_130 (by decide) ?_
          refine lv_isub hx hb dX2_readCrack_132 ?_
          refine lv_topi (fun x132 e132 => ?_)
          have t132 := i_sub e132 (by omega)
          refine mt_Vv (w1 := fun (u : Int32 × (Nat → Int32) × (Nat → Int32) × (Nat → Int32)) => adL E qr qx ln o115_ps o115_fn o115_fa o107_na cx ck ap (ap 8) (ap 71) (ap 72) (ap 73) u.1 u.2.1 u.2.2.1 u.2.2.2) (wf := fun (u : Int32 × (Nat → Int32) × (Nat → Int32) × (Nat → Int32)) => rdL E qr qx fx ln o115_ps o115_fn o115_fa o107_na cx ck ap (up3 (up3 (up3 (up2 vp 70 0 u.1) 71 u.2.1) 72 u.2.2.1) 73 u.2.2.2)) (wr := [(qx, .inl (eI E, 250, .inl fx)), ((ap 0), .inr (1, [.int (vp 0 0), .int (vp 1 0), .int (vp 2 0), .ref (ap 3), .ref (ap 4), .int (vp 5 0), .ref (ap 6), .ref (ap 7), .ref (ap 8), .ref (ap 9), .ref (ap 10)])), ((ap 3), .inl (eI E, 24, .inl (vp 3))), ((ap 4), .inl (eI E, 24, .inl (vp 4))), ((ap 6), .inl (eM E, 3, .inr (.inr (.inr (.inr (fun i => some (ap (20 + 10 * i)))))))), ((ap 20), .inr (0, [.int (vp 20 0), .int (vp 21 0), .int (vp 22 0), .ref (ap 23), .ref (ap 24)])), ((ap 23), .inl (eI E, 18, .inl (vp 23))), ((ap 24), .inl (eI E, 24, .inl (vp 24))), ((ap 30), .inr (0, [.int (vp 30 0), .int (vp 31 0), .int (vp 32 0), .ref (ap 33), .ref (ap 34)])), ((ap 33), .inl (eI E, 18, .inl (vp 33))), ((ap 34), .inl (eI E, 24, .inl (vp 34))), ((ap 40), .inr (0, [.int (vp 40 0), .int (vp 41 0), .int (vp 42 0), .ref (ap 43), .ref (ap 44)])), ((ap 43), .inl (eI E, 18, .inl (vp 43))), ((ap 44), .inl (eI E, 24, .inl (vp 44))), ((ap 7), .inr (5, [.int (vp 60 0), .ref (ap 61), .ref (ap 62), .ref (ap 63)])), ((ap 61), .inl (eI E, 6, .inl (vp 61))), ((ap 62), .inl (eI E, 6, .inl (vp 62))), ((ap 63), .inl (eI E, 6, .inl (vp 63))), ((ap 9), .inr (5, [.int (vp 80 0), .ref (ap 81), .ref (ap 82), .ref (ap 83)])), ((ap 81), .inl (eI E, 6, .inl (vp 81))), ((ap 82), .inl (eI E, 6, .inl (vp 82))), ((ap 83), .inl (eI E, 6, .inl (vp 83))), ((ap 10), .inr (5, [.int (vp 90 0), .ref (ap 91), .ref (ap 92), .ref (ap 93)])), ((ap 91), .inl (eI E, 6, .inl (vp 91))), ((ap 92), .inl (eI E, 6, .inl (vp 92))), ((ap 93), .inl (eI E, 6, .inl (vp 93)))]) (As := [.ref (ap 8), .int r27, .int r34, .int x132]) (rest := []) (C := RX2) (ci := 2) ⟨hx, hb, hml, hown, hts⟩ (c_X2_addTo l E H.size qr qx ln o115_ps o115_fn o115_fa o107_na cx ck ap (ap 8) (ap 71) (ap 72) (ap 73) (vp 70 0) (vp 71) (vp 72) (vp 73) r27 r34 x132 hs1 (by omega)) (cwV 4 hts gX2_readCrack_X2_addTo rfl rfl rfl (by decide +kernel) ⟨Nat.le_of_ble_eq_true rfl, Nat.le_of_ble_eq_true rfl⟩) hE hS hA hP hD [0, 19, 20, 21, 22] [1, 2, 3, 4, 5, 6, 7, 8, 9, 10, 11, 12, 13, 14, 15, 16, 17, 18, 23, 24, 25, 26, 27, 28, 29, 30] rfl rfl (by decide) (by decide) (by decide) [26, 0, 1, 2, 3, 4, 5, 6, 7, 8, 9, 10, 11, 12, 13, 14, 15, 16, 17, 27, 28, 29, 30, 18, 19, 20, 21, 22, 23, 24, 25] (by decide) (fun u => rfl) rfl rfl rfl rfl hl.1 rfl (Nat.le_of_ble_eq_true rfl) dX2_readCrack_133 ⟨Nat.zero_le _, Nat.zero_le _⟩ (fun u133 H locs h133 hP hD hS => ?_)
          obtain ⟨o133_n, o133_f1, o133_f2, o133_f3⟩ := u133
          try dsimp only at h133
          have hf133 := h133.2
          replace h133 := h133.1
          replace hP : va_P (eD E) vwCl (rdL E qr qx fx ln o115_ps o115_fn o115_fa o107_na cx ck ap (up3 (up3 (up3 (up2 vp 70 0 o133_n) 71 o133_f1) 72 o133_f2) 73 o133_f3)) H := hP
          replace hD : va_D A (rdL E qr qx fx ln o115_ps o115_fn o115_fa o107_na cx ck ap (up3 (up3 (up3 (up2 vp 70 0 o133_n) 71 o133_f1) 72 o133_f2) 73 o133_f3)) := hD
          generalize hv133 : up3 (up3 (up3 (up2 vp 70 0 o133_n) 71 o133_f1) 72 o133_f2) 73 o133_f3 = vp_133 at hP hD
          have hI2 : PlanI vp_133 := by rw [← hv133]; exact pl_s1 hI h133.1
          subst hQ
          exact W.vret hx hb hr (fun t ht hW => ⟨⟨(o115_ps, o115_fn, o115_fa, o107_na, vp_133), rfl, (show (PlanI vp_133 ∧ (ps.toInt ≤ o115_ps.toInt ∧ o115_ps.toInt ≤ ln.toInt + 1) ∧ (o115_fn.toInt ≠ 0 ∨ o115_ps.toInt ≤ ln.toInt)) ∧ (CF (crackF fx ln.toInt S wd.toInt ps.toInt) fn.toInt fa.toInt o115_fn.toInt o115_fa.toInt (fun z => o115_ps.toInt = z.2 ∧ Rp (crackS S (plc (S 37 0) z.1.1.1.1.1.2) z.1.1.1.1.2.1 z.1.2.1) vp_133 cx ck)) from ⟨⟨hI2, ⟨Int.le_trans (Int.le_trans (Int.le_trans h27.2.1 h34.2.1) h107.2.1) h115.1, h115.2.1⟩, h115.2.2.1⟩, (hs115.mono2 (fun q1 q2 z hzz hz => ⟨hz.2, by have hq6 := chk_no (th_get (th_get (th_get (th_get (th_get (th_get hzz).1).1).1).1).1).1; have hl6 : (vp 70 0).toInt < 6 := (by rw [hcn]; exact Int.not_le.mp hq6); rw [← hv133, ← hz.1.1.1.1.1.2.1, ← hz.1.1.1.1.2.1, ← hz.1.2.1]; exact rp_crack hRp hs1.1.1 (hf133.1 q2 hl6).1 (hf133.1 q2 hl6).2.1 (hf133.1 q2 hl6).2.2.1 (hf133.1 q2 hl6).2.2.2 (t132.trans (by rw [n_30]))⟩))⟩), by rw [ht]; exact hP, hD⟩, hS.F ht⟩) hS.2.2 dX2_readCrack_136
        refine lv_icmp_eq (tgt := 94) hx hb dX2_readCrack_87 (by decide) (fun c87 => ?_) (fun c87 => ?_)
        · have c87_ := i_eq c87
          clear h83
          refine lv_iconst (v := 0) hx hb dX2_readCrack_94 (by decide) ?_
          exact K95 0 _ _ ls hP hD hS (Or.inl ⟨by decide, by omega⟩) (lv_sub hl [0, 1, 2, 3] rfl)
        · have c87_ := i_ne c87
          replace h83 := cm_n h83 c87_
          clear c87_
          refine lv_iconst (v := 1) hx hb dX2_readCrack_90 (by decide) ?_
          refine lv_goto (tgt := 95) hx hb dX2_readCrack_91 (by decide) ?_
          exact K95 1 _ _ ls hP hD hS (Or.inr ⟨by decide, by omega⟩) (lv_sub hl [0, 1, 2, 3] rfl)
      refine lv_icmp_ne (tgt := 64) hx hb dX2_readCrack_57 (by decide) (fun c57 => ?_) (fun c57 => ?_)
      · have c57_ := i_ne c57
        replace h53 := cm_n h53 c57_
        clear c57_
        refine lv_iconst (v := 0) hx hb dX2_readCrack_64 (by decide) ?_
        exact K65 0 _ _ ls hP hD hS (Or.inl ⟨by decide, by omega⟩) (lv_sub hl [0, 1, 2, 3] rfl)
      · have c57_ := i_eq c57
        clear h53
        refine lv_iconst (v := 1) hx hb dX2_readCrack_60 (by decide) ?_
        refine lv_goto (tgt := 65) hx hb dX2_readCrack_61 (by decide) ?_
        exact K65 1 _ _ ls hP hD hS (Or.inr ⟨by decide, by omega⟩) (lv_sub hl [0, 1, 2, 3] rfl)
    refine lv_if_ne (tgt := 52) hx hb dX2_readCrack_45 (by decide) (fun c45 => ?_) (fun c45 => ?_)
    · have c45_ := i_ne c45
      refine lv_iconst (v := 3) hx hb dX2_readCrack_52 (by decide) ?_
      exact K53 3 _ _ ls hP hD hS (Or.inr ⟨by omega, by decide⟩) (lv_sub hl [2, 3, 1, 0] rfl)
    · have c45_ := i_eq c45
      refine lv_iconst (v := 2) hx hb dX2_readCrack_48 (by decide) ?_
      refine lv_goto (tgt := 53) hx hb dX2_readCrack_49 (by decide) ?_
      exact K53 2 _ _ ls hP hD hS (Or.inl ⟨by omega, by decide⟩) (lv_sub hl [2, 3, 1, 0] rfl)
  refine lv_icmp_lt (tgt := 20) hx hb dX2_readCrack_13 (by decide) (fun c13 => ?_) (fun c13 => ?_)
  · have c13_ := i_lt c13
    refine lv_iconst (v := 0) hx hb dX2_readCrack_20 (by decide) ?_
    exact K21 0 _ _ ls hP hD hS (Or.inl ⟨by decide, by omega⟩) (lv_sub hl [0, 1] rfl)
  · have c13_ := i_nlt c13
    refine lv_iconst (v := 1) hx hb dX2_readCrack_16 (by decide) ?_
    refine lv_goto (tgt := 21) hx hb dX2_readCrack_17 (by decide) ?_
    exact K21 1 _ _ ls hP hD hS (Or.inr ⟨by decide, by omega⟩) (lv_sub hl [0, 1] rfl)
