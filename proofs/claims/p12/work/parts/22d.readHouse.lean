section
def rm_X2_readHouse : Room := { frames := 3, cells := 0, slots := 0, locals := 69 }
set_option maxHeartbeats 4000000 in
set_option maxRecDepth 100000 in
theorem c_X2_readHouse (l : Launch) (E : Ev) (sz : Nat) (qr : Nat) (qx : Nat) (fx : Nat → Int32) (ln : Int32) (ps : Int32) (fn : Int32) (fa : Int32) (na : Int32) (cx : Int32) (ck : Int32) (ap : Nat → Nat) (vp : Vf) (wd : Int32) (S : St0) (hln : 0 ≤ ln.toInt ∧ ln.toInt ≤ 250) (hps : 0 ≤ ps.toInt ∧ ps.toInt ≤ ln.toInt) (hI : PlanI vp) (hRp : Rp S vp cx ck) : Met l yX2_readHouse wsX2_readHouse rm_X2_readHouse (MtP E sz [.ref qr, .int wd] (rdL E qr qx fx ln ps fn fa na cx ck ap vp)) (va_Qv (fun (u : Int32 × Int32 × Int32 × Int32 × Vf) => (PlanI u.2.2.2.2 ∧ (ps.toInt ≤ u.1.toInt ∧ u.1.toInt ≤ ln.toInt + 1) ∧ (u.2.1.toInt ≠ 0 ∨ u.1.toInt ≤ ln.toInt)) ∧ (CF (houseF fx ln.toInt S wd.toInt ps.toInt) fn.toInt fa.toInt u.2.1.toInt u.2.2.1.toInt (fun z => u.1.toInt = z.2 ∧ Rp (houseS S (plc (S 37 0) z.1.1.1.2) z.1.2.1) u.2.2.2.2 cx ck))) (MtB E (va_A (rdL E qr qx fx ln ps fn fa na cx ck ap vp) sz) (fun u => rdL E qr qx fx ln u.1 u.2.1 u.2.2.1 u.2.2.2.1 cx ck ap u.2.2.2.2)) (va_A (rdL E qr qx fx ln ps fn fa na cx ck ap vp) sz)) 0 0 (va_A (rdL E qr qx fx ln ps fn fa na cx ck ap vp) sz) := by
  refine Met.ofW (cc := cX2_readHouse) (maxL := 4) (ret := none) (by decide) rfl ?_
  intro p e s m args below meth c s₁ B hml hv
  obtain ⟨rfl, hsz, hE, hP, hD0⟩ := hv
  subst hsz
  have hD := hD0.self (sz := s.heap.size)
  generalize hAe : va_A (rdL E qr qx fx ln ps fn fa na cx ck ap vp) s.heap.size = A at hD hE ⊢
  have hA : ∀ q : Nat, s.heap.size ≤ q → A q := fun q h => by rw [← hAe]; exact Or.inr h
  have hS : va_S A s.heap s.heap [] := va_S.rf
  have hx := B.exec
  have hb := B.bytes
  have hr := B.returns
  have hts := atoms_spec (ws := wsX2_readHouse) B.pre
  have hown : s.vm.findClass RX2 = some m.cls := findClass_of_methodNamed B.named
  have hlocks := B.notSynchronized
  have hK := hE.1
  have in_X2 : ∀ w ∈ u_ws RX2 TX2 9, w ∈ wsX2_readHouse := fun w h => List.mem_cons_of_mem _ (List.mem_append_left _ (List.mem_append_left _ (List.mem_append_right _ h)))
  have in_X1 : ∀ w ∈ u_ws RX1 TX1 11, w ∈ wsX2_readHouse := fun w h => List.mem_cons_of_mem _ (List.mem_append_left _ (List.mem_append_right _ h))
  have in_X5 : ∀ w ∈ u_ws RX5 TX5 4, w ∈ wsX2_readHouse := fun w h => List.mem_cons_of_mem _ (List.mem_append_right _ h)
  have lk0 := hts (.fieldLink RX2 28 "TidedGround$Reader" "plan" "LTidedGround$Plan;") (List.mem_of_getElem? (i := 1) rfl)
  have lk1 := hts (.fieldLink RX2 135 "TidedGround$Plan" "houses" "LTidedGround$Sites;") (List.mem_of_getElem? (i := 2) rfl)
  have lk2 := hts (.fieldLink RX2 139 "TidedGround$Sites" "count" "I") (List.mem_of_getElem? (i := 3) rfl)
  have lk3 := hts (.fieldLink RX2 87 "TidedGround$Reader" "numberAt" "I") (List.mem_of_getElem? (i := 4) rfl)
  have n_0 : (0 : Int32).toInt = 0 := by decide
  have n_1 : (1 : Int32).toInt = 1 := by decide
  have n_3 : (3 : Int32).toInt = 3 := by decide
  have n_4 : (4 : Int32).toInt = 4 := by decide
  have n_6 : (6 : Int32).toInt = 6 := by decide
  have n_59 : (59 : Int32).toInt = 59 := by decide
  have n_99 : (99 : Int32).toInt = 99 := by decide
  have hl := lv_entry ([.ref qr, .int wd]) (n := 4) (Nat.le_of_ble_eq_true rfl)
  rw [lg_entry_eq]
  generalize (lg_sl ([.ref qr, .int wd]) ++ List.replicate (4 - (lg_sl ([.ref qr, .int wd])).length) Slot.unset).toArray = ls at hl ⊢
  have hl : lv_has ls 4 [(0, .ref qr), (1, .int wd)] := hl
  refine W_abs (fun Q hQ => ?_)
  obtain ⟨hg, hmc, hm0, hm1, hm2, hs0, hs1, hs2, hs3⟩ := id hI
  obtain ⟨hg1, hg2, hg3, hg4⟩ := id hg
  have hz0 := hm0.1
  have hz1 := hm1.1
  have hz2 := hm2.1
  have hc0 := hs0.1
  have hc1 := hs1.1
  have hc2 := hs2.1
  have hc3 := hs3.1
  have hg5 : 0 ≤ (vp 2 0).toInt := by rw [hg3]; exact Int.mul_nonneg hg1.1 hg2.1
  have hRl := hRp.2.2.2.1
  have hcn := hRl.1
  refine lv_aload_n hx hb dX2_readHouse_0 rfl (lv_at hl 0 rfl) ?_
  refine lv_aload_n hx hb dX2_readHouse_1 rfl (lv_at hl 0 rfl) ?_
  refine va_get (D := eD E) (ci := 2) (v := .ref (ap 0)) (C := RX2) (T := TX2) (N := 9) hx hb hts in_X2 hown hK hP 0 rfl rfl 3 (by decide) lk0 (fun _ h9 => h9) rfl dX2_readHouse_2 ?_
  refine va_get (D := eD E) (ci := 1) (v := .ref (ap 7)) (C := RX1) (T := TX1) (N := 11) hx hb hts in_X1 hown hK hP 2 rfl rfl 7 (by decide) lk1 (fun _ h9 => h9) rfl dX2_readHouse_5 ?_
  refine va_get (D := eD E) (ci := 5) (v := .int (vp 60 0)) (C := RX5) (T := TX5) (N := 4) hx hb hts in_X5 hown hK hP 15 rfl rfl 0 (by decide) lk2 (fun _ h9 => h9) rfl dX2_readHouse_8 ?_
  refine lv_bipush (v := 6) hx hb dX2_readHouse_11 (by decide) ?_
  have K21 : ∀  (w : Int32) (H : Heap) (locs : List Loc) (ls : Array Slot), va_P (eD E) vwCl (rdL E qr qx fx ln ps fn fa na cx ck ap vp) H → va_D A (rdL E qr qx fx ln ps fn fa na cx ck ap vp) → va_S A s.heap H locs → ((w.toInt = 0 ∧ (vp 60 0).toInt < 6) ∨ (w.toInt = 1 ∧ 6 ≤ (vp 60 0).toInt)) → lv_has ls 4 [(0, .ref qr), (1, .int wd)] → W p l e (headSpec wsX2_readHouse rm_X2_readHouse).room s m ([.ref qr, .int wd] : List Value).toArray below meth c H locs 0 0 Q (F0 m 21 ls [.int w, .ref qr]) := by
    intro w H locs ls hP hD hS h21_0 hl
    have hx21_0 := h21_0
    clear h21_0
    refine lv_iconst (v := 3) hx hb dX2_readHouse_21 (by decide) ?_
    refine lv_iload_n hx hb dX2_readHouse_22 rfl (lv_at hl 1 rfl) ?_
    refine mt_Vv (w1 := fun (u : Int32 × Int32) => rbL E qr qx fx ln ps u.1 u.2 na cx ck ap) (wf := fun (u : Int32 × Int32) => rdL E qr qx fx ln ps u.1 u.2 na cx ck ap vp) (wr := [((ap 0), .inr (1, [.int (vp 0 0), .int (vp 1 0), .int (vp 2 0), .ref (ap 3), .ref (ap 4), .int (vp 5 0), .ref (ap 6), .ref (ap 7), .ref (ap 8), .ref (ap 9), .ref (ap 10)])), ((ap 3), .inl (eI E, 24, .inl (vp 3))), ((ap 4), .inl (eI E, 24, .inl (vp 4))), ((ap 6), .inl (eM E, 3, .inr (.inr (.inr (.inr (fun i => some (ap (20 + 10 * i)))))))), ((ap 20), .inr (0, [.int (vp 20 0), .int (vp 21 0), .int (vp 22 0), .ref (ap 23), .ref (ap 24)])), ((ap 23), .inl (eI E, 18, .inl (vp 23))), ((ap 24), .inl (eI E, 24, .inl (vp 24))), ((ap 30), .inr (0, [.int (vp 30 0), .int (vp 31 0), .int (vp 32 0), .ref (ap 33), .ref (ap 34)])), ((ap 33), .inl (eI E, 18, .inl (vp 33))), ((ap 34), .inl (eI E, 24, .inl (vp 34))), ((ap 40), .inr (0, [.int (vp 40 0), .int (vp 41 0), .int (vp 42 0), .ref (ap 43), .ref (ap 44)])), ((ap 43), .inl (eI E, 18, .inl (vp 43))), ((ap 44), .inl (eI E, 24, .inl (vp 44))), ((ap 7), .inr (5, [.int (vp 60 0), .ref (ap 61), .ref (ap 62), .ref (ap 63)])), ((ap 61), .inl (eI E, 6, .inl (vp 61))), ((ap 62), .inl (eI E, 6, .inl (vp 62))), ((ap 63), .inl (eI E, 6, .inl (vp 63))), ((ap 8), .inr (5, [.int (vp 70 0), .ref (ap 71), .ref (ap 72), .ref (ap 73)])), ((ap 71), .inl (eI E, 6, .inl (vp 71))), ((ap 72), .inl (eI E, 6, .inl (vp 72))), ((ap 73), .inl (eI E, 6, .inl (vp 73))), ((ap 9), .inr (5, [.int (vp 80 0), .ref (ap 81), .ref (ap 82), .ref (ap 83)])), ((ap 81), .inl (eI E, 6, .inl (vp 81))), ((ap 82), .inl (eI E, 6, .inl (vp 82))), ((ap 83), .inl (eI E, 6, .inl (vp 83))), ((ap 10), .inr (5, [.int (vp 90 0), .ref (ap 91), .ref (ap 92), .ref (ap 93)])), ((ap 91), .inl (eI E, 6, .inl (vp 91))), ((ap 92), .inl (eI E, 6, .inl (vp 92))), ((ap 93), .inl (eI E, 6, .inl (vp 93)))]) (As := [.int w, .int 3, .int wd]) (rest := []) (C := RX2) (ci := 2) ⟨hx, hb, hml, hown, hts⟩ (c_X2_refuseIf l E H.size qr qx fx ln ps fn fa na cx ck ap w 3 wd (by omega)) (cwV 3 hts gX2_readHouse_X2_refuseIf rfl rfl rfl (by decide +kernel) ⟨Nat.le_of_ble_eq_true rfl, Nat.le_of_ble_eq_true rfl⟩) hE hS hA hP hD [0, 1] [2, 3, 4, 5, 6, 7, 8, 9, 10, 11, 12, 13, 14, 15, 16, 17, 18, 19, 20, 21, 22, 23, 24, 25, 26, 27, 28, 29, 30] rfl rfl (by decide) (by decide) (by decide) [29, 30, 0, 1, 2, 3, 4, 5, 6, 7, 8, 9, 10, 11, 12, 13, 14, 15, 16, 17, 18, 19, 20, 21, 22, 23, 24, 25, 26, 27, 28] (by decide) (fun u => rfl) rfl rfl rfl rfl hl.1 rfl (Nat.le_of_ble_eq_true rfl) dX2_readHouse_23 ⟨Nat.zero_le _, Nat.zero_le _⟩ (fun u23 H locs h23 hP hD hS => ?_)
    obtain ⟨o23_fn, o23_fa⟩ := u23
    try dsimp only at h23
    have hf23 := h23.2
    replace h23 := h23.1
    replace hP : va_P (eD E) vwCl (rdL E qr qx fx ln ps o23_fn o23_fa na cx ck ap vp) H := hP
    replace hD : va_D A (rdL E qr qx fx ln ps o23_fn o23_fa na cx ck ap vp) := hD
    rw [n_3] at hf23
    have hk23 : CF (chk (decide (6 ≤ S 48 0)) 3 wd.toInt) fn.toInt fa.toInt o23_fn.toInt o23_fa.toInt (fun _ => True) := CF.chk (fun _ => ckB (by omega)) hf23
    clear hf23 hx21_0
    refine lv_aload_n hx hb dX2_readHouse_26 rfl (lv_at hl 0 rfl) ?_
    refine mt_Vi (w1 := fun (u : Int32 × Int32 × Int32 × Int32) => rdL E qr qx fx ln u.1 u.2.1 u.2.2.1 u.2.2.2 cx ck ap vp) (wf := fun (u : Int32 × Int32 × Int32 × Int32) => rdL E qr qx fx ln u.1 u.2.1 u.2.2.1 u.2.2.2 cx ck ap vp) (wr := []) (As := []) (rest := []) (C := RX2) (ci := 2) ⟨hx, hb, hml, hown, hts⟩ (c_X2_readPlace l E H.size qr qx fx ln ps o23_fn o23_fa na cx ck ap vp (by omega) (by omega) hI) (cwV 0 hts gX2_readHouse_X2_readPlace rfl rfl rfl (by decide +kernel) ⟨Nat.le_of_ble_eq_true rfl, Nat.le_of_ble_eq_true rfl⟩) hE hS hA hP hD [0, 1, 2, 3, 4, 5, 6, 7, 8, 9, 10, 11, 12, 13, 14, 15, 16, 17, 18, 19, 20, 21, 22, 23, 24, 25, 26, 27, 28, 29, 30] [] rfl rfl (by decide) (by decide) (by decide) [0, 1, 2, 3, 4, 5, 6, 7, 8, 9, 10, 11, 12, 13, 14, 15, 16, 17, 18, 19, 20, 21, 22, 23, 24, 25, 26, 27, 28, 29, 30] (by decide) (fun u => rfl) rfl rfl rfl rfl hl.1 rfl (Nat.le_of_ble_eq_true rfl) dX2_readHouse_27 ⟨Nat.zero_le _, Nat.zero_le _⟩ (fun r27 u27 H locs h27 hP hD hS => ?_)
    obtain ⟨o27_ps, o27_fn, o27_fa, o27_na⟩ := u27
    try dsimp only at h27
    have hf27 := h27.2
    replace h27 := h27.1
    replace hP : va_P (eD E) vwCl (rdL E qr qx fx ln o27_ps o27_fn o27_fa o27_na cx ck ap vp) H := hP
    replace hD : va_D A (rdL E qr qx fx ln o27_ps o27_fn o27_fa o27_na cx ck ap vp) := hD
    rw [hRp.1.1, hRp.1.2.1] at hf27
    have hs27 := CF.then (s := fun _ : Unit => placeF fx ln.toInt (S 37 0) (S 38 0) ps.toInt) hk23 hf27 (okF.chk (by decide)) (fun _ _ => rfl)
    refine lv_istore_n (lv' := [(2, .int r27), (0, .ref qr), (1, .int wd)]) hx hb dX2_readHouse_30 rfl hl (by decide) rfl (fun ls hl => ?_)
    refine lv_aload_n hx hb dX2_readHouse_31 rfl (lv_at hl 1 rfl) ?_
    refine lv_aload_n hx hb dX2_readHouse_32 rfl (lv_at hl 1 rfl) ?_
    refine va_get (D := eD E) (ci := 2) (v := .ref (ap 0)) (C := RX2) (T := TX2) (N := 9) hx hb hts in_X2 hown hK hP 0 rfl rfl 3 (by decide) lk0 (fun _ h9 => h9) rfl dX2_readHouse_33 ?_
    refine va_get (D := eD E) (ci := 1) (v := .ref (ap 7)) (C := RX1) (T := TX1) (N := 11) hx hb hts in_X1 hown hK hP 2 rfl rfl 7 (by decide) lk1 (fun _ h9 => h9) rfl dX2_readHouse_36 ?_
    refine lv_iload_n hx hb dX2_readHouse_39 rfl (lv_at hl 0 rfl) ?_
    refine rd_V (As := [.int r27]) (rest := [.ref qr]) (C := RX5) (ci := 5) ⟨hx, hb, hml, hown, hts⟩ (c_X5_stands l E A (ap 7) (ap 61) (ap 62) (ap 63) (vp 60 0) (vp 61) (vp 62) (vp 63) r27 (by omega)) (cwV 1 hts gX2_readHouse_X5_stands rfl rfl rfl (by decide +kernel) ⟨Nat.le_of_ble_eq_true rfl, Nat.le_of_ble_eq_true rfl⟩) (hE.kept hS.2.1) (hP.sub (ws' := sitesL E (ap 7) (ap 61) (ap 62) (ap 63) (vp 60 0) (vp 61) (vp 62) (vp 63)) [15, 16, 17, 18] rfl) rfl rfl rfl rfl hl.1 rfl (Nat.le_of_ble_eq_true rfl) dX2_readHouse_40 ⟨Nat.zero_le _, Nat.zero_le _⟩ (fun r40 h40 => ?_)
    have hf40 := h40.2
    replace h40 := h40.1
    refine lv_iconst (v := 4) hx hb dX2_readHouse_43 (by decide) ?_
    refine lv_aload_n hx hb dX2_readHouse_44 rfl (lv_at hl 1 rfl) ?_
    refine va_get (D := eD E) (ci := 2) (v := .int o27_na) (C := RX2) (T := TX2) (N := 9) hx hb hts in_X2 hown hK hP 0 rfl rfl 6 (by decide) lk3 (fun _ h9 => h9) rfl dX2_readHouse_45 ?_
    refine mt_Vv (w1 := fun (u : Int32 × Int32) => rbL E qr qx fx ln o27_ps u.1 u.2 o27_na cx ck ap) (wf := fun (u : Int32 × Int32) => rdL E qr qx fx ln o27_ps u.1 u.2 o27_na cx ck ap vp) (wr := [((ap 0), .inr (1, [.int (vp 0 0), .int (vp 1 0), .int (vp 2 0), .ref (ap 3), .ref (ap 4), .int (vp 5 0), .ref (ap 6), .ref (ap 7), .ref (ap 8), .ref (ap 9), .ref (ap 10)])), ((ap 3), .inl (eI E, 24, .inl (vp 3))), ((ap 4), .inl (eI E, 24, .inl (vp 4))), ((ap 6), .inl (eM E, 3, .inr (.inr (.inr (.inr (fun i => some (ap (20 + 10 * i)))))))), ((ap 20), .inr (0, [.int (vp 20 0), .int (vp 21 0), .int (vp 22 0), .ref (ap 23), .ref (ap 24)])), ((ap 23), .inl (eI E, 18, .inl (vp 23))), ((ap 24), .inl (eI E, 24, .inl (vp 24))), ((ap 30), .inr (0, [.int (vp 30 0), .int (vp 31 0), .int (vp 32 0), .ref (ap 33), .ref (ap 34)])), ((ap 33), .inl (eI E, 18, .inl (vp 33))), ((ap 34), .inl (eI E, 24, .inl (vp 34))), ((ap 40), .inr (0, [.int (vp 40 0), .int (vp 41 0), .int (vp 42 0), .ref (ap 43), .ref (ap 44)])), ((ap 43), .inl (eI E, 18, .inl (vp 43))), ((ap 44), .inl (eI E, 24, .inl (vp 44))), ((ap 7), .inr (5, [.int (vp 60 0), .ref (ap 61), .ref (ap 62), .ref (ap 63)])), ((ap 61), .inl (eI E, 6, .inl (vp 61))), ((ap 62), .inl (eI E, 6, .inl (vp 62))), ((ap 63), .inl (eI E, 6, .inl (vp 63))), ((ap 8), .inr (5, [.int (vp 70 0), .ref (ap 71), .ref (ap 72), .ref (ap 73)])), ((ap 71), .inl (eI E, 6, .inl (vp 71))), ((ap 72), .inl (eI E, 6, .inl (vp 72))), ((ap 73), .inl (eI E, 6, .inl (vp 73))), ((ap 9), .inr (5, [.int (vp 80 0), .ref (ap 81), .ref (ap 82), .ref (ap 83)])), ((ap 81), .inl (eI E, 6, .inl (vp 81))), ((ap 82), .inl (eI E, 6, .inl (vp 82))), ((ap 83), .inl (eI E, 6, .inl (vp 83))), ((ap 10), .inr (5, [.int (vp 90 0), .ref (ap 91), .ref (ap 92), .ref (ap 93)])), ((ap 91), .inl (eI E, 6, .inl (vp 91))), ((ap 92), .inl (eI E, 6, .inl (vp 92))), ((ap 93), .inl (eI E, 6, .inl (vp 93)))]) (As := [.int r40, .int 4, .int o27_na]) (rest := []) (C := RX2) (ci := 2) ⟨hx, hb, hml, hown, hts⟩ (c_X2_refuseIf l E H.size qr qx fx ln o27_ps o27_fn o27_fa o27_na cx ck ap r40 4 o27_na (by omega)) (cwV 3 hts gX2_readHouse_X2_refuseIf rfl rfl rfl (by decide +kernel) ⟨Nat.le_of_ble_eq_true rfl, Nat.le_of_ble_eq_true rfl⟩) hE hS hA hP hD [0, 1] [2, 3, 4, 5, 6, 7, 8, 9, 10, 11, 12, 13, 14, 15, 16, 17, 18, 19, 20, 21, 22, 23, 24, 25, 26, 27, 28, 29, 30] rfl rfl (by decide) (by decide) (by decide) [29, 30, 0, 1, 2, 3, 4, 5, 6, 7, 8, 9, 10, 11, 12, 13, 14, 15, 16, 17, 18, 19, 20, 21, 22, 23, 24, 25, 26, 27, 28] (by decide) (fun u => rfl) rfl rfl rfl rfl hl.1 rfl (Nat.le_of_ble_eq_true rfl) dX2_readHouse_48 ⟨Nat.zero_le _, Nat.zero_le _⟩ (fun u48 H locs h48 hP hD hS => ?_)
    obtain ⟨o48_fn, o48_fa⟩ := u48
    try dsimp only at h48
    have hf48 := h48.2
    replace h48 := h48.1
    replace hP : va_P (eD E) vwCl (rdL E qr qx fx ln o27_ps o48_fn o48_fa o27_na cx ck ap vp) H := hP
    replace hD : va_D A (rdL E qr qx fx ln o27_ps o48_fn o48_fa o27_na cx ck ap vp) := hD
    rw [n_4] at hf48
    have hk48 : CF (chk (anyE (S 49) r27.toInt (S 48 0).toNat) 4 o27_na.toInt) o27_fn.toInt o27_fa.toInt o48_fn.toInt o48_fa.toInt (fun _ => True) := CF.chk (fun _ => ckA hf40 (by rw [hcn]; exact any_congr _ (fun j hj => (hRl.2 j (by omega)).1))) hf48
    clear hf48 hf40
    have hs48 := CF.then (s := fun z : Unit × ((Int × Int × Int) × (Int × Int × Int)) => chk (anyE (S 49) (plc (S 37 0) z.2) (S 48 0).toNat) 4 z.2.2.2.2) hs27 hk48 ((okF.chk (by decide)).th (fun _ => okF.num.th (fun _ => okF.num))) (fun z hz => by rw [hz.2.1, hz.2.2.2])
    refine lv_aload_n hx hb dX2_readHouse_51 rfl (lv_at hl 1 rfl) ?_
    refine lv_iconst (v := 0) hx hb dX2_readHouse_52 (by decide) ?_
    refine lv_bipush (v := 99) hx hb dX2_readHouse_53 (by decide) ?_
    refine mt_Vi (w1 := fun (u : Int32 × Int32 × Int32 × Int32) => rbL E qr qx fx ln u.1 u.2.1 u.2.2.1 u.2.2.2 cx ck ap) (wf := fun (u : Int32 × Int32 × Int32 × Int32) => rdL E qr qx fx ln u.1 u.2.1 u.2.2.1 u.2.2.2 cx ck ap vp) (wr := [((ap 0), .inr (1, [.int (vp 0 0), .int (vp 1 0), .int (vp 2 0), .ref (ap 3), .ref (ap 4), .int (vp 5 0), .ref (ap 6), .ref (ap 7), .ref (ap 8), .ref (ap 9), .ref (ap 10)])), ((ap 3), .inl (eI E, 24, .inl (vp 3))), ((ap 4), .inl (eI E, 24, .inl (vp 4))), ((ap 6), .inl (eM E, 3, .inr (.inr (.inr (.inr (fun i => some (ap (20 + 10 * i)))))))), ((ap 20), .inr (0, [.int (vp 20 0), .int (vp 21 0), .int (vp 22 0), .ref (ap 23), .ref (ap 24)])), ((ap 23), .inl (eI E, 18, .inl (vp 23))), ((ap 24), .inl (eI E, 24, .inl (vp 24))), ((ap 30), .inr (0, [.int (vp 30 0), .int (vp 31 0), .int (vp 32 0), .ref (ap 33), .ref (ap 34)])), ((ap 33), .inl (eI E, 18, .inl (vp 33))), ((ap 34), .inl (eI E, 24, .inl (vp 34))), ((ap 40), .inr (0, [.int (vp 40 0), .int (vp 41 0), .int (vp 42 0), .ref (ap 43), .ref (ap 44)])), ((ap 43), .inl (eI E, 18, .inl (vp 43))), ((ap 44), .inl (eI E, 24, .inl (vp 44))), ((ap 7), .inr (5, [.int (vp 60 0), .ref (ap 61), .ref (ap 62), .ref (ap 63)])), ((ap 61), .inl (eI E, 6, .inl (vp 61))), ((ap 62), .inl (eI E, 6, .inl (vp 62))), ((ap 63), .inl (eI E, 6, .inl (vp 63))), ((ap 8), .inr (5, [.int (vp 70 0), .ref (ap 71), .ref (ap 72), .ref (ap 73)])), ((ap 71), .inl (eI E, 6, .inl (vp 71))), ((ap 72), .inl (eI E, 6, .inl (vp 72))), ((ap 73), .inl (eI E, 6, .inl (vp 73))), ((ap 9), .inr (5, [.int (vp 80 0), .ref (ap 81), .ref (ap 82), .ref (ap 83)])), ((ap 81), .inl (eI E, 6, .inl (vp 81))), ((ap 82), .inl (eI E, 6, .inl (vp 82))), ((ap 83), .inl (eI E, 6, .inl (vp 83))), ((ap 10), .inr (5, [.int (vp 90 0), .ref (ap 91), .ref (ap 92), .ref (ap 93)])), ((ap 91), .inl (eI E, 6, .inl (vp 91))), ((ap 92), .inl (eI E, 6, .inl (vp 92))), ((ap 93), .inl (eI E, 6, .inl (vp 93)))]) (As := [.int 0, .int 99]) (rest := []) (C := RX2) (ci := 2) ⟨hx, hb, hml, hown, hts⟩ (c_X2_readNumber l E H.size qr qx fx ln o27_ps o48_fn o48_fa o27_na cx ck ap 0 99 (by omega) (by omega)) (cwV 2 hts gX2_readHouse_X2_readNumber rfl rfl rfl (by decide +kernel) ⟨Nat.le_of_ble_eq_true rfl, Nat.le_of_ble_eq_true rfl⟩) hE hS hA hP hD [0, 1] [2, 3, 4, 5, 6, 7, 8, 9, 10, 11, 12, 13, 14, 15, 16, 17, 18, 19, 20, 21, 22, 23, 24, 25, 26, 27, 28, 29, 30] rfl rfl (by decide) (by decide) (by decide) [29, 30, 0, 1, 2, 3, 4, 5, 6, 7, 8, 9, 10, 11, 12, 13, 14, 15, 16, 17, 18, 19, 20, 21, 22, 23, 24, 25, 26, 27, 28] (by decide) (fun u => rfl) rfl rfl rfl rfl hl.1 rfl (Nat.le_of_ble_eq_true rfl) dX2_readHouse_55 ⟨Nat.zero_le _, Nat.zero_le _⟩ (fun r55 u55 H locs h55 hP hD hS => ?_)
    obtain ⟨o55_ps, o55_fn, o55_fa, o55_na⟩ := u55
    try dsimp only at h55
    have hf55 := h55.2
    replace h55 := h55.1
    replace hP : va_P (eD E) vwCl (rdL E qr qx fx ln o55_ps o55_fn o55_fa o55_na cx ck ap vp) H := hP
    replace hD : va_D A (rdL E qr qx fx ln o55_ps o55_fn o55_fa o55_na cx ck ap vp) := hD
    have pb55 : 0 ≤ r55.toInt ∧ r55.toInt ≤ 99 := pb_rn h55.1 (by decide) (by decide)
    rw [n_0, n_99] at hf55
    have hs55 := CF.then (s := fun z : (Unit × ((Int × Int × Int) × (Int × Int × Int))) × Unit => numF fx ln.toInt 0 99 z.1.2.2.2.1) hs48 hf55 (((okF.chk (by decide)).th (fun _ => okF.num.th (fun _ => okF.num))).th (fun _ => okF.chk (by decide))) (fun z hz => by rw [hz.1.2.2.1])
    refine lv_istore_n (lv' := [(3, .int r55), (2, .int r27), (0, .ref qr), (1, .int wd)]) hx hb dX2_readHouse_58 rfl hl (by decide) rfl (fun ls hl => ?_)
    refine lv_aload_n hx hb dX2_readHouse_59 rfl (lv_at hl 2 rfl) ?_
    refine lv_bipush (v := 59) hx hb dX2_readHouse_60 (by decide) ?_
    refine mt_Vv (w1 := fun (u : Int32 × Int32 × Int32) => rbL E qr qx fx ln u.1 u.2.1 u.2.2 o55_na cx ck ap) (wf := fun (u : Int32 × Int32 × Int32) => rdL E qr qx fx ln u.1 u.2.1 u.2.2 o55_na cx ck ap vp) (wr := [((ap 0), .inr (1, [.int (vp 0 0), .int (vp 1 0), .int (vp 2 0), .ref (ap 3), .ref (ap 4), .int (vp 5 0), .ref (ap 6), .ref (ap 7), .ref (ap 8), .ref (ap 9), .ref (ap 10)])), ((ap 3), .inl (eI E, 24, .inl (vp 3))), ((ap 4), .inl (eI E, 24, .inl (vp 4))), ((ap 6), .inl (eM E, 3, .inr (.inr (.inr (.inr (fun i => some (ap (20 + 10 * i)))))))), ((ap 20), .inr (0, [.int (vp 20 0), .int (vp 21 0), .int (vp 22 0), .ref (ap 23), .ref (ap 24)])), ((ap 23), .inl (eI E, 18, .inl (vp 23))), ((ap 24), .inl (eI E, 24, .inl (vp 24))), ((ap 30), .inr (0, [.int (vp 30 0), .int (vp 31 0), .int (vp 32 0), .ref (ap 33), .ref (ap 34)])), ((ap 33), .inl (eI E, 18, .inl (vp 33))), ((ap 34), .inl (eI E, 24, .inl (vp 34))), ((ap 40), .inr (0, [.int (vp 40 0), .int (vp 41 0), .int (vp 42 0), .ref (ap 43), .ref (ap 44)])), ((ap 43), .inl (eI E, 18, .inl (vp 43))), ((ap 44), .inl (eI E, 24, .inl (vp 44))), ((ap 7), .inr (5, [.int (vp 60 0), .ref (ap 61), .ref (ap 62), .ref (ap 63)])), ((ap 61), .inl (eI E, 6, .inl (vp 61))), ((ap 62), .inl (eI E, 6, .inl (vp 62))), ((ap 63), .inl (eI E, 6, .inl (vp 63))), ((ap 8), .inr (5, [.int (vp 70 0), .ref (ap 71), .ref (ap 72), .ref (ap 73)])), ((ap 71), .inl (eI E, 6, .inl (vp 71))), ((ap 72), .inl (eI E, 6, .inl (vp 72))), ((ap 73), .inl (eI E, 6, .inl (vp 73))), ((ap 9), .inr (5, [.int (vp 80 0), .ref (ap 81), .ref (ap 82), .ref (ap 83)])), ((ap 81), .inl (eI E, 6, .inl (vp 81))), ((ap 82), .inl (eI E, 6, .inl (vp 82))), ((ap 83), .inl (eI E, 6, .inl (vp 83))), ((ap 10), .inr (5, [.int (vp 90 0), .ref (ap 91), .ref (ap 92), .ref (ap 93)])), ((ap 91), .inl (eI E, 6, .inl (vp 91))), ((ap 92), .inl (eI E, 6, .inl (vp 92))), ((ap 93), .inl (eI E, 6, .inl (vp 93)))]) (As := [.int 59]) (rest := []) (C := RX2) (ci := 2) ⟨hx, hb, hml, hown, hts⟩ (c_X2_readSign l E H.size qr qx fx ln o55_ps o55_fn o55_fa o55_na cx ck ap 59 (by omega) (by omega)) (cwV 1 hts gX2_readHouse_X2_readSign rfl rfl rfl (by decide +kernel) ⟨Nat.le_of_ble_eq_true rfl, Nat.le_of_ble_eq_true rfl⟩) hE hS hA hP hD [0, 1] [2, 3, 4, 5, 6, 7, 8, 9, 10, 11, 12, 13, 14, 15, 16, 17, 18, 19, 20, 21, 22, 23, 24, 25, 26, 27, 28, 29, 30] rfl rfl (by decide) (by decide) (by decide) [29, 30, 0, 1, 2, 3, 4, 5, 6, 7, 8, 9, 10, 11, 12, 13, 14, 15, 16, 17, 18, 19, 20, 21, 22, 23, 24, 25, 26, 27, 28] (by decide) (fun u => rfl) rfl rfl rfl rfl hl.1 rfl (Nat.le_of_ble_eq_true rfl) dX2_readHouse_62 ⟨Nat.zero_le _, Nat.zero_le _⟩ (fun u62 H locs h62 hP hD hS => ?_)
    obtain ⟨o62_ps, o62_fn, o62_fa⟩ := u62
    try dsimp only at h62
    have hf62 := h62.2
    replace h62 := h62.1
    replace hP : va_P (eD E) vwCl (rdL E qr qx fx ln o62_ps o62_fn o62_fa o55_na cx ck ap vp) H := hP
    replace hD : va_D A (rdL E qr qx fx ln o62_ps o62_fn o62_fa o55_na cx ck ap vp) := hD
    rw [n_59] at hf62
    have hs62 := CF.then (s := fun z : ((Unit × ((Int × Int × Int) × (Int × Int × Int))) × Unit) × (Int × Int × Int) => sgnF fx ln.toInt 59 z.2.2.1) hs55 hf62 ((((okF.chk (by decide)).th (fun _ => okF.num.th (fun _ => okF.num))).th (fun _ => okF.chk (by decide))).th (fun _ => okF.num)) (fun z hz => by rw [hz.2.2.1])
    refine lv_aload_n hx hb dX2_readHouse_65 rfl (lv_at hl 2 rfl) ?_
    refine lv_aload_n hx hb dX2_readHouse_66 rfl (lv_at hl 2 rfl) ?_
    refine va_get (D := eD E) (ci := 2) (v := .ref (ap 0)) (C := RX2) (T := TX2) (N := 9) hx hb hts in_X2 hown hK hP 0 rfl rfl 3 (by decide) lk0 (fun _ h9 => h9) rfl dX2_readHouse_67 ?_
    refine va_get (D := eD E) (ci := 1) (v := .ref (ap 7)) (C := RX1) (T := TX1) (N := 11) hx hb hts in_X1 hown hK hP 2 rfl rfl 7 (by decide) lk1 (fun _ h9 => h9) rfl dX2_readHouse_70 ?_
    refine lv_iload_n hx hb dX2_readHouse_73 rfl (lv_at hl 1 rfl) ?_
    refine lv_iload_n hx hb dX2_readHouse_74 rfl (lv_at hl 0 rfl) ?_
    refine lv_iconst (v := 0) hx hb dX2_readHouse_75 (by decide) ?_
    refine mt_Vv (w1 := fun (u : Int32 × (Nat → Int32) × (Nat → Int32) × (Nat → Int32)) => adL E qr qx ln o62_ps o62_fn o62_fa o55_na cx ck ap (ap 7) (ap 61) (ap 62) (ap 63) u.1 u.2.1 u.2.2.1 u.2.2.2) (wf := fun (u : Int32 × (Nat → Int32) × (Nat → Int32) × (Nat → Int32)) => rdL E qr qx fx ln o62_ps o62_fn o62_fa o55_na cx ck ap (up3 (up3 (up3 (up2 vp 60 0 u.1) 61 u.2.1) 62 u.2.2.1) 63 u.2.2.2)) (wr := [(qx, .inl (eI E, 250, .inl fx)), ((ap 0), .inr (1, [.int (vp 0 0), .int (vp 1 0), .int (vp 2 0), .ref (ap 3), .ref (ap 4), .int (vp 5 0), .ref (ap 6), .ref (ap 7), .ref (ap 8), .ref (ap 9), .ref (ap 10)])), ((ap 3), .inl (eI E, 24, .inl (vp 3))), ((ap 4), .inl (eI E, 24, .inl (vp 4))), ((ap 6), .inl (eM E, 3, .inr (.inr (.inr (.inr (fun i => some (ap (20 + 10 * i)))))))), ((ap 20), .inr (0, [.int (vp 20 0), .int (vp 21 0), .int (vp 22 0), .ref (ap 23), .ref (ap 24)])), ((ap 23), .inl (eI E, 18, .inl (vp 23))), ((ap 24), .inl (eI E, 24, .inl (vp 24))), ((ap 30), .inr (0, [.int (vp 30 0), .int (vp 31 0), .int (vp 32 0), .ref (ap 33), .ref (ap 34)])), ((ap 33), .inl (eI E, 18, .inl (vp 33))), ((ap 34), .inl (eI E, 24, .inl (vp 34))), ((ap 40), .inr (0, [.int (vp 40 0), .int (vp 41 0), .int (vp 42 0), .ref (ap 43), .ref (ap 44)])), ((ap 43), .inl (eI E, 18, .inl (vp 43))), ((ap 44), .inl (eI E, 24, .inl (vp 44))), ((ap 8), .inr (5, [.int (vp 70 0), .ref (ap 71), .ref (ap 72), .ref (ap 73)])), ((ap 71), .inl (eI E, 6, .inl (vp 71))), ((ap 72), .inl (eI E, 6, .inl (vp 72))), ((ap 73), .inl (eI E, 6, .inl (vp 73))), ((ap 9), .inr (5, [.int (vp 80 0), .ref (ap 81), .ref (ap 82), .ref (ap 83)])), ((ap 81), .inl (eI E, 6, .inl (vp 81))), ((ap 82), .inl (eI E, 6, .inl (vp 82))), ((ap 83), .inl (eI E, 6, .inl (vp 83))), ((ap 10), .inr (5, [.int (vp 90 0), .ref (ap 91), .ref (ap 92), .ref (ap 93)])), ((ap 91), .inl (eI E, 6, .inl (vp 91))), ((ap 92), .inl (eI E, 6, .inl (vp 92))), ((ap 93), .inl (eI E, 6, .inl (vp 93)))]) (As := [.ref (ap 7), .int r27, .int r55, .int 0]) (rest := []) (C := RX2) (ci := 2) ⟨hx, hb, hml, hown, hts⟩ (c_X2_addTo l E H.size qr qx ln o62_ps o62_fn o62_fa o55_na cx ck ap (ap 7) (ap 61) (ap 62) (ap 63) (vp 60 0) (vp 61) (vp 62) (vp 63) r27 r55 0 hs0 (by omega)) (cwV 4 hts gX2_readHouse_X2_addTo rfl rfl rfl (by decide +kernel) ⟨Nat.le_of_ble_eq_true rfl, Nat.le_of_ble_eq_true rfl⟩) hE hS hA hP hD [0, 15, 16, 17, 18] [1, 2, 3, 4, 5, 6, 7, 8, 9, 10, 11, 12, 13, 14, 19, 20, 21, 22, 23, 24, 25, 26, 27, 28, 29, 30] rfl rfl (by decide) (by decide) (by decide) [26, 0, 1, 2, 3, 4, 5, 6, 7, 8, 9, 10, 11, 12, 13, 27, 28, 29, 30, 14, 15, 16, 17, 18, 19, 20, 21, 22, 23, 24, 25] (by decide) (fun u => rfl) rfl rfl rfl rfl hl.1 rfl (Nat.le_of_ble_eq_true rfl) dX2_readHouse_76 ⟨Nat.zero_le _, Nat.zero_le _⟩ (fun u76 H locs h76 hP hD hS => ?_)
    obtain ⟨o76_n, o76_f1, o76_f2, o76_f3⟩ := u76
    try dsimp only at h76
    have hf76 := h76.2
    replace h76 := h76.1
    replace hP : va_P (eD E) vwCl (rdL E qr qx fx ln o62_ps o62_fn o62_fa o55_na cx ck ap (up3 (up3 (up3 (up2 vp 60 0 o76_n) 61 o76_f1) 62 o76_f2) 63 o76_f3)) H := hP
    replace hD : va_D A (rdL E qr qx fx ln o62_ps o62_fn o62_fa o55_na cx ck ap (up3 (up3 (up3 (up2 vp 60 0 o76_n) 61 o76_f1) 62 o76_f2) 63 o76_f3)) := hD
    generalize hv76 : up3 (up3 (up3 (up2 vp 60 0 o76_n) 61 o76_f1) 62 o76_f2) 63 o76_f3 = vp_76 at hP hD
    have hI2 : PlanI vp_76 := by rw [← hv76]; exact pl_s0 hI h76.1
    subst hQ
    exact W.vret hx hb hr (fun t ht hW => ⟨⟨(o62_ps, o62_fn, o62_fa, o55_na, vp_76), rfl, (show (PlanI vp_76 ∧ (ps.toInt ≤ o62_ps.toInt ∧ o62_ps.toInt ≤ ln.toInt + 1) ∧ (o62_fn.toInt ≠ 0 ∨ o62_ps.toInt ≤ ln.toInt)) ∧ (CF (houseF fx ln.toInt S wd.toInt ps.toInt) fn.toInt fa.toInt o62_fn.toInt o62_fa.toInt (fun z => o62_ps.toInt = z.2 ∧ Rp (houseS S (plc (S 37 0) z.1.1.1.2) z.1.2.1) vp_76 cx ck)) from ⟨⟨hI2, ⟨Int.le_trans (Int.le_trans h27.2.1 h55.2.1) h62.1, h62.2.1⟩, h62.2.2.1⟩, (hs62.mono2 (fun q1 q2 z hzz hz => ⟨hz.2, by have hq6 := chk_no (th_get (th_get (th_get (th_get hzz).1).1).1).1; have hl6 : (vp 60 0).toInt < 6 := Int.lt_of_lt_of_le (by rw [hcn]; exact Int.not_le.mp hq6) (by decide); rw [← hv76, ← hz.1.1.1.2.1, ← hz.1.2.1]; exact rp_house hRp hs0.1.1 (hf76.1 q2 hl6).1 (hf76.1 q2 hl6).2.1 (hf76.1 q2 hl6).2.2.1⟩))⟩), by rw [ht]; exact hP, hD⟩, hS.F ht⟩) hS.2.2 dX2_readHouse_79
  refine lv_icmp_lt (tgt := 20) hx hb dX2_readHouse_13 (by decide) (fun c13 => ?_) (fun c13 => ?_)
  · have c13_ := i_lt c13
    refine lv_iconst (v := 0) hx hb dX2_readHouse_20 (by decide) ?_
    exact K21 0 _ _ ls hP hD hS (Or.inl ⟨by decide, by omega⟩) (lv_sub hl [0, 1] rfl)
  · have c13_ := i_nlt c13
    refine lv_iconst (v := 1) hx hb dX2_readHouse_16 (by decide) ?_
    refine lv_goto (tgt := 21) hx hb dX2_readHouse_17 (by decide) ?_
    exact K21 1 _ _ ls hP hD hS (Or.inr ⟨by decide, by omega⟩) (lv_sub hl [0, 1] rfl)
end
section
def rm_X2_readWell : Room := { frames := 3, cells := 0, slots := 0, locals := 69 }
set_option maxHeartbeats 4000000 in
set_option maxRecDepth 100000 in
theorem c_X2_readWell (l : Launch) (E : Ev) (sz : Nat) (qr : Nat) (qx : Nat) (fx : Nat → Int32) (ln : Int32) (ps : Int32) (fn : Int32) (fa : Int32) (na : Int32) (cx : Int32) (ck : Int32) (ap : Nat → Nat) (vp : Vf) (wd : Int32) (S : St0) (hln : 0 ≤ ln.toInt ∧ ln.toInt ≤ 250) (hps : 0 ≤ ps.toInt ∧ ps.toInt ≤ ln.toInt) (hI : PlanI vp) (hRp : Rp S vp cx ck) : Met l yX2_readWell wsX2_readWell rm_X2_readWell (MtP E sz [.ref qr, .int wd] (rdL E qr qx fx ln ps fn fa na cx ck ap vp)) (va_Qv (fun (u : Int32 × Int32 × Int32 × Int32 × Vf) => (PlanI u.2.2.2.2 ∧ (ps.toInt ≤ u.1.toInt ∧ u.1.toInt ≤ ln.toInt + 1) ∧ (u.2.1.toInt ≠ 0 ∨ u.1.toInt ≤ ln.toInt)) ∧ (CF (wellF fx ln.toInt S wd.toInt ps.toInt) fn.toInt fa.toInt u.2.1.toInt u.2.2.1.toInt (fun z => u.1.toInt = z.2 ∧ Rp (wellS S (plc (S 37 0) z.1.1.1.2) z.1.2.1) u.2.2.2.2 cx ck))) (MtB E (va_A (rdL E qr qx fx ln ps fn fa na cx ck ap vp) sz) (fun u => rdL E qr qx fx ln u.1 u.2.1 u.2.2.1 u.2.2.2.1 cx ck ap u.2.2.2.2)) (va_A (rdL E qr qx fx ln ps fn fa na cx ck ap vp) sz)) 0 0 (va_A (rdL E qr qx fx ln ps fn fa na cx ck ap vp) sz) := by
  refine Met.ofW (cc := cX2_readWell) (maxL := 4) (ret := none) (by decide) rfl ?_
  intro p e s m args below meth c s₁ B hml hv
  obtain ⟨rfl, hsz, hE, hP, hD0⟩ := hv
  subst hsz
  have hD := hD0.self (sz := s.heap.size)
  generalize hAe : va_A (rdL E qr qx fx ln ps fn fa na cx ck ap vp) s.heap.size = A at hD hE ⊢
  have hA : ∀ q : Nat, s.heap.size ≤ q → A q := fun q h => by rw [← hAe]; exact Or.inr h
  have hS : va_S A s.heap s.heap [] := va_S.rf
  have hx := B.exec
  have hb := B.bytes
  have hr := B.returns
  have hts := atoms_spec (ws := wsX2_readWell) B.pre
  have hown : s.vm.findClass RX2 = some m.cls := findClass_of_methodNamed B.named
  have hlocks := B.notSynchronized
  have hK := hE.1
  have in_X2 : ∀ w ∈ u_ws RX2 TX2 9, w ∈ wsX2_readWell := fun w h => List.mem_cons_of_mem _ (List.mem_append_left _ (List.mem_append_left _ (List.mem_append_right _ h)))
  have in_X1 : ∀ w ∈ u_ws RX1 TX1 11, w ∈ wsX2_readWell := fun w h => List.mem_cons_of_mem _ (List.mem_append_left _ (List.mem_append_right _ h))
  have in_X5 : ∀ w ∈ u_ws RX5 TX5 4, w ∈ wsX2_readWell := fun w h => List.mem_cons_of_mem _ (List.mem_append_right _ h)
  have lk0 := hts (.fieldLink RX2 28 "TidedGround$Reader" "plan" "LTidedGround$Plan;") (List.mem_of_getElem? (i := 1) rfl)
  have lk1 := hts (.fieldLink RX2 161 "TidedGround$Plan" "wells" "LTidedGround$Sites;") (List.mem_of_getElem? (i := 2) rfl)
  have lk2 := hts (.fieldLink RX2 139 "TidedGround$Sites" "count" "I") (List.mem_of_getElem? (i := 3) rfl)
  have lk3 := hts (.fieldLink RX2 87 "TidedGround$Reader" "numberAt" "I") (List.mem_of_getElem? (i := 4) rfl)
  have n_0 : (0 : Int32).toInt = 0 := by decide
  have n_1 : (1 : Int32).toInt = 1 := by decide
  have n_3 : (3 : Int32).toInt = 3 := by decide
  have n_4 : (4 : Int32).toInt = 4 := by decide
  have n_5 : (5 : Int32).toInt = 5 := by decide
  have n_59 : (59 : Int32).toInt = 59 := by decide
  have n_99 : (99 : Int32).toInt = 99 := by decide
  have hl := lv_entry ([.ref qr, .int wd]) (n := 4) (Nat.le_of_ble_eq_true rfl)
  rw [lg_entry_eq]
  generalize (lg_sl ([.ref qr, .int wd]) ++ List.replicate (4 - (lg_sl ([.ref qr, .int wd])).length) Slot.unset).toArray = ls at hl ⊢
  have hl : lv_has ls 4 [(0, .ref qr), (1, .int wd)] := hl
  refine W_abs (fun Q hQ => ?_)
  obtain ⟨hg, hmc, hm0, hm1, hm2, hs0, hs1, hs2, hs3⟩ := id hI
  obtain ⟨hg1, hg2, hg3, hg4⟩ := id hg
  have hz0 := hm0.1
  have hz1 := hm1.1
  have hz2 := hm2.1
  have hc0 := hs0.1
  have hc1 := hs1.1
  have hc2 := hs2.1
  have hc3 := hs3.1
  have hg5 : 0 ≤ (vp 2 0).toInt := by rw [hg3]; exact Int.mul_nonneg hg1.1 hg2.1
  have hRl := hRp.2.2.2.2.2.1
  have hcn := hRl.1
  refine lv_aload_n hx hb dX2_readWell_0 rfl (lv_at hl 0 rfl) ?_
  refine lv_aload_n hx hb dX2_readWell_1 rfl (lv_at hl 0 rfl) ?_
  refine va_get (D := eD E) (ci := 2) (v := .ref (ap 0)) (C := RX2) (T := TX2) (N := 9) hx hb hts in_X2 hown hK hP 0 rfl rfl 3 (by decide) lk0 (fun _ h9 => h9) rfl dX2_readWell_2 ?_
  refine va_get (D := eD E) (ci := 1) (v := .ref (ap 9)) (C := RX1) (T := TX1) (N := 11) hx hb hts in_X1 hown hK hP 2 rfl rfl 9 (by decide) lk1 (fun _ h9 => h9) rfl dX2_readWell_5 ?_
  refine va_get (D := eD E) (ci := 5) (v := .int (vp 80 0)) (C := RX5) (T := TX5) (N := 4) hx hb hts in_X5 hown hK hP 23 rfl rfl 0 (by decide) lk2 (fun _ h9 => h9) rfl dX2_readWell_8 ?_
  refine lv_iconst (v := 5) hx hb dX2_readWell_11 (by decide) ?_
  have K20 : ∀  (w : Int32) (H : Heap) (locs : List Loc) (ls : Array Slot), va_P (eD E) vwCl (rdL E qr qx fx ln ps fn fa na cx ck ap vp) H → va_D A (rdL E qr qx fx ln ps fn fa na cx ck ap vp) → va_S A s.heap H locs → ((w.toInt = 0 ∧ (vp 80 0).toInt < 5) ∨ w.toInt = 1) → ((w.toInt = 0 ∧ (vp 80 0).toInt < 5) ∨ (w.toInt = 1 ∧ 5 ≤ (vp 80 0).toInt)) → lv_has ls 4 [(0, .ref qr), (1, .int wd)] → W p l e (headSpec wsX2_readWell rm_X2_readWell).room s m ([.ref qr, .int wd] : List Value).toArray below meth c H locs 0 0 Q (F0 m 20 ls [.int w, .ref qr]) := by
    intro w H locs ls hP hD hS h20_0 h20_1 hl
    have hx20_0 := h20_1
    clear h20_1
    refine lv_iconst (v := 3) hx hb dX2_readWell_20 (by decide) ?_
    refine lv_iload_n hx hb dX2_readWell_21 rfl (lv_at hl 1 rfl) ?_
    refine mt_Vv (w1 := fun (u : Int32 × Int32) => rbL E qr qx fx ln ps u.1 u.2 na cx ck ap) (wf := fun (u : Int32 × Int32) => rdL E qr qx fx ln ps u.1 u.2 na cx ck ap vp) (wr := [((ap 0), .inr (1, [.int (vp 0 0), .int (vp 1 0), .int (vp 2 0), .ref (ap 3), .ref (ap 4), .int (vp 5 0), .ref (ap 6), .ref (ap 7), .ref (ap 8), .ref (ap 9), .ref (ap 10)])), ((ap 3), .inl (eI E, 24, .inl (vp 3))), ((ap 4), .inl (eI E, 24, .inl (vp 4))), ((ap 6), .inl (eM E, 3, .inr (.inr (.inr (.inr (fun i => some (ap (20 + 10 * i)))))))), ((ap 20), .inr (0, [.int (vp 20 0), .int (vp 21 0), .int (vp 22 0), .ref (ap 23), .ref (ap 24)])), ((ap 23), .inl (eI E, 18, .inl (vp 23))), ((ap 24), .inl (eI E, 24, .inl (vp 24))), ((ap 30), .inr (0, [.int (vp 30 0), .int (vp 31 0), .int (vp 32 0), .ref (ap 33), .ref (ap 34)])), ((ap 33), .inl (eI E, 18, .inl (vp 33))), ((ap 34), .inl (eI E, 24, .inl (vp 34))), ((ap 40), .inr (0, [.int (vp 40 0), .int (vp 41 0), .int (vp 42 0), .ref (ap 43), .ref (ap 44)])), ((ap 43), .inl (eI E, 18, .inl (vp 43))), ((ap 44), .inl (eI E, 24, .inl (vp 44))), ((ap 7), .inr (5, [.int (vp 60 0), .ref (ap 61), .ref (ap 62), .ref (ap 63)])), ((ap 61), .inl (eI E, 6, .inl (vp 61))), ((ap 62), .inl (eI E, 6, .inl (vp 62))), ((ap 63), .inl (eI E, 6, .inl (vp 63))), ((ap 8), .inr (5, [.int (vp 70 0), .ref (ap 71), .ref (ap 72), .ref (ap 73)])), ((ap 71), .inl (eI E, 6, .inl (vp 71))), ((ap 72), .inl (eI E, 6, .inl (vp 72))), ((ap 73), .inl (eI E, 6, .inl (vp 73))), ((ap 9), .inr (5, [.int (vp 80 0), .ref (ap 81), .ref (ap 82), .ref (ap 83)])), ((ap 81), .inl (eI E, 6, .inl (vp 81))), ((ap 82), .inl (eI E, 6, .inl (vp 82))), ((ap 83), .inl (eI E, 6, .inl (vp 83))), ((ap 10), .inr (5, [.int (vp 90 0), .ref (ap 91), .ref (ap 92), .ref (ap 93)])), ((ap 91), .inl (eI E, 6, .inl (vp 91))), ((ap 92), .inl (eI E, 6, .inl (vp 92))), ((ap 93), .inl (eI E, 6, .inl (vp 93)))]) (As := [.int w, .int 3, .int wd]) (rest := []) (C := RX2) (ci := 2) ⟨hx, hb, hml, hown, hts⟩ (c_X2_refuseIf l E H.size qr qx fx ln ps fn fa na cx ck ap w 3 wd (by omega)) (cwV 3 hts gX2_readWell_X2_refuseIf rfl rfl rfl (by decide +kernel) ⟨Nat.le_of_ble_eq_true rfl, Nat.le_of_ble_eq_true rfl⟩) hE hS hA hP hD [0, 1] [2, 3, 4, 5, 6, 7, 8, 9, 10, 11, 12, 13, 14, 15, 16, 17, 18, 19, 20, 21, 22, 23, 24, 25, 26, 27, 28, 29, 30] rfl rfl (by decide) (by decide) (by decide) [29, 30, 0, 1, 2, 3, 4, 5, 6, 7, 8, 9, 10, 11, 12, 13, 14, 15, 16, 17, 18, 19, 20, 21, 22, 23, 24, 25, 26, 27, 28] (by decide) (fun u => rfl) rfl rfl rfl rfl hl.1 rfl (Nat.le_of_ble_eq_true rfl) dX2_readWell_22 ⟨Nat.zero_le _, Nat.zero_le _⟩ (fun u22 H locs h22 hP hD hS => ?_)
    obtain ⟨o22_fn, o22_fa⟩ := u22
    try dsimp only at h22
    have hf22 := h22.2
    replace h22 := h22.1
    replace hP : va_P (eD E) vwCl (rdL E qr qx fx ln ps o22_fn o22_fa na cx ck ap vp) H := hP
    replace hD : va_D A (rdL E qr qx fx ln ps o22_fn o22_fa na cx ck ap vp) := hD
    rw [n_3] at hf22
    have hk22 : CF (chk (decide (5 ≤ S 55 0)) 3 wd.toInt) fn.toInt fa.toInt o22_fn.toInt o22_fa.toInt (fun _ => True) := CF.chk (fun _ => ckB (by omega)) hf22
    clear hf22 hx20_0
    refine lv_aload_n hx hb dX2_readWell_25 rfl (lv_at hl 0 rfl) ?_
    refine mt_Vi (w1 := fun (u : Int32 × Int32 × Int32 × Int32) => rdL E qr qx fx ln u.1 u.2.1 u.2.2.1 u.2.2.2 cx ck ap vp) (wf := fun (u : Int32 × Int32 × Int32 × Int32) => rdL E qr qx fx ln u.1 u.2.1 u.2.2.1 u.2.2.2 cx ck ap vp) (wr := []) (As := []) (rest := []) (C := RX2) (ci := 2) ⟨hx, hb, hml, hown, hts⟩ (c_X2_readPlace l E H.size qr qx fx ln ps o22_fn o22_fa na cx ck ap vp (by omega) (by omega) hI) (cwV 0 hts gX2_readWell_X2_readPlace rfl rfl rfl (by decide +kernel) ⟨Nat.le_of_ble_eq_true rfl, Nat.le_of_ble_eq_true rfl⟩) hE hS hA hP hD [0, 1, 2, 3, 4, 5, 6, 7, 8, 9, 10, 11, 12, 13, 14, 15, 16, 17, 18, 19, 20, 21, 22, 23, 24, 25, 26, 27, 28, 29, 30] [] rfl rfl (by decide) (by decide) (by decide) [0, 1, 2, 3, 4, 5, 6, 7, 8, 9, 10, 11, 12, 13, 14, 15, 16, 17, 18, 19, 20, 21, 22, 23, 24, 25, 26, 27, 28, 29, 30] (by decide) (fun u => rfl) rfl rfl rfl rfl hl.1 rfl (Nat.le_of_ble_eq_true rfl) dX2_readWell_26 ⟨Nat.zero_le _, Nat.zero_le _⟩ (fun r26 u26 H locs h26 hP hD hS => ?_)
    obtain ⟨o26_ps, o26_fn, o26_fa, o26_na⟩ := u26
    try dsimp only at h26
    have hf26 := h26.2
    replace h26 := h26.1
    replace hP : va_P (eD E) vwCl (rdL E qr qx fx ln o26_ps o26_fn o26_fa o26_na cx ck ap vp) H := hP
    replace hD : va_D A (rdL E qr qx fx ln o26_ps o26_fn o26_fa o26_na cx ck ap vp) := hD
    rw [hRp.1.1, hRp.1.2.1] at hf26
    have hs26 := CF.then (s := fun _ : Unit => placeF fx ln.toInt (S 37 0) (S 38 0) ps.toInt) hk22 hf26 (okF.chk (by decide)) (fun _ _ => rfl)
    refine lv_istore_n (lv' := [(2, .int r26), (0, .ref qr), (1, .int wd)]) hx hb dX2_readWell_29 rfl hl (by decide) rfl (fun ls hl => ?_)
    refine lv_aload_n hx hb dX2_readWell_30 rfl (lv_at hl 1 rfl) ?_
    refine lv_aload_n hx hb dX2_readWell_31 rfl (lv_at hl 1 rfl) ?_
    refine va_get (D := eD E) (ci := 2) (v := .ref (ap 0)) (C := RX2) (T := TX2) (N := 9) hx hb hts in_X2 hown hK hP 0 rfl rfl 3 (by decide) lk0 (fun _ h9 => h9) rfl dX2_readWell_32 ?_
    refine va_get (D := eD E) (ci := 1) (v := .ref (ap 9)) (C := RX1) (T := TX1) (N := 11) hx hb hts in_X1 hown hK hP 2 rfl rfl 9 (by decide) lk1 (fun _ h9 => h9) rfl dX2_readWell_35 ?_
    refine lv_iload_n hx hb dX2_readWell_38 rfl (lv_at hl 0 rfl) ?_
    refine rd_V (As := [.int r26]) (rest := [.ref qr]) (C := RX5) (ci := 5) ⟨hx, hb, hml, hown, hts⟩ (c_X5_stands l E A (ap 9) (ap 81) (ap 82) (ap 83) (vp 80 0) (vp 81) (vp 82) (vp 83) r26 (by omega)) (cwV 1 hts gX2_readWell_X5_stands rfl rfl rfl (by decide +kernel) ⟨Nat.le_of_ble_eq_true rfl, Nat.le_of_ble_eq_true rfl⟩) (hE.kept hS.2.1) (hP.sub (ws' := sitesL E (ap 9) (ap 81) (ap 82) (ap 83) (vp 80 0) (vp 81) (vp 82) (vp 83)) [23, 24, 25, 26] rfl) rfl rfl rfl rfl hl.1 rfl (Nat.le_of_ble_eq_true rfl) dX2_readWell_39 ⟨Nat.zero_le _, Nat.zero_le _⟩ (fun r39 h39 => ?_)
    have hf39 := h39.2
    replace h39 := h39.1
    refine lv_iconst (v := 4) hx hb dX2_readWell_42 (by decide) ?_
    refine lv_aload_n hx hb dX2_readWell_43 rfl (lv_at hl 1 rfl) ?_
    refine va_get (D := eD E) (ci := 2) (v := .int o26_na) (C := RX2) (T := TX2) (N := 9) hx hb hts in_X2 hown hK hP 0 rfl rfl 6 (by decide) lk3 (fun _ h9 => h9) rfl dX2_readWell_44 ?_
    refine mt_Vv (w1 := fun (u : Int32 × Int32) => rbL E qr qx fx ln o26_ps u.1 u.2 o26_na cx ck ap) (wf := fun (u : Int32 × Int32) => rdL E qr qx fx ln o26_ps u.1 u.2 o26_na cx ck ap vp) (wr := [((ap 0), .inr (1, [.int (vp 0 0), .int (vp 1 0), .int (vp 2 0), .ref (ap 3), .ref (ap 4), .int (vp 5 0), .ref (ap 6), .ref (ap 7), .ref (ap 8), .ref (ap 9), .ref (ap 10)])), ((ap 3), .inl (eI E, 24, .inl (vp 3))), ((ap 4), .inl (eI E, 24, .inl (vp 4))), ((ap 6), .inl (eM E, 3, .inr (.inr (.inr (.inr (fun i => some (ap (20 + 10 * i)))))))), ((ap 20), .inr (0, [.int (vp 20 0), .int (vp 21 0), .int (vp 22 0), .ref (ap 23), .ref (ap 24)])), ((ap 23), .inl (eI E, 18, .inl (vp 23))), ((ap 24), .inl (eI E, 24, .inl (vp 24))), ((ap 30), .inr (0, [.int (vp 30 0), .int (vp 31 0), .int (vp 32 0), .ref (ap 33), .ref (ap 34)])), ((ap 33), .inl (eI E, 18, .inl (vp 33))), ((ap 34), .inl (eI E, 24, .inl (vp 34))), ((ap 40), .inr (0, [.int (vp 40 0), .int (vp 41 0), .int (vp 42 0), .ref (ap 43), .ref (ap 44)])), ((ap 43), .inl (eI E, 18, .inl (vp 43))), ((ap 44), .inl (eI E, 24, .inl (vp 44))), ((ap 7), .inr (5, [.int (vp 60 0), .ref (ap 61), .ref (ap 62), .ref (ap 63)])), ((ap 61), .inl (eI E, 6, .inl (vp 61))), ((ap 62), .inl (eI E, 6, .inl (vp 62))), ((ap 63), .inl (eI E, 6, .inl (vp 63))), ((ap 8), .inr (5, [.int (vp 70 0), .ref (ap 71), .ref (ap 72), .ref (ap 73)])), ((ap 71), .inl (eI E, 6, .inl (vp 71))), ((ap 72), .inl (eI E, 6, .inl (vp 72))), ((ap 73), .inl (eI E, 6, .inl (vp 73))), ((ap 9), .inr (5, [.int (vp 80 0), .ref (ap 81), .ref (ap 82), .ref (ap 83)])), ((ap 81), .inl (eI E, 6, .inl (vp 81))), ((ap 82), .inl (eI E, 6, .inl (vp 82))), ((ap 83), .inl (eI E, 6, .inl (vp 83))), ((ap 10), .inr (5, [.int (vp 90 0), .ref (ap 91), .ref (ap 92), .ref (ap 93)])), ((ap 91), .inl (eI E, 6, .inl (vp 91))), ((ap 92), .inl (eI E, 6, .inl (vp 92))), ((ap 93), .inl (eI E, 6, .inl (vp 93)))]) (As := [.int r39, .int 4, .int o26_na]) (rest := []) (C := RX2) (ci := 2) ⟨hx, hb, hml, hown, hts⟩ (c_X2_refuseIf l E H.size qr qx fx ln o26_ps o26_fn o26_fa o26_na cx ck ap r39 4 o26_na (by omega)) (cwV 3 hts gX2_readWell_X2_refuseIf rfl rfl rfl (by decide +kernel) ⟨Nat.le_of_ble_eq_true rfl, Nat.le_of_ble_eq_true rfl⟩) hE hS hA hP hD [0, 1] [2, 3, 4, 5, 6, 7, 8, 9, 10, 11, 12, 13, 14, 15, 16, 17, 18, 19, 20, 21, 22, 23, 24, 25, 26, 27, 28, 29, 30] rfl rfl (by decide) (by decide) (by decide) [29, 30, 0, 1, 2, 3, 4, 5, 6, 7, 8, 9, 10, 11, 12, 13, 14, 15, 16, 17, 18, 19, 20, 21, 22, 23, 24, 25, 26, 27, 28] (by decide) (fun u => rfl) rfl rfl rfl rfl hl.1 rfl (Nat.le_of_ble_eq_true rfl) dX2_readWell_47 ⟨Nat.zero_le _, Nat.zero_le _⟩ (fun u47 H locs h47 hP hD hS => ?_)
    obtain ⟨o47_fn, o47_fa⟩ := u47
    try dsimp only at h47
    have hf47 := h47.2
    replace h47 := h47.1
    replace hP : va_P (eD E) vwCl (rdL E qr qx fx ln o26_ps o47_fn o47_fa o26_na cx ck ap vp) H := hP
    replace hD : va_D A (rdL E qr qx fx ln o26_ps o47_fn o47_fa o26_na cx ck ap vp) := hD
    rw [n_4] at hf47
    have hk47 : CF (chk (anyE (S 56) r26.toInt (S 55 0).toNat) 4 o26_na.toInt) o26_fn.toInt o26_fa.toInt o47_fn.toInt o47_fa.toInt (fun _ => True) := CF.chk (fun _ => ckA hf39 (by rw [hcn]; exact any_congr _ (fun j hj => (hRl.2 j (by omega)).1))) hf47
    clear hf47 hf39
    have hs47 := CF.then (s := fun z : Unit × ((Int × Int × Int) × (Int × Int × Int)) => chk (anyE (S 56) (plc (S 37 0) z.2) (S 55 0).toNat) 4 z.2.2.2.2) hs26 hk47 ((okF.chk (by decide)).th (fun _ => okF.num.th (fun _ => okF.num))) (fun z hz => by rw [hz.2.1, hz.2.2.2])
    refine lv_aload_n hx hb dX2_readWell_50 rfl (lv_at hl 1 rfl) ?_
    refine lv_iconst (v := 0) hx hb dX2_readWell_51 (by decide) ?_
    refine lv_bipush (v := 99) hx hb dX2_readWell_52 (by decide) ?_
    refine mt_Vi (w1 := fun (u : Int32 × Int32 × Int32 × Int32) => rbL E qr qx fx ln u.1 u.2.1 u.2.2.1 u.2.2.2 cx ck ap) (wf := fun (u : Int32 × Int32 × Int32 × Int32) => rdL E qr qx fx ln u.1 u.2.1 u.2.2.1 u.2.2.2 cx ck ap vp) (wr := [((ap 0), .inr (1, [.int (vp 0 0), .int (vp 1 0), .int (vp 2 0), .ref (ap 3), .ref (ap 4), .int (vp 5 0), .ref (ap 6), .ref (ap 7), .ref (ap 8), .ref (ap 9), .ref (ap 10)])), ((ap 3), .inl (eI E, 24, .inl (vp 3))), ((ap 4), .inl (eI E, 24, .inl (vp 4))), ((ap 6), .inl (eM E, 3, .inr (.inr (.inr (.inr (fun i => some (ap (20 + 10 * i)))))))), ((ap 20), .inr (0, [.int (vp 20 0), .int (vp 21 0), .int (vp 22 0), .ref (ap 23), .ref (ap 24)])), ((ap 23), .inl (eI E, 18, .inl (vp 23))), ((ap 24), .inl (eI E, 24, .inl (vp 24))), ((ap 30), .inr (0, [.int (vp 30 0), .int (vp 31 0), .int (vp 32 0), .ref (ap 33), .ref (ap 34)])), ((ap 33), .inl (eI E, 18, .inl (vp 33))), ((ap 34), .inl (eI E, 24, .inl (vp 34))), ((ap 40), .inr (0, [.int (vp 40 0), .int (vp 41 0), .int (vp 42 0), .ref (ap 43), .ref (ap 44)])), ((ap 43), .inl (eI E, 18, .inl (vp 43))), ((ap 44), .inl (eI E, 24, .inl (vp 44))), ((ap 7), .inr (5, [.int (vp 60 0), .ref (ap 61), .ref (ap 62), .ref (ap 63)])), ((ap 61), .inl (eI E, 6, .inl (vp 61))), ((ap 62), .inl (eI E, 6, .inl (vp 62))), ((ap 63), .inl (eI E, 6, .inl (vp 63))), ((ap 8), .inr (5, [.int (vp 70 0), .ref (ap 71), .ref (ap 72), .ref (ap 73)])), ((ap 71), .inl (eI E, 6, .inl (vp 71))), ((ap 72), .inl (eI E, 6, .inl (vp 72))), ((ap 73), .inl (eI E, 6, .inl (vp 73))), ((ap 9), .inr (5, [.int (vp 80 0), .ref (ap 81), .ref (ap 82), .ref (ap 83)])), ((ap 81), .inl (eI E, 6, .inl (vp 81))), ((ap 82), .inl (eI E, 6, .inl (vp 82))), ((ap 83), .inl (eI E, 6, .inl (vp 83))), ((ap 10), .inr (5, [.int (vp 90 0), .ref (ap 91), .ref (ap 92), .ref (ap 93)])), ((ap 91), .inl (eI E, 6, .inl (vp 91))), ((ap 92), .inl (eI E, 6, .inl (vp 92))), ((ap 93), .inl (eI E, 6, .inl (vp 93)))]) (As := [.int 0, .int 99]) (rest := []) (C := RX2) (ci := 2) ⟨hx, hb, hml, hown, hts⟩ (c_X2_readNumber l E H.size qr qx fx ln o26_ps o47_fn o47_fa o26_na cx ck ap 0 99 (by omega) (by omega)) (cwV 2 hts gX2_readWell_X2_readNumber rfl rfl rfl (by decide +kernel) ⟨Nat.le_of_ble_eq_true rfl, Nat.le_of_ble_eq_true rfl⟩) hE hS hA hP hD [0, 1] [2, 3, 4, 5, 6, 7, 8, 9, 10, 11, 12, 13, 14, 15, 16, 17, 18, 19, 20, 21, 22, 23, 24, 25, 26, 27, 28, 29, 30] rfl rfl (by decide) (by decide) (by decide) [29, 30, 0, 1, 2, 3, 4, 5, 6, 7, 8, 9, 10, 11, 12, 13, 14, 15, 16, 17, 18, 19, 20, 21, 22, 23, 24, 25, 26, 27, 28] (by decide) (fun u => rfl) rfl rfl rfl rfl hl.1 rfl (Nat.le_of_ble_eq_true rfl) dX2_readWell_54 ⟨Nat.zero_le _, Nat.zero_le _⟩ (fun r54 u54 H locs h54 hP hD hS => ?_)
    obtain ⟨o54_ps, o54_fn, o54_fa, o54_na⟩ := u54
    try dsimp only at h54
    have hf54 := h54.2
    replace h54 := h54.1
    replace hP : va_P (eD E) vwCl (rdL E qr qx fx ln o54_ps o54_fn o54_fa o54_na cx ck ap vp) H := hP
    replace hD : va_D A (rdL E qr qx fx ln o54_ps o54_fn o54_fa o54_na cx ck ap vp) := hD
    have pb54 : 0 ≤ r54.toInt ∧ r54.toInt ≤ 99 := pb_rn h54.1 (by decide) (by decide)
    rw [n_0, n_99] at hf54
    have hs54 := CF.then (s := fun z : (Unit × ((Int × Int × Int) × (Int × Int × Int))) × Unit => numF fx ln.toInt 0 99 z.1.2.2.2.1) hs47 hf54 (((okF.chk (by decide)).th (fun _ => okF.num.th (fun _ => okF.num))).th (fun _ => okF.chk (by decide))) (fun z hz => by rw [hz.1.2.2.1])
    refine lv_istore_n (lv' := [(3, .int r54), (2, .int r26), (0, .ref qr), (1, .int wd)]) hx hb dX2_readWell_57 rfl hl (by decide) rfl (fun ls hl => ?_)
    refine lv_aload_n hx hb dX2_readWell_58 rfl (lv_at hl 2 rfl) ?_
    refine lv_bipush (v := 59) hx hb dX2_readWell_59 (by decide) ?_
    refine mt_Vv (w1 := fun (u : Int32 × Int32 × Int32) => rbL E qr qx fx ln u.1 u.2.1 u.2.2 o54_na cx ck ap) (wf := fun (u : Int32 × Int32 × Int32) => rdL E qr qx fx ln u.1 u.2.1 u.2.2 o54_na cx ck ap vp) (wr := [((ap 0), .inr (1, [.int (vp 0 0), .int (vp 1 0), .int (vp 2 0), .ref (ap 3), .ref (ap 4), .int (vp 5 0), .ref (ap 6), .ref (ap 7), .ref (ap 8), .ref (ap 9), .ref (ap 10)])), ((ap 3), .inl (eI E, 24, .inl (vp 3))), ((ap 4), .inl (eI E, 24, .inl (vp 4))), ((ap 6), .inl (eM E, 3, .inr (.inr (.inr (.inr (fun i => some (ap (20 + 10 * i)))))))), ((ap 20), .inr (0, [.int (vp 20 0), .int (vp 21 0), .int (vp 22 0), .ref (ap 23), .ref (ap 24)])), ((ap 23), .inl (eI E, 18, .inl (vp 23))), ((ap 24), .inl (eI E, 24, .inl (vp 24))), ((ap 30), .inr (0, [.int (vp 30 0), .int (vp 31 0), .int (vp 32 0), .ref (ap 33), .ref (ap 34)])), ((ap 33), .inl (eI E, 18, .inl (vp 33))), ((ap 34), .inl (eI E, 24, .inl (vp 34))), ((ap 40), .inr (0, [.int (vp 40 0), .int (vp 41 0), .int (vp 42 0), .ref (ap 43), .ref (ap 44)])), ((ap 43), .inl (eI E, 18, .inl (vp 43))), ((ap 44), .inl (eI E, 24, .inl (vp 44))), ((ap 7), .inr (5, [.int (vp 60 0), .ref (ap 61), .ref (ap 62), .ref (ap 63)])), ((ap 61), .inl (eI E, 6, .inl (vp 61))), ((ap 62), .inl (eI E, 6, .inl (vp 62))), ((ap 63), .inl (eI E, 6, .inl (vp 63))), ((ap 8), .inr (5, [.int (vp 70 0), .ref (ap 71), .ref (ap 72), .ref (ap 73)])), ((ap 71), .inl (eI E, 6, .inl (vp 71))), ((ap 72), .inl (eI E, 6, .inl (vp 72))), ((ap 73), .inl (eI E, 6, .inl (vp 73))), ((ap 9), .inr (5, [.int (vp 80 0), .ref (ap 81), .ref (ap 82), .ref (ap 83)])), ((ap 81), .inl (eI E, 6, .inl (vp 81))), ((ap 82), .inl (eI E, 6, .inl (vp 82))), ((ap 83), .inl (eI E, 6, .inl (vp 83))), ((ap 10), .inr (5, [.int (vp 90 0), .ref (ap 91), .ref (ap 92), .ref (ap 93)])), ((ap 91), .inl (eI E, 6, .inl (vp 91))), ((ap 92), .inl (eI E, 6, .inl (vp 92))), ((ap 93), .inl (eI E, 6, .inl (vp 93)))]) (As := [.int 59]) (rest := []) (C := RX2) (ci := 2) ⟨hx, hb, hml, hown, hts⟩ (c_X2_readSign l E H.size qr qx fx ln o54_ps o54_fn o54_fa o54_na cx ck ap 59 (by omega) (by omega)) (cwV 1 hts gX2_readWell_X2_readSign rfl rfl rfl (by decide +kernel) ⟨Nat.le_of_ble_eq_true rfl, Nat.le_of_ble_eq_true rfl⟩) hE hS hA hP hD [0, 1] [2, 3, 4, 5, 6, 7, 8, 9, 10, 11, 12, 13, 14, 15, 16, 17, 18, 19, 20, 21, 22, 23, 24, 25, 26, 27, 28, 29, 30] rfl rfl (by decide) (by decide) (by decide) [29, 30, 0, 1, 2, 3, 4, 5, 6, 7, 8, 9, 10, 11, 12, 13, 14, 15, 16, 17, 18, 19, 20, 21, 22, 23, 24, 25, 26, 27, 28] (by decide) (fun u => rfl) rfl rfl rfl rfl hl.1 rfl (Nat.le_of_ble_eq_true rfl) dX2_readWell_61 ⟨Nat.zero_le _, Nat.zero_le _⟩ (fun u61 H locs h61 hP hD hS => ?_)
    obtain ⟨o61_ps, o61_fn, o61_fa⟩ := u61
    try dsimp only at h61
    have hf61 := h61.2
    replace h61 := h61.1
    replace hP : va_P (eD E) vwCl (rdL E qr qx fx ln o61_ps o61_fn o61_fa o54_na cx ck ap vp) H := hP
    replace hD : va_D A (rdL E qr qx fx ln o61_ps o61_fn o61_fa o54_na cx ck ap vp) := hD
    rw [n_59] at hf61
    have hs61 := CF.then (s := fun z : ((Unit × ((Int × Int × Int) × (Int × Int × Int))) × Unit) × (Int × Int × Int) => sgnF fx ln.toInt 59 z.2.2.1) hs54 hf61 ((((okF.chk (by decide)).th (fun _ => okF.num.th (fun _ => okF.num))).th (fun _ => okF.chk (by decide))).th (fun _ => okF.num)) (fun z hz => by rw [hz.2.2.1])
    refine lv_aload_n hx hb dX2_readWell_64 rfl (lv_at hl 2 rfl) ?_
    refine lv_aload_n hx hb dX2_readWell_65 rfl (lv_at hl 2 rfl) ?_
    refine va_get (D := eD E) (ci := 2) (v := .ref (ap 0)) (C := RX2) (T := TX2) (N := 9) hx hb hts in_X2 hown hK hP 0 rfl rfl 3 (by decide) lk0 (fun _ h9 => h9) rfl dX2_readWell_66 ?_
    refine va_get (D := eD E) (ci := 1) (v := .ref (ap 9)) (C := RX1) (T := TX1) (N := 11) hx hb hts in_X1 hown hK hP 2 rfl rfl 9 (by decide) lk1 (fun _ h9 => h9) rfl dX2_readWell_69 ?_
    refine lv_iload_n hx hb dX2_readWell_72 rfl (lv_at hl 1 rfl) ?_
    refine lv_iload_n hx hb dX2_readWell_73 rfl (lv_at hl 0 rfl) ?_
    refine lv_iconst (v := 0) hx hb dX2_readWell_74 (by decide) ?_
    refine mt_Vv (w1 := fun (u : Int32 × (Nat → Int32) × (Nat → Int32) × (Nat → Int32)) => adL E qr qx ln o61_ps o61_fn o61_fa o54_na cx ck ap (ap 9) (ap 81) (ap 82) (ap 83) u.1 u.2.1 u.2.2.1 u.2.2.2) (wf := fun (u : Int32 × (Nat → Int32) × (Nat → Int32) × (Nat → Int32)) => rdL E qr qx fx ln o61_ps o61_fn o61_fa o54_na cx ck ap (up3 (up3 (up3 (up2 vp 80 0 u.1) 81 u.2.1) 82 u.2.2.1) 83 u.2.2.2)) (wr := [(qx, .inl (eI E, 250, .inl fx)), ((ap 0), .inr (1, [.int (vp 0 0), .int (vp 1 0), .int (vp 2 0), .ref (ap 3), .ref (ap 4), .int (vp 5 0), .ref (ap 6), .ref (ap 7), .ref (ap 8), .ref (ap 9), .ref (ap 10)])), ((ap 3), .inl (eI E, 24, .inl (vp 3))), ((ap 4), .inl (eI E, 24, .inl (vp 4))), ((ap 6), .inl (eM E, 3, .inr (.inr (.inr (.inr (fun i => some (ap (20 + 10 * i)))))))), ((ap 20), .inr (0, [.int (vp 20 0), .int (vp 21 0), .int (vp 22 0), .ref (ap 23), .ref (ap 24)])), ((ap 23), .inl (eI E, 18, .inl (vp 23))), ((ap 24), .inl (eI E, 24, .inl (vp 24))), ((ap 30), .inr (0, [.int (vp 30 0), .int (vp 31 0), .int (vp 32 0), .ref (ap 33), .ref (ap 34)])), ((ap 33), .inl (eI E, 18, .inl (vp 33))), ((ap 34), .inl (eI E, 24, .inl (vp 34))), ((ap 40), .inr (0, [.int (vp 40 0), .int (vp 41 0), .int (vp 42 0), .ref (ap 43), .ref (ap 44)])), ((ap 43), .inl (eI E, 18, .inl (vp 43))), ((ap 44), .inl (eI E, 24, .inl (vp 44))), ((ap 7), .inr (5, [.int (vp 60 0), .ref (ap 61), .ref (ap 62), .ref (ap 63)])), ((ap 61), .inl (eI E, 6, .inl (vp 61))), ((ap 62), .inl (eI E, 6, .inl (vp 62))), ((ap 63), .inl (eI E, 6, .inl (vp 63))), ((ap 8), .inr (5, [.int (vp 70 0), .ref (ap 71), .ref (ap 72), .ref (ap 73)])), ((ap 71), .inl (eI E, 6, .inl (vp 71))), ((ap 72), .inl (eI E, 6, .inl (vp 72))), ((ap 73), .inl (eI E, 6, .inl (vp 73))), ((ap 10), .inr (5, [.int (vp 90 0), .ref (ap 91), .ref (ap 92), .ref (ap 93)])), ((ap 91), .inl (eI E, 6, .inl (vp 91))), ((ap 92), .inl (eI E, 6, .inl (vp 92))), ((ap 93), .inl (eI E, 6, .inl (vp 93)))]) (As := [.ref (ap 9), .int r26, .int r54, .int 0]) (rest := []) (C := RX2) (ci := 2) ⟨hx, hb, hml, hown, hts⟩ (c_X2_addTo l E H.size qr qx ln o61_ps o61_fn o61_fa o54_na cx ck ap (ap 9) (ap 81) (ap 82) (ap 83) (vp 80 0) (vp 81) (vp 82) (vp 83) r26 r54 0 (si_wide hs2 (by omega)) (by omega)) (cwV 4 hts gX2_readWell_X2_addTo rfl rfl rfl (by decide +kernel) ⟨Nat.le_of_ble_eq_true rfl, Nat.le_of_ble_eq_true rfl⟩) hE hS hA hP hD [0, 23, 24, 25, 26] [1, 2, 3, 4, 5, 6, 7, 8, 9, 10, 11, 12, 13, 14, 15, 16, 17, 18, 19, 20, 21, 22, 27, 28, 29, 30] rfl rfl (by decide) (by decide) (by decide) [26, 0, 1, 2, 3, 4, 5, 6, 7, 8, 9, 10, 11, 12, 13, 14, 15, 16, 17, 18, 19, 20, 21, 27, 28, 29, 30, 22, 23, 24, 25] (by decide) (fun u => rfl) rfl rfl rfl rfl hl.1 rfl (Nat.le_of_ble_eq_true rfl) dX2_readWell_75 ⟨Nat.zero_le _, Nat.zero_le _⟩ (fun u75 H locs h75 hP hD hS => ?_)
    obtain ⟨o75_n, o75_f1, o75_f2, o75_f3⟩ := u75
    try dsimp only at h75
    have hf75 := h75.2
    replace h75 := h75.1
    replace hP : va_P (eD E) vwCl (rdL E qr qx fx ln o61_ps o61_fn o61_fa o54_na cx ck ap (up3 (up3 (up3 (up2 vp 80 0 o75_n) 81 o75_f1) 82 o75_f2) 83 o75_f3)) H := hP
    replace hD : va_D A (rdL E qr qx fx ln o61_ps o61_fn o61_fa o54_na cx ck ap (up3 (up3 (up3 (up2 vp 80 0 o75_n) 81 o75_f1) 82 o75_f2) 83 o75_f3)) := hD
    generalize hv75 : up3 (up3 (up3 (up2 vp 80 0 o75_n) 81 o75_f1) 82 o75_f2) 83 o75_f3 = vp_75 at hP hD
    have hI2 : PlanI vp_75 := by rw [← hv75]; exact pl_s2 hI h75.1 (h75.2.2.elim (fun f61 => by have f54 := z_back h61.2.2.2 f61; have f47 := rn_ok h54 f54; have f26 := rf_ok h47 f47.1; have f22 := z_back h26.2.2.2 f26.2; have f20 := rf_ok h22 f22; have q := h75.2.1; have w := h20_0; clear h61 h54 h47 h26 h22 h75; omega) (fun e => by have q := e; have w := hc2; clear h61 h54 h47 h26 h22 h75; omega))
    subst hQ
    exact W.vret hx hb hr (fun t ht hW => ⟨⟨(o61_ps, o61_fn, o61_fa, o54_na, vp_75), rfl, (show (PlanI vp_75 ∧ (ps.toInt ≤ o61_ps.toInt ∧ o61_ps.toInt ≤ ln.toInt + 1) ∧ (o61_fn.toInt ≠ 0 ∨ o61_ps.toInt ≤ ln.toInt)) ∧ (CF (wellF fx ln.toInt S wd.toInt ps.toInt) fn.toInt fa.toInt o61_fn.toInt o61_fa.toInt (fun z => o61_ps.toInt = z.2 ∧ Rp (wellS S (plc (S 37 0) z.1.1.1.2) z.1.2.1) vp_75 cx ck)) from ⟨⟨hI2, ⟨Int.le_trans (Int.le_trans h26.2.1 h54.2.1) h61.1, h61.2.1⟩, h61.2.2.1⟩, (hs61.mono2 (fun q1 q2 z hzz hz => ⟨hz.2, by have hq6 := chk_no (th_get (th_get (th_get (th_get hzz).1).1).1).1; have hl6 : (vp 80 0).toInt < 6 := Int.lt_of_lt_of_le (by rw [hcn]; exact Int.not_le.mp hq6) (by decide); rw [← hv75, ← hz.1.1.1.2.1, ← hz.1.2.1]; exact rp_well hRp hs2.1.1 (hf75.1 q2 hl6).1 (hf75.1 q2 hl6).2.1 (hf75.1 q2 hl6).2.2.1⟩))⟩), by rw [ht]; exact hP, hD⟩, hS.F ht⟩) hS.2.2 dX2_readWell_78
  refine lv_icmp_lt (tgt := 19) hx hb dX2_readWell_12 (by decide) (fun c12 => ?_) (fun c12 => ?_)
  · have c12_ := i_lt c12
    refine lv_iconst (v := 0) hx hb dX2_readWell_19 (by decide) ?_
    exact K20 0 _ _ ls hP hD hS (by omega) (Or.inl ⟨by decide, by omega⟩) (lv_sub hl [0, 1] rfl)
  · have c12_ := i_nlt c12
    refine lv_iconst (v := 1) hx hb dX2_readWell_15 (by decide) ?_
    refine lv_goto (tgt := 20) hx hb dX2_readWell_16 (by decide) ?_
    exact K20 1 _ _ ls hP hD hS (by omega) (Or.inr ⟨by decide, by omega⟩) (lv_sub hl [0, 1] rfl)
end
section
def rm_X2_readDeed : Room := { frames := 2, cells := 0, slots := 0, locals := 47 }
set_option maxHeartbeats 4000000 in
set_option maxRecDepth 100000 in
theorem c_X2_readDeed (l : Launch) (E : Ev) (sz : Nat) (qr : Nat) (qx : Nat) (fx : Nat → Int32) (ln : Int32) (ps : Int32) (fn : Int32) (fa : Int32) (na : Int32) (cx : Int32) (ck : Int32) (ap : Nat → Nat) (vp : Vf) (wd : Int32) (S : St0) (hln : 0 ≤ ln.toInt ∧ ln.toInt ≤ 250) (hps : 0 ≤ ps.toInt ∧ ps.toInt ≤ ln.toInt) (hI : PlanI vp) (hRp : Rp S vp cx ck) : Met l yX2_readDeed wsX2_readDeed rm_X2_readDeed (MtP E sz [.ref qr, .int wd] (rdL E qr qx fx ln ps fn fa na cx ck ap vp)) (va_Qv (fun (u : Int32 × Int32 × Int32 × Int32 × Vf) => (PlanI u.2.2.2.2 ∧ (ps.toInt ≤ u.1.toInt ∧ u.1.toInt ≤ ln.toInt + 1) ∧ (u.2.1.toInt ≠ 0 ∨ u.1.toInt ≤ ln.toInt)) ∧ (CF (deedF fx ln.toInt S wd.toInt ps.toInt) fn.toInt fa.toInt u.2.1.toInt u.2.2.1.toInt (fun z => u.1.toInt = z.2 ∧ Rp (deedS S z.1.1.1.2.1 z.1.1.2.1) u.2.2.2.2 cx ck))) (MtB E (va_A (rdL E qr qx fx ln ps fn fa na cx ck ap vp) sz) (fun u => rdL E qr qx fx ln u.1 u.2.1 u.2.2.1 u.2.2.2.1 cx ck ap u.2.2.2.2)) (va_A (rdL E qr qx fx ln ps fn fa na cx ck ap vp) sz)) 0 0 (va_A (rdL E qr qx fx ln ps fn fa na cx ck ap vp) sz) := by
  refine Met.ofW (cc := cX2_readDeed) (maxL := 4) (ret := none) (by decide) rfl ?_
  intro p e s m args below meth c s₁ B hml hv
  obtain ⟨rfl, hsz, hE, hP, hD0⟩ := hv
  subst hsz
  have hD := hD0.self (sz := s.heap.size)
  generalize hAe : va_A (rdL E qr qx fx ln ps fn fa na cx ck ap vp) s.heap.size = A at hD hE ⊢
  have hA : ∀ q : Nat, s.heap.size ≤ q → A q := fun q h => by rw [← hAe]; exact Or.inr h
  have hS : va_S A s.heap s.heap [] := va_S.rf
  have hx := B.exec
  have hb := B.bytes
  have hr := B.returns
  have hts := atoms_spec (ws := wsX2_readDeed) B.pre
  have hown : s.vm.findClass RX2 = some m.cls := findClass_of_methodNamed B.named
  have hlocks := B.notSynchronized
  have hK := hE.1
  have in_X2 : ∀ w ∈ u_ws RX2 TX2 9, w ∈ wsX2_readDeed := fun w h => List.mem_cons_of_mem _ (List.mem_append_left _ (List.mem_append_left _ (List.mem_append_right _ h)))
  have in_X1 : ∀ w ∈ u_ws RX1 TX1 11, w ∈ wsX2_readDeed := fun w h => List.mem_cons_of_mem _ (List.mem_append_left _ (List.mem_append_right _ h))
  have in_X5 : ∀ w ∈ u_ws RX5 TX5 4, w ∈ wsX2_readDeed := fun w h => List.mem_cons_of_mem _ (List.mem_append_right _ h)
  have lk0 := hts (.fieldLink RX2 28 "TidedGround$Reader" "plan" "LTidedGround$Plan;") (List.mem_of_getElem? (i := 1) rfl)
  have lk1 := hts (.fieldLink RX2 164 "TidedGround$Plan" "deeds" "LTidedGround$Sites;") (List.mem_of_getElem? (i := 2) rfl)
  have lk2 := hts (.fieldLink RX2 139 "TidedGround$Sites" "count" "I") (List.mem_of_getElem? (i := 3) rfl)
  have lk3 := hts (.fieldLink RX2 87 "TidedGround$Reader" "numberAt" "I") (List.mem_of_getElem? (i := 4) rfl)
  have n_0 : (0 : Int32).toInt = 0 := by decide
  have n_1 : (1 : Int32).toInt = 1 := by decide
  have n_3 : (3 : Int32).toInt = 3 := by decide
  have n_4 : (4 : Int32).toInt = 4 := by decide
  have n_59 : (59 : Int32).toInt = 59 := by decide
  have n_100 : (100 : Int32).toInt = 100 := by decide
  have n_300 : (300 : Int32).toInt = 300 := by decide
  have hl := lv_entry ([.ref qr, .int wd]) (n := 4) (Nat.le_of_ble_eq_true rfl)
  rw [lg_entry_eq]
  generalize (lg_sl ([.ref qr, .int wd]) ++ List.replicate (4 - (lg_sl ([.ref qr, .int wd])).length) Slot.unset).toArray = ls at hl ⊢
  have hl : lv_has ls 4 [(0, .ref qr), (1, .int wd)] := hl
  refine W_abs (fun Q hQ => ?_)
  obtain ⟨hg, hmc, hm0, hm1, hm2, hs0, hs1, hs2, hs3⟩ := id hI
  obtain ⟨hg1, hg2, hg3, hg4⟩ := id hg
  have hz0 := hm0.1
  have hz1 := hm1.1
  have hz2 := hm2.1
  have hc0 := hs0.1
  have hc1 := hs1.1
  have hc2 := hs2.1
  have hc3 := hs3.1
  have hg5 : 0 ≤ (vp 2 0).toInt := by rw [hg3]; exact Int.mul_nonneg hg1.1 hg2.1
  have hRl := hRp.2.2.2.2.2.2
  have hcn := hRl.1
  refine lv_aload_n hx hb dX2_readDeed_0 rfl (lv_at hl 0 rfl) ?_
  refine lv_aload_n hx hb dX2_readDeed_1 rfl (lv_at hl 0 rfl) ?_
  refine va_get (D := eD E) (ci := 2) (v := .ref (ap 0)) (C := RX2) (T := TX2) (N := 9) hx hb hts in_X2 hown hK hP 0 rfl rfl 3 (by decide) lk0 (fun _ h9 => h9) rfl dX2_readDeed_2 ?_
  refine va_get (D := eD E) (ci := 1) (v := .ref (ap 10)) (C := RX1) (T := TX1) (N := 11) hx hb hts in_X1 hown hK hP 2 rfl rfl 10 (by decide) lk1 (fun _ h9 => h9) rfl dX2_readDeed_5 ?_
  refine va_get (D := eD E) (ci := 5) (v := .int (vp 90 0)) (C := RX5) (T := TX5) (N := 4) hx hb hts in_X5 hown hK hP 27 rfl rfl 0 (by decide) lk2 (fun _ h9 => h9) rfl dX2_readDeed_8 ?_
  refine lv_iconst (v := 4) hx hb dX2_readDeed_11 (by decide) ?_
  have K20 : ∀  (w : Int32) (H : Heap) (locs : List Loc) (ls : Array Slot), va_P (eD E) vwCl (rdL E qr qx fx ln ps fn fa na cx ck ap vp) H → va_D A (rdL E qr qx fx ln ps fn fa na cx ck ap vp) → va_S A s.heap H locs → ((w.toInt = 0 ∧ (vp 90 0).toInt < 4) ∨ w.toInt = 1) → ((w.toInt = 0 ∧ (vp 90 0).toInt < 4) ∨ (w.toInt = 1 ∧ 4 ≤ (vp 90 0).toInt)) → lv_has ls 4 [(0, .ref qr), (1, .int wd)] → W p l e (headSpec wsX2_readDeed rm_X2_readDeed).room s m ([.ref qr, .int wd] : List Value).toArray below meth c H locs 0 0 Q (F0 m 20 ls [.int w, .ref qr]) := by
    intro w H locs ls hP hD hS h20_0 h20_1 hl
    have hx20_0 := h20_1
    clear h20_1
    refine lv_iconst (v := 3) hx hb dX2_readDeed_20 (by decide) ?_
    refine lv_iload_n hx hb dX2_readDeed_21 rfl (lv_at hl 1 rfl) ?_
    refine mt_Vv (w1 := fun (u : Int32 × Int32) => rbL E qr qx fx ln ps u.1 u.2 na cx ck ap) (wf := fun (u : Int32 × Int32) => rdL E qr qx fx ln ps u.1 u.2 na cx ck ap vp) (wr := [((ap 0), .inr (1, [.int (vp 0 0), .int (vp 1 0), .int (vp 2 0), .ref (ap 3), .ref (ap 4), .int (vp 5 0), .ref (ap 6), .ref (ap 7), .ref (ap 8), .ref (ap 9), .ref (ap 10)])), ((ap 3), .inl (eI E, 24, .inl (vp 3))), ((ap 4), .inl (eI E, 24, .inl (vp 4))), ((ap 6), .inl (eM E, 3, .inr (.inr (.inr (.inr (fun i => some (ap (20 + 10 * i)))))))), ((ap 20), .inr (0, [.int (vp 20 0), .int (vp 21 0), .int (vp 22 0), .ref (ap 23), .ref (ap 24)])), ((ap 23), .inl (eI E, 18, .inl (vp 23))), ((ap 24), .inl (eI E, 24, .inl (vp 24))), ((ap 30), .inr (0, [.int (vp 30 0), .int (vp 31 0), .int (vp 32 0), .ref (ap 33), .ref (ap 34)])), ((ap 33), .inl (eI E, 18, .inl (vp 33))), ((ap 34), .inl (eI E, 24, .inl (vp 34))), ((ap 40), .inr (0, [.int (vp 40 0), .int (vp 41 0), .int (vp 42 0), .ref (ap 43), .ref (ap 44)])), ((ap 43), .inl (eI E, 18, .inl (vp 43))), ((ap 44), .inl (eI E, 24, .inl (vp 44))), ((ap 7), .inr (5, [.int (vp 60 0), .ref (ap 61), .ref (ap 62), .ref (ap 63)])), ((ap 61), .inl (eI E, 6, .inl (vp 61))), ((ap 62), .inl (eI E, 6, .inl (vp 62))), ((ap 63), .inl (eI E, 6, .inl (vp 63))), ((ap 8), .inr (5, [.int (vp 70 0), .ref (ap 71), .ref (ap 72), .ref (ap 73)])), ((ap 71), .inl (eI E, 6, .inl (vp 71))), ((ap 72), .inl (eI E, 6, .inl (vp 72))), ((ap 73), .inl (eI E, 6, .inl (vp 73))), ((ap 9), .inr (5, [.int (vp 80 0), .ref (ap 81), .ref (ap 82), .ref (ap 83)])), ((ap 81), .inl (eI E, 6, .inl (vp 81))), ((ap 82), .inl (eI E, 6, .inl (vp 82))), ((ap 83), .inl (eI E, 6, .inl (vp 83))), ((ap 10), .inr (5, [.int (vp 90 0), .ref (ap 91), .ref (ap 92), .ref (ap 93)])), ((ap 91), .inl (eI E, 6, .inl (vp 91))), ((ap 92), .inl (eI E, 6, .inl (vp 92))), ((ap 93), .inl (eI E, 6, .inl (vp 93)))]) (As := [.int w, .int 3, .int wd]) (rest := []) (C := RX2) (ci := 2) ⟨hx, hb, hml, hown, hts⟩ (c_X2_refuseIf l E H.size qr qx fx ln ps fn fa na cx ck ap w 3 wd (by omega)) (cwV 3 hts gX2_readDeed_X2_refuseIf rfl rfl rfl (by decide +kernel) ⟨Nat.le_of_ble_eq_true rfl, Nat.le_of_ble_eq_true rfl⟩) hE hS hA hP hD [0, 1] [2, 3, 4, 5, 6, 7, 8, 9, 10, 11, 12, 13, 14, 15, 16, 17, 18, 19, 20, 21, 22, 23, 24, 25, 26, 27, 28, 29, 30] rfl rfl (by decide) (by decide) (by decide) [29, 30, 0, 1, 2, 3, 4, 5, 6, 7, 8, 9, 10, 11, 12, 13, 14, 15, 16, 17, 18, 19, 20, 21, 22, 23, 24, 25, 26, 27, 28] (by decide) (fun u => rfl) rfl rfl rfl rfl hl.1 rfl (Nat.le_of_ble_eq_true rfl) dX2_readDeed_22 ⟨Nat.zero_le _, Nat.zero_le _⟩ (fun u22 H locs h22 hP hD hS => ?_)
    obtain ⟨o22_fn, o22_fa⟩ := u22
    try dsimp only at h22
    have hf22 := h22.2
    replace h22 := h22.1
    replace hP : va_P (eD E) vwCl (rdL E qr qx fx ln ps o22_fn o22_fa na cx ck ap vp) H := hP
    replace hD : va_D A (rdL E qr qx fx ln ps o22_fn o22_fa na cx ck ap vp) := hD
    rw [n_3] at hf22
    have hk22 : CF (chk (decide (4 ≤ S 58 0)) 3 wd.toInt) fn.toInt fa.toInt o22_fn.toInt o22_fa.toInt (fun _ => True) := CF.chk (fun _ => ckB (by omega)) hf22
    clear hf22 hx20_0
    refine lv_aload_n hx hb dX2_readDeed_25 rfl (lv_at hl 0 rfl) ?_
    refine lv_iconst (v := 0) hx hb dX2_readDeed_26 (by decide) ?_
    refine lv_sipush (v := 300) hx hb dX2_readDeed_27 (by decide) ?_
    refine mt_Vi (w1 := fun (u : Int32 × Int32 × Int32 × Int32) => rbL E qr qx fx ln u.1 u.2.1 u.2.2.1 u.2.2.2 cx ck ap) (wf := fun (u : Int32 × Int32 × Int32 × Int32) => rdL E qr qx fx ln u.1 u.2.1 u.2.2.1 u.2.2.2 cx ck ap vp) (wr := [((ap 0), .inr (1, [.int (vp 0 0), .int (vp 1 0), .int (vp 2 0), .ref (ap 3), .ref (ap 4), .int (vp 5 0), .ref (ap 6), .ref (ap 7), .ref (ap 8), .ref (ap 9), .ref (ap 10)])), ((ap 3), .inl (eI E, 24, .inl (vp 3))), ((ap 4), .inl (eI E, 24, .inl (vp 4))), ((ap 6), .inl (eM E, 3, .inr (.inr (.inr (.inr (fun i => some (ap (20 + 10 * i)))))))), ((ap 20), .inr (0, [.int (vp 20 0), .int (vp 21 0), .int (vp 22 0), .ref (ap 23), .ref (ap 24)])), ((ap 23), .inl (eI E, 18, .inl (vp 23))), ((ap 24), .inl (eI E, 24, .inl (vp 24))), ((ap 30), .inr (0, [.int (vp 30 0), .int (vp 31 0), .int (vp 32 0), .ref (ap 33), .ref (ap 34)])), ((ap 33), .inl (eI E, 18, .inl (vp 33))), ((ap 34), .inl (eI E, 24, .inl (vp 34))), ((ap 40), .inr (0, [.int (vp 40 0), .int (vp 41 0), .int (vp 42 0), .ref (ap 43), .ref (ap 44)])), ((ap 43), .inl (eI E, 18, .inl (vp 43))), ((ap 44), .inl (eI E, 24, .inl (vp 44))), ((ap 7), .inr (5, [.int (vp 60 0), .ref (ap 61), .ref (ap 62), .ref (ap 63)])), ((ap 61), .inl (eI E, 6, .inl (vp 61))), ((ap 62), .inl (eI E, 6, .inl (vp 62))), ((ap 63), .inl (eI E, 6, .inl (vp 63))), ((ap 8), .inr (5, [.int (vp 70 0), .ref (ap 71), .ref (ap 72), .ref (ap 73)])), ((ap 71), .inl (eI E, 6, .inl (vp 71))), ((ap 72), .inl (eI E, 6, .inl (vp 72))), ((ap 73), .inl (eI E, 6, .inl (vp 73))), ((ap 9), .inr (5, [.int (vp 80 0), .ref (ap 81), .ref (ap 82), .ref (ap 83)])), ((ap 81), .inl (eI E, 6, .inl (vp 81))), ((ap 82), .inl (eI E, 6, .inl (vp 82))), ((ap 83), .inl (eI E, 6, .inl (vp 83))), ((ap 10), .inr (5, [.int (vp 90 0), .ref (ap 91), .ref (ap 92), .ref (ap 93)])), ((ap 91), .inl (eI E, 6, .inl (vp 91))), ((ap 92), .inl (eI E, 6, .inl (vp 92))), ((ap 93), .inl (eI E, 6, .inl (vp 93)))]) (As := [.int 0, .int 300]) (rest := []) (C := RX2) (ci := 2) ⟨hx, hb, hml, hown, hts⟩ (c_X2_readNumber l E H.size qr qx fx ln ps o22_fn o22_fa na cx ck ap 0 300 (by omega) (by omega)) (cwV 2 hts gX2_readDeed_X2_readNumber rfl rfl rfl (by decide +kernel) ⟨Nat.le_of_ble_eq_true rfl, Nat.le_of_ble_eq_true rfl⟩) hE hS hA hP hD [0, 1] [2, 3, 4, 5, 6, 7, 8, 9, 10, 11, 12, 13, 14, 15, 16, 17, 18, 19, 20, 21, 22, 23, 24, 25, 26, 27, 28, 29, 30] rfl rfl (by decide) (by decide) (by decide) [29, 30, 0, 1, 2, 3, 4, 5, 6, 7, 8, 9, 10, 11, 12, 13, 14, 15, 16, 17, 18, 19, 20, 21, 22, 23, 24, 25, 26, 27, 28] (by decide) (fun u => rfl) rfl rfl rfl rfl hl.1 rfl (Nat.le_of_ble_eq_true rfl) dX2_readDeed_30 ⟨Nat.zero_le _, Nat.zero_le _⟩ (fun r30 u30 H locs h30 hP hD hS => ?_)
    obtain ⟨o30_ps, o30_fn, o30_fa, o30_na⟩ := u30
    try dsimp only at h30
    have hf30 := h30.2
    replace h30 := h30.1
    replace hP : va_P (eD E) vwCl (rdL E qr qx fx ln o30_ps o30_fn o30_fa o30_na cx ck ap vp) H := hP
    replace hD : va_D A (rdL E qr qx fx ln o30_ps o30_fn o30_fa o30_na cx ck ap vp) := hD
    have pb30 : 0 ≤ r30.toInt ∧ r30.toInt ≤ 300 := pb_rn h30.1 (by decide) (by decide)
    rw [n_0, n_300] at hf30
    have hs30 := CF.then (s := fun z : Unit => numF fx ln.toInt 0 300 ps.toInt) hk22 hf30 (okF.chk (by decide)) (fun z hz => by rfl)
    refine lv_istore_n (lv' := [(2, .int r30), (0, .ref qr), (1, .int wd)]) hx hb dX2_readDeed_33 rfl hl (by decide) rfl (fun ls hl => ?_)
    refine lv_aload_n hx hb dX2_readDeed_34 rfl (lv_at hl 1 rfl) ?_
    refine lv_iconst (v := 0) hx hb dX2_readDeed_35 (by decide) ?_
    refine lv_sipush (v := 300) hx hb dX2_readDeed_36 (by decide) ?_
    refine mt_Vi (w1 := fun (u : Int32 × Int32 × Int32 × Int32) => rbL E qr qx fx ln u.1 u.2.1 u.2.2.1 u.2.2.2 cx ck ap) (wf := fun (u : Int32 × Int32 × Int32 × Int32) => rdL E qr qx fx ln u.1 u.2.1 u.2.2.1 u.2.2.2 cx ck ap vp) (wr := [((ap 0), .inr (1, [.int (vp 0 0), .int (vp 1 0), .int (vp 2 0), .ref (ap 3), .ref (ap 4), .int (vp 5 0), .ref (ap 6), .ref (ap 7), .ref (ap 8), .ref (ap 9), .ref (ap 10)])), ((ap 3), .inl (eI E, 24, .inl (vp 3))), ((ap 4), .inl (eI E, 24, .inl (vp 4))), ((ap 6), .inl (eM E, 3, .inr (.inr (.inr (.inr (fun i => some (ap (20 + 10 * i)))))))), ((ap 20), .inr (0, [.int (vp 20 0), .int (vp 21 0), .int (vp 22 0), .ref (ap 23), .ref (ap 24)])), ((ap 23), .inl (eI E, 18, .inl (vp 23))), ((ap 24), .inl (eI E, 24, .inl (vp 24))), ((ap 30), .inr (0, [.int (vp 30 0), .int (vp 31 0), .int (vp 32 0), .ref (ap 33), .ref (ap 34)])), ((ap 33), .inl (eI E, 18, .inl (vp 33))), ((ap 34), .inl (eI E, 24, .inl (vp 34))), ((ap 40), .inr (0, [.int (vp 40 0), .int (vp 41 0), .int (vp 42 0), .ref (ap 43), .ref (ap 44)])), ((ap 43), .inl (eI E, 18, .inl (vp 43))), ((ap 44), .inl (eI E, 24, .inl (vp 44))), ((ap 7), .inr (5, [.int (vp 60 0), .ref (ap 61), .ref (ap 62), .ref (ap 63)])), ((ap 61), .inl (eI E, 6, .inl (vp 61))), ((ap 62), .inl (eI E, 6, .inl (vp 62))), ((ap 63), .inl (eI E, 6, .inl (vp 63))), ((ap 8), .inr (5, [.int (vp 70 0), .ref (ap 71), .ref (ap 72), .ref (ap 73)])), ((ap 71), .inl (eI E, 6, .inl (vp 71))), ((ap 72), .inl (eI E, 6, .inl (vp 72))), ((ap 73), .inl (eI E, 6, .inl (vp 73))), ((ap 9), .inr (5, [.int (vp 80 0), .ref (ap 81), .ref (ap 82), .ref (ap 83)])), ((ap 81), .inl (eI E, 6, .inl (vp 81))), ((ap 82), .inl (eI E, 6, .inl (vp 82))), ((ap 83), .inl (eI E, 6, .inl (vp 83))), ((ap 10), .inr (5, [.int (vp 90 0), .ref (ap 91), .ref (ap 92), .ref (ap 93)])), ((ap 91), .inl (eI E, 6, .inl (vp 91))), ((ap 92), .inl (eI E, 6, .inl (vp 92))), ((ap 93), .inl (eI E, 6, .inl (vp 93)))]) (As := [.int 0, .int 300]) (rest := []) (C := RX2) (ci := 2) ⟨hx, hb, hml, hown, hts⟩ (c_X2_readNumber l E H.size qr qx fx ln o30_ps o30_fn o30_fa o30_na cx ck ap 0 300 (by omega) (by omega)) (cwV 2 hts gX2_readDeed_X2_readNumber rfl rfl rfl (by decide +kernel) ⟨Nat.le_of_ble_eq_true rfl, Nat.le_of_ble_eq_true rfl⟩) hE hS hA hP hD [0, 1] [2, 3, 4, 5, 6, 7, 8, 9, 10, 11, 12, 13, 14, 15, 16, 17, 18, 19, 20, 21, 22, 23, 24, 25, 26, 27, 28, 29, 30] rfl rfl (by decide) (by decide) (by decide) [29, 30, 0, 1, 2, 3, 4, 5, 6, 7, 8, 9, 10, 11, 12, 13, 14, 15, 16, 17, 18, 19, 20, 21, 22, 23, 24, 25, 26, 27, 28] (by decide) (fun u => rfl) rfl rfl rfl rfl hl.1 rfl (Nat.le_of_ble_eq_true rfl) dX2_readDeed_39 ⟨Nat.zero_le _, Nat.zero_le _⟩ (fun r39 u39 H locs h39 hP hD hS => ?_)
    obtain ⟨o39_ps, o39_fn, o39_fa, o39_na⟩ := u39
    try dsimp only at h39
    have hf39 := h39.2
    replace h39 := h39.1
    replace hP : va_P (eD E) vwCl (rdL E qr qx fx ln o39_ps o39_fn o39_fa o39_na cx ck ap vp) H := hP
    replace hD : va_D A (rdL E qr qx fx ln o39_ps o39_fn o39_fa o39_na cx ck ap vp) := hD
    have pb39 : 0 ≤ r39.toInt ∧ r39.toInt ≤ 300 := pb_rn h39.1 (by decide) (by decide)
    rw [n_0, n_300] at hf39
    have hs39 := CF.then (s := fun z : Unit × (Int × Int × Int) => numF fx ln.toInt 0 300 z.2.2.1) hs30 hf39 ((okF.chk (by decide)).th (fun _ => okF.num)) (fun z hz => by rw [hz.2.2.1])
    refine lv_istore_n (lv' := [(3, .int r39), (2, .int r30), (0, .ref qr), (1, .int wd)]) hx hb dX2_readDeed_42 rfl hl (by decide) rfl (fun ls hl => ?_)
    refine lv_aload_n hx hb dX2_readDeed_43 rfl (lv_at hl 2 rfl) ?_
    refine lv_iload_n hx hb dX2_readDeed_44 rfl (lv_at hl 0 rfl) ?_
    refine lv_iload_n hx hb dX2_readDeed_45 rfl (lv_at hl 1 rfl) ?_
    have K54 : ∀  (w3 : Int32) (H : Heap) (locs : List Loc) (ls : Array Slot), va_P (eD E) vwCl (rdL E qr qx fx ln o39_ps o39_fn o39_fa o39_na cx ck ap vp) H → va_D A (rdL E qr qx fx ln o39_ps o39_fn o39_fa o39_na cx ck ap vp) → va_S A s.heap H locs → ((w3.toInt = 0 ∧ r30.toInt ≤ r39.toInt) ∨ (w3.toInt = 1 ∧ r39.toInt < r30.toInt)) → lv_has ls 4 [(0, .ref qr), (1, .int wd), (2, .int r30), (3, .int r39)] → W p l e (headSpec wsX2_readDeed rm_X2_readDeed).room s m ([.ref qr, .int wd] : List Value).toArray below meth c H locs 0 0 Q (F0 m 54 ls [.int w3, .ref qr]) := by
      intro w3 H locs ls hP hD hS h54_0 hl
      have hx54_0 := h54_0
      clear h54_0
      refine lv_iconst (v := 4) hx hb dX2_readDeed_54 (by decide) ?_
      refine lv_aload_n hx hb dX2_readDeed_55 rfl (lv_at hl 0 rfl) ?_
      refine va_get (D := eD E) (ci := 2) (v := .int o39_na) (C := RX2) (T := TX2) (N := 9) hx hb hts in_X2 hown hK hP 0 rfl rfl 6 (by decide) lk3 (fun _ h9 => h9) rfl dX2_readDeed_56 ?_
      refine mt_Vv (w1 := fun (u : Int32 × Int32) => rbL E qr qx fx ln o39_ps u.1 u.2 o39_na cx ck ap) (wf := fun (u : Int32 × Int32) => rdL E qr qx fx ln o39_ps u.1 u.2 o39_na cx ck ap vp) (wr := [((ap 0), .inr (1, [.int (vp 0 0), .int (vp 1 0), .int (vp 2 0), .ref (ap 3), .ref (ap 4), .int (vp 5 0), .ref (ap 6), .ref (ap 7), .ref (ap 8), .ref (ap 9), .ref (ap 10)])), ((ap 3), .inl (eI E, 24, .inl (vp 3))), ((ap 4), .inl (eI E, 24, .inl (vp 4))), ((ap 6), .inl (eM E, 3, .inr (.inr (.inr (.inr (fun i => some (ap (20 + 10 * i)))))))), ((ap 20), .inr (0, [.int (vp 20 0), .int (vp 21 0), .int (vp 22 0), .ref (ap 23), .ref (ap 24)])), ((ap 23), .inl (eI E, 18, .inl (vp 23))), ((ap 24), .inl (eI E, 24, .inl (vp 24))), ((ap 30), .inr (0, [.int (vp 30 0), .int (vp 31 0), .int (vp 32 0), .ref (ap 33), .ref (ap 34)])), ((ap 33), .inl (eI E, 18, .inl (vp 33))), ((ap 34), .inl (eI E, 24, .inl (vp 34))), ((ap 40), .inr (0, [.int (vp 40 0), .int (vp 41 0), .int (vp 42 0), .ref (ap 43), .ref (ap 44)])), ((ap 43), .inl (eI E, 18, .inl (vp 43))), ((ap 44), .inl (eI E, 24, .inl (vp 44))), ((ap 7), .inr (5, [.int (vp 60 0), .ref (ap 61), .ref (ap 62), .ref (ap 63)])), ((ap 61), .inl (eI E, 6, .inl (vp 61))), ((ap 62), .inl (eI E, 6, .inl (vp 62))), ((ap 63), .inl (eI E, 6, .inl (vp 63))), ((ap 8), .inr (5, [.int (vp 70 0), .ref (ap 71), .ref (ap 72), .ref (ap 73)])), ((ap 71), .inl (eI E, 6, .inl (vp 71))), ((ap 72), .inl (eI E, 6, .inl (vp 72))), ((ap 73), .inl (eI E, 6, .inl (vp 73))), ((ap 9), .inr (5, [.int (vp 80 0), .ref (ap 81), .ref (ap 82), .ref (ap 83)])), ((ap 81), .inl (eI E, 6, .inl (vp 81))), ((ap 82), .inl (eI E, 6, .inl (vp 82))), ((ap 83), .inl (eI E, 6, .inl (vp 83))), ((ap 10), .inr (5, [.int (vp 90 0), .ref (ap 91), .ref (ap 92), .ref (ap 93)])), ((ap 91), .inl (eI E, 6, .inl (vp 91))), ((ap 92), .inl (eI E, 6, .inl (vp 92))), ((ap 93), .inl (eI E, 6, .inl (vp 93)))]) (As := [.int w3, .int 4, .int o39_na]) (rest := []) (C := RX2) (ci := 2) ⟨hx, hb, hml, hown, hts⟩ (c_X2_refuseIf l E H.size qr qx fx ln o39_ps o39_fn o39_fa o39_na cx ck ap w3 4 o39_na (by omega)) (cwV 3 hts gX2_readDeed_X2_refuseIf rfl rfl rfl (by decide +kernel) ⟨Nat.le_of_ble_eq_true rfl, Nat.le_of_ble_eq_true rfl⟩) hE hS hA hP hD [0, 1] [2, 3, 4, 5, 6, 7, 8, 9, 10, 11, 12, 13, 14, 15, 16, 17, 18, 19, 20, 21, 22, 23, 24, 25, 26, 27, 28, 29, 30] rfl rfl (by decide) (by decide) (by decide) [29, 30, 0, 1, 2, 3, 4, 5, 6, 7, 8, 9, 10, 11, 12, 13, 14, 15, 16, 17, 18, 19, 20, 21, 22, 23, 24, 25, 26, 27, 28] (by decide) (fun u => rfl) rfl rfl rfl rfl hl.1 rfl (Nat.le_of_ble_eq_true rfl) dX2_readDeed_59 ⟨Nat.zero_le _, Nat.zero_le _⟩ (fun u59 H locs h59 hP hD hS => ?_)
      obtain ⟨o59_fn, o59_fa⟩ := u59
      try dsimp only at h59
      have hf59 := h59.2
      replace h59 := h59.1
      replace hP : va_P (eD E) vwCl (rdL E qr qx fx ln o39_ps o59_fn o59_fa o39_na cx ck ap vp) H := hP
      replace hD : va_D A (rdL E qr qx fx ln o39_ps o59_fn o59_fa o39_na cx ck ap vp) := hD
      rw [n_4] at hf59
      have hk59 : CF (chk (decide (r39.toInt < r30.toInt)) 4 o39_na.toInt) o39_fn.toInt o39_fa.toInt o59_fn.toInt o59_fa.toInt (fun _ => True) := CF.chk (fun _ => ckB (by omega)) hf59
      clear hf59 hx54_0
      have hs59 := CF.then (s := fun z : (Unit × (Int × Int × Int)) × (Int × Int × Int) => chk (decide (z.2.1 < z.1.2.1)) 4 z.2.2.2) hs39 hk59 (((okF.chk (by decide)).th (fun _ => okF.num)).th (fun _ => okF.num)) (fun z hz => by rw [hz.1.2.1, hz.2.1, hz.2.2.2])
      refine lv_aload_n hx hb dX2_readDeed_62 rfl (lv_at hl 0 rfl) ?_
      refine lv_bipush (v := 59) hx hb dX2_readDeed_63 (by decide) ?_
      refine mt_Vv (w1 := fun (u : Int32 × Int32 × Int32) => rbL E qr qx fx ln u.1 u.2.1 u.2.2 o39_na cx ck ap) (wf := fun (u : Int32 × Int32 × Int32) => rdL E qr qx fx ln u.1 u.2.1 u.2.2 o39_na cx ck ap vp) (wr := [((ap 0), .inr (1, [.int (vp 0 0), .int (vp 1 0), .int (vp 2 0), .ref (ap 3), .ref (ap 4), .int (vp 5 0), .ref (ap 6), .ref (ap 7), .ref (ap 8), .ref (ap 9), .ref (ap 10)])), ((ap 3), .inl (eI E, 24, .inl (vp 3))), ((ap 4), .inl (eI E, 24, .inl (vp 4))), ((ap 6), .inl (eM E, 3, .inr (.inr (.inr (.inr (fun i => some (ap (20 + 10 * i)))))))), ((ap 20), .inr (0, [.int (vp 20 0), .int (vp 21 0), .int (vp 22 0), .ref (ap 23), .ref (ap 24)])), ((ap 23), .inl (eI E, 18, .inl (vp 23))), ((ap 24), .inl (eI E, 24, .inl (vp 24))), ((ap 30), .inr (0, [.int (vp 30 0), .int (vp 31 0), .int (vp 32 0), .ref (ap 33), .ref (ap 34)])), ((ap 33), .inl (eI E, 18, .inl (vp 33))), ((ap 34), .inl (eI E, 24, .inl (vp 34))), ((ap 40), .inr (0, [.int (vp 40 0), .int (vp 41 0), .int (vp 42 0), .ref (ap 43), .ref (ap 44)])), ((ap 43), .inl (eI E, 18, .inl (vp 43))), ((ap 44), .inl (eI E, 24, .inl (vp 44))), ((ap 7), .inr (5, [.int (vp 60 0), .ref (ap 61), .ref (ap 62), .ref (ap 63)])), ((ap 61), .inl (eI E, 6, .inl (vp 61))), ((ap 62), .inl (eI E, 6, .inl (vp 62))), ((ap 63), .inl (eI E, 6, .inl (vp 63))), ((ap 8), .inr (5, [.int (vp 70 0), .ref (ap 71), .ref (ap 72), .ref (ap 73)])), ((ap 71), .inl (eI E, 6, .inl (vp 71))), ((ap 72), .inl (eI E, 6, .inl (vp 72))), ((ap 73), .inl (eI E, 6, .inl (vp 73))), ((ap 9), .inr (5, [.int (vp 80 0), .ref (ap 81), .ref (ap 82), .ref (ap 83)])), ((ap 81), .inl (eI E, 6, .inl (vp 81))), ((ap 82), .inl (eI E, 6, .inl (vp 82))), ((ap 83), .inl (eI E, 6, .inl (vp 83))), ((ap 10), .inr (5, [.int (vp 90 0), .ref (ap 91), .ref (ap 92), .ref (ap 93)])), ((ap 91), .inl (eI E, 6, .inl (vp 91))), ((ap 92), .inl (eI E, 6, .inl (vp 92))), ((ap 93), .inl (eI E, 6, .inl (vp 93)))]) (As := [.int 59]) (rest := []) (C := RX2) (ci := 2) ⟨hx, hb, hml, hown, hts⟩ (c_X2_readSign l E H.size qr qx fx ln o39_ps o59_fn o59_fa o39_na cx ck ap 59 (by omega) (by omega)) (cwV 1 hts gX2_readDeed_X2_readSign rfl rfl rfl (by decide +kernel) ⟨Nat.le_of_ble_eq_true rfl, Nat.le_of_ble_eq_true rfl⟩) hE hS hA hP hD [0, 1] [2, 3, 4, 5, 6, 7, 8, 9, 10, 11, 12, 13, 14, 15, 16, 17, 18, 19, 20, 21, 22, 23, 24, 25, 26, 27, 28, 29, 30] rfl rfl (by decide) (by decide) (by decide) [29, 30, 0, 1, 2, 3, 4, 5, 6, 7, 8, 9, 10, 11, 12, 13, 14, 15, 16, 17, 18, 19, 20, 21, 22, 23, 24, 25, 26, 27, 28] (by decide) (fun u => rfl) rfl rfl rfl rfl hl.1 rfl (Nat.le_of_ble_eq_true rfl) dX2_readDeed_65 ⟨Nat.zero_le _, Nat.zero_le _⟩ (fun u65 H locs h65 hP hD hS => ?_)
      obtain ⟨o65_ps, o65_fn, o65_fa⟩ := u65
      try dsimp only at h65
      have hf65 := h65.2
      replace h65 := h65.1
      replace hP : va_P (eD E) vwCl (rdL E qr qx fx ln o65_ps o65_fn o65_fa o39_na cx ck ap vp) H := hP
      replace hD : va_D A (rdL E qr qx fx ln o65_ps o65_fn o65_fa o39_na cx ck ap vp) := hD
      rw [n_59] at hf65
      have hs65 := CF.then (s := fun z : ((Unit × (Int × Int × Int)) × (Int × Int × Int)) × Unit => sgnF fx ln.toInt 59 z.1.2.2.1) hs59 hf65 ((((okF.chk (by decide)).th (fun _ => okF.num)).th (fun _ => okF.num)).th (fun _ => (okF.chk (by decide)))) (fun z hz => by rw [hz.1.2.2.1])
      refine lv_aload_n hx hb dX2_readDeed_68 rfl (lv_at hl 0 rfl) ?_
      refine lv_aload_n hx hb dX2_readDeed_69 rfl (lv_at hl 0 rfl) ?_
      refine va_get (D := eD E) (ci := 2) (v := .ref (ap 0)) (C := RX2) (T := TX2) (N := 9) hx hb hts in_X2 hown hK hP 0 rfl rfl 3 (by decide) lk0 (fun _ h9 => h9) rfl dX2_readDeed_70 ?_
      refine va_get (D := eD E) (ci := 1) (v := .ref (ap 10)) (C := RX1) (T := TX1) (N := 11) hx hb hts in_X1 hown hK hP 2 rfl rfl 10 (by decide) lk1 (fun _ h9 => h9) rfl dX2_readDeed_73 ?_
      refine lv_iconst (v := 0) hx hb dX2_readDeed_76 (by decide) ?_
      refine lv_iload_n hx hb dX2_readDeed_77 rfl (lv_at hl 2 rfl) ?_
      refine lv_bipush (v := 100) hx hb dX2_readDeed_78 (by decide) ?_
      refine lv_isub hx hb dX2_readDeed_80 ?_
      refine lv_topi (fun x80 e80 => ?_)
      have t80 := i_sub e80 (by omega)
      refine lv_iload_n hx hb dX2_readDeed_81 rfl (lv_at hl 3 rfl) ?_
      refine lv_bipush (v := 100) hx hb dX2_readDeed_82 (by decide) ?_
      refine lv_isub hx hb dX2_readDeed_84 ?_
      refine lv_topi (fun x84 e84 => ?_)
      have t84 := i_sub e84 (by omega)
      refine mt_Vv (w1 := fun (u : Int32 × (Nat → Int32) × (Nat → Int32) × (Nat → Int32)) => adL E qr qx ln o65_ps o65_fn o65_fa o39_na cx ck ap (ap 10) (ap 91) (ap 92) (ap 93) u.1 u.2.1 u.2.2.1 u.2.2.2) (wf := fun (u : Int32 × (Nat → Int32) × (Nat → Int32) × (Nat → Int32)) => rdL E qr qx fx ln o65_ps o65_fn o65_fa o39_na cx ck ap (up3 (up3 (up3 (up2 vp 90 0 u.1) 91 u.2.1) 92 u.2.2.1) 93 u.2.2.2)) (wr := [(qx, .inl (eI E, 250, .inl fx)), ((ap 0), .inr (1, [.int (vp 0 0), .int (vp 1 0), .int (vp 2 0), .ref (ap 3), .ref (ap 4), .int (vp 5 0), .ref (ap 6), .ref (ap 7), .ref (ap 8), .ref (ap 9), .ref (ap 10)])), ((ap 3), .inl (eI E, 24, .inl (vp 3))), ((ap 4), .inl (eI E, 24, .inl (vp 4))), ((ap 6), .inl (eM E, 3, .inr (.inr (.inr (.inr (fun i => some (ap (20 + 10 * i)))))))), ((ap 20), .inr (0, [.int (vp 20 0), .int (vp 21 0), .int (vp 22 0), .ref (ap 23), .ref (ap 24)])), ((ap 23), .inl (eI E, 18, .inl (vp 23))), ((ap 24), .inl (eI E, 24, .inl (vp 24))), ((ap 30), .inr (0, [.int (vp 30 0), .int (vp 31 0), .int (vp 32 0), .ref (ap 33), .ref (ap 34)])), ((ap 33), .inl (eI E, 18, .inl (vp 33))), ((ap 34), .inl (eI E, 24, .inl (vp 34))), ((ap 40), .inr (0, [.int (vp 40 0), .int (vp 41 0), .int (vp 42 0), .ref (ap 43), .ref (ap 44)])), ((ap 43), .inl (eI E, 18, .inl (vp 43))), ((ap 44), .inl (eI E, 24, .inl (vp 44))), ((ap 7), .inr (5, [.int (vp 60 0), .ref (ap 61), .ref (ap 62), .ref (ap 63)])), ((ap 61), .inl (eI E, 6, .inl (vp 61))), ((ap 62), .inl (eI E, 6, .inl (vp 62))), ((ap 63), .inl (eI E, 6, .inl (vp 63))), ((ap 8), .inr (5, [.int (vp 70 0), .ref (ap 71), .ref (ap 72), .ref (ap 73)])), ((ap 71), .inl (eI E, 6, .inl (vp 71))), ((ap 72), .inl (eI E, 6, .inl (vp 72))), ((ap 73), .inl (eI E, 6, .inl (vp 73))), ((ap 9), .inr (5, [.int (vp 80 0), .ref (ap 81), .ref (ap 82), .ref (ap 83)])), ((ap 81), .inl (eI E, 6, .inl (vp 81))), ((ap 82), .inl (eI E, 6, .inl (vp 82))), ((ap 83), .inl (eI E, 6, .inl (vp 83)))]) (As := [.ref (ap 10), .int 0, .int x80, .int x84]) (rest := []) (C := RX2) (ci := 2) ⟨hx, hb, hml, hown, hts⟩ (c_X2_addTo l E H.size qr qx ln o65_ps o65_fn o65_fa o39_na cx ck ap (ap 10) (ap 91) (ap 92) (ap 93) (vp 90 0) (vp 91) (vp 92) (vp 93) 0 x80 x84 (si_wide hs3 (by omega)) (by omega)) (cwV 4 hts gX2_readDeed_X2_addTo rfl rfl rfl (by decide +kernel) ⟨Nat.le_of_ble_eq_true rfl, Nat.le_of_ble_eq_true rfl⟩) hE hS hA hP hD [0, 27, 28, 29, 30] [1, 2, 3, 4, 5, 6, 7, 8, 9, 10, 11, 12, 13, 14, 15, 16, 17, 18, 19, 20, 21, 22, 23, 24, 25, 26] rfl rfl (by decide) (by decide) (by decide) [26, 0, 1, 2, 3, 4, 5, 6, 7, 8, 9, 10, 11, 12, 13, 14, 15, 16, 17, 18, 19, 20, 21, 22, 23, 24, 25, 27, 28, 29, 30] (by decide) (fun u => rfl) rfl rfl rfl rfl hl.1 rfl (Nat.le_of_ble_eq_true rfl) dX2_readDeed_85 ⟨Nat.zero_le _, Nat.zero_le _⟩ (fun u85 H locs h85 hP hD hS => ?_)
      obtain ⟨o85_n, o85_f1, o85_f2, o85_f3⟩ := u85
      try dsimp only at h85
      have hf85 := h85.2
      replace h85 := h85.1
      replace hP : va_P (eD E) vwCl (rdL E qr qx fx ln o65_ps o65_fn o65_fa o39_na cx ck ap (up3 (up3 (up3 (up2 vp 90 0 o85_n) 91 o85_f1) 92 o85_f2) 93 o85_f3)) H := hP
      replace hD : va_D A (rdL E qr qx fx ln o65_ps o65_fn o65_fa o39_na cx ck ap (up3 (up3 (up3 (up2 vp 90 0 o85_n) 91 o85_f1) 92 o85_f2) 93 o85_f3)) := hD
      generalize hv85 : up3 (up3 (up3 (up2 vp 90 0 o85_n) 91 o85_f1) 92 o85_f2) 93 o85_f3 = vp_85 at hP hD
      have hI2 : PlanI vp_85 := by rw [← hv85]; exact pl_s3 hI h85.1 (h85.2.2.elim (fun f65 => by have f59 := z_back h65.2.2.2 f65; have f39 := rf_ok h59 f59; have f30 := rn_ok h39 f39.2; have f22 := rn_ok h30 f30.1; have f20 := rf_ok h22 f22.1; have q := h85.2.1; have w := h20_0; clear h65 h59 h39 h30 h22 h85; omega) (fun e => by have q := e; have w := hc3; clear h65 h59 h39 h30 h22 h85; omega))
      subst hQ
      exact W.vret hx hb hr (fun t ht hW => ⟨⟨(o65_ps, o65_fn, o65_fa, o39_na, vp_85), rfl, (show (PlanI vp_85 ∧ (ps.toInt ≤ o65_ps.toInt ∧ o65_ps.toInt ≤ ln.toInt + 1) ∧ (o65_fn.toInt ≠ 0 ∨ o65_ps.toInt ≤ ln.toInt)) ∧ (CF (deedF fx ln.toInt S wd.toInt ps.toInt) fn.toInt fa.toInt o65_fn.toInt o65_fa.toInt (fun z => o65_ps.toInt = z.2 ∧ Rp (deedS S z.1.1.1.2.1 z.1.1.2.1) vp_85 cx ck)) from ⟨⟨hI2, ⟨Int.le_trans (Int.le_trans h30.2.1 h39.2.1) h65.1, h65.2.1⟩, h65.2.2.1⟩, (hs65.mono2 (fun q1 q2 z hzz hz => ⟨hz.2, by have hq6 := chk_no (th_get (th_get (th_get (th_get hzz).1).1).1).1; have hl6 : (vp 90 0).toInt < 6 := Int.lt_of_lt_of_le (by rw [hcn]; exact Int.not_le.mp hq6) (by decide); rw [← hv85, ← hz.1.1.1.2.1, ← hz.1.1.2.1]; exact rp_deed hRp hs3.1.1 (hf85.1 q2 hl6).1 (hf85.1 q2 hl6).2.2.1 (hf85.1 q2 hl6).2.2.2 (t80.trans (by rw [n_100])) (t84.trans (by rw [n_100]))⟩))⟩), by rw [ht]; exact hP, hD⟩, hS.F ht⟩) hS.2.2 dX2_readDeed_88
    refine lv_icmp_ge (tgt := 53) hx hb dX2_readDeed_46 (by decide) (fun c46 => ?_) (fun c46 => ?_)
    · have c46_ := i_le c46
      refine lv_iconst (v := 0) hx hb dX2_readDeed_53 (by decide) ?_
      exact K54 0 _ _ ls hP hD hS (Or.inl ⟨by decide, by omega⟩) (lv_sub hl [2, 3, 1, 0] rfl)
    · have c46_ := i_nle c46
      refine lv_iconst (v := 1) hx hb dX2_readDeed_49 (by decide) ?_
      refine lv_goto (tgt := 54) hx hb dX2_readDeed_50 (by decide) ?_
      exact K54 1 _ _ ls hP hD hS (Or.inr ⟨by decide, by omega⟩) (lv_sub hl [2, 3, 1, 0] rfl)
  refine lv_icmp_lt (tgt := 19) hx hb dX2_readDeed_12 (by decide) (fun c12 => ?_) (fun c12 => ?_)
  · have c12_ := i_lt c12
    refine lv_iconst (v := 0) hx hb dX2_readDeed_19 (by decide) ?_
    exact K20 0 _ _ ls hP hD hS (by omega) (Or.inl ⟨by decide, by omega⟩) (lv_sub hl [0, 1] rfl)
  · have c12_ := i_nlt c12
    refine lv_iconst (v := 1) hx hb dX2_readDeed_15 (by decide) ?_
    refine lv_goto (tgt := 20) hx hb dX2_readDeed_16 (by decide) ?_
    exact K20 1 _ _ ls hP hD hS (by omega) (Or.inr ⟨by decide, by omega⟩) (lv_sub hl [0, 1] rfl)
end
