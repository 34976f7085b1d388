section
abbrev rtL (E : Ev) (qr : Nat) (rt : Value) (ln : Int32) (ps : Int32) (rp : Value) (fn : Int32) (fa : Int32) (na : Int32) (cx : Int32) (ck : Int32) (qx : Nat) (fx : Nat → Int32) (ap : Nat → Nat) (vp : Vf) : va_W := [(qr, .inr (2, [rt, .int ln, .int ps, rp, .int fn, .int fa, .int na, .int cx, .int ck])), (qx, .inl (eI E, 250, .inl fx)), ((ap 0), .inr (1, [.int (vp 0 0), .int (vp 1 0), .int (vp 2 0), .ref (ap 3), .ref (ap 4), .int (vp 5 0), .ref (ap 6), .ref (ap 7), .ref (ap 8), .ref (ap 9), .ref (ap 10)])), ((ap 3), .inl (eI E, 24, .inl (vp 3))), ((ap 4), .inl (eI E, 24, .inl (vp 4))), ((ap 6), .inl (eM E, 3, .inr (.inr (.inr (.inr (fun i => some (ap (20 + 10 * i)))))))), ((ap 20), .inr (0, [.int (vp 20 0), .int (vp 21 0), .int (vp 22 0), .ref (ap 23), .ref (ap 24)])), ((ap 23), .inl (eI E, 18, .inl (vp 23))), ((ap 24), .inl (eI E, 24, .inl (vp 24))), ((ap 30), .inr (0, [.int (vp 30 0), .int (vp 31 0), .int (vp 32 0), .ref (ap 33), .ref (ap 34)])), ((ap 33), .inl (eI E, 18, .inl (vp 33))), ((ap 34), .inl (eI E, 24, .inl (vp 34))), ((ap 40), .inr (0, [.int (vp 40 0), .int (vp 41 0), .int (vp 42 0), .ref (ap 43), .ref (ap 44)])), ((ap 43), .inl (eI E, 18, .inl (vp 43))), ((ap 44), .inl (eI E, 24, .inl (vp 44))), ((ap 7), .inr (5, [.int (vp 60 0), .ref (ap 61), .ref (ap 62), .ref (ap 63)])), ((ap 61), .inl (eI E, 6, .inl (vp 61))), ((ap 62), .inl (eI E, 6, .inl (vp 62))), ((ap 63), .inl (eI E, 6, .inl (vp 63))), ((ap 8), .inr (5, [.int (vp 70 0), .ref (ap 71), .ref (ap 72), .ref (ap 73)])), ((ap 71), .inl (eI E, 6, .inl (vp 71))), ((ap 72), .inl (eI E, 6, .inl (vp 72))), ((ap 73), .inl (eI E, 6, .inl (vp 73))), ((ap 9), .inr (5, [.int (vp 80 0), .ref (ap 81), .ref (ap 82), .ref (ap 83)])), ((ap 81), .inl (eI E, 6, .inl (vp 81))), ((ap 82), .inl (eI E, 6, .inl (vp 82))), ((ap 83), .inl (eI E, 6, .inl (vp 83))), ((ap 10), .inr (5, [.int (vp 90 0), .ref (ap 91), .ref (ap 92), .ref (ap 93)])), ((ap 91), .inl (eI E, 6, .inl (vp 91))), ((ap 92), .inl (eI E, 6, .inl (vp 92))), ((ap 93), .inl (eI E, 6, .inl (vp 93)))]
def rm_X2_readText : Room := { frames := 5, cells := 0, slots := 0, locals := 115 }
set_option maxHeartbeats 4000000 in
set_option maxRecDepth 100000 in
theorem c_X2_readText (l : Launch) (E : Ev) (sz : Nat) (qr : Nat) (rt : Value) (ln : Int32) (ps : Int32) (rp : Value) (fn : Int32) (fa : Int32) (na : Int32) (cx : Int32) (ck : Int32) (qx : Nat) (fx : Nat → Int32) (ap : Nat → Nat) (vp : Vf) (cnt : Int32) (S0 : St0) (hcnt : 0 ≤ cnt.toInt ∧ cnt.toInt ≤ 250) (hR : PlanR vp) (hZ0 : Z0 S0) : Met l yX2_readText wsX2_readText rm_X2_readText (MtP E sz [.ref qr, .ref qx, .int cnt, .ref (ap 0)] (rtL E qr rt ln ps rp fn fa na cx ck qx fx ap vp)) (va_Qi (fun (r : Int32) (u : Value × Int32 × Int32 × Value × Int32 × Int32 × Int32 × Int32 × Int32 × Vf) => (PlanI u.2.2.2.2.2.2.2.2.2 ∧ r = u.2.2.2.2.1) ∧ (CF (textF fx cnt.toInt 251 0 S0) 0 (-1) u.2.2.2.2.1.toInt u.2.2.2.2.2.1.toInt (fun S => Rp S u.2.2.2.2.2.2.2.2.2 u.2.2.2.2.2.2.2.1 u.2.2.2.2.2.2.2.2.1))) (MtB E (va_A (rtL E qr rt ln ps rp fn fa na cx ck qx fx ap vp) sz) (fun u => rtL E qr u.1 u.2.1 u.2.2.1 u.2.2.2.1 u.2.2.2.2.1 u.2.2.2.2.2.1 u.2.2.2.2.2.2.1 u.2.2.2.2.2.2.2.1 u.2.2.2.2.2.2.2.2.1 qx fx ap u.2.2.2.2.2.2.2.2.2)) (va_A (rtL E qr rt ln ps rp fn fa na cx ck qx fx ap vp) sz)) 0 0 (va_A (rtL E qr rt ln ps rp fn fa na cx ck qx fx ap vp) sz) := by
  refine Met.ofW (cc := cX2_readText) (maxL := 5) (ret := (some .int)) (by decide) rfl ?_
  intro p e s m args below meth c s₁ B hml hv
  obtain ⟨rfl, hsz, hE, hP, hD0⟩ := hv
  subst hsz
  have hD := hD0.self (sz := s.heap.size)
  generalize hAe : va_A (rtL E qr rt ln ps rp fn fa na cx ck qx fx ap vp) s.heap.size = A at hD hE ⊢
  have hA : ∀ q : Nat, s.heap.size ≤ q → A q := fun q h => by rw [← hAe]; exact Or.inr h
  have hS : va_S A s.heap s.heap [] := va_S.rf
  have hx := B.exec
  have hb := B.bytes
  have hr := B.returns
  have hts := atoms_spec (ws := wsX2_readText) B.pre
  have hown : s.vm.findClass RX2 = some m.cls := findClass_of_methodNamed B.named
  have hlocks := B.notSynchronized
  have hK := hE.1
  have in_X2 : ∀ w ∈ u_ws RX2 TX2 9, w ∈ wsX2_readText := fun w h => List.mem_cons_of_mem _ (List.mem_append_left _ (List.mem_append_left _ (List.mem_append_left _ (List.mem_append_right _ h))))
  have lk0 := hts (.fieldLink RX2 9 "TidedGround$Reader" "text" "[I") (List.mem_of_getElem? (i := 1) rfl)
  have lk1 := hts (.methodLink RX2 15 Lib.Math.min.name) (List.mem_of_getElem? (i := 2) rfl)
  have lk2 := hts (.static Lib.Math.min.name) (List.mem_of_getElem? (i := 3) rfl)
  have lk3 := hts (.initialized "java/lang/Math") (List.mem_of_getElem? (i := 4) rfl)
  have lk4 := hts (.code Lib.Math.min.name Lib.Math.min.code 2 (some .int)) (List.mem_of_getElem? (i := 5) rfl)
  have lk5 := hts (.fieldLink RX2 21 "TidedGround$Reader" "length" "I") (List.mem_of_getElem? (i := 6) rfl)
  have lk6 := hts (.fieldLink RX2 25 "TidedGround$Reader" "at" "I") (List.mem_of_getElem? (i := 7) rfl)
  have lk7 := hts (.fieldLink RX2 28 "TidedGround$Reader" "plan" "LTidedGround$Plan;") (List.mem_of_getElem? (i := 8) rfl)
  have lk8 := hts (.fieldLink RX2 37 "TidedGround$Reader" "faultNumber" "I") (List.mem_of_getElem? (i := 9) rfl)
  have lk9 := hts (.fieldLink RX2 40 "TidedGround$Reader" "faultAt" "I") (List.mem_of_getElem? (i := 10) rfl)
  have lk10 := hts (.fieldLink RX2 43 "TidedGround$Reader" "changedCells" "I") (List.mem_of_getElem? (i := 11) rfl)
  have lk11 := hts (.fieldLink RX2 46 "TidedGround$Reader" "changedCount" "I") (List.mem_of_getElem? (i := 12) rfl)
  have n_m1 : ((-1) : Int32).toInt = -1 := by decide
  have n_0 : (0 : Int32).toInt = 0 := by decide
  have n_1 : (1 : Int32).toInt = 1 := by decide
  have n_250 : (250 : Int32).toInt = 250 := by decide
  have hl := lv_entry ([.ref qr, .ref qx, .int cnt, .ref (ap 0)]) (n := 5) (Nat.le_of_ble_eq_true rfl)
  rw [lg_entry_eq]
  generalize (lg_sl ([.ref qr, .ref qx, .int cnt, .ref (ap 0)]) ++ List.replicate (5 - (lg_sl ([.ref qr, .ref qx, .int cnt, .ref (ap 0)])).length) Slot.unset).toArray = ls at hl ⊢
  have hl : lv_has ls 5 [(0, .ref qr), (1, .ref qx), (2, .int cnt), (3, .ref (ap 0))] := hl
  refine W_abs (fun Q hQ => ?_)
  refine lv_aload_n hx hb dX2_readText_0 rfl (lv_at hl 0 rfl) ?_
  refine lv_aload_n hx hb dX2_readText_1 rfl (lv_at hl 1 rfl) ?_
  refine va_put (D := eD E) (ci := 2) (v := .ref qx) (ty := (.array .int)) (C := RX2) (T := TX2) (N := 9) hx hb hts in_X2 tyX2 tyX2_ok nmX2 hown hK hP hD hS 0 rfl rfl 0 (by decide) lk0 (fun _ h9 => h9) rfl (by decide +kernel) rfl rfl (Nat.le_of_ble_eq_true rfl) dX2_readText_2 (fun H locs hP hD hS => ?_)
  replace hP : va_P (eD E) vwCl (rtL E qr (.ref qx) ln ps rp fn fa na cx ck qx fx ap vp) H := hP
  replace hD : va_D A (rtL E qr (.ref qx) ln ps rp fn fa na cx ck qx fx ap vp) := hD
  refine lv_aload_n hx hb dX2_readText_5 rfl (lv_at hl 0 rfl) ?_
  refine lv_iload_n hx hb dX2_readText_6 rfl (lv_at hl 2 rfl) ?_
  refine lv_aload_n hx hb dX2_readText_7 rfl (lv_at hl 1 rfl) ?_
  refine va_alen (v := 250) hx hb hK hP 1 0 rfl rfl rfl dX2_readText_8 ?_
  refine va_mmin hx hb (hml.trans hl.1.symm) hown lk1 lk2 lk3 lk4 (Nat.le_of_ble_eq_true rfl) (Nat.le_of_ble_eq_true rfl) (Nat.zero_le _) (Nat.zero_le _) dX2_readText_9 ?_
  refine lv_topi (fun x9 e9 => ?_)
  have t9 := i_min e9
  refine va_put (D := eD E) (ci := 2) (v := .int x9) (ty := .int) (C := RX2) (T := TX2) (N := 9) hx hb hts in_X2 tyX2 tyX2_ok nmX2 hown hK hP hD hS 0 rfl rfl 1 (by decide) lk5 (fun _ h9 => h9) rfl (by decide +kernel) rfl rfl (Nat.le_of_ble_eq_true rfl) dX2_readText_12 (fun H locs hP hD hS => ?_)
  replace hP : va_P (eD E) vwCl (rtL E qr (.ref qx) x9 ps rp fn fa na cx ck qx fx ap vp) H := hP
  replace hD : va_D A (rtL E qr (.ref qx) x9 ps rp fn fa na cx ck qx fx ap vp) := hD
  refine lv_aload_n hx hb dX2_readText_15 rfl (lv_at hl 0 rfl) ?_
  refine lv_iconst (v := 0) hx hb dX2_readText_16 (by decide) ?_
  refine va_put (D := eD E) (ci := 2) (v := .int 0) (ty := .int) (C := RX2) (T := TX2) (N := 9) hx hb hts in_X2 tyX2 tyX2_ok nmX2 hown hK hP hD hS 0 rfl rfl 2 (by decide) lk6 (fun _ h9 => h9) rfl (by decide +kernel) rfl rfl (Nat.le_of_ble_eq_true rfl) dX2_readText_17 (fun H locs hP hD hS => ?_)
  replace hP : va_P (eD E) vwCl (rtL E qr (.ref qx) x9 0 rp fn fa na cx ck qx fx ap vp) H := hP
  replace hD : va_D A (rtL E qr (.ref qx) x9 0 rp fn fa na cx ck qx fx ap vp) := hD
  refine lv_aload_n hx hb dX2_readText_20 rfl (lv_at hl 0 rfl) ?_
  refine lv_aload_n hx hb dX2_readText_21 rfl (lv_at hl 3 rfl) ?_
  refine va_put (D := eD E) (ci := 2) (v := .ref (ap 0)) (ty := (.object "TidedGround$Plan")) (C := RX2) (T := TX2) (N := 9) hx hb hts in_X2 tyX2 tyX2_ok nmX2 hown hK hP hD hS 0 rfl rfl 3 (by decide) lk7 (fun _ h9 => h9) rfl (by decide +kernel) rfl rfl (Nat.le_of_ble_eq_true rfl) dX2_readText_22 (fun H locs hP hD hS => ?_)
  replace hP : va_P (eD E) vwCl (rtL E qr (.ref qx) x9 0 (.ref (ap 0)) fn fa na cx ck qx fx ap vp) H := hP
  replace hD : va_D A (rtL E qr (.ref qx) x9 0 (.ref (ap 0)) fn fa na cx ck qx fx ap vp) := hD
  refine lv_aload_n hx hb dX2_readText_25 rfl (lv_at hl 0 rfl) ?_
  refine va_get (D := eD E) (ci := 2) (v := .ref (ap 0)) (C := RX2) (T := TX2) (N := 9) hx hb hts in_X2 hown hK hP 0 rfl rfl 3 (by decide) lk7 (fun _ h9 => h9) rfl dX2_readText_26 ?_
  refine mt_Vv (w1 := fun (u : Vf) => planL E ap u) (wf := fun (u : Vf) => rtL E qr (.ref qx) x9 0 (.ref (ap 0)) fn fa na cx ck qx fx ap u) (wr := [(qr, .inr (2, [.ref qx, .int x9, .int 0, .ref (ap 0), .int fn, .int fa, .int na, .int cx, .int ck])), (qx, .inl (eI E, 250, .inl fx))]) (As := []) (rest := []) (C := RX1) (ci := 1) ⟨hx, hb, hml, hown, hts⟩ (c_X1_clear l E H.size ap vp hR) (cwV 0 hts gX2_readText_X1_clear rfl rfl rfl (by decide +kernel) ⟨Nat.le_of_ble_eq_true rfl, Nat.le_of_ble_eq_true rfl⟩) hE hS hA hP hD [2, 3, 4, 5, 6, 7, 8, 9, 10, 11, 12, 13, 14, 15, 16, 17, 18, 19, 20, 21, 22, 23, 24, 25, 26, 27, 28, 29, 30] [0, 1] rfl rfl (by decide) (by decide) (by decide) [0, 1, 2, 3, 4, 5, 6, 7, 8, 9, 10, 11, 12, 13, 14, 15, 16, 17, 18, 19, 20, 21, 22, 23, 24, 25, 26, 27, 28, 29, 30] (by decide) (fun u => rfl) rfl rfl rfl rfl hl.1 rfl (Nat.le_of_ble_eq_true rfl) dX2_readText_29 ⟨Nat.zero_le _, Nat.zero_le _⟩ (fun u29 H locs h29 hP hD hS => ?_)
  generalize u29 = o29_vp at hP hD h29
  try dsimp only at h29
  have hf29 := h29.2
  replace h29 := h29.1
  replace hP : va_P (eD E) vwCl (rtL E qr (.ref qx) x9 0 (.ref (ap 0)) fn fa na cx ck qx fx ap o29_vp) H := hP
  replace hD : va_D A (rtL E qr (.ref qx) x9 0 (.ref (ap 0)) fn fa na cx ck qx fx ap o29_vp) := hD
  have hI := h29.1
  have hRp0 : Rp S0 o29_vp 0 0 := rp_0 hZ0 (by rw [h29.2.1]; decide) (by rw [hf29.1.1]; decide) (by decide) rfl (by rw [hf29.1.2.1]; decide) (by rw [hf29.1.2.2.1]; decide) (by rw [hf29.1.2.2.2.1]; decide) (by rw [hf29.1.2.2.2.2.1]; decide) (by rw [hf29.1.2.2.2.2.2]; decide) hf29.2.1 hf29.2.2.1 hf29.2.2.2
  have hx9 : x9.toInt = cnt.toInt := by omega
  refine lv_aload_n hx hb dX2_readText_32 rfl (lv_at hl 0 rfl) ?_
  refine lv_iconst (v := 0) hx hb dX2_readText_33 (by decide) ?_
  refine va_put (D := eD E) (ci := 2) (v := .int 0) (ty := .int) (C := RX2) (T := TX2) (N := 9) hx hb hts in_X2 tyX2 tyX2_ok nmX2 hown hK hP hD hS 0 rfl rfl 4 (by decide) lk8 (fun _ h9 => h9) rfl (by decide +kernel) rfl rfl (Nat.le_of_ble_eq_true rfl) dX2_readText_34 (fun H locs hP hD hS => ?_)
  replace hP : va_P (eD E) vwCl (rtL E qr (.ref qx) x9 0 (.ref (ap 0)) 0 fa na cx ck qx fx ap o29_vp) H := hP
  replace hD : va_D A (rtL E qr (.ref qx) x9 0 (.ref (ap 0)) 0 fa na cx ck qx fx ap o29_vp) := hD
  refine lv_aload_n hx hb dX2_readText_37 rfl (lv_at hl 0 rfl) ?_
  refine lv_iconst (v := (-1)) hx hb dX2_readText_38 (by decide) ?_
  refine va_put (D := eD E) (ci := 2) (v := .int (-1)) (ty := .int) (C := RX2) (T := TX2) (N := 9) hx hb hts in_X2 tyX2 tyX2_ok nmX2 hown hK hP hD hS 0 rfl rfl 5 (by decide) lk9 (fun _ h9 => h9) rfl (by decide +kernel) rfl rfl (Nat.le_of_ble_eq_true rfl) dX2_readText_39 (fun H locs hP hD hS => ?_)
  replace hP : va_P (eD E) vwCl (rtL E qr (.ref qx) x9 0 (.ref (ap 0)) 0 (-1) na cx ck qx fx ap o29_vp) H := hP
  replace hD : va_D A (rtL E qr (.ref qx) x9 0 (.ref (ap 0)) 0 (-1) na cx ck qx fx ap o29_vp) := hD
  refine lv_aload_n hx hb dX2_readText_42 rfl (lv_at hl 0 rfl) ?_
  refine lv_iconst (v := 0) hx hb dX2_readText_43 (by decide) ?_
  refine va_put (D := eD E) (ci := 2) (v := .int 0) (ty := .int) (C := RX2) (T := TX2) (N := 9) hx hb hts in_X2 tyX2 tyX2_ok nmX2 hown hK hP hD hS 0 rfl rfl 7 (by decide) lk10 (fun _ h9 => h9) rfl (by decide +kernel) rfl rfl (Nat.le_of_ble_eq_true rfl) dX2_readText_44 (fun H locs hP hD hS => ?_)
  replace hP : va_P (eD E) vwCl (rtL E qr (.ref qx) x9 0 (.ref (ap 0)) 0 (-1) na 0 ck qx fx ap o29_vp) H := hP
  replace hD : va_D A (rtL E qr (.ref qx) x9 0 (.ref (ap 0)) 0 (-1) na 0 ck qx fx ap o29_vp) := hD
  refine lv_aload_n hx hb dX2_readText_47 rfl (lv_at hl 0 rfl) ?_
  refine lv_iconst (v := 0) hx hb dX2_readText_48 (by decide) ?_
  refine va_put (D := eD E) (ci := 2) (v := .int 0) (ty := .int) (C := RX2) (T := TX2) (N := 9) hx hb hts in_X2 tyX2 tyX2_ok nmX2 hown hK hP hD hS 0 rfl rfl 8 (by decide) lk11 (fun _ h9 => h9) rfl (by decide +kernel) rfl rfl (Nat.le_of_ble_eq_true rfl) dX2_readText_49 (fun H locs hP hD hS => ?_)
  replace hP : va_P (eD E) vwCl (rtL E qr (.ref qx) x9 0 (.ref (ap 0)) 0 (-1) na 0 0 qx fx ap o29_vp) H := hP
  replace hD : va_D A (rtL E qr (.ref qx) x9 0 (.ref (ap 0)) 0 (-1) na 0 0 qx fx ap o29_vp) := hD
  refine lv_iconst (v := 0) hx hb dX2_readText_52 (by decide) ?_
  refine lv_istore (lv' := [(4, .int 0), (0, .ref qr), (1, .ref qx), (2, .int cnt), (3, .ref (ap 0))]) hx hb dX2_readText_53 hl (by decide) rfl (fun ls hl => ?_)
  have K55 : ∀ (μ : Nat) (i : Int32) (S : St0) (ps1 : Int32) (fn1 : Int32) (fa1 : Int32) (na1 : Int32) (cx1 : Int32) (ck1 : Int32) (vp1 : Vf) (H : Heap) (locs : List Loc) (ls : Array Slot), (251 - i.toInt).toNat < μ → va_P (eD E) vwCl (rtL E qr (.ref qx) x9 ps1 (.ref (ap 0)) fn1 fa1 na1 cx1 ck1 qx fx ap vp1) H → va_D A (rtL E qr (.ref qx) x9 ps1 (.ref (ap 0)) fn1 fa1 na1 cx1 ck1 qx fx ap vp1) → va_S A s.heap H locs → (0 ≤ i.toInt ∧ i.toInt ≤ 251) → (0 ≤ ps1.toInt ∧ ps1.toInt ≤ x9.toInt + 1) → (¬ fn1.toInt = 0 ∨ ps1.toInt ≤ x9.toInt) → (PlanI vp1) → (TxI fx x9.toInt S0 i.toInt.toNat ps1.toInt fn1.toInt fa1.toInt S vp1 cx1 ck1) → (fn1.toInt ≠ 0 ∨ i.toInt ≤ ps1.toInt) → lv_has ls 5 [(0, .ref qr), (1, .ref qx), (2, .int cnt), (3, .ref (ap 0)), (4, .int i)] → W p l e (headSpec wsX2_readText rm_X2_readText).room s m ([.ref qr, .ref qx, .int cnt, .ref (ap 0)] : List Value).toArray below meth c H locs 0 0 Q (F0 m 55 ls []) := by
    intro μ
    induction μ with
    | zero =>
      intro i S ps1 fn1 fa1 na1 cx1 ck1 vp1 H locs ls hμ55
      exact absurd hμ55 (Nat.not_lt_zero _)
    | succ μ ih55 =>
      intro i S ps1 fn1 fa1 na1 cx1 ck1 vp1 H locs ls hμ55 hP hD hS h55_0 h55_1 h55_2 h55_3 h55_4 h55_5 hl
      have hx55_0 := h55_4
      clear h55_4
      have hx55_1 := h55_5
      clear h55_5
      have hI := h55_3
      refine lv_iload hx hb dX2_readText_55 (lv_at hl 4 rfl) ?_
      refine lv_aload_n hx hb dX2_readText_57 rfl (lv_at hl 0 rfl) ?_
      refine va_get (D := eD E) (ci := 2) (v := .int x9) (C := RX2) (T := TX2) (N := 9) hx hb hts in_X2 hown hK hP 0 rfl rfl 1 (by decide) lk5 (fun _ h9 => h9) rfl dX2_readText_58 ?_
      refine lv_icmp_gt (tgt := 99) hx hb dX2_readText_61 (by decide) (fun c61 => ?_) (fun c61 => ?_)
      · have c61_ := i_lt c61
        refine lv_aload_n hx hb dX2_readText_99 rfl (lv_at hl 0 rfl) ?_
        refine va_get (D := eD E) (ci := 2) (v := .int fn1) (C := RX2) (T := TX2) (N := 9) hx hb hts in_X2 hown hK hP 0 rfl rfl 4 (by decide) lk8 (fun _ h9 => h9) rfl dX2_readText_100 ?_
        subst hQ
        exact W.iret (v := fn1) hx hb hr (fun t ht hW => ⟨⟨fn1, ((.ref qx), x9, ps1, (.ref (ap 0)), fn1, fa1, na1, cx1, ck1, vp1), rfl, (show (PlanI vp1 ∧ fn1 = fn1) ∧ (CF (textF fx cnt.toInt 251 0 S0) 0 (-1) fn1.toInt fa1.toInt (fun S => Rp S vp1 cx1 ck1)) from ⟨⟨h55_3, rfl⟩, (hx9 ▸ hx55_0.fin (by first | exact Or.inl (by omega) | exact Or.inr (by rw [hf72]; omega) | (exact Or.inr (Int.le_of_eq (by omega)))))⟩), by rw [ht]; exact hP, hD⟩, hS.F ht⟩) hS.2.2 dX2_readText_103
      · have c61_ := i_nlt c61
        refine lv_aload_n hx hb dX2_readText_64 rfl (lv_at hl 0 rfl) ?_
        refine va_get (D := eD E) (ci := 2) (v := .int fn1) (C := RX2) (T := TX2) (N := 9) hx hb hts in_X2 hown hK hP 0 rfl rfl 4 (by decide) lk8 (fun _ h9 => h9) rfl dX2_readText_65 ?_
        refine lv_if_ne (tgt := 99) hx hb dX2_readText_68 (by decide) (fun c68 => ?_) (fun c68 => ?_)
        · have c68_ := i_ne c68
          refine lv_aload_n hx hb dX2_readText_99 rfl (lv_at hl 0 rfl) ?_
          refine va_get (D := eD E) (ci := 2) (v := .int fn1) (C := RX2) (T := TX2) (N := 9) hx hb hts in_X2 hown hK hP 0 rfl rfl 4 (by decide) lk8 (fun _ h9 => h9) rfl dX2_readText_100 ?_
          subst hQ
          exact W.iret (v := fn1) hx hb hr (fun t ht hW => ⟨⟨fn1, ((.ref qx), x9, ps1, (.ref (ap 0)), fn1, fa1, na1, cx1, ck1, vp1), rfl, (show (PlanI vp1 ∧ fn1 = fn1) ∧ (CF (textF fx cnt.toInt 251 0 S0) 0 (-1) fn1.toInt fa1.toInt (fun S => Rp S vp1 cx1 ck1)) from ⟨⟨h55_3, rfl⟩, (hx9 ▸ hx55_0.fin (by first | exact Or.inl (by omega) | exact Or.inr (by rw [hf72]; omega) | (exact Or.inr (Int.le_of_eq (by omega)))))⟩), by rw [ht]; exact hP, hD⟩, hS.F ht⟩) hS.2.2 dX2_readText_103
        · have c68_ := i_eq c68
          refine lv_aload_n hx hb dX2_readText_71 rfl (lv_at hl 0 rfl) ?_
          refine mt_Vv (w1 := fun (u : Int32) => rbL E qr qx fx x9 u fn1 fa1 na1 cx1 ck1 ap) (wf := fun (u : Int32) => rtL E qr (.ref qx) x9 u (.ref (ap 0)) fn1 fa1 na1 cx1 ck1 qx fx ap vp1) (wr := [((ap 0), .inr (1, [.int (vp1 0 0), .int (vp1 1 0), .int (vp1 2 0), .ref (ap 3), .ref (ap 4), .int (vp1 5 0), .ref (ap 6), .ref (ap 7), .ref (ap 8), .ref (ap 9), .ref (ap 10)])), ((ap 3), .inl (eI E, 24, .inl (vp1 3))), ((ap 4), .inl (eI E, 24, .inl (vp1 4))), ((ap 6), .inl (eM E, 3, .inr (.inr (.inr (.inr (fun i => some (ap (20 + 10 * i)))))))), ((ap 20), .inr (0, [.int (vp1 20 0), .int (vp1 21 0), .int (vp1 22 0), .ref (ap 23), .ref (ap 24)])), ((ap 23), .inl (eI E, 18, .inl (vp1 23))), ((ap 24), .inl (eI E, 24, .inl (vp1 24))), ((ap 30), .inr (0, [.int (vp1 30 0), .int (vp1 31 0), .int (vp1 32 0), .ref (ap 33), .ref (ap 34)])), ((ap 33), .inl (eI E, 18, .inl (vp1 33))), ((ap 34), .inl (eI E, 24, .inl (vp1 34))), ((ap 40), .inr (0, [.int (vp1 40 0), .int (vp1 41 0), .int (vp1 42 0), .ref (ap 43), .ref (ap 44)])), ((ap 43), .inl (eI E, 18, .inl (vp1 43))), ((ap 44), .inl (eI E, 24, .inl (vp1 44))), ((ap 7), .inr (5, [.int (vp1 60 0), .ref (ap 61), .ref (ap 62), .ref (ap 63)])), ((ap 61), .inl (eI E, 6, .inl (vp1 61))), ((ap 62), .inl (eI E, 6, .inl (vp1 62))), ((ap 63), .inl (eI E, 6, .inl (vp1 63))), ((ap 8), .inr (5, [.int (vp1 70 0), .ref (ap 71), .ref (ap 72), .ref (ap 73)])), ((ap 71), .inl (eI E, 6, .inl (vp1 71))), ((ap 72), .inl (eI E, 6, .inl (vp1 72))), ((ap 73), .inl (eI E, 6, .inl (vp1 73))), ((ap 9), .inr (5, [.int (vp1 80 0), .ref (ap 81), .ref (ap 82), .ref (ap 83)])), ((ap 81), .inl (eI E, 6, .inl (vp1 81))), ((ap 82), .inl (eI E, 6, .inl (vp1 82))), ((ap 83), .inl (eI E, 6, .inl (vp1 83))), ((ap 10), .inr (5, [.int (vp1 90 0), .ref (ap 91), .ref (ap 92), .ref (ap 93)])), ((ap 91), .inl (eI E, 6, .inl (vp1 91))), ((ap 92), .inl (eI E, 6, .inl (vp1 92))), ((ap 93), .inl (eI E, 6, .inl (vp1 93)))]) (As := []) (rest := []) (C := RX2) (ci := 2) ⟨hx, hb, hml, hown, hts⟩ (c_X2_skipBlanks l E H.size qr qx fx x9 ps1 fn1 fa1 na1 cx1 ck1 ap (by omega) (by omega)) (cwV 0 hts gX2_readText_X2_skipBlanks rfl rfl rfl (by decide +kernel) ⟨Nat.le_of_ble_eq_true rfl, Nat.le_of_ble_eq_true rfl⟩) hE hS hA hP hD [0, 1] [2, 3, 4, 5, 6, 7, 8, 9, 10, 11, 12, 13, 14, 15, 16, 17, 18, 19, 20, 21, 22, 23, 24, 25, 26, 27, 28, 29, 30] rfl rfl (by decide) (by decide) (by decide) [29, 30, 0, 1, 2, 3, 4, 5, 6, 7, 8, 9, 10, 11, 12, 13, 14, 15, 16, 17, 18, 19, 20, 21, 22, 23, 24, 25, 26, 27, 28] (by decide) (fun u => rfl) rfl rfl rfl rfl hl.1 rfl (Nat.le_of_ble_eq_true rfl) dX2_readText_72 ⟨Nat.zero_le _, Nat.zero_le _⟩ (fun u72 H locs h72 hP hD hS => ?_)
          generalize u72 = o72_ps at hP hD h72
          try dsimp only at h72
          have hf72 := h72.2
          replace h72 := h72.1
          replace hP : va_P (eD E) vwCl (rtL E qr (.ref qx) x9 o72_ps (.ref (ap 0)) fn1 fa1 na1 cx1 ck1 qx fx ap vp1) H := hP
          replace hD : va_D A (rtL E qr (.ref qx) x9 o72_ps (.ref (ap 0)) fn1 fa1 na1 cx1 ck1 qx fx ap vp1) := hD
          refine lv_aload_n hx hb dX2_readText_75 rfl (lv_at hl 0 rfl) ?_
          refine va_get (D := eD E) (ci := 2) (v := .int o72_ps) (C := RX2) (T := TX2) (N := 9) hx hb hts in_X2 hown hK hP 0 rfl rfl 2 (by decide) lk6 (fun _ h9 => h9) rfl dX2_readText_76 ?_
          refine lv_aload_n hx hb dX2_readText_79 rfl (lv_at hl 0 rfl) ?_
          refine va_get (D := eD E) (ci := 2) (v := .int x9) (C := RX2) (T := TX2) (N := 9) hx hb hts in_X2 hown hK hP 0 rfl rfl 1 (by decide) lk5 (fun _ h9 => h9) rfl dX2_readText_80 ?_
          refine lv_icmp_lt (tgt := 89) hx hb dX2_readText_83 (by decide) (fun c83 => ?_) (fun c83 => ?_)
          · have c83_ := i_lt c83
            have hT := hx55_0.resolve_left (fun q => absurd q.1 (by omega))
            have hRp := hT.2.2.2
            refine lv_aload_n hx hb dX2_readText_89 rfl (lv_at hl 0 rfl) ?_
            refine mt_Vv (w1 := fun (u : Int32 × Int32 × Int32 × Int32 × Int32 × Int32 × Vf) => rdL E qr qx fx x9 u.1 u.2.1 u.2.2.1 u.2.2.2.1 u.2.2.2.2.1 u.2.2.2.2.2.1 ap u.2.2.2.2.2.2) (wf := fun (u : Int32 × Int32 × Int32 × Int32 × Int32 × Int32 × Vf) => rtL E qr (.ref qx) x9 u.1 (.ref (ap 0)) u.2.1 u.2.2.1 u.2.2.2.1 u.2.2.2.2.1 u.2.2.2.2.2.1 qx fx ap u.2.2.2.2.2.2) (wr := []) (As := []) (rest := []) (C := RX2) (ci := 2) ⟨hx, hb, hml, hown, hts⟩ (c_X2_readClause l E H.size qr qx fx x9 o72_ps fn1 fa1 na1 cx1 ck1 ap vp1 S (by omega) (by omega) hI hRp) (cwV 0 hts gX2_readText_X2_readClause rfl rfl rfl (by decide +kernel) ⟨Nat.le_of_ble_eq_true rfl, Nat.le_of_ble_eq_true rfl⟩) hE hS hA hP hD [0, 1, 2, 3, 4, 5, 6, 7, 8, 9, 10, 11, 12, 13, 14, 15, 16, 17, 18, 19, 20, 21, 22, 23, 24, 25, 26, 27, 28, 29, 30] [] rfl rfl (by decide) (by decide) (by decide) [0, 1, 2, 3, 4, 5, 6, 7, 8, 9, 10, 11, 12, 13, 14, 15, 16, 17, 18, 19, 20, 21, 22, 23, 24, 25, 26, 27, 28, 29, 30] (by decide) (fun u => rfl) rfl rfl rfl rfl hl.1 rfl (Nat.le_of_ble_eq_true rfl) dX2_readText_90 ⟨Nat.zero_le _, Nat.zero_le _⟩ (fun u90 H locs h90 hP hD hS => ?_)
            obtain ⟨o90_ps, o90_fn, o90_fa, o90_na, o90_cx, o90_ck, o90_vp⟩ := u90
            try dsimp only at h90
            have hf90 := h90.2
            replace h90 := h90.1
            replace hP : va_P (eD E) vwCl (rtL E qr (.ref qx) x9 o90_ps (.ref (ap 0)) o90_fn o90_fa o90_na o90_cx o90_ck qx fx ap o90_vp) H := hP
            replace hD : va_D A (rtL E qr (.ref qx) x9 o90_ps (.ref (ap 0)) o90_fn o90_fa o90_na o90_cx o90_ck qx fx ap o90_vp) := hD
            obtain ⟨x93, e93⟩ : ∃ y : Int32, y = i + 1 := ⟨_, rfl⟩
            refine lv_iinc (v := x93) (lv' := [(4, .int x93), (0, .ref qr), (1, .ref qx), (2, .int cnt), (3, .ref (ap 0))]) hx hb dX2_readText_93 hl (k := 4) rfl (by rw [e93]; rfl) (by decide) rfl (fun ls hl => ?_)
            have t93 := i_add e93 (by omega)
            refine lv_goto (tgt := 55) hx hb dX2_readText_96 (by decide) ?_
            exact ih55 x93 (nextS (clauseF fx x9.toInt S o72_ps.toInt) S) o90_ps o90_fn o90_fa o90_na o90_cx o90_ck o90_vp _ _ ls (by omega) hP hD hS (by omega) (by omega) (by omega) h90.1 (by rw [show x93.toInt.toNat = i.toInt.toNat + 1 by omega]; exact hx55_0.next (by omega) (by omega) hf72 (by omega) hf90.1) (by omega) (lv_sub hl [1, 2, 3, 4, 0] rfl)
          · have c83_ := i_nlt c83
            refine lv_goto (tgt := 99) hx hb dX2_readText_86 (by decide) ?_
            refine lv_aload_n hx hb dX2_readText_99 rfl (lv_at hl 0 rfl) ?_
            refine va_get (D := eD E) (ci := 2) (v := .int fn1) (C := RX2) (T := TX2) (N := 9) hx hb hts in_X2 hown hK hP 0 rfl rfl 4 (by decide) lk8 (fun _ h9 => h9) rfl dX2_readText_100 ?_
            subst hQ
            exact W.iret (v := fn1) hx hb hr (fun t ht hW => ⟨⟨fn1, ((.ref qx), x9, o72_ps, (.ref (ap 0)), fn1, fa1, na1, cx1, ck1, vp1), rfl, (show (PlanI vp1 ∧ fn1 = fn1) ∧ (CF (textF fx cnt.toInt 251 0 S0) 0 (-1) fn1.toInt fa1.toInt (fun S => Rp S vp1 cx1 ck1)) from ⟨⟨h55_3, rfl⟩, (hx9 ▸ hx55_0.fin (by first | exact Or.inl (by omega) | exact Or.inr (by rw [hf72]; omega) | (exact Or.inr (Int.le_of_eq (by omega)))))⟩), by rw [ht]; exact hP, hD⟩, hS.F ht⟩) hS.2.2 dX2_readText_103
  exact K55 _ 0 S0 0 0 (-1) na 0 0 o29_vp _ _ ls (Nat.lt_succ_self _) hP hD hS (by omega) (by omega) (by omega) hI (by rw [n_0, n_m1]; exact TxI.start hRp0) (by omega) (lv_sub hl [1, 2, 3, 4, 0] rfl)
end
section
theorem and7 (x : Int32) : 0 ≤ (x &&& 2147483647).toInt := by
  have h : (x &&& 2147483647).toBitVec.msb = false := by
    rw [Int32.toBitVec_and, BitVec.msb_and]
    have : (2147483647 : Int32).toBitVec.msb = false := by decide
    rw [this, Bool.and_false]
  rw [← Int32.toInt_toBitVec, BitVec.toInt_eq_msb_cond, h]
  exact Int.natCast_nonneg _
theorem st_step {v : Vf} {c x y : Int32} (hJ : StateI v) (hc : 0 ≤ c.toInt ∧ c.toInt ≤ 23) (hx : 0 ≤ x.toInt ∧ x.toInt ≤ 900100) : StateI (up2 (up2 (up2 v 4 0 c) 0 0 x) 5 0 y) := ⟨hx, hJ.2.1, hc⟩
end
