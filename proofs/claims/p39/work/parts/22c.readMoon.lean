def rm_X2_readMoon : Room := { frames := 3, cells := 0, slots := 0, locals := 68 }
set_option maxHeartbeats 4000000 in
set_option maxRecDepth 100000 in
theorem c_X2_readMoon (l : Launch) (E : Ev) (sz : Nat) (qr : Nat) (qx : Nat) (fx : Nat → Int32) (ln : Int32) (ps : Int32) (fn : Int32) (fa : Int32) (na : Int32) (cx : Int32) (ck : Int32) (ap : Nat → Nat) (vp : Vf) (wd : Int32) (S : St0) (hln : 0 ≤ ln.toInt ∧ ln.toInt ≤ 250) (hps : 0 ≤ ps.toInt ∧ ps.toInt ≤ ln.toInt) (hI : PlanI vp) (hRp : Rp S vp cx ck) : Met l yX2_readMoon wsX2_readMoon rm_X2_readMoon (MtP E sz [.ref qr, .int wd] (rdL E qr qx fx ln ps fn fa na cx ck ap vp)) (va_Qv (fun (u : Int32 × Int32 × Int32 × Int32 × Vf) => (PlanI u.2.2.2.2 ∧ (ps.toInt ≤ u.1.toInt ∧ u.1.toInt ≤ ln.toInt + 1) ∧ (u.2.1.toInt ≠ 0 ∨ u.1.toInt ≤ ln.toInt)) ∧ (CF (moonF fx ln.toInt S wd.toInt ps.toInt) fn.toInt fa.toInt u.2.1.toInt u.2.2.1.toInt (fun z => u.1.toInt = z.2 ∧ Rp (moonS S z.1.1.1.2.1 z.1.1.2.1 z.1.2) u.2.2.2.2 cx ck))) (MtB E (va_A (rdL E qr qx fx ln ps fn fa na cx ck ap vp) sz) (fun u => rdL E qr qx fx ln u.1 u.2.1 u.2.2.1 u.2.2.2.1 cx ck ap u.2.2.2.2)) (va_A (rdL E qr qx fx ln ps fn fa na cx ck ap vp) sz)) 0 0 (va_A (rdL E qr qx fx ln ps fn fa na cx ck ap vp) sz) := by
  refine Met.ofW (cc := cX2_readMoon) (maxL := 4) (ret := none) (by decide) rfl ?_
  intro p e s m args below meth c s₁ B hml hv
  obtain ⟨rfl, hsz, hE, hP, hD0⟩ := hv
  subst hsz
  have hD := hD0.self (sz := s.heap.size)
  generalize hAe : va_A (rdL E qr qx fx ln ps fn fa na cx ck ap vp) s.heap.size = A at hD hE ⊢
  have hA : ∀ q : Nat, s.heap.size ≤ q → A q := fun q h => by rw [← hAe]; exact Or.inr h
  have hS : va_S A s.heap s.heap [] := va_S.rf
  have hx := B.exec
  have hb := B.bytes
  have hr := B.returns
  have hts := atoms_spec (ws := wsX2_readMoon) B.pre
  have hown : s.vm.findClass RX2 = some m.cls := findClass_of_methodNamed B.named
  have hlocks := B.notSynchronized
  have hK := hE.1
  have in_X2 : ∀ w ∈ u_ws RX2 TX2 9, w ∈ wsX2_readMoon := fun w h => List.mem_cons_of_mem _ (List.mem_append_left _ (List.mem_append_left _ (List.mem_append_right _ h)))
  have in_X1 : ∀ w ∈ u_ws RX1 TX1 11, w ∈ wsX2_readMoon := fun w h => List.mem_cons_of_mem _ (List.mem_append_left _ (List.mem_append_right _ h))
  have in_X0 : ∀ w ∈ u_ws RX0 TX0 5, w ∈ wsX2_readMoon := fun w h => List.mem_cons_of_mem _ (List.mem_append_right _ h)
  have lk0 := hts (.fieldLink RX2 28 "TidedGround$Reader" "plan" "LTidedGround$Plan;") (by decide +kernel)
  have lk1 := hts (.fieldLink RX2 109 "TidedGround$Plan" "moonCount" "I") (by decide +kernel)
  have lk2 := hts (.fieldLink RX2 37 "TidedGround$Reader" "faultNumber" "I") (by decide +kernel)
  have lk3 := hts (.fieldLink RX2 112 "TidedGround$Plan" "moons" "[LTidedGround$Moon;") (by decide +kernel)
  have lk4 := hts (.fieldLink RX2 116 "TidedGround$Moon" "perX" "I") (by decide +kernel)
  have lk5 := hts (.fieldLink RX2 121 "TidedGround$Moon" "perY" "I") (by decide +kernel)
  have lk6 := hts (.fieldLink RX2 124 "TidedGround$Moon" "row" "[I") (by decide +kernel)
  have lk7 := hts (.fieldLink RX2 93 "TidedGround$Plan" "width" "I") (by decide +kernel)
  have lk8 := hts (.fieldLink RX2 55 "TidedGround$Plan" "cells" "I") (by decide +kernel)
  have n_0 : (0 : Int32).toInt = 0 := by decide
  have n_1 : (1 : Int32).toInt = 1 := by decide
  have n_2 : (2 : Int32).toInt = 2 := by decide
  have n_3 : (3 : Int32).toInt = 3 := by decide
  have n_8 : (8 : Int32).toInt = 8 := by decide
  have n_59 : (59 : Int32).toInt = 59 := by decide
  have hl := lv_entry ([.ref qr, .int wd]) (n := 4) (Nat.le_of_ble_eq_true rfl)
  rw [lg_entry_eq]
  generalize (lg_sl ([.ref qr, .int wd]) ++ List.replicate (4 - (lg_sl ([.ref qr, .int wd])).length) Slot.unset).toArray = ls at hl ⊢
  have hl : lv_has ls 4 [(0, .ref qr), (1, .int wd)] := hl
  refine W_abs (fun Q hQ => ?_)
  obtain ⟨hg, hmc, hm0, hm1, hm2, hs0, hs1, hs2, hs3⟩ := id hI
  obtain ⟨hg1, hg2, hg3, hg4⟩ := id hg
  have hz0 := hm0.1
  have hz1 := hm1.1
  have hz2 := hm2.1
  have hc0 := hs0.1
  have hc1 := hs1.1
  have hc2 := hs2.1
  have hc3 := hs3.1
  have hg5 : 0 ≤ (vp 2 0).toInt := by rw [hg3]; exact Int.mul_nonneg hg1.1 hg2.1
  have hRl := hRp.2.2.1
  have hcn := hRl.1
  have hI0 := hI
  refine lv_aload_n hx hb dX2_readMoon_0 rfl (lv_at hl 0 rfl) ?_
  refine lv_aload_n hx hb dX2_readMoon_1 rfl (lv_at hl 0 rfl) ?_
  refine va_get (D := eD E) (ci := 2) (v := .ref (ap 0)) (C := RX2) (T := TX2) (N := 9) hx hb hts in_X2 hown hK hP 0 rfl rfl 3 (by decide) lk0 (fun _ h9 => h9) rfl dX2_readMoon_2 ?_
  refine va_get (D := eD E) (ci := 1) (v := .int (vp 5 0)) (C := RX1) (T := TX1) (N := 11) hx hb hts in_X1 hown hK hP 2 rfl rfl 5 (by decide) lk1 (fun _ h9 => h9) rfl dX2_readMoon_5 ?_
  refine lv_iconst (v := 3) hx hb dX2_readMoon_8 (by decide) ?_
  have K17 : ∀  (w : Int32) (H : Heap) (locs : List Loc) (ls : Array Slot), va_P (eD E) vwCl (rdL E qr qx fx ln ps fn fa na cx ck ap vp) H → va_D A (rdL E qr qx fx ln ps fn fa na cx ck ap vp) → va_S A s.heap H locs → ((w.toInt = 0 ∧ (vp 5 0).toInt < 3) ∨ w.toInt = 1) → ((w.toInt = 0 ∧ (vp 5 0).toInt < 3) ∨ (w.toInt = 1 ∧ 3 ≤ (vp 5 0).toInt)) → lv_has ls 4 [(0, .ref qr), (1, .int wd)] → W p l e (headSpec wsX2_readMoon rm_X2_readMoon).room s m ([.ref qr, .int wd] : List Value).toArray below meth c H locs 0 0 Q (F0 m 17 ls [.int w, .ref qr]) := by
    intro w H locs ls hP hD hS h17_0 h17_1 hl
    have hx17_0 := h17_1
    clear h17_1
    refine lv_iconst (v := 3) hx hb dX2_readMoon_17 (by decide) ?_
    refine lv_iload_n hx hb dX2_readMoon_18 rfl (lv_at hl 1 rfl) ?_
    refine mt_Vv (w1 := fun (u : Int32 × Int32) => rbL E qr qx fx ln ps u.1 u.2 na cx ck ap) (wf := fun (u : Int32 × Int32) => rdL E qr qx fx ln ps u.1 u.2 na cx ck ap vp) (wr := [((ap 0), .inr (1, [.int (vp 0 0), .int (vp 1 0), .int (vp 2 0), .ref (ap 3), .ref (ap 4), .int (vp 5 0), .ref (ap 6), .ref (ap 7), .ref (ap 8), .ref (ap 9), .ref (ap 10)])), ((ap 3), .inl (eI E, 24, .inl (vp 3))), ((ap 4), .inl (eI E, 24, .inl (vp 4))), ((ap 6), .inl (eM E, 3, .inr (.inr (.inr (.inr (fun i => some (ap (20 + 10 * i)))))))), ((ap 20), .inr (0, [.int (vp 20 0), .int (vp 21 0), .int (vp 22 0), .ref (ap 23), .ref (ap 24)])), ((ap 23), .inl (eI E, 18, .inl (vp 23))), ((ap 24), .inl (eI E, 24, .inl (vp 24))), ((ap 30), .inr (0, [.int (vp 30 0), .int (vp 31 0), .int (vp 32 0), .ref (ap 33), .ref (ap 34)])), ((ap 33), .inl (eI E, 18, .inl (vp 33))), ((ap 34), .inl (eI E, 24, .inl (vp 34))), ((ap 40), .inr (0, [.int (vp 40 0), .int (vp 41 0), .int (vp 42 0), .ref (ap 43), .ref (ap 44)])), ((ap 43), .inl (eI E, 18, .inl (vp 43))), ((ap 44), .inl (eI E, 24, .inl (vp 44))), ((ap 7), .inr (5, [.int (vp 60 0), .ref (ap 61), .ref (ap 62), .ref (ap 63)])), ((ap 61), .inl (eI E, 6, .inl (vp 61))), ((ap 62), .inl (eI E, 6, .inl (vp 62))), ((ap 63), .inl (eI E, 6, .inl (vp 63))), ((ap 8), .inr (5, [.int (vp 70 0), .ref (ap 71), .ref (ap 72), .ref (ap 73)])), ((ap 71), .inl (eI E, 6, .inl (vp 71))), ((ap 72), .inl (eI E, 6, .inl (vp 72))), ((ap 73), .inl (eI E, 6, .inl (vp 73))), ((ap 9), .inr (5, [.int (vp 80 0), .ref (ap 81), .ref (ap 82), .ref (ap 83)])), ((ap 81), .inl (eI E, 6, .inl (vp 81))), ((ap 82), .inl (eI E, 6, .inl (vp 82))), ((ap 83), .inl (eI E, 6, .inl (vp 83))), ((ap 10), .inr (5, [.int (vp 90 0), .ref (ap 91), .ref (ap 92), .ref (ap 93)])), ((ap 91), .inl (eI E, 6, .inl (vp 91))), ((ap 92), .inl (eI E, 6, .inl (vp 92))), ((ap 93), .inl (eI E, 6, .inl (vp 93)))]) (As := [.int w, .int 3, .int wd]) (rest := []) (C := RX2) (ci := 2) ⟨hx, hb, hml, hown, hts⟩ (c_X2_refuseIf l E H.size qr qx fx ln ps fn fa na cx ck ap w 3 wd (by omega)) (cwV 3 hts gX2_readMoon_X2_refuseIf rfl rfl rfl (by decide +kernel) ⟨Nat.le_of_ble_eq_true rfl, Nat.le_of_ble_eq_true rfl⟩) hE hS hA hP hD [0, 1] [2, 3, 4, 5, 6, 7, 8, 9, 10, 11, 12, 13, 14, 15, 16, 17, 18, 19, 20, 21, 22, 23, 24, 25, 26, 27, 28, 29, 30] rfl rfl (by decide) (by decide) (by decide) [29, 30, 0, 1, 2, 3, 4, 5, 6, 7, 8, 9, 10, 11, 12, 13, 14, 15, 16, 17, 18, 19, 20, 21, 22, 23, 24, 25, 26, 27, 28] (by decide) (fun u => rfl) rfl rfl rfl rfl hl.1 rfl (Nat.le_of_ble_eq_true rfl) dX2_readMoon_19 ⟨Nat.zero_le _, Nat.zero_le _⟩ (fun u19 H locs h19 hP hD hS => ?_)
    obtain ⟨o19_fn, o19_fa⟩ := u19
    try dsimp only at h19
    have hf19 := h19.2
    replace h19 := h19.1
    replace hP : va_P (eD E) vwCl (rdL E qr qx fx ln ps o19_fn o19_fa na cx ck ap vp) H := hP
    replace hD : va_D A (rdL E qr qx fx ln ps o19_fn o19_fa na cx ck ap vp) := hD
    rw [n_3] at hf19
    have hk19 : CF (chk (decide (3 ≤ S 43 0)) 3 wd.toInt) fn.toInt fa.toInt o19_fn.toInt o19_fa.toInt (fun _ => True) := CF.chk (fun _ => ckB (by omega)) hf19
    clear hf19 hx17_0
    refine lv_aload_n hx hb dX2_readMoon_22 rfl (lv_at hl 0 rfl) ?_
    refine va_get (D := eD E) (ci := 2) (v := .int o19_fn) (C := RX2) (T := TX2) (N := 9) hx hb hts in_X2 hown hK hP 0 rfl rfl 4 (by decide) lk2 (fun _ h9 => h9) rfl dX2_readMoon_23 ?_
    refine lv_if_eq (tgt := 30) hx hb dX2_readMoon_26 (by decide) (fun c26 => ?_) (fun c26 => ?_)
    · have c26_ := i_eq c26
      have hmc3 : (vp 5 0).toInt < 3 := by omega
      refine lv_aload_n hx hb dX2_readMoon_30 rfl (lv_at hl 0 rfl) ?_
      refine va_get (D := eD E) (ci := 2) (v := .ref (ap 0)) (C := RX2) (T := TX2) (N := 9) hx hb hts in_X2 hown hK hP 0 rfl rfl 3 (by decide) lk0 (fun _ h9 => h9) rfl dX2_readMoon_31 ?_
      refine va_get (D := eD E) (ci := 1) (v := .ref (ap 6)) (C := RX1) (T := TX1) (N := 11) hx hb hts in_X1 hown hK hP 2 rfl rfl 6 (by decide) lk3 (fun _ h9 => h9) rfl dX2_readMoon_34 ?_
      refine lv_aload_n hx hb dX2_readMoon_37 rfl (lv_at hl 0 rfl) ?_
      refine va_get (D := eD E) (ci := 2) (v := .ref (ap 0)) (C := RX2) (T := TX2) (N := 9) hx hb hts in_X2 hown hK hP 0 rfl rfl 3 (by decide) lk0 (fun _ h9 => h9) rfl dX2_readMoon_38 ?_
      refine va_get (D := eD E) (ci := 1) (v := .int (vp 5 0)) (C := RX1) (T := TX1) (N := 11) hx hb hts in_X1 hown hK hP 2 rfl rfl 5 (by decide) lk1 (fun _ h9 => h9) rfl dX2_readMoon_41 ?_
      rcases (show (vp 5 0) = 0 ∨ (vp 5 0) = 1 ∨ (vp 5 0) = 2 from i_c3 (by omega) (by omega)) with q44 | q44 | q44
      · refine W.eq (g2 := F0 m 44 ls [.int 0, .ref (ap 6)]) (by rw [q44]) ?_
        refine va_aldq hx hb hK hP 5 2 rfl rfl (i_in (by decide) (by decide)) dX2_readMoon_44 ?_
        refine W.eq (g2 := F0 m 45 ls [.ref (ap 20)]) rfl ?_
        refine lv_astore_n (lv' := [(2, .ref (ap 20)), (0, .ref qr), (1, .int wd)]) hx hb dX2_readMoon_45 rfl hl (by decide) rfl (fun ls hl => ?_)
        refine lv_aload_n hx hb dX2_readMoon_46 rfl (lv_at hl 0 rfl) ?_
        refine lv_aload_n hx hb dX2_readMoon_47 rfl (lv_at hl 1 rfl) ?_
        refine lv_iconst (v := 0) hx hb dX2_readMoon_48 (by decide) ?_
        refine lv_bipush (v := 8) hx hb dX2_readMoon_49 (by decide) ?_
        refine mt_Vi (w1 := fun (u : Int32 × Int32 × Int32 × Int32) => rbL E qr qx fx ln u.1 u.2.1 u.2.2.1 u.2.2.2 cx ck ap) (wf := fun (u : Int32 × Int32 × Int32 × Int32) => rdL E qr qx fx ln u.1 u.2.1 u.2.2.1 u.2.2.2 cx ck ap vp) (wr := [((ap 0), .inr (1, [.int (vp 0 0), .int (vp 1 0), .int (vp 2 0), .ref (ap 3), .ref (ap 4), .int (vp 5 0), .ref (ap 6), .ref (ap 7), .ref (ap 8), .ref (ap 9), .ref (ap 10)])), ((ap 3), .inl (eI E, 24, .inl (vp 3))), ((ap 4), .inl (eI E, 24, .inl (vp 4))), ((ap 6), .inl (eM E, 3, .inr (.inr (.inr (.inr (fun i => some (ap (20 + 10 * i)))))))), ((ap 20), .inr (0, [.int (vp 20 0), .int (vp 21 0), .int (vp 22 0), .ref (ap 23), .ref (ap 24)])), ((ap 23), .inl (eI E, 18, .inl (vp 23))), ((ap 24), .inl (eI E, 24, .inl (vp 24))), ((ap 30), .inr (0, [.int (vp 30 0), .int (vp 31 0), .int (vp 32 0), .ref (ap 33), .ref (ap 34)])), ((ap 33), .inl (eI E, 18, .inl (vp 33))), ((ap 34), .inl (eI E, 24, .inl (vp 34))), ((ap 40), .inr (0, [.int (vp 40 0), .int (vp 41 0), .int (vp 42 0), .ref (ap 43), .ref (ap 44)])), ((ap 43), .inl (eI E, 18, .inl (vp 43))), ((ap 44), .inl (eI E, 24, .inl (vp 44))), ((ap 7), .inr (5, [.int (vp 60 0), .ref (ap 61), .ref (ap 62), .ref (ap 63)])), ((ap 61), .inl (eI E, 6, .inl (vp 61))), ((ap 62), .inl (eI E, 6, .inl (vp 62))), ((ap 63), .inl (eI E, 6, .inl (vp 63))), ((ap 8), .inr (5, [.int (vp 70 0), .ref (ap 71), .ref (ap 72), .ref (ap 73)])), ((ap 71), .inl (eI E, 6, .inl (vp 71))), ((ap 72), .inl (eI E, 6, .inl (vp 72))), ((ap 73), .inl (eI E, 6, .inl (vp 73))), ((ap 9), .inr (5, [.int (vp 80 0), .ref (ap 81), .ref (ap 82), .ref (ap 83)])), ((ap 81), .inl (eI E, 6, .inl (vp 81))), ((ap 82), .inl (eI E, 6, .inl (vp 82))), ((ap 83), .inl (eI E, 6, .inl (vp 83))), ((ap 10), .inr (5, [.int (vp 90 0), .ref (ap 91), .ref (ap 92), .ref (ap 93)])), ((ap 91), .inl (eI E, 6, .inl (vp 91))), ((ap 92), .inl (eI E, 6, .inl (vp 92))), ((ap 93), .inl (eI E, 6, .inl (vp 93)))]) (As := [.int 0, .int 8]) (rest := [.ref (ap 20)]) (C := RX2) (ci := 2) ⟨hx, hb, hml, hown, hts⟩ (c_X2_readNumber l E H.size qr qx fx ln ps o19_fn o19_fa na cx ck ap 0 8 (by omega) (by omega)) (cwV 2 hts gX2_readMoon_X2_readNumber rfl rfl rfl (by decide +kernel) ⟨Nat.le_of_ble_eq_true rfl, Nat.le_of_ble_eq_true rfl⟩) hE hS hA hP hD [0, 1] [2, 3, 4, 5, 6, 7, 8, 9, 10, 11, 12, 13, 14, 15, 16, 17, 18, 19, 20, 21, 22, 23, 24, 25, 26, 27, 28, 29, 30] rfl rfl (by decide) (by decide) (by decide) [29, 30, 0, 1, 2, 3, 4, 5, 6, 7, 8, 9, 10, 11, 12, 13, 14, 15, 16, 17, 18, 19, 20, 21, 22, 23, 24, 25, 26, 27, 28] (by decide) (fun u => rfl) rfl rfl rfl rfl hl.1 rfl (Nat.le_of_ble_eq_true rfl) dX2_readMoon_51 ⟨Nat.zero_le _, Nat.zero_le _⟩ (fun r51 u51 H locs h51 hP hD hS => ?_)
        obtain ⟨o51_ps, o51_fn, o51_fa, o51_na⟩ := u51
        try dsimp only at h51
        have hf51 := h51.2
        replace h51 := h51.1
        replace hP : va_P (eD E) vwCl (rdL E qr qx fx ln o51_ps o51_fn o51_fa o51_na cx ck ap vp) H := hP
        replace hD : va_D A (rdL E qr qx fx ln o51_ps o51_fn o51_fa o51_na cx ck ap vp) := hD
        have pb51 : 0 ≤ r51.toInt ∧ r51.toInt ≤ 8 := pb_rn h51.1 (by decide) (by decide)
        rw [n_0, n_8] at hf51
        have hs51 := CF.then (s := fun z : Unit => numF fx ln.toInt 0 8 ps.toInt) hk19 hf51 (okF.chk (by decide)) (fun z hz => by rfl)
        refine va_put (D := eD E) (ci := 0) (v := .int r51) (ty := .int) (C := RX0) (T := TX0) (N := 5) hx hb hts in_X0 tyX0 tyX0_ok nmX0 hown hK hP hD hS 6 rfl rfl 1 (by decide) lk4 (fun _ h9 => h9) rfl (by decide +kernel) rfl rfl (Nat.le_of_ble_eq_true rfl) dX2_readMoon_54 (fun H locs hP hD hS => ?_)
        replace hP : va_P (eD E) vwCl (rdL E qr qx fx ln o51_ps o51_fn o51_fa o51_na cx ck ap (up2 vp 21 0 r51)) H := hP
        replace hD : va_D A (rdL E qr qx fx ln o51_ps o51_fn o51_fa o51_na cx ck ap (up2 vp 21 0 r51)) := hD
        generalize hv54 : up2 vp 21 0 r51 = vp_54 at hP hD
        have hI : PlanI vp_54 := by rw [← hv54]; exact hI
        refine lv_aload_n hx hb dX2_readMoon_57 rfl (lv_at hl 0 rfl) ?_
        refine lv_aload_n hx hb dX2_readMoon_58 rfl (lv_at hl 1 rfl) ?_
        refine lv_iconst (v := 0) hx hb dX2_readMoon_59 (by decide) ?_
        refine lv_bipush (v := 8) hx hb dX2_readMoon_60 (by decide) ?_
        refine mt_Vi (w1 := fun (u : Int32 × Int32 × Int32 × Int32) => rbL E qr qx fx ln u.1 u.2.1 u.2.2.1 u.2.2.2 cx ck ap) (wf := fun (u : Int32 × Int32 × Int32 × Int32) => rdL E qr qx fx ln u.1 u.2.1 u.2.2.1 u.2.2.2 cx ck ap vp_54) (wr := [((ap 0), .inr (1, [.int (vp_54 0 0), .int (vp_54 1 0), .int (vp_54 2 0), .ref (ap 3), .ref (ap 4), .int (vp_54 5 0), .ref (ap 6), .ref (ap 7), .ref (ap 8), .ref (ap 9), .ref (ap 10)])), ((ap 3), .inl (eI E, 24, .inl (vp_54 3))), ((ap 4), .inl (eI E, 24, .inl (vp_54 4))), ((ap 6), .inl (eM E, 3, .inr (.inr (.inr (.inr (fun i => some (ap (20 + 10 * i)))))))), ((ap 20), .inr (0, [.int (vp_54 20 0), .int (vp_54 21 0), .int (vp_54 22 0), .ref (ap 23), .ref (ap 24)])), ((ap 23), .inl (eI E, 18, .inl (vp_54 23))), ((ap 24), .inl (eI E, 24, .inl (vp_54 24))), ((ap 30), .inr (0, [.int (vp_54 30 0), .int (vp_54 31 0), .int (vp_54 32 0), .ref (ap 33), .ref (ap 34)])), ((ap 33), .inl (eI E, 18, .inl (vp_54 33))), ((ap 34), .inl (eI E, 24, .inl (vp_54 34))), ((ap 40), .inr (0, [.int (vp_54 40 0), .int (vp_54 41 0), .int (vp_54 42 0), .ref (ap 43), .ref (ap 44)])), ((ap 43), .inl (eI E, 18, .inl (vp_54 43))), ((ap 44), .inl (eI E, 24, .inl (vp_54 44))), ((ap 7), .inr (5, [.int (vp_54 60 0), .ref (ap 61), .ref (ap 62), .ref (ap 63)])), ((ap 61), .inl (eI E, 6, .inl (vp_54 61))), ((ap 62), .inl (eI E, 6, .inl (vp_54 62))), ((ap 63), .inl (eI E, 6, .inl (vp_54 63))), ((ap 8), .inr (5, [.int (vp_54 70 0), .ref (ap 71), .ref (ap 72), .ref (ap 73)])), ((ap 71), .inl (eI E, 6, .inl (vp_54 71))), ((ap 72), .inl (eI E, 6, .inl (vp_54 72))), ((ap 73), .inl (eI E, 6, .inl (vp_54 73))), ((ap 9), .inr (5, [.int (vp_54 80 0), .ref (ap 81), .ref (ap 82), .ref (ap 83)])), ((ap 81), .inl (eI E, 6, .inl (vp_54 81))), ((ap 82), .inl (eI E, 6, .inl (vp_54 82))), ((ap 83), .inl (eI E, 6, .inl (vp_54 83))), ((ap 10), .inr (5, [.int (vp_54 90 0), .ref (ap 91), .ref (ap 92), .ref (ap 93)])), ((ap 91), .inl (eI E, 6, .inl (vp_54 91))), ((ap 92), .inl (eI E, 6, .inl (vp_54 92))), ((ap 93), .inl (eI E, 6, .inl (vp_54 93)))]) (As := [.int 0, .int 8]) (rest := [.ref (ap 20)]) (C := RX2) (ci := 2) ⟨hx, hb, hml, hown, hts⟩ (c_X2_readNumber l E H.size qr qx fx ln o51_ps o51_fn o51_fa o51_na cx ck ap 0 8 (by omega) (by omega)) (cwV 2 hts gX2_readMoon_X2_readNumber rfl rfl rfl (by decide +kernel) ⟨Nat.le_of_ble_eq_true rfl, Nat.le_of_ble_eq_true rfl⟩) hE hS hA hP hD [0, 1] [2, 3, 4, 5, 6, 7, 8, 9, 10, 11, 12, 13, 14, 15, 16, 17, 18, 19, 20, 21, 22, 23, 24, 25, 26, 27, 28, 29, 30] rfl rfl (by decide) (by decide) (by decide) [29, 30, 0, 1, 2, 3, 4, 5, 6, 7, 8, 9, 10, 11, 12, 13, 14, 15, 16, 17, 18, 19, 20, 21, 22, 23, 24, 25, 26, 27, 28] (by decide) (fun u => rfl) rfl rfl rfl rfl hl.1 rfl (Nat.le_of_ble_eq_true rfl) dX2_readMoon_62 ⟨Nat.zero_le _, Nat.zero_le _⟩ (fun r62 u62 H locs h62 hP hD hS => ?_)
        obtain ⟨o62_ps, o62_fn, o62_fa, o62_na⟩ := u62
        try dsimp only at h62
        have hf62 := h62.2
        replace h62 := h62.1
        replace hP : va_P (eD E) vwCl (rdL E qr qx fx ln o62_ps o62_fn o62_fa o62_na cx ck ap vp_54) H := hP
        replace hD : va_D A (rdL E qr qx fx ln o62_ps o62_fn o62_fa o62_na cx ck ap vp_54) := hD
        have pb62 : 0 ≤ r62.toInt ∧ r62.toInt ≤ 8 := pb_rn h62.1 (by decide) (by decide)
        rw [n_0, n_8] at hf62
        have hs62 := CF.then (s := fun z : Unit × (Int × Int × Int) => numF fx ln.toInt 0 8 z.2.2.1) hs51 hf62 ((okF.chk (by decide)).th (fun _ => okF.num)) (fun z hz => by rw [hz.2.2.1])
        refine va_put (D := eD E) (ci := 0) (v := .int r62) (ty := .int) (C := RX0) (T := TX0) (N := 5) hx hb hts in_X0 tyX0 tyX0_ok nmX0 hown hK hP hD hS 6 rfl rfl 2 (by decide) lk5 (fun _ h9 => h9) rfl (by decide +kernel) rfl rfl (Nat.le_of_ble_eq_true rfl) dX2_readMoon_65 (fun H locs hP hD hS => ?_)
        replace hP : va_P (eD E) vwCl (rdL E qr qx fx ln o62_ps o62_fn o62_fa o62_na cx ck ap (up2 vp_54 22 0 r62)) H := hP
        replace hD : va_D A (rdL E qr qx fx ln o62_ps o62_fn o62_fa o62_na cx ck ap (up2 vp_54 22 0 r62)) := hD
        generalize hv65 : up2 vp_54 22 0 r62 = vp_65 at hP hD
        have hI : PlanI vp_65 := by rw [← hv65]; exact hI
        have hrowx : rowB (vp_65 23) := hI.2.2.1.2.1
        refine lv_aload_n hx hb dX2_readMoon_68 rfl (lv_at hl 1 rfl) ?_
        refine lv_aload_n hx hb dX2_readMoon_69 rfl (lv_at hl 0 rfl) ?_
        refine va_get (D := eD E) (ci := 0) (v := .ref (ap 23)) (C := RX0) (T := TX0) (N := 5) hx hb hts in_X0 hown hK hP 6 rfl rfl 3 (by decide) lk6 (fun _ h9 => h9) rfl dX2_readMoon_70 ?_
        refine mt_Vi (w1 := fun (u : Int32 × Int32 × Int32 × Int32 × (Nat → Int32)) => rrL E qr qx fx ln u.1 u.2.1 u.2.2.1 u.2.2.2.1 cx ck ap (ap 23) u.2.2.2.2) (wf := fun (u : Int32 × Int32 × Int32 × Int32 × (Nat → Int32)) => rdL E qr qx fx ln u.1 u.2.1 u.2.2.1 u.2.2.2.1 cx ck ap (up3 vp_65 23 u.2.2.2.2)) (wr := [((ap 0), .inr (1, [.int (vp_65 0 0), .int (vp_65 1 0), .int (vp_65 2 0), .ref (ap 3), .ref (ap 4), .int (vp_65 5 0), .ref (ap 6), .ref (ap 7), .ref (ap 8), .ref (ap 9), .ref (ap 10)])), ((ap 3), .inl (eI E, 24, .inl (vp_65 3))), ((ap 4), .inl (eI E, 24, .inl (vp_65 4))), ((ap 6), .inl (eM E, 3, .inr (.inr (.inr (.inr (fun i => some (ap (20 + 10 * i)))))))), ((ap 20), .inr (0, [.int (vp_65 20 0), .int (vp_65 21 0), .int (vp_65 22 0), .ref (ap 23), .ref (ap 24)])), ((ap 24), .inl (eI E, 24, .inl (vp_65 24))), ((ap 30), .inr (0, [.int (vp_65 30 0), .int (vp_65 31 0), .int (vp_65 32 0), .ref (ap 33), .ref (ap 34)])), ((ap 33), .inl (eI E, 18, .inl (vp_65 33))), ((ap 34), .inl (eI E, 24, .inl (vp_65 34))), ((ap 40), .inr (0, [.int (vp_65 40 0), .int (vp_65 41 0), .int (vp_65 42 0), .ref (ap 43), .ref (ap 44)])), ((ap 43), .inl (eI E, 18, .inl (vp_65 43))), ((ap 44), .inl (eI E, 24, .inl (vp_65 44))), ((ap 7), .inr (5, [.int (vp_65 60 0), .ref (ap 61), .ref (ap 62), .ref (ap 63)])), ((ap 61), .inl (eI E, 6, .inl (vp_65 61))), ((ap 62), .inl (eI E, 6, .inl (vp_65 62))), ((ap 63), .inl (eI E, 6, .inl (vp_65 63))), ((ap 8), .inr (5, [.int (vp_65 70 0), .ref (ap 71), .ref (ap 72), .ref (ap 73)])), ((ap 71), .inl (eI E, 6, .inl (vp_65 71))), ((ap 72), .inl (eI E, 6, .inl (vp_65 72))), ((ap 73), .inl (eI E, 6, .inl (vp_65 73))), ((ap 9), .inr (5, [.int (vp_65 80 0), .ref (ap 81), .ref (ap 82), .ref (ap 83)])), ((ap 81), .inl (eI E, 6, .inl (vp_65 81))), ((ap 82), .inl (eI E, 6, .inl (vp_65 82))), ((ap 83), .inl (eI E, 6, .inl (vp_65 83))), ((ap 10), .inr (5, [.int (vp_65 90 0), .ref (ap 91), .ref (ap 92), .ref (ap 93)])), ((ap 91), .inl (eI E, 6, .inl (vp_65 91))), ((ap 92), .inl (eI E, 6, .inl (vp_65 92))), ((ap 93), .inl (eI E, 6, .inl (vp_65 93)))]) (As := [.ref (ap 23)]) (rest := []) (C := RX2) (ci := 2) ⟨hx, hb, hml, hown, hts⟩ (c_X2_readRow l E H.size qr qx fx ln o62_ps o62_fn o62_fa o62_na cx ck ap (ap 23) (vp_65 23) (by omega) (by omega) hrowx) (cwV 1 hts gX2_readMoon_X2_readRow rfl rfl rfl (by decide +kernel) ⟨Nat.le_of_ble_eq_true rfl, Nat.le_of_ble_eq_true rfl⟩) hE hS hA hP hD [0, 1, 7] [2, 3, 4, 5, 6, 8, 9, 10, 11, 12, 13, 14, 15, 16, 17, 18, 19, 20, 21, 22, 23, 24, 25, 26, 27, 28, 29, 30] rfl rfl (by decide) (by decide) (by decide) [28, 29, 0, 1, 2, 3, 4, 30, 5, 6, 7, 8, 9, 10, 11, 12, 13, 14, 15, 16, 17, 18, 19, 20, 21, 22, 23, 24, 25, 26, 27] (by decide) (fun u => rfl) rfl rfl rfl rfl hl.1 rfl (Nat.le_of_ble_eq_true rfl) dX2_readMoon_73 ⟨Nat.zero_le _, Nat.zero_le _⟩ (fun r73 u73 H locs h73 hP hD hS => ?_)
        obtain ⟨o73_ps, o73_fn, o73_fa, o73_na, o73_mr⟩ := u73
        try dsimp only at h73
        have hf73 := h73.2
        replace h73 := h73.1
        replace hP : va_P (eD E) vwCl (rdL E qr qx fx ln o73_ps o73_fn o73_fa o73_na cx ck ap (up3 vp_65 23 o73_mr)) H := hP
        replace hD : va_D A (rdL E qr qx fx ln o73_ps o73_fn o73_fa o73_na cx ck ap (up3 vp_65 23 o73_mr)) := hD
        generalize hv73 : up3 vp_65 23 o73_mr = vp_73 at hP hD
        have hI : PlanI vp_73 := by rw [← hv73]; exact pl_row0 hI h73.2.2.2.2
        have hmx : moonI (vp_73 20 0) (vp_73 23) (vp_73 24) := hI.2.2.1
        have hpx : vp_73 21 0 = r51 := by rw [← hv73, ← hv65, ← hv54]; rfl
        have hpy : vp_73 22 0 = r62 := by rw [← hv73, ← hv65]; rfl
        have hwx : vp_73 0 0 = vp 0 0 := by rw [← hv73, ← hv65, ← hv54]; rfl
        have hcx : vp_73 2 0 = vp 2 0 := by rw [← hv73, ← hv65, ← hv54]; rfl
        have hmcx : vp_73 5 0 = vp 5 0 := by rw [← hv73, ← hv65, ← hv54]; rfl
        have hs73 := CF.then (s := fun z : (Unit × (Int × Int × Int)) × (Int × Int × Int) => rowF fx ln.toInt (9 * (S 43 0).toNat) 9 0 z.2.2.1 (S 47)) hs62 (hf73 (9 * (S 43 0).toNat) (S 47)) (((okF.chk (by decide)).th (fun _ => okF.num)).th (fun _ => okF.num)) (fun z hz => by rw [hz.2.2.1])
        refine lv_istore_n (lv' := [(3, .int r73), (2, .ref (ap 20)), (0, .ref qr), (1, .int wd)]) hx hb dX2_readMoon_76 rfl hl (by decide) rfl (fun ls hl => ?_)
        refine lv_aload_n hx hb dX2_readMoon_77 rfl (lv_at hl 2 rfl) ?_
        refine lv_bipush (v := 59) hx hb dX2_readMoon_78 (by decide) ?_
        refine mt_Vv (w1 := fun (u : Int32 × Int32 × Int32) => rbL E qr qx fx ln u.1 u.2.1 u.2.2 o73_na cx ck ap) (wf := fun (u : Int32 × Int32 × Int32) => rdL E qr qx fx ln u.1 u.2.1 u.2.2 o73_na cx ck ap vp_73) (wr := [((ap 0), .inr (1, [.int (vp_73 0 0), .int (vp_73 1 0), .int (vp_73 2 0), .ref (ap 3), .ref (ap 4), .int (vp_73 5 0), .ref (ap 6), .ref (ap 7), .ref (ap 8), .ref (ap 9), .ref (ap 10)])), ((ap 3), .inl (eI E, 24, .inl (vp_73 3))), ((ap 4), .inl (eI E, 24, .inl (vp_73 4))), ((ap 6), .inl (eM E, 3, .inr (.inr (.inr (.inr (fun i => some (ap (20 + 10 * i)))))))), ((ap 20), .inr (0, [.int (vp_73 20 0), .int (vp_73 21 0), .int (vp_73 22 0), .ref (ap 23), .ref (ap 24)])), ((ap 23), .inl (eI E, 18, .inl (vp_73 23))), ((ap 24), .inl (eI E, 24, .inl (vp_73 24))), ((ap 30), .inr (0, [.int (vp_73 30 0), .int (vp_73 31 0), .int (vp_73 32 0), .ref (ap 33), .ref (ap 34)])), ((ap 33), .inl (eI E, 18, .inl (vp_73 33))), ((ap 34), .inl (eI E, 24, .inl (vp_73 34))), ((ap 40), .inr (0, [.int (vp_73 40 0), .int (vp_73 41 0), .int (vp_73 42 0), .ref (ap 43), .ref (ap 44)])), ((ap 43), .inl (eI E, 18, .inl (vp_73 43))), ((ap 44), .inl (eI E, 24, .inl (vp_73 44))), ((ap 7), .inr (5, [.int (vp_73 60 0), .ref (ap 61), .ref (ap 62), .ref (ap 63)])), ((ap 61), .inl (eI E, 6, .inl (vp_73 61))), ((ap 62), .inl (eI E, 6, .inl (vp_73 62))), ((ap 63), .inl (eI E, 6, .inl (vp_73 63))), ((ap 8), .inr (5, [.int (vp_73 70 0), .ref (ap 71), .ref (ap 72), .ref (ap 73)])), ((ap 71), .inl (eI E, 6, .inl (vp_73 71))), ((ap 72), .inl (eI E, 6, .inl (vp_73 72))), ((ap 73), .inl (eI E, 6, .inl (vp_73 73))), ((ap 9), .inr (5, [.int (vp_73 80 0), .ref (ap 81), .ref (ap 82), .ref (ap 83)])), ((ap 81), .inl (eI E, 6, .inl (vp_73 81))), ((ap 82), .inl (eI E, 6, .inl (vp_73 82))), ((ap 83), .inl (eI E, 6, .inl (vp_73 83))), ((ap 10), .inr (5, [.int (vp_73 90 0), .ref (ap 91), .ref (ap 92), .ref (ap 93)])), ((ap 91), .inl (eI E, 6, .inl (vp_73 91))), ((ap 92), .inl (eI E, 6, .inl (vp_73 92))), ((ap 93), .inl (eI E, 6, .inl (vp_73 93)))]) (As := [.int 59]) (rest := []) (C := RX2) (ci := 2) ⟨hx, hb, hml, hown, hts⟩ (c_X2_readSign l E H.size qr qx fx ln o73_ps o73_fn o73_fa o73_na cx ck ap 59 (by omega) (by omega)) (cwV 1 hts gX2_readMoon_X2_readSign rfl rfl rfl (by decide +kernel) ⟨Nat.le_of_ble_eq_true rfl, Nat.le_of_ble_eq_true rfl⟩) hE hS hA hP hD [0, 1] [2, 3, 4, 5, 6, 7, 8, 9, 10, 11, 12, 13, 14, 15, 16, 17, 18, 19, 20, 21, 22, 23, 24, 25, 26, 27, 28, 29, 30] rfl rfl (by decide) (by decide) (by decide) [29, 30, 0, 1, 2, 3, 4, 5, 6, 7, 8, 9, 10, 11, 12, 13, 14, 15, 16, 17, 18, 19, 20, 21, 22, 23, 24, 25, 26, 27, 28] (by decide) (fun u => rfl) rfl rfl rfl rfl hl.1 rfl (Nat.le_of_ble_eq_true rfl) dX2_readMoon_80 ⟨Nat.zero_le _, Nat.zero_le _⟩ (fun u80 H locs h80 hP hD hS => ?_)
        obtain ⟨o80_ps, o80_fn, o80_fa⟩ := u80
        try dsimp only at h80
        have hf80 := h80.2
        replace h80 := h80.1
        replace hP : va_P (eD E) vwCl (rdL E qr qx fx ln o80_ps o80_fn o80_fa o73_na cx ck ap vp_73) H := hP
        replace hD : va_D A (rdL E qr qx fx ln o80_ps o80_fn o80_fa o73_na cx ck ap vp_73) := hD
        rw [n_59] at hf80
        have hs80 := CF.then (s := fun z : ((Unit × (Int × Int × Int)) × (Int × Int × Int)) × (Nat × Int × (Nat → Int)) => sgnF fx ln.toInt 59 z.2.2.1) hs73 hf80 ((((okF.chk (by decide)).th (fun _ => okF.num)).th (fun _ => okF.num)).th (fun _ => (okF.row _ _ _ _))) (fun z hz => by rw [hz.2.2.1])
        refine lv_aload_n hx hb dX2_readMoon_83 rfl (lv_at hl 2 rfl) ?_
        refine va_get (D := eD E) (ci := 2) (v := .int o80_fn) (C := RX2) (T := TX2) (N := 9) hx hb hts in_X2 hown hK hP 0 rfl rfl 4 (by decide) lk2 (fun _ h9 => h9) rfl dX2_readMoon_84 ?_
        refine lv_if_ne (tgt := 122) hx hb dX2_readMoon_87 (by decide) (fun c87 => ?_) (fun c87 => ?_)
        · have c87_ := i_ne c87
          subst hQ
          exact W.vret hx hb hr (fun t ht hW => ⟨⟨(o80_ps, o80_fn, o80_fa, o73_na, vp_73), rfl, (show (PlanI vp_73 ∧ (ps.toInt ≤ o80_ps.toInt ∧ o80_ps.toInt ≤ ln.toInt + 1) ∧ (o80_fn.toInt ≠ 0 ∨ o80_ps.toInt ≤ ln.toInt)) ∧ (CF (moonF fx ln.toInt S wd.toInt ps.toInt) fn.toInt fa.toInt o80_fn.toInt o80_fa.toInt (fun z => o80_ps.toInt = z.2 ∧ Rp (moonS S z.1.1.1.2.1 z.1.1.2.1 z.1.2) vp_73 cx ck)) from ⟨⟨hI, by omega, by omega⟩, (hs80.mono (fun q1 q2 z hz => absurd q2 (by omega)))⟩), by rw [ht]; exact hP, hD⟩, hS.F ht⟩) hS.2.2 dX2_readMoon_122
        · have c87_ := i_eq c87
          have hpz : ps.toInt ≤ o80_ps.toInt ∧ o80_ps.toInt ≤ ln.toInt := by omega
          refine lv_aload_n hx hb dX2_readMoon_90 rfl (lv_at hl 1 rfl) ?_
          refine lv_iload_n hx hb dX2_readMoon_91 rfl (lv_at hl 0 rfl) ?_
          refine lv_aload_n hx hb dX2_readMoon_92 rfl (lv_at hl 2 rfl) ?_
          refine va_get (D := eD E) (ci := 2) (v := .ref (ap 0)) (C := RX2) (T := TX2) (N := 9) hx hb hts in_X2 hown hK hP 0 rfl rfl 3 (by decide) lk0 (fun _ h9 => h9) rfl dX2_readMoon_93 ?_
          refine va_get (D := eD E) (ci := 1) (v := .int (vp_73 0 0)) (C := RX1) (T := TX1) (N := 11) hx hb hts in_X1 hown hK hP 2 rfl rfl 0 (by decide) lk7 (fun _ h9 => h9) rfl dX2_readMoon_96 ?_
          refine lv_aload_n hx hb dX2_readMoon_99 rfl (lv_at hl 2 rfl) ?_
          refine va_get (D := eD E) (ci := 2) (v := .ref (ap 0)) (C := RX2) (T := TX2) (N := 9) hx hb hts in_X2 hown hK hP 0 rfl rfl 3 (by decide) lk0 (fun _ h9 => h9) rfl dX2_readMoon_100 ?_
          refine va_get (D := eD E) (ci := 1) (v := .int (vp_73 2 0)) (C := RX1) (T := TX1) (N := 11) hx hb hts in_X1 hown hK hP 2 rfl rfl 2 (by decide) lk8 (fun _ h9 => h9) rfl dX2_readMoon_103 ?_
          refine mt_Vv (w1 := fun (u : Int32 × (Nat → Int32) × (Nat → Int32)) => moonL E (ap 20) (ap 23) (ap 24) u.1 (vp_73 21 0) (vp_73 22 0) u.2.1 u.2.2) (wf := fun (u : Int32 × (Nat → Int32) × (Nat → Int32)) => rdL E qr qx fx ln o80_ps o80_fn o80_fa o73_na cx ck ap (up3 (up3 (up2 vp_73 20 0 u.1) 23 u.2.1) 24 u.2.2)) (wr := [(qr, .inr (2, [.ref qx, .int ln, .int o80_ps, .ref (ap 0), .int o80_fn, .int o80_fa, .int o73_na, .int cx, .int ck])), (qx, .inl (eI E, 250, .inl fx)), ((ap 0), .inr (1, [.int (vp_73 0 0), .int (vp_73 1 0), .int (vp_73 2 0), .ref (ap 3), .ref (ap 4), .int (vp_73 5 0), .ref (ap 6), .ref (ap 7), .ref (ap 8), .ref (ap 9), .ref (ap 10)])), ((ap 3), .inl (eI E, 24, .inl (vp_73 3))), ((ap 4), .inl (eI E, 24, .inl (vp_73 4))), ((ap 6), .inl (eM E, 3, .inr (.inr (.inr (.inr (fun i => some (ap (20 + 10 * i)))))))), ((ap 30), .inr (0, [.int (vp_73 30 0), .int (vp_73 31 0), .int (vp_73 32 0), .ref (ap 33), .ref (ap 34)])), ((ap 33), .inl (eI E, 18, .inl (vp_73 33))), ((ap 34), .inl (eI E, 24, .inl (vp_73 34))), ((ap 40), .inr (0, [.int (vp_73 40 0), .int (vp_73 41 0), .int (vp_73 42 0), .ref (ap 43), .ref (ap 44)])), ((ap 43), .inl (eI E, 18, .inl (vp_73 43))), ((ap 44), .inl (eI E, 24, .inl (vp_73 44))), ((ap 7), .inr (5, [.int (vp_73 60 0), .ref (ap 61), .ref (ap 62), .ref (ap 63)])), ((ap 61), .inl (eI E, 6, .inl (vp_73 61))), ((ap 62), .inl (eI E, 6, .inl (vp_73 62))), ((ap 63), .inl (eI E, 6, .inl (vp_73 63))), ((ap 8), .inr (5, [.int (vp_73 70 0), .ref (ap 71), .ref (ap 72), .ref (ap 73)])), ((ap 71), .inl (eI E, 6, .inl (vp_73 71))), ((ap 72), .inl (eI E, 6, .inl (vp_73 72))), ((ap 73), .inl (eI E, 6, .inl (vp_73 73))), ((ap 9), .inr (5, [.int (vp_73 80 0), .ref (ap 81), .ref (ap 82), .ref (ap 83)])), ((ap 81), .inl (eI E, 6, .inl (vp_73 81))), ((ap 82), .inl (eI E, 6, .inl (vp_73 82))), ((ap 83), .inl (eI E, 6, .inl (vp_73 83))), ((ap 10), .inr (5, [.int (vp_73 90 0), .ref (ap 91), .ref (ap 92), .ref (ap 93)])), ((ap 91), .inl (eI E, 6, .inl (vp_73 91))), ((ap 92), .inl (eI E, 6, .inl (vp_73 92))), ((ap 93), .inl (eI E, 6, .inl (vp_73 93)))]) (As := [.int r73, .int (vp_73 0 0), .int (vp_73 2 0)]) (rest := []) (C := RX0) (ci := 0) ⟨hx, hb, hml, hown, hts⟩ (c_X0_settle l E H.size (ap 20) (ap 23) (ap 24) (vp_73 20 0) (vp_73 21 0) (vp_73 22 0) (vp_73 23) (vp_73 24) r73 (vp_73 0 0) (vp_73 2 0) hmx.2.1 hmx.2.2 (by rw [hpx]; omega) (by rw [hpy]; omega) (by omega) (by rw [hwx]; omega) (by rw [hcx]; omega)) (cwV 3 hts gX2_readMoon_X0_settle rfl rfl rfl (by decide +kernel) ⟨Nat.le_of_ble_eq_true rfl, Nat.le_of_ble_eq_true rfl⟩) hE hS hA hP hD [6, 7, 8] [0, 1, 2, 3, 4, 5, 9, 10, 11, 12, 13, 14, 15, 16, 17, 18, 19, 20, 21, 22, 23, 24, 25, 26, 27, 28, 29, 30] rfl rfl (by decide) (by decide) (by decide) [0, 1, 2, 3, 4, 5, 28, 29, 30, 6, 7, 8, 9, 10, 11, 12, 13, 14, 15, 16, 17, 18, 19, 20, 21, 22, 23, 24, 25, 26, 27] (by decide) (fun u => rfl) rfl rfl rfl rfl hl.1 rfl (Nat.le_of_ble_eq_true rfl) dX2_readMoon_106 ⟨Nat.zero_le _, Nat.zero_le _⟩ (fun u106 H locs h106 hP hD hS => ?_)
          obtain ⟨o106_m0, o106_mr, o106_ma⟩ := u106
          try dsimp only at h106
          have hf106 := h106.2
          replace h106 := h106.1
          replace hP : va_P (eD E) vwCl (rdL E qr qx fx ln o80_ps o80_fn o80_fa o73_na cx ck ap (up3 (up3 (up2 vp_73 20 0 o106_m0) 23 o106_mr) 24 o106_ma)) H := hP
          replace hD : va_D A (rdL E qr qx fx ln o80_ps o80_fn o80_fa o73_na cx ck ap (up3 (up3 (up2 vp_73 20 0 o106_m0) 23 o106_mr) 24 o106_ma)) := hD
          generalize hv106 : up3 (up3 (up2 vp_73 20 0 o106_m0) 23 o106_mr) 24 o106_ma = vp_106 at hP hD
          have hI : PlanI vp_106 := by rw [← hv106]; exact pl_moon0 hI h106
          have hmcy : vp_106 5 0 = vp 5 0 := by rw [← hv106]; exact hmcx
          refine lv_aload_n hx hb dX2_readMoon_109 rfl (lv_at hl 2 rfl) ?_
          refine va_get (D := eD E) (ci := 2) (v := .ref (ap 0)) (C := RX2) (T := TX2) (N := 9) hx hb hts in_X2 hown hK hP 0 rfl rfl 3 (by decide) lk0 (fun _ h9 => h9) rfl dX2_readMoon_110 ?_
          refine lv_dup hx hb dX2_readMoon_113 rfl ?_
          refine va_get (D := eD E) (ci := 1) (v := .int (vp_106 5 0)) (C := RX1) (T := TX1) (N := 11) hx hb hts in_X1 hown hK hP 2 rfl rfl 5 (by decide) lk1 (fun _ h9 => h9) rfl dX2_readMoon_114 ?_
          refine lv_iconst (v := 1) hx hb dX2_readMoon_117 (by decide) ?_
          refine lv_iadd hx hb dX2_readMoon_118 ?_
          refine lv_topi (fun x118 e118 => ?_)
          have t118 := i_add e118 (by rw [hmcy]; omega)
          rw [hmcy] at t118
          refine va_put (D := eD E) (ci := 1) (v := .int x118) (ty := .int) (C := RX1) (T := TX1) (N := 11) hx hb hts in_X1 tyX1 tyX1_ok nmX1 hown hK hP hD hS 2 rfl rfl 5 (by decide) lk1 (fun _ h9 => h9) rfl (by decide +kernel) rfl rfl (Nat.le_of_ble_eq_true rfl) dX2_readMoon_119 (fun H locs hP hD hS => ?_)
          replace hP : va_P (eD E) vwCl (rdL E qr qx fx ln o80_ps o80_fn o80_fa o73_na cx ck ap (up2 vp_106 5 0 x118)) H := hP
          replace hD : va_D A (rdL E qr qx fx ln o80_ps o80_fn o80_fa o73_na cx ck ap (up2 vp_106 5 0 x118)) := hD
          generalize hv119 : up2 vp_106 5 0 x118 = vp_119 at hP hD
          have hI : PlanI vp_119 := by rw [← hv119]; exact pl_mc hI (by have q := i_add e118 (by rw [hmcy]; omega); rw [hmcy] at q; omega)
          have hok := hs73.get ((((okF.chk (by decide)).th (fun _ => okF.num)).th (fun _ => okF.num)).th (fun _ => (okF.row _ _ _ _))) (by omega)
          have hS43 : S 43 0 = 0 := by rw [← hcn, q44]; decide
          have hmo : ∀ z : (((Unit × (Int × Int × Int)) × (Int × Int × Int)) × (Nat × Int × (Nat → Int))) × Int, ((((True ∧ r51.toInt = z.1.1.1.2.1 ∧ o51_ps.toInt = z.1.1.1.2.2.1 ∧ o51_na.toInt = z.1.1.1.2.2.2) ∧ r62.toInt = z.1.1.2.1 ∧ o62_ps.toInt = z.1.1.2.2.1 ∧ o62_na.toInt = z.1.1.2.2.2) ∧ r73.toInt = z.1.2.1 ∧ o73_ps.toInt = z.1.2.2.1 ∧ ∀ j, j < z.1.2.1 → (o73_mr j).toInt = z.1.2.2.2 (9 * (S 43 0).toNat + j)) ∧ o80_ps.toInt = z.2) → moonF fx ln.toInt S wd.toInt ps.toInt = .inr z → Rp (moonS S z.1.1.1.2.1 z.1.1.2.1 z.1.2) vp_119 cx ck := fun z hz hzz => by rw [← hv119, ← hv106, ← hv73, ← hv65, ← hv54, ← hz.1.1.1.2.1, ← hz.1.1.2.1]; have hk := row_keep _ _ _ _ _ (th_get (th_get hzz).1).2; rw [show 9 * (S 43 0).toNat = 0 by rw [hS43]; rfl] at hk; exact rp_moon0 hRp hS43 (by omega) (by rw [hf106.1]; exact hz.1.2.1) (fun j hj => by rw [hf106.2 j (by omega), show vp_73 23 = o73_mr by rw [← hv73]; rfl]; have q := hz.1.2.2.2 j hj; rw [show 9 * (S 43 0).toNat = 0 by rw [hS43]; rfl] at q; exact q) (fun j hj => hk.2.2.2 j (Or.inl (by omega)))
          subst hQ
          exact W.vret hx hb hr (fun t ht hW => ⟨⟨(o80_ps, o80_fn, o80_fa, o73_na, vp_119), rfl, (show (PlanI vp_119 ∧ (ps.toInt ≤ o80_ps.toInt ∧ o80_ps.toInt ≤ ln.toInt + 1) ∧ (o80_fn.toInt ≠ 0 ∨ o80_ps.toInt ≤ ln.toInt)) ∧ (CF (moonF fx ln.toInt S wd.toInt ps.toInt) fn.toInt fa.toInt o80_fn.toInt o80_fa.toInt (fun z => o80_ps.toInt = z.2 ∧ Rp (moonS S z.1.1.1.2.1 z.1.1.2.1 z.1.2) vp_119 cx ck)) from ⟨⟨hI, by omega, by omega⟩, (hs80.mono2 (fun q1 q2 z hzz hz => ⟨hz.2, hmo z hz hzz⟩))⟩), by rw [ht]; exact hP, hD⟩, hS.F ht⟩) hS.2.2 dX2_readMoon_122
      · refine W.eq (g2 := F0 m 44 ls [.int 1, .ref (ap 6)]) (by rw [q44]) ?_
        refine va_aldq hx hb hK hP 5 2 rfl rfl (i_in (by decide) (by decide)) dX2_readMoon_44 ?_
        refine W.eq (g2 := F0 m 45 ls [.ref (ap 30)]) rfl ?_
        refine lv_astore_n (lv' := [(2, .ref (ap 30)), (0, .ref qr), (1, .int wd)]) hx hb dX2_readMoon_45 rfl hl (by decide) rfl (fun ls hl => ?_)
        refine lv_aload_n hx hb dX2_readMoon_46 rfl (lv_at hl 0 rfl) ?_
        refine lv_aload_n hx hb dX2_readMoon_47 rfl (lv_at hl 1 rfl) ?_
        refine lv_iconst (v := 0) hx hb dX2_readMoon_48 (by decide) ?_
        refine lv_bipush (v := 8) hx hb dX2_readMoon_49 (by decide) ?_
        refine mt_Vi (w1 := fun (u : Int32 × Int32 × Int32 × Int32) => rbL E qr qx fx ln u.1 u.2.1 u.2.2.1 u.2.2.2 cx ck ap) (wf := fun (u : Int32 × Int32 × Int32 × Int32) => rdL E qr qx fx ln u.1 u.2.1 u.2.2.1 u.2.2.2 cx ck ap vp) (wr := [((ap 0), .inr (1, [.int (vp 0 0), .int (vp 1 0), .int (vp 2 0), .ref (ap 3), .ref (ap 4), .int (vp 5 0), .ref (ap 6), .ref (ap 7), .ref (ap 8), .ref (ap 9), .ref (ap 10)])), ((ap 3), .inl (eI E, 24, .inl (vp 3))), ((ap 4), .inl (eI E, 24, .inl (vp 4))), ((ap 6), .inl (eM E, 3, .inr (.inr (.inr (.inr (fun i => some (ap (20 + 10 * i)))))))), ((ap 20), .inr (0, [.int (vp 20 0), .int (vp 21 0), .int (vp 22 0), .ref (ap 23), .ref (ap 24)])), ((ap 23), .inl (eI E, 18, .inl (vp 23))), ((ap 24), .inl (eI E, 24, .inl (vp 24))), ((ap 30), .inr (0, [.int (vp 30 0), .int (vp 31 0), .int (vp 32 0), .ref (ap 33), .ref (ap 34)])), ((ap 33), .inl (eI E, 18, .inl (vp 33))), ((ap 34), .inl (eI E, 24, .inl (vp 34))), ((ap 40), .inr (0, [.int (vp 40 0), .int (vp 41 0), .int (vp 42 0), .ref (ap 43), .ref (ap 44)])), ((ap 43), .inl (eI E, 18, .inl (vp 43))), ((ap 44), .inl (eI E, 24, .inl (vp 44))), ((ap 7), .inr (5, [.int (vp 60 0), .ref (ap 61), .ref (ap 62), .ref (ap 63)])), ((ap 61), .inl (eI E, 6, .inl (vp 61))), ((ap 62), .inl (eI E, 6, .inl (vp 62))), ((ap 63), .inl (eI E, 6, .inl (vp 63))), ((ap 8), .inr (5, [.int (vp 70 0), .ref (ap 71), .ref (ap 72), .ref (ap 73)])), ((ap 71), .inl (eI E, 6, .inl (vp 71))), ((ap 72), .inl (eI E, 6, .inl (vp 72))), ((ap 73), .inl (eI E, 6, .inl (vp 73))), ((ap 9), .inr (5, [.int (vp 80 0), .ref (ap 81), .ref (ap 82), .ref (ap 83)])), ((ap 81), .inl (eI E, 6, .inl (vp 81))), ((ap 82), .inl (eI E, 6, .inl (vp 82))), ((ap 83), .inl (eI E, 6, .inl (vp 83))), ((ap 10), .inr (5, [.int (vp 90 0), .ref (ap 91), .ref (ap 92), .ref (ap 93)])), ((ap 91), .inl (eI E, 6, .inl (vp 91))), ((ap 92), .inl (eI E, 6, .inl (vp 92))), ((ap 93), .inl (eI E, 6, .inl (vp 93)))]) (As := [.int 0, .int 8]) (rest := [.ref (ap 30)]) (C := RX2) (ci := 2) ⟨hx, hb, hml, hown, hts⟩ (c_X2_readNumber l E H.size qr qx fx ln ps o19_fn o19_fa na cx ck ap 0 8 (by omega) (by omega)) (cwV 2 hts gX2_readMoon_X2_readNumber rfl rfl rfl (by decide +kernel) ⟨Nat.le_of_ble_eq_true rfl, Nat.le_of_ble_eq_true rfl⟩) hE hS hA hP hD [0, 1] [2, 3, 4, 5, 6, 7, 8, 9, 10, 11, 12, 13, 14, 15, 16, 17, 18, 19, 20, 21, 22, 23, 24, 25, 26, 27, 28, 29, 30] rfl rfl (by decide) (by decide) (by decide) [29, 30, 0, 1, 2, 3, 4, 5, 6, 7, 8, 9, 10, 11, 12, 13, 14, 15, 16, 17, 18, 19, 20, 21, 22, 23, 24, 25, 26, 27, 28] (by decide) (fun u => rfl) rfl rfl rfl rfl hl.1 rfl (Nat.le_of_ble_eq_true rfl) dX2_readMoon_51 ⟨Nat.zero_le _, Nat.zero_le _⟩ (fun r51 u51 H locs h51 hP hD hS => ?_)
        obtain ⟨o51_ps, o51_fn, o51_fa, o51_na⟩ := u51
        try dsimp only at h51
        have hf51 := h51.2
        replace h51 := h51.1
        replace hP : va_P (eD E) vwCl (rdL E qr qx fx ln o51_ps o51_fn o51_fa o51_na cx ck ap vp) H := hP
        replace hD : va_D A (rdL E qr qx fx ln o51_ps o51_fn o51_fa o51_na cx ck ap vp) := hD
        have pb51 : 0 ≤ r51.toInt ∧ r51.toInt ≤ 8 := pb_rn h51.1 (by decide) (by decide)
        rw [n_0, n_8] at hf51
        have hs51 := CF.then (s := fun z : Unit => numF fx ln.toInt 0 8 ps.toInt) hk19 hf51 (okF.chk (by decide)) (fun z hz => by rfl)
        refine va_put (D := eD E) (ci := 0) (v := .int r51) (ty := .int) (C := RX0) (T := TX0) (N := 5) hx hb hts in_X0 tyX0 tyX0_ok nmX0 hown hK hP hD hS 9 rfl rfl 1 (by decide) lk4 (fun _ h9 => h9) rfl (by decide +kernel) rfl rfl (Nat.le_of_ble_eq_true rfl) dX2_readMoon_54 (fun H locs hP hD hS => ?_)
        replace hP : va_P (eD E) vwCl (rdL E qr qx fx ln o51_ps o51_fn o51_fa o51_na cx ck ap (up2 vp 31 0 r51)) H := hP
        replace hD : va_D A (rdL E qr qx fx ln o51_ps o51_fn o51_fa o51_na cx ck ap (up2 vp 31 0 r51)) := hD
        generalize hv54 : up2 vp 31 0 r51 = vp_54 at hP hD
        have hI : PlanI vp_54 := by rw [← hv54]; exact hI
        refine lv_aload_n hx hb dX2_readMoon_57 rfl (lv_at hl 0 rfl) ?_
        refine lv_aload_n hx hb dX2_readMoon_58 rfl (lv_at hl 1 rfl) ?_
        refine lv_iconst (v := 0) hx hb dX2_readMoon_59 (by decide) ?_
        refine lv_bipush (v := 8) hx hb dX2_readMoon_60 (by decide) ?_
        refine mt_Vi (w1 := fun (u : Int32 × Int32 × Int32 × Int32) => rbL E qr qx fx ln u.1 u.2.1 u.2.2.1 u.2.2.2 cx ck ap) (wf := fun (u : Int32 × Int32 × Int32 × Int32) => rdL E qr qx fx ln u.1 u.2.1 u.2.2.1 u.2.2.2 cx ck ap vp_54) (wr := [((ap 0), .inr (1, [.int (vp_54 0 0), .int (vp_54 1 0), .int (vp_54 2 0), .ref (ap 3), .ref (ap 4), .int (vp_54 5 0), .ref (ap 6), .ref (ap 7), .ref (ap 8), .ref (ap 9), .ref (ap 10)])), ((ap 3), .inl (eI E, 24, .inl (vp_54 3))), ((ap 4), .inl (eI E, 24, .inl (vp_54 4))), ((ap 6), .inl (eM E, 3, .inr (.inr (.inr (.inr (fun i => some (ap (20 + 10 * i)))))))), ((ap 20), .inr (0, [.int (vp_54 20 0), .int (vp_54 21 0), .int (vp_54 22 0), .ref (ap 23), .ref (ap 24)])), ((ap 23), .inl (eI E, 18, .inl (vp_54 23))), ((ap 24), .inl (eI E, 24, .inl (vp_54 24))), ((ap 30), .inr (0, [.int (vp_54 30 0), .int (vp_54 31 0), .int (vp_54 32 0), .ref (ap 33), .ref (ap 34)])), ((ap 33), .inl (eI E, 18, .inl (vp_54 33))), ((ap 34), .inl (eI E, 24, .inl (vp_54 34))), ((ap 40), .inr (0, [.int (vp_54 40 0), .int (vp_54 41 0), .int (vp_54 42 0), .ref (ap 43), .ref (ap 44)])), ((ap 43), .inl (eI E, 18, .inl (vp_54 43))), ((ap 44), .inl (eI E, 24, .inl (vp_54 44))), ((ap 7), .inr (5, [.int (vp_54 60 0), .ref (ap 61), .ref (ap 62), .ref (ap 63)])), ((ap 61), .inl (eI E, 6, .inl (vp_54 61))), ((ap 62), .inl (eI E, 6, .inl (vp_54 62))), ((ap 63), .inl (eI E, 6, .inl (vp_54 63))), ((ap 8), .inr (5, [.int (vp_54 70 0), .ref (ap 71), .ref (ap 72), .ref (ap 73)])), ((ap 71), .inl (eI E, 6, .inl (vp_54 71))), ((ap 72), .inl (eI E, 6, .inl (vp_54 72))), ((ap 73), .inl (eI E, 6, .inl (vp_54 73))), ((ap 9), .inr (5, [.int (vp_54 80 0), .ref (ap 81), .ref (ap 82), .ref (ap 83)])), ((ap 81), .inl (eI E, 6, .inl (vp_54 81))), ((ap 82), .inl (eI E, 6, .inl (vp_54 82))), ((ap 83), .inl (eI E, 6, .inl (vp_54 83))), ((ap 10), .inr (5, [.int (vp_54 90 0), .ref (ap 91), .ref (ap 92), .ref (ap 93)])), ((ap 91), .inl (eI E, 6, .inl (vp_54 91))), ((ap 92), .inl (eI E, 6, .inl (vp_54 92))), ((ap 93), .inl (eI E, 6, .inl (vp_54 93)))]) (As := [.int 0, .int 8]) (rest := [.ref (ap 30)]) (C := RX2) (ci := 2) ⟨hx, hb, hml, hown, hts⟩ (c_X2_readNumber l E H.size qr qx fx ln o51_ps o51_fn o51_fa o51_na cx ck ap 0 8 (by omega) (by omega)) (cwV 2 hts gX2_readMoon_X2_readNumber rfl rfl rfl (by decide +kernel) ⟨Nat.le_of_ble_eq_true rfl, Nat.le_of_ble_eq_true rfl⟩) hE hS hA hP hD [0, 1] [2, 3, 4, 5, 6, 7, 8, 9, 10, 11, 12, 13, 14, 15, 16, 17, 18, 19, 20, 21, 22, 23, 24, 25, 26, 27, 28, 29, 30] rfl rfl (by decide) (by decide) (by decide) [29, 30, 0, 1, 2, 3, 4, 5, 6, 7, 8, 9, 10, 11, 12, 13, 14, 15, 16, 17, 18, 19, 20, 21, 22, 23, 24, 25, 26, 27, 28] (by decide) (fun u => rfl) rfl rfl rfl rfl hl.1 rfl (Nat.le_of_ble_eq_true rfl) dX2_readMoon_62 ⟨Nat.zero_le _, Nat.zero_le _⟩ (fun r62 u62 H locs h62 hP hD hS => ?_)
        obtain ⟨o62_ps, o62_fn, o62_fa, o62_na⟩ := u62
        try dsimp only at h62
        have hf62 := h62.2
        replace h62 := h62.1
        replace hP : va_P (eD E) vwCl (rdL E qr qx fx ln o62_ps o62_fn o62_fa o62_na cx ck ap vp_54) H := hP
        replace hD : va_D A (rdL E qr qx fx ln o62_ps o62_fn o62_fa o62_na cx ck ap vp_54) := hD
        have pb62 : 0 ≤ r62.toInt ∧ r62.toInt ≤ 8 := pb_rn h62.1 (by decide) (by decide)
        rw [n_0, n_8] at hf62
        have hs62 := CF.then (s := fun z : Unit × (Int × Int × Int) => numF fx ln.toInt 0 8 z.2.2.1) hs51 hf62 ((okF.chk (by decide)).th (fun _ => okF.num)) (fun z hz => by rw [hz.2.2.1])
        refine va_put (D := eD E) (ci := 0) (v := .int r62) (ty := .int) (C := RX0) (T := TX0) (N := 5) hx hb hts in_X0 tyX0 tyX0_ok nmX0 hown hK hP hD hS 9 rfl rfl 2 (by decide) lk5 (fun _ h9 => h9) rfl (by decide +kernel) rfl rfl (Nat.le_of_ble_eq_true rfl) dX2_readMoon_65 (fun H locs hP hD hS => ?_)
        replace hP : va_P (eD E) vwCl (rdL E qr qx fx ln o62_ps o62_fn o62_fa o62_na cx ck ap (up2 vp_54 32 0 r62)) H := hP
        replace hD : va_D A (rdL E qr qx fx ln o62_ps o62_fn o62_fa o62_na cx ck ap (up2 vp_54 32 0 r62)) := hD
        generalize hv65 : up2 vp_54 32 0 r62 = vp_65 at hP hD
        have hI : PlanI vp_65 := by rw [← hv65]; exact hI
        have hrowx : rowB (vp_65 33) := hI.2.2.2.1.2.1
        refine lv_aload_n hx hb dX2_readMoon_68 rfl (lv_at hl 1 rfl) ?_
        refine lv_aload_n hx hb dX2_readMoon_69 rfl (lv_at hl 0 rfl) ?_
        refine va_get (D := eD E) (ci := 0) (v := .ref (ap 33)) (C := RX0) (T := TX0) (N := 5) hx hb hts in_X0 hown hK hP 9 rfl rfl 3 (by decide) lk6 (fun _ h9 => h9) rfl dX2_readMoon_70 ?_
        refine mt_Vi (w1 := fun (u : Int32 × Int32 × Int32 × Int32 × (Nat → Int32)) => rrL E qr qx fx ln u.1 u.2.1 u.2.2.1 u.2.2.2.1 cx ck ap (ap 33) u.2.2.2.2) (wf := fun (u : Int32 × Int32 × Int32 × Int32 × (Nat → Int32)) => rdL E qr qx fx ln u.1 u.2.1 u.2.2.1 u.2.2.2.1 cx ck ap (up3 vp_65 33 u.2.2.2.2)) (wr := [((ap 0), .inr (1, [.int (vp_65 0 0), .int (vp_65 1 0), .int (vp_65 2 0), .ref (ap 3), .ref (ap 4), .int (vp_65 5 0), .ref (ap 6), .ref (ap 7), .ref (ap 8), .ref (ap 9), .ref (ap 10)])), ((ap 3), .inl (eI E, 24, .inl (vp_65 3))), ((ap 4), .inl (eI E, 24, .inl (vp_65 4))), ((ap 6), .inl (eM E, 3, .inr (.inr (.inr (.inr (fun i => some (ap (20 + 10 * i)))))))), ((ap 20), .inr (0, [.int (vp_65 20 0), .int (vp_65 21 0), .int (vp_65 22 0), .ref (ap 23), .ref (ap 24)])), ((ap 23), .inl (eI E, 18, .inl (vp_65 23))), ((ap 24), .inl (eI E, 24, .inl (vp_65 24))), ((ap 30), .inr (0, [.int (vp_65 30 0), .int (vp_65 31 0), .int (vp_65 32 0), .ref (ap 33), .ref (ap 34)])), ((ap 34), .inl (eI E, 24, .inl (vp_65 34))), ((ap 40), .inr (0, [.int (vp_65 40 0), .int (vp_65 41 0), .int (vp_65 42 0), .ref (ap 43), .ref (ap 44)])), ((ap 43), .inl (eI E, 18, .inl (vp_65 43))), ((ap 44), .inl (eI E, 24, .inl (vp_65 44))), ((ap 7), .inr (5, [.int (vp_65 60 0), .ref (ap 61), .ref (ap 62), .ref (ap 63)])), ((ap 61), .inl (eI E, 6, .inl (vp_65 61))), ((ap 62), .inl (eI E, 6, .inl (vp_65 62))), ((ap 63), .inl (eI E, 6, .inl (vp_65 63))), ((ap 8), .inr (5, [.int (vp_65 70 0), .ref (ap 71), .ref (ap 72), .ref (ap 73)])), ((ap 71), .inl (eI E, 6, .inl (vp_65 71))), ((ap 72), .inl (eI E, 6, .inl (vp_65 72))), ((ap 73), .inl (eI E, 6, .inl (vp_65 73))), ((ap 9), .inr (5, [.int (vp_65 80 0), .ref (ap 81), .ref (ap 82), .ref (ap 83)])), ((ap 81), .inl (eI E, 6, .inl (vp_65 81))), ((ap 82), .inl (eI E, 6, .inl (vp_65 82))), ((ap 83), .inl (eI E, 6, .inl (vp_65 83))), ((ap 10), .inr (5, [.int (vp_65 90 0), .ref (ap 91), .ref (ap 92), .ref (ap 93)])), ((ap 91), .inl (eI E, 6, .inl (vp_65 91))), ((ap 92), .inl (eI E, 6, .inl (vp_65 92))), ((ap 93), .inl (eI E, 6, .inl (vp_65 93)))]) (As := [.ref (ap 33)]) (rest := []) (C := RX2) (ci := 2) ⟨hx, hb, hml, hown, hts⟩ (c_X2_readRow l E H.size qr qx fx ln o62_ps o62_fn o62_fa o62_na cx ck ap (ap 33) (vp_65 33) (by omega) (by omega) hrowx) (cwV 1 hts gX2_readMoon_X2_readRow rfl rfl rfl (by decide +kernel) ⟨Nat.le_of_ble_eq_true rfl, Nat.le_of_ble_eq_true rfl⟩) hE hS hA hP hD [0, 1, 10] [2, 3, 4, 5, 6, 7, 8, 9, 11, 12, 13, 14, 15, 16, 17, 18, 19, 20, 21, 22, 23, 24, 25, 26, 27, 28, 29, 30] rfl rfl (by decide) (by decide) (by decide) [28, 29, 0, 1, 2, 3, 4, 5, 6, 7, 30, 8, 9, 10, 11, 12, 13, 14, 15, 16, 17, 18, 19, 20, 21, 22, 23, 24, 25, 26, 27] (by decide) (fun u => rfl) rfl rfl rfl rfl hl.1 rfl (Nat.le_of_ble_eq_true rfl) dX2_readMoon_73 ⟨Nat.zero_le _, Nat.zero_le _⟩ (fun r73 u73 H locs h73 hP hD hS => ?_)
        obtain ⟨o73_ps, o73_fn, o73_fa, o73_na, o73_mr⟩ := u73
        try dsimp only at h73
        have hf73 := h73.2
        replace h73 := h73.1
        replace hP : va_P (eD E) vwCl (rdL E qr qx fx ln o73_ps o73_fn o73_fa o73_na cx ck ap (up3 vp_65 33 o73_mr)) H := hP
        replace hD : va_D A (rdL E qr qx fx ln o73_ps o73_fn o73_fa o73_na cx ck ap (up3 vp_65 33 o73_mr)) := hD
        generalize hv73 : up3 vp_65 33 o73_mr = vp_73 at hP hD
        have hI : PlanI vp_73 := by rw [← hv73]; exact pl_row1 hI h73.2.2.2.2
        have hmx : moonI (vp_73 30 0) (vp_73 33) (vp_73 34) := hI.2.2.2.1
        have hpx : vp_73 31 0 = r51 := by rw [← hv73, ← hv65, ← hv54]; rfl
        have hpy : vp_73 32 0 = r62 := by rw [← hv73, ← hv65]; rfl
        have hwx : vp_73 0 0 = vp 0 0 := by rw [← hv73, ← hv65, ← hv54]; rfl
        have hcx : vp_73 2 0 = vp 2 0 := by rw [← hv73, ← hv65, ← hv54]; rfl
        have hmcx : vp_73 5 0 = vp 5 0 := by rw [← hv73, ← hv65, ← hv54]; rfl
        have hs73 := CF.then (s := fun z : (Unit × (Int × Int × Int)) × (Int × Int × Int) => rowF fx ln.toInt (9 * (S 43 0).toNat) 9 0 z.2.2.1 (S 47)) hs62 (hf73 (9 * (S 43 0).toNat) (S 47)) (((okF.chk (by decide)).th (fun _ => okF.num)).th (fun _ => okF.num)) (fun z hz => by rw [hz.2.2.1])
        refine lv_istore_n (lv' := [(3, .int r73), (2, .ref (ap 30)), (0, .ref qr), (1, .int wd)]) hx hb dX2_readMoon_76 rfl hl (by decide) rfl (fun ls hl => ?_)
        refine lv_aload_n hx hb dX2_readMoon_77 rfl (lv_at hl 2 rfl) ?_
        refine lv_bipush (v := 59) hx hb dX2_readMoon_78 (by decide) ?_
        refine mt_Vv (w1 := fun (u : Int32 × Int32 × Int32) => rbL E qr qx fx ln u.1 u.2.1 u.2.2 o73_na cx ck ap) (wf := fun (u : Int32 × Int32 × Int32) => rdL E qr qx fx ln u.1 u.2.1 u.2.2 o73_na cx ck ap vp_73) (wr := [((ap 0), .inr (1, [.int (vp_73 0 0), .int (vp_73 1 0), .int (vp_73 2 0), .ref (ap 3), .ref (ap 4), .int (vp_73 5 0), .ref (ap 6), .ref (ap 7), .ref (ap 8), .ref (ap 9), .ref (ap 10)])), ((ap 3), .inl (eI E, 24, .inl (vp_73 3))), ((ap 4), .inl (eI E, 24, .inl (vp_73 4))), ((ap 6), .inl (eM E, 3, .inr (.inr (.inr (.inr (fun i => some (ap (20 + 10 * i)))))))), ((ap 20), .inr (0, [.int (vp_73 20 0), .int (vp_73 21 0), .int (vp_73 22 0), .ref (ap 23), .ref (ap 24)])), ((ap 23), .inl (eI E, 18, .inl (vp_73 23))), ((ap 24), .inl (eI E, 24, .inl (vp_73 24))), ((ap 30), .inr (0, [.int (vp_73 30 0), .int (vp_73 31 0), .int (vp_73 32 0), .ref (ap 33), .ref (ap 34)])), ((ap 33), .inl (eI E, 18, .inl (vp_73 33))), ((ap 34), .inl (eI E, 24, .inl (vp_73 34))), ((ap 40), .inr (0, [.int (vp_73 40 0), .int (vp_73 41 0), .int (vp_73 42 0), .ref (ap 43), .ref (ap 44)])), ((ap 43), .inl (eI E, 18, .inl (vp_73 43))), ((ap 44), .inl (eI E, 24, .inl (vp_73 44))), ((ap 7), .inr (5, [.int (vp_73 60 0), .ref (ap 61), .ref (ap 62), .ref (ap 63)])), ((ap 61), .inl (eI E, 6, .inl (vp_73 61))), ((ap 62), .inl (eI E, 6, .inl (vp_73 62))), ((ap 63), .inl (eI E, 6, .inl (vp_73 63))), ((ap 8), .inr (5, [.int (vp_73 70 0), .ref (ap 71), .ref (ap 72), .ref (ap 73)])), ((ap 71), .inl (eI E, 6, .inl (vp_73 71))), ((ap 72), .inl (eI E, 6, .inl (vp_73 72))), ((ap 73), .inl (eI E, 6, .inl (vp_73 73))), ((ap 9), .inr (5, [.int (vp_73 80 0), .ref (ap 81), .ref (ap 82), .ref (ap 83)])), ((ap 81), .inl (eI E, 6, .inl (vp_73 81))), ((ap 82), .inl (eI E, 6, .inl (vp_73 82))), ((ap 83), .inl (eI E, 6, .inl (vp_73 83))), ((ap 10), .inr (5, [.int (vp_73 90 0), .ref (ap 91), .ref (ap 92), .ref (ap 93)])), ((ap 91), .inl (eI E, 6, .inl (vp_73 91))), ((ap 92), .inl (eI E, 6, .inl (vp_73 92))), ((ap 93), .inl (eI E, 6, .inl (vp_73 93)))]) (As := [.int 59]) (rest := []) (C := RX2) (ci := 2) ⟨hx, hb, hml, hown, hts⟩ (c_X2_readSign l E H.size qr qx fx ln o73_ps o73_fn o73_fa o73_na cx ck ap 59 (by omega) (by omega)) (cwV 1 hts gX2_readMoon_X2_readSign rfl rfl rfl (by decide +kernel) ⟨Nat.le_of_ble_eq_true rfl, Nat.le_of_ble_eq_true rfl⟩) hE hS hA hP hD [0, 1] [2, 3, 4, 5, 6, 7, 8, 9, 10, 11, 12, 13, 14, 15, 16, 17, 18, 19, 20, 21, 22, 23, 24, 25, 26, 27, 28, 29, 30] rfl rfl (by decide) (by decide) (by decide) [29, 30, 0, 1, 2, 3, 4, 5, 6, 7, 8, 9, 10, 11, 12, 13, 14, 15, 16, 17, 18, 19, 20, 21, 22, 23, 24, 25, 26, 27, 28] (by decide) (fun u => rfl) rfl rfl rfl rfl hl.1 rfl (Nat.le_of_ble_eq_true rfl) dX2_readMoon_80 ⟨Nat.zero_le _, Nat.zero_le _⟩ (fun u80 H locs h80 hP hD hS => ?_)
        obtain ⟨o80_ps, o80_fn, o80_fa⟩ := u80
        try dsimp only at h80
        have hf80 := h80.2
        replace h80 := h80.1
        replace hP : va_P (eD E) vwCl (rdL E qr qx fx ln o80_ps o80_fn o80_fa o73_na cx ck ap vp_73) H := hP
        replace hD : va_D A (rdL E qr qx fx ln o80_ps o80_fn o80_fa o73_na cx ck ap vp_73) := hD
        rw [n_59] at hf80
        have hs80 := CF.then (s := fun z : ((Unit × (Int × Int × Int)) × (Int × Int × Int)) × (Nat × Int × (Nat → Int)) => sgnF fx ln.toInt 59 z.2.2.1) hs73 hf80 ((((okF.chk (by decide)).th (fun _ => okF.num)).th (fun _ => okF.num)).th (fun _ => (okF.row _ _ _ _))) (fun z hz => by rw [hz.2.2.1])
        refine lv_aload_n hx hb dX2_readMoon_83 rfl (lv_at hl 2 rfl) ?_
        refine va_get (D := eD E) (ci := 2) (v := .int o80_fn) (C := RX2) (T := TX2) (N := 9) hx hb hts in_X2 hown hK hP 0 rfl rfl 4 (by decide) lk2 (fun _ h9 => h9) rfl dX2_readMoon_84 ?_
        refine lv_if_ne (tgt := 122) hx hb dX2_readMoon_87 (by decide) (fun c87 => ?_) (fun c87 => ?_)
        · have c87_ := i_ne c87
          subst hQ
          exact W.vret hx hb hr (fun t ht hW => ⟨⟨(o80_ps, o80_fn, o80_fa, o73_na, vp_73), rfl, (show (PlanI vp_73 ∧ (ps.toInt ≤ o80_ps.toInt ∧ o80_ps.toInt ≤ ln.toInt + 1) ∧ (o80_fn.toInt ≠ 0 ∨ o80_ps.toInt ≤ ln.toInt)) ∧ (CF (moonF fx ln.toInt S wd.toInt ps.toInt) fn.toInt fa.toInt o80_fn.toInt o80_fa.toInt (fun z => o80_ps.toInt = z.2 ∧ Rp (moonS S z.1.1.1.2.1 z.1.1.2.1 z.1.2) vp_73 cx ck)) from ⟨⟨hI, by omega, by omega⟩, (hs80.mono (fun q1 q2 z hz => absurd q2 (by omega)))⟩), by rw [ht]; exact hP, hD⟩, hS.F ht⟩) hS.2.2 dX2_readMoon_122
        · have c87_ := i_eq c87
          have hpz : ps.toInt ≤ o80_ps.toInt ∧ o80_ps.toInt ≤ ln.toInt := by omega
          refine lv_aload_n hx hb dX2_readMoon_90 rfl (lv_at hl 1 rfl) ?_
          refine lv_iload_n hx hb dX2_readMoon_91 rfl (lv_at hl 0 rfl) ?_
          refine lv_aload_n hx hb dX2_readMoon_92 rfl (lv_at hl 2 rfl) ?_
          refine va_get (D := eD E) (ci := 2) (v := .ref (ap 0)) (C := RX2) (T := TX2) (N := 9) hx hb hts in_X2 hown hK hP 0 rfl rfl 3 (by decide) lk0 (fun _ h9 => h9) rfl dX2_readMoon_93 ?_
          refine va_get (D := eD E) (ci := 1) (v := .int (vp_73 0 0)) (C := RX1) (T := TX1) (N := 11) hx hb hts in_X1 hown hK hP 2 rfl rfl 0 (by decide) lk7 (fun _ h9 => h9) rfl dX2_readMoon_96 ?_
          refine lv_aload_n hx hb dX2_readMoon_99 rfl (lv_at hl 2 rfl) ?_
          refine va_get (D := eD E) (ci := 2) (v := .ref (ap 0)) (C := RX2) (T := TX2) (N := 9) hx hb hts in_X2 hown hK hP 0 rfl rfl 3 (by decide) lk0 (fun _ h9 => h9) rfl dX2_readMoon_100 ?_
          refine va_get (D := eD E) (ci := 1) (v := .int (vp_73 2 0)) (C := RX1) (T := TX1) (N := 11) hx hb hts in_X1 hown hK hP 2 rfl rfl 2 (by decide) lk8 (fun _ h9 => h9) rfl dX2_readMoon_103 ?_
          refine mt_Vv (w1 := fun (u : Int32 × (Nat → Int32) × (Nat → Int32)) => moonL E (ap 30) (ap 33) (ap 34) u.1 (vp_73 31 0) (vp_73 32 0) u.2.1 u.2.2) (wf := fun (u : Int32 × (Nat → Int32) × (Nat → Int32)) => rdL E qr qx fx ln o80_ps o80_fn o80_fa o73_na cx ck ap (up3 (up3 (up2 vp_73 30 0 u.1) 33 u.2.1) 34 u.2.2)) (wr := [(qr, .inr (2, [.ref qx, .int ln, .int o80_ps, .ref (ap 0), .int o80_fn, .int o80_fa, .int o73_na, .int cx, .int ck])), (qx, .inl (eI E, 250, .inl fx)), ((ap 0), .inr (1, [.int (vp_73 0 0), .int (vp_73 1 0), .int (vp_73 2 0), .ref (ap 3), .ref (ap 4), .int (vp_73 5 0), .ref (ap 6), .ref (ap 7), .ref (ap 8), .ref (ap 9), .ref (ap 10)])), ((ap 3), .inl (eI E, 24, .inl (vp_73 3))), ((ap 4), .inl (eI E, 24, .inl (vp_73 4))), ((ap 6), .inl (eM E, 3, .inr (.inr (.inr (.inr (fun i => some (ap (20 + 10 * i)))))))), ((ap 20), .inr (0, [.int (vp_73 20 0), .int (vp_73 21 0), .int (vp_73 22 0), .ref (ap 23), .ref (ap 24)])), ((ap 23), .inl (eI E, 18, .inl (vp_73 23))), ((ap 24), .inl (eI E, 24, .inl (vp_73 24))), ((ap 40), .inr (0, [.int (vp_73 40 0), .int (vp_73 41 0), .int (vp_73 42 0), .ref (ap 43), .ref (ap 44)])), ((ap 43), .inl (eI E, 18, .inl (vp_73 43))), ((ap 44), .inl (eI E, 24, .inl (vp_73 44))), ((ap 7), .inr (5, [.int (vp_73 60 0), .ref (ap 61), .ref (ap 62), .ref (ap 63)])), ((ap 61), .inl (eI E, 6, .inl (vp_73 61))), ((ap 62), .inl (eI E, 6, .inl (vp_73 62))), ((ap 63), .inl (eI E, 6, .inl (vp_73 63))), ((ap 8), .inr (5, [.int (vp_73 70 0), .ref (ap 71), .ref (ap 72), .ref (ap 73)])), ((ap 71), .inl (eI E, 6, .inl (vp_73 71))), ((ap 72), .inl (eI E, 6, .inl (vp_73 72))), ((ap 73), .inl (eI E, 6, .inl (vp_73 73))), ((ap 9), .inr (5, [.int (vp_73 80 0), .ref (ap 81), .ref (ap 82), .ref (ap 83)])), ((ap 81), .inl (eI E, 6, .inl (vp_73 81))), ((ap 82), .inl (eI E, 6, .inl (vp_73 82))), ((ap 83), .inl (eI E, 6, .inl (vp_73 83))), ((ap 10), .inr (5, [.int (vp_73 90 0), .ref (ap 91), .ref (ap 92), .ref (ap 93)])), ((ap 91), .inl (eI E, 6, .inl (vp_73 91))), ((ap 92), .inl (eI E, 6, .inl (vp_73 92))), ((ap 93), .inl (eI E, 6, .inl (vp_73 93)))]) (As := [.int r73, .int (vp_73 0 0), .int (vp_73 2 0)]) (rest := []) (C := RX0) (ci := 0) ⟨hx, hb, hml, hown, hts⟩ (c_X0_settle l E H.size (ap 30) (ap 33) (ap 34) (vp_73 30 0) (vp_73 31 0) (vp_73 32 0) (vp_73 33) (vp_73 34) r73 (vp_73 0 0) (vp_73 2 0) hmx.2.1 hmx.2.2 (by rw [hpx]; omega) (by rw [hpy]; omega) (by omega) (by rw [hwx]; omega) (by rw [hcx]; omega)) (cwV 3 hts gX2_readMoon_X0_settle rfl rfl rfl (by decide +kernel) ⟨Nat.le_of_ble_eq_true rfl, Nat.le_of_ble_eq_true rfl⟩) hE hS hA hP hD [9, 10, 11] [0, 1, 2, 3, 4, 5, 6, 7, 8, 12, 13, 14, 15, 16, 17, 18, 19, 20, 21, 22, 23, 24, 25, 26, 27, 28, 29, 30] rfl rfl (by decide) (by decide) (by decide) [0, 1, 2, 3, 4, 5, 6, 7, 8, 28, 29, 30, 9, 10, 11, 12, 13, 14, 15, 16, 17, 18, 19, 20, 21, 22, 23, 24, 25, 26, 27] (by decide) (fun u => rfl) rfl rfl rfl rfl hl.1 rfl (Nat.le_of_ble_eq_true rfl) dX2_readMoon_106 ⟨Nat.zero_le _, Nat.zero_le _⟩ (fun u106 H locs h106 hP hD hS => ?_)
          obtain ⟨o106_m0, o106_mr, o106_ma⟩ := u106
          try dsimp only at h106
          have hf106 := h106.2
          replace h106 := h106.1
          replace hP : va_P (eD E) vwCl (rdL E qr qx fx ln o80_ps o80_fn o80_fa o73_na cx ck ap (up3 (up3 (up2 vp_73 30 0 o106_m0) 33 o106_mr) 34 o106_ma)) H := hP
          replace hD : va_D A (rdL E qr qx fx ln o80_ps o80_fn o80_fa o73_na cx ck ap (up3 (up3 (up2 vp_73 30 0 o106_m0) 33 o106_mr) 34 o106_ma)) := hD
          generalize hv106 : up3 (up3 (up2 vp_73 30 0 o106_m0) 33 o106_mr) 34 o106_ma = vp_106 at hP hD
          have hI : PlanI vp_106 := by rw [← hv106]; exact pl_moon1 hI h106
          have hmcy : vp_106 5 0 = vp 5 0 := by rw [← hv106]; exact hmcx
          refine lv_aload_n hx hb dX2_readMoon_109 rfl (lv_at hl 2 rfl) ?_
          refine va_get (D := eD E) (ci := 2) (v := .ref (ap 0)) (C := RX2) (T := TX2) (N := 9) hx hb hts in_X2 hown hK hP 0 rfl rfl 3 (by decide) lk0 (fun _ h9 => h9) rfl dX2_readMoon_110 ?_
          refine lv_dup hx hb dX2_readMoon_113 rfl ?_
          refine va_get (D := eD E) (ci := 1) (v := .int (vp_106 5 0)) (C := RX1) (T := TX1) (N := 11) hx hb hts in_X1 hown hK hP 2 rfl rfl 5 (by decide) lk1 (fun _ h9 => h9) rfl dX2_readMoon_114 ?_
          refine lv_iconst (v := 1) hx hb dX2_readMoon_117 (by decide) ?_
          refine lv_iadd hx hb dX2_readMoon_118 ?_
          refine lv_topi (fun x118 e118 => ?_)
          have t118 := i_add e118 (by rw [hmcy]; omega)
          rw [hmcy] at t118
          refine va_put (D := eD E) (ci := 1) (v := .int x118) (ty := .int) (C := RX1) (T := TX1) (N := 11) hx hb hts in_X1 tyX1 tyX1_ok nmX1 hown hK hP hD hS 2 rfl rfl 5 (by decide) lk1 (fun _ h9 => h9) rfl (by decide +kernel) rfl rfl (Nat.le_of_ble_eq_true rfl) dX2_readMoon_119 (fun H locs hP hD hS => ?_)
          replace hP : va_P (eD E) vwCl (rdL E qr qx fx ln o80_ps o80_fn o80_fa o73_na cx ck ap (up2 vp_106 5 0 x118)) H := hP
          replace hD : va_D A (rdL E qr qx fx ln o80_ps o80_fn o80_fa o73_na cx ck ap (up2 vp_106 5 0 x118)) := hD
          generalize hv119 : up2 vp_106 5 0 x118 = vp_119 at hP hD
          have hI : PlanI vp_119 := by rw [← hv119]; exact pl_mc hI (by have q := i_add e118 (by rw [hmcy]; omega); rw [hmcy] at q; omega)
          have hok := hs73.get ((((okF.chk (by decide)).th (fun _ => okF.num)).th (fun _ => okF.num)).th (fun _ => (okF.row _ _ _ _))) (by omega)
          have hS43 : S 43 0 = 1 := by rw [← hcn, q44]; decide
          have hsz0 : S 44 0 ≤ 9 := by have q := (hRp.2.2.1.2.1 (by omega)).1; have q2 := hI0.2.2.1.1; omega
          have hmo : ∀ z : (((Unit × (Int × Int × Int)) × (Int × Int × Int)) × (Nat × Int × (Nat → Int))) × Int, ((((True ∧ r51.toInt = z.1.1.1.2.1 ∧ o51_ps.toInt = z.1.1.1.2.2.1 ∧ o51_na.toInt = z.1.1.1.2.2.2) ∧ r62.toInt = z.1.1.2.1 ∧ o62_ps.toInt = z.1.1.2.2.1 ∧ o62_na.toInt = z.1.1.2.2.2) ∧ r73.toInt = z.1.2.1 ∧ o73_ps.toInt = z.1.2.2.1 ∧ ∀ j, j < z.1.2.1 → (o73_mr j).toInt = z.1.2.2.2 (9 * (S 43 0).toNat + j)) ∧ o80_ps.toInt = z.2) → moonF fx ln.toInt S wd.toInt ps.toInt = .inr z → Rp (moonS S z.1.1.1.2.1 z.1.1.2.1 z.1.2) vp_119 cx ck := fun z hz hzz => by rw [← hv119, ← hv106, ← hv73, ← hv65, ← hv54, ← hz.1.1.1.2.1, ← hz.1.1.2.1]; have hk := row_keep _ _ _ _ _ (th_get (th_get hzz).1).2; rw [show 9 * (S 43 0).toNat = 9 by rw [hS43]; rfl] at hk; exact rp_moon1 hRp hS43 (by omega) (by rw [hf106.1]; exact hz.1.2.1) (fun j hj => by rw [hf106.2 j (by omega), show vp_73 33 = o73_mr by rw [← hv73]; rfl]; have q := hz.1.2.2.2 j hj; rw [show 9 * (S 43 0).toNat = 9 by rw [hS43]; rfl] at q; exact q) (fun j hj => hk.2.2.2 j (Or.inl (by omega))) (hsz0)
          subst hQ
          exact W.vret hx hb hr (fun t ht hW => ⟨⟨(o80_ps, o80_fn, o80_fa, o73_na, vp_119), rfl, (show (PlanI vp_119 ∧ (ps.toInt ≤ o80_ps.toInt ∧ o80_ps.toInt ≤ ln.toInt + 1) ∧ (o80_fn.toInt ≠ 0 ∨ o80_ps.toInt ≤ ln.toInt)) ∧ (CF (moonF fx ln.toInt S wd.toInt ps.toInt) fn.toInt fa.toInt o80_fn.toInt o80_fa.toInt (fun z => o80_ps.toInt = z.2 ∧ Rp (moonS S z.1.1.1.2.1 z.1.1.2.1 z.1.2) vp_119 cx ck)) from ⟨⟨hI, by omega, by omega⟩, (hs80.mono2 (fun q1 q2 z hzz hz => ⟨hz.2, hmo z hz hzz⟩))⟩), by rw [ht]; exact hP, hD⟩, hS.F ht⟩) hS.2.2 dX2_readMoon_122
      · refine W.eq (g2 := F0 m 44 ls [.int 2, .ref (ap 6)]) (by rw [q44]) ?_
        refine va_aldq hx hb hK hP 5 2 rfl rfl (i_in (by decide) (by decide)) dX2_readMoon_44 ?_
        refine W.eq (g2 := F0 m 45 ls [.ref (ap 40)]) rfl ?_
        refine lv_astore_n (lv' := [(2, .ref (ap 40)), (0, .ref qr), (1, .int wd)]) hx hb dX2_readMoon_45 rfl hl (by decide) rfl (fun ls hl => ?_)
        refine lv_aload_n hx hb dX2_readMoon_46 rfl (lv_at hl 0 rfl) ?_
        refine lv_aload_n hx hb dX2_readMoon_47 rfl (lv_at hl 1 rfl) ?_
        refine lv_iconst (v := 0) hx hb dX2_readMoon_48 (by decide) ?_
        refine lv_bipush (v := 8) hx hb dX2_readMoon_49 (by decide) ?_
        refine mt_Vi (w1 := fun (u : Int32 × Int32 × Int32 × Int32) => rbL E qr qx fx ln u.1 u.2.1 u.2.2.1 u.2.2.2 cx ck ap) (wf := fun (u : Int32 × Int32 × Int32 × Int32) => rdL E qr qx fx ln u.1 u.2.1 u.2.2.1 u.2.2.2 cx ck ap vp) (wr := [((ap 0), .inr (1, [.int (vp 0 0), .int (vp 1 0), .int (vp 2 0), .ref (ap 3), .ref (ap 4), .int (vp 5 0), .ref (ap 6), .ref (ap 7), .ref (ap 8), .ref (ap 9), .ref (ap 10)])), ((ap 3), .inl (eI E, 24, .inl (vp 3))), ((ap 4), .inl (eI E, 24, .inl (vp 4))), ((ap 6), .inl (eM E, 3, .inr (.inr (.inr (.inr (fun i => some (ap (20 + 10 * i)))))))), ((ap 20), .inr (0, [.int (vp 20 0), .int (vp 21 0), .int (vp 22 0), .ref (ap 23), .ref (ap 24)])), ((ap 23), .inl (eI E, 18, .inl (vp 23))), ((ap 24), .inl (eI E, 24, .inl (vp 24))), ((ap 30), .inr (0, [.int (vp 30 0), .int (vp 31 0), .int (vp 32 0), .ref (ap 33), .ref (ap 34)])), ((ap 33), .inl (eI E, 18, .inl (vp 33))), ((ap 34), .inl (eI E, 24, .inl (vp 34))), ((ap 40), .inr (0, [.int (vp 40 0), .int (vp 41 0), .int (vp 42 0), .ref (ap 43), .ref (ap 44)])), ((ap 43), .inl (eI E, 18, .inl (vp 43))), ((ap 44), .inl (eI E, 24, .inl (vp 44))), ((ap 7), .inr (5, [.int (vp 60 0), .ref (ap 61), .ref (ap 62), .ref (ap 63)])), ((ap 61), .inl (eI E, 6, .inl (vp 61))), ((ap 62), .inl (eI E, 6, .inl (vp 62))), ((ap 63), .inl (eI E, 6, .inl (vp 63))), ((ap 8), .inr (5, [.int (vp 70 0), .ref (ap 71), .ref (ap 72), .ref (ap 73)])), ((ap 71), .inl (eI E, 6, .inl (vp 71))), ((ap 72), .inl (eI E, 6, .inl (vp 72))), ((ap 73), .inl (eI E, 6, .inl (vp 73))), ((ap 9), .inr (5, [.int (vp 80 0), .ref (ap 81), .ref (ap 82), .ref (ap 83)])), ((ap 81), .inl (eI E, 6, .inl (vp 81))), ((ap 82), .inl (eI E, 6, .inl (vp 82))), ((ap 83), .inl (eI E, 6, .inl (vp 83))), ((ap 10), .inr (5, [.int (vp 90 0), .ref (ap 91), .ref (ap 92), .ref (ap 93)])), ((ap 91), .inl (eI E, 6, .inl (vp 91))), ((ap 92), .inl (eI E, 6, .inl (vp 92))), ((ap 93), .inl (eI E, 6, .inl (vp 93)))]) (As := [.int 0, .int 8]) (rest := [.ref (ap 40)]) (C := RX2) (ci := 2) ⟨hx, hb, hml, hown, hts⟩ (c_X2_readNumber l E H.size qr qx fx ln ps o19_fn o19_fa na cx ck ap 0 8 (by omega) (by omega)) (cwV 2 hts gX2_readMoon_X2_readNumber rfl rfl rfl (by decide +kernel) ⟨Nat.le_of_ble_eq_true rfl, Nat.le_of_ble_eq_true rfl⟩) hE hS hA hP hD [0, 1] [2, 3, 4, 5, 6, 7, 8, 9, 10, 11, 12, 13, 14, 15, 16, 17, 18, 19, 20, 21, 22, 23, 24, 25, 26, 27, 28, 29, 30] rfl rfl (by decide) (by decide) (by decide) [29, 30, 0, 1, 2, 3, 4, 5, 6, 7, 8, 9, 10, 11, 12, 13, 14, 15, 16, 17, 18, 19, 20, 21, 22, 23, 24, 25, 26, 27, 28] (by decide) (fun u => rfl) rfl rfl rfl rfl hl.1 rfl (Nat.le_of_ble_eq_true rfl) dX2_readMoon_51 ⟨Nat.zero_le _, Nat.zero_le _⟩ (fun r51 u51 H locs h51 hP hD hS => ?_)
        obtain ⟨o51_ps, o51_fn, o51_fa, o51_na⟩ := u51
        try dsimp only at h51
        have hf51 := h51.2
        replace h51 := h51.1
        replace hP : va_P (eD E) vwCl (rdL E qr qx fx ln o51_ps o51_fn o51_fa o51_na cx ck ap vp) H := hP
        replace hD : va_D A (rdL E qr qx fx ln o51_ps o51_fn o51_fa o51_na cx ck ap vp) := hD
        have pb51 : 0 ≤ r51.toInt ∧ r51.toInt ≤ 8 := pb_rn h51.1 (by decide) (by decide)
        rw [n_0, n_8] at hf51
        have hs51 := CF.then (s := fun z : Unit => numF fx ln.toInt 0 8 ps.toInt) hk19 hf51 (okF.chk (by decide)) (fun z hz => by rfl)
        refine va_put (D := eD E) (ci := 0) (v := .int r51) (ty := .int) (C := RX0) (T := TX0) (N := 5) hx hb hts in_X0 tyX0 tyX0_ok nmX0 hown hK hP hD hS 12 rfl rfl 1 (by decide) lk4 (fun _ h9 => h9) rfl (by decide +kernel) rfl rfl (Nat.le_of_ble_eq_true rfl) dX2_readMoon_54 (fun H locs hP hD hS => ?_)
        replace hP : va_P (eD E) vwCl (rdL E qr qx fx ln o51_ps o51_fn o51_fa o51_na cx ck ap (up2 vp 41 0 r51)) H := hP
        replace hD : va_D A (rdL E qr qx fx ln o51_ps o51_fn o51_fa o51_na cx ck ap (up2 vp 41 0 r51)) := hD
        generalize hv54 : up2 vp 41 0 r51 = vp_54 at hP hD
        have hI : PlanI vp_54 := by rw [← hv54]; exact hI
        refine lv_aload_n hx hb dX2_readMoon_57 rfl (lv_at hl 0 rfl) ?_
        refine lv_aload_n hx hb dX2_readMoon_58 rfl (lv_at hl 1 rfl) ?_
        refine lv_iconst (v := 0) hx hb dX2_readMoon_59 (by decide) ?_
        refine lv_bipush (v := 8) hx hb dX2_readMoon_60 (by decide) ?_
        refine mt_Vi (w1 := fun (u : Int32 × Int32 × Int32 × Int32) => rbL E qr qx fx ln u.1 u.2.1 u.2.2.1 u.2.2.2 cx ck ap) (wf := fun (u : Int32 × Int32 × Int32 × Int32) => rdL E qr qx fx ln u.1 u.2.1 u.2.2.1 u.2.2.2 cx ck ap vp_54) (wr := [((ap 0), .inr (1, [.int (vp_54 0 0), .int (vp_54 1 0), .int (vp_54 2 0), .ref (ap 3), .ref (ap 4), .int (vp_54 5 0), .ref (ap 6), .ref (ap 7), .ref (ap 8), .ref (ap 9), .ref (ap 10)])), ((ap 3), .inl (eI E, 24, .inl (vp_54 3))), ((ap 4), .inl (eI E, 24, .inl (vp_54 4))), ((ap 6), .inl (eM E, 3, .inr (.inr (.inr (.inr (fun i => some (ap (20 + 10 * i)))))))), ((ap 20), .inr (0, [.int (vp_54 20 0), .int (vp_54 21 0), .int (vp_54 22 0), .ref (ap 23), .ref (ap 24)])), ((ap 23), .inl (eI E, 18, .inl (vp_54 23))), ((ap 24), .inl (eI E, 24, .inl (vp_54 24))), ((ap 30), .inr (0, [.int (vp_54 30 0), .int (vp_54 31 0), .int (vp_54 32 0), .ref (ap 33), .ref (ap 34)])), ((ap 33), .inl (eI E, 18, .inl (vp_54 33))), ((ap 34), .inl (eI E, 24, .inl (vp_54 34))), ((ap 40), .inr (0, [.int (vp_54 40 0), .int (vp_54 41 0), .int (vp_54 42 0), .ref (ap 43), .ref (ap 44)])), ((ap 43), .inl (eI E, 18, .inl (vp_54 43))), ((ap 44), .inl (eI E, 24, .inl (vp_54 44))), ((ap 7), .inr (5, [.int (vp_54 60 0), .ref (ap 61), .ref (ap 62), .ref (ap 63)])), ((ap 61), .inl (eI E, 6, .inl (vp_54 61))), ((ap 62), .inl (eI E, 6, .inl (vp_54 62))), ((ap 63), .inl (eI E, 6, .inl (vp_54 63))), ((ap 8), .inr (5, [.int (vp_54 70 0), .ref (ap 71), .ref (ap 72), .ref (ap 73)])), ((ap 71), .inl (eI E, 6, .inl (vp_54 71))), ((ap 72), .inl (eI E, 6, .inl (vp_54 72))), ((ap 73), .inl (eI E, 6, .inl (vp_54 73))), ((ap 9), .inr (5, [.int (vp_54 80 0), .ref (ap 81), .ref (ap 82), .ref (ap 83)])), ((ap 81), .inl (eI E, 6, .inl (vp_54 81))), ((ap 82), .inl (eI E, 6, .inl (vp_54 82))), ((ap 83), .inl (eI E, 6, .inl (vp_54 83))), ((ap 10), .inr (5, [.int (vp_54 90 0), .ref (ap 91), .ref (ap 92), .ref (ap 93)])), ((ap 91), .inl (eI E, 6, .inl (vp_54 91))), ((ap 92), .inl (eI E, 6, .inl (vp_54 92))), ((ap 93), .inl (eI E, 6, .inl (vp_54 93)))]) (As := [.int 0, .int 8]) (rest := [.ref (ap 40)]) (C := RX2) (ci := 2) ⟨hx, hb, hml, hown, hts⟩ (c_X2_readNumber l E H.size qr qx fx ln o51_ps o51_fn o51_fa o51_na cx ck ap 0 8 (by omega) (by omega)) (cwV 2 hts gX2_readMoon_X2_readNumber rfl rfl rfl (by decide +kernel) ⟨Nat.le_of_ble_eq_true rfl, Nat.le_of_ble_eq_true rfl⟩) hE hS hA hP hD [0, 1] [2, 3, 4, 5, 6, 7, 8, 9, 10, 11, 12, 13, 14, 15, 16, 17, 18, 19, 20, 21, 22, 23, 24, 25, 26, 27, 28, 29, 30] rfl rfl (by decide) (by decide) (by decide) [29, 30, 0, 1, 2, 3, 4, 5, 6, 7, 8, 9, 10, 11, 12, 13, 14, 15, 16, 17, 18, 19, 20, 21, 22, 23, 24, 25, 26, 27, 28] (by decide) (fun u => rfl) rfl rfl rfl rfl hl.1 rfl (Nat.le_of_ble_eq_true rfl) dX2_readMoon_62 ⟨Nat.zero_le _, Nat.zero_le _⟩ (fun r62 u62 H locs h62 hP hD hS => ?_)
        obtain ⟨o62_ps, o62_fn, o62_fa, o62_na⟩ := u62
        try dsimp only at h62
        have hf62 := h62.2
        replace h62 := h62.1
        replace hP : va_P (eD E) vwCl (rdL E qr qx fx ln o62_ps o62_fn o62_fa o62_na cx ck ap vp_54) H := hP
        replace hD : va_D A (rdL E qr qx fx ln o62_ps o62_fn o62_fa o62_na cx ck ap vp_54) := hD
        have pb62 : 0 ≤ r62.toInt ∧ r62.toInt ≤ 8 := pb_rn h62.1 (by decide) (by decide)
        rw [n_0, n_8] at hf62
        have hs62 := CF.then (s := fun z : Unit × (Int × Int × Int) => numF fx ln.toInt 0 8 z.2.2.1) hs51 hf62 ((okF.chk (by decide)).th (fun _ => okF.num)) (fun z hz => by rw [hz.2.2.1])
        refine va_put (D := eD E) (ci := 0) (v := .int r62) (ty := .int) (C := RX0) (T := TX0) (N := 5) hx hb hts in_X0 tyX0 tyX0_ok nmX0 hown hK hP hD hS 12 rfl rfl 2 (by decide) lk5 (fun _ h9 => h9) rfl (by decide +kernel) rfl rfl (Nat.le_of_ble_eq_true rfl) dX2_readMoon_65 (fun H locs hP hD hS => ?_)
        replace hP : va_P (eD E) vwCl (rdL E qr qx fx ln o62_ps o62_fn o62_fa o62_na cx ck ap (up2 vp_54 42 0 r62)) H := hP
        replace hD : va_D A (rdL E qr qx fx ln o62_ps o62_fn o62_fa o62_na cx ck ap (up2 vp_54 42 0 r62)) := hD
        generalize hv65 : up2 vp_54 42 0 r62 = vp_65 at hP hD
        have hI : PlanI vp_65 := by rw [← hv65]; exact hI
        have hrowx : rowB (vp_65 43) := hI.2.2.2.2.1.2.1
        refine lv_aload_n hx hb dX2_readMoon_68 rfl (lv_at hl 1 rfl) ?_
        refine lv_aload_n hx hb dX2_readMoon_69 rfl (lv_at hl 0 rfl) ?_
        refine va_get (D := eD E) (ci := 0) (v := .ref (ap 43)) (C := RX0) (T := TX0) (N := 5) hx hb hts in_X0 hown hK hP 12 rfl rfl 3 (by decide) lk6 (fun _ h9 => h9) rfl dX2_readMoon_70 ?_
        refine mt_Vi (w1 := fun (u : Int32 × Int32 × Int32 × Int32 × (Nat → Int32)) => rrL E qr qx fx ln u.1 u.2.1 u.2.2.1 u.2.2.2.1 cx ck ap (ap 43) u.2.2.2.2) (wf := fun (u : Int32 × Int32 × Int32 × Int32 × (Nat → Int32)) => rdL E qr qx fx ln u.1 u.2.1 u.2.2.1 u.2.2.2.1 cx ck ap (up3 vp_65 43 u.2.2.2.2)) (wr := [((ap 0), .inr (1, [.int (vp_65 0 0), .int (vp_65 1 0), .int (vp_65 2 0), .ref (ap 3), .ref (ap 4), .int (vp_65 5 0), .ref (ap 6), .ref (ap 7), .ref (ap 8), .ref (ap 9), .ref (ap 10)])), ((ap 3), .inl (eI E, 24, .inl (vp_65 3))), ((ap 4), .inl (eI E, 24, .inl (vp_65 4))), ((ap 6), .inl (eM E, 3, .inr (.inr (.inr (.inr (fun i => some (ap (20 + 10 * i)))))))), ((ap 20), .inr (0, [.int (vp_65 20 0), .int (vp_65 21 0), .int (vp_65 22 0), .ref (ap 23), .ref (ap 24)])), ((ap 23), .inl (eI E, 18, .inl (vp_65 23))), ((ap 24), .inl (eI E, 24, .inl (vp_65 24))), ((ap 30), .inr (0, [.int (vp_65 30 0), .int (vp_65 31 0), .int (vp_65 32 0), .ref (ap 33), .ref (ap 34)])), ((ap 33), .inl (eI E, 18, .inl (vp_65 33))), ((ap 34), .inl (eI E, 24, .inl (vp_65 34))), ((ap 40), .inr (0, [.int (vp_65 40 0), .int (vp_65 41 0), .int (vp_65 42 0), .ref (ap 43), .ref (ap 44)])), ((ap 44), .inl (eI E, 24, .inl (vp_65 44))), ((ap 7), .inr (5, [.int (vp_65 60 0), .ref (ap 61), .ref (ap 62), .ref (ap 63)])), ((ap 61), .inl (eI E, 6, .inl (vp_65 61))), ((ap 62), .inl (eI E, 6, .inl (vp_65 62))), ((ap 63), .inl (eI E, 6, .inl (vp_65 63))), ((ap 8), .inr (5, [.int (vp_65 70 0), .ref (ap 71), .ref (ap 72), .ref (ap 73)])), ((ap 71), .inl (eI E, 6, .inl (vp_65 71))), ((ap 72), .inl (eI E, 6, .inl (vp_65 72))), ((ap 73), .inl (eI E, 6, .inl (vp_65 73))), ((ap 9), .inr (5, [.int (vp_65 80 0), .ref (ap 81), .ref (ap 82), .ref (ap 83)])), ((ap 81), .inl (eI E, 6, .inl (vp_65 81))), ((ap 82), .inl (eI E, 6, .inl (vp_65 82))), ((ap 83), .inl (eI E, 6, .inl (vp_65 83))), ((ap 10), .inr (5, [.int (vp_65 90 0), .ref (ap 91), .ref (ap 92), .ref (ap 93)])), ((ap 91), .inl (eI E, 6, .inl (vp_65 91))), ((ap 92), .inl (eI E, 6, .inl (vp_65 92))), ((ap 93), .inl (eI E, 6, .inl (vp_65 93)))]) (As := [.ref (ap 43)]) (rest := []) (C := RX2) (ci := 2) ⟨hx, hb, hml, hown, hts⟩ (c_X2_readRow l E H.size qr qx fx ln o62_ps o62_fn o62_fa o62_na cx ck ap (ap 43) (vp_65 43) (by omega) (by omega) hrowx) (cwV 1 hts gX2_readMoon_X2_readRow rfl rfl rfl (by decide +kernel) ⟨Nat.le_of_ble_eq_true rfl, Nat.le_of_ble_eq_true rfl⟩) hE hS hA hP hD [0, 1, 13] [2, 3, 4, 5, 6, 7, 8, 9, 10, 11, 12, 14, 15, 16, 17, 18, 19, 20, 21, 22, 23, 24, 25, 26, 27, 28, 29, 30] rfl rfl (by decide) (by decide) (by decide) [28, 29, 0, 1, 2, 3, 4, 5, 6, 7, 8, 9, 10, 30, 11, 12, 13, 14, 15, 16, 17, 18, 19, 20, 21, 22, 23, 24, 25, 26, 27] (by decide) (fun u => rfl) rfl rfl rfl rfl hl.1 rfl (Nat.le_of_ble_eq_true rfl) dX2_readMoon_73 ⟨Nat.zero_le _, Nat.zero_le _⟩ (fun r73 u73 H locs h73 hP hD hS => ?_)
        obtain ⟨o73_ps, o73_fn, o73_fa, o73_na, o73_mr⟩ := u73
        try dsimp only at h73
        have hf73 := h73.2
        replace h73 := h73.1
        replace hP : va_P (eD E) vwCl (rdL E qr qx fx ln o73_ps o73_fn o73_fa o73_na cx ck ap (up3 vp_65 43 o73_mr)) H := hP
        replace hD : va_D A (rdL E qr qx fx ln o73_ps o73_fn o73_fa o73_na cx ck ap (up3 vp_65 43 o73_mr)) := hD
        generalize hv73 : up3 vp_65 43 o73_mr = vp_73 at hP hD
        have hI : PlanI vp_73 := by rw [← hv73]; exact pl_row2 hI h73.2.2.2.2
        have hmx : moonI (vp_73 40 0) (vp_73 43) (vp_73 44) := hI.2.2.2.2.1
        have hpx : vp_73 41 0 = r51 := by rw [← hv73, ← hv65, ← hv54]; rfl
        have hpy : vp_73 42 0 = r62 := by rw [← hv73, ← hv65]; rfl
        have hwx : vp_73 0 0 = vp 0 0 := by rw [← hv73, ← hv65, ← hv54]; rfl
        have hcx : vp_73 2 0 = vp 2 0 := by rw [← hv73, ← hv65, ← hv54]; rfl
        have hmcx : vp_73 5 0 = vp 5 0 := by rw [← hv73, ← hv65, ← hv54]; rfl
        have hs73 := CF.then (s := fun z : (Unit × (Int × Int × Int)) × (Int × Int × Int) => rowF fx ln.toInt (9 * (S 43 0).toNat) 9 0 z.2.2.1 (S 47)) hs62 (hf73 (9 * (S 43 0).toNat) (S 47)) (((okF.chk (by decide)).th (fun _ => okF.num)).th (fun _ => okF.num)) (fun z hz => by rw [hz.2.2.1])
        refine lv_istore_n (lv' := [(3, .int r73), (2, .ref (ap 40)), (0, .ref qr), (1, .int wd)]) hx hb dX2_readMoon_76 rfl hl (by decide) rfl (fun ls hl => ?_)
        refine lv_aload_n hx hb dX2_readMoon_77 rfl (lv_at hl 2 rfl) ?_
        refine lv_bipush (v := 59) hx hb dX2_readMoon_78 (by decide) ?_
        refine mt_Vv (w1 := fun (u : Int32 × Int32 × Int32) => rbL E qr qx fx ln u.1 u.2.1 u.2.2 o73_na cx ck ap) (wf := fun (u : Int32 × Int32 × Int32) => rdL E qr qx fx ln u.1 u.2.1 u.2.2 o73_na cx ck ap vp_73) (wr := [((ap 0), .inr (1, [.int (vp_73 0 0), .int (vp_73 1 0), .int (vp_73 2 0), .ref (ap 3), .ref (ap 4), .int (vp_73 5 0), .ref (ap 6), .ref (ap 7), .ref (ap 8), .ref (ap 9), .ref (ap 10)])), ((ap 3), .inl (eI E, 24, .inl (vp_73 3))), ((ap 4), .inl (eI E, 24, .inl (vp_73 4))), ((ap 6), .inl (eM E, 3, .inr (.inr (.inr (.inr (fun i => some (ap (20 + 10 * i)))))))), ((ap 20), .inr (0, [.int (vp_73 20 0), .int (vp_73 21 0), .int (vp_73 22 0), .ref (ap 23), .ref (ap 24)])), ((ap 23), .inl (eI E, 18, .inl (vp_73 23))), ((ap 24), .inl (eI E, 24, .inl (vp_73 24))), ((ap 30), .inr (0, [.int (vp_73 30 0), .int (vp_73 31 0), .int (vp_73 32 0), .ref (ap 33), .ref (ap 34)])), ((ap 33), .inl (eI E, 18, .inl (vp_73 33))), ((ap 34), .inl (eI E, 24, .inl (vp_73 34))), ((ap 40), .inr (0, [.int (vp_73 40 0), .int (vp_73 41 0), .int (vp_73 42 0), .ref (ap 43), .ref (ap 44)])), ((ap 43), .inl (eI E, 18, .inl (vp_73 43))), ((ap 44), .inl (eI E, 24, .inl (vp_73 44))), ((ap 7), .inr (5, [.int (vp_73 60 0), .ref (ap 61), .ref (ap 62), .ref (ap 63)])), ((ap 61), .inl (eI E, 6, .inl (vp_73 61))), ((ap 62), .inl (eI E, 6, .inl (vp_73 62))), ((ap 63), .inl (eI E, 6, .inl (vp_73 63))), ((ap 8), .inr (5, [.int (vp_73 70 0), .ref (ap 71), .ref (ap 72), .ref (ap 73)])), ((ap 71), .inl (eI E, 6, .inl (vp_73 71))), ((ap 72), .inl (eI E, 6, .inl (vp_73 72))), ((ap 73), .inl (eI E, 6, .inl (vp_73 73))), ((ap 9), .inr (5, [.int (vp_73 80 0), .ref (ap 81), .ref (ap 82), .ref (ap 83)])), ((ap 81), .inl (eI E, 6, .inl (vp_73 81))), ((ap 82), .inl (eI E, 6, .inl (vp_73 82))), ((ap 83), .inl (eI E, 6, .inl (vp_73 83))), ((ap 10), .inr (5, [.int (vp_73 90 0), .ref (ap 91), .ref (ap 92), .ref (ap 93)])), ((ap 91), .inl (eI E, 6, .inl (vp_73 91))), ((ap 92), .inl (eI E, 6, .inl (vp_73 92))), ((ap 93), .inl (eI E, 6, .inl (vp_73 93)))]) (As := [.int 59]) (rest := []) (C := RX2) (ci := 2) ⟨hx, hb, hml, hown, hts⟩ (c_X2_readSign l E H.size qr qx fx ln o73_ps o73_fn o73_fa o73_na cx ck ap 59 (by omega) (by omega)) (cwV 1 hts gX2_readMoon_X2_readSign rfl rfl rfl (by decide +kernel) ⟨Nat.le_of_ble_eq_true rfl, Nat.le_of_ble_eq_true rfl⟩) hE hS hA hP hD [0, 1] [2, 3, 4, 5, 6, 7, 8, 9, 10, 11, 12, 13, 14, 15, 16, 17, 18, 19, 20, 21, 22, 23, 24, 25, 26, 27, 28, 29, 30] rfl rfl (by decide) (by decide) (by decide) [29, 30, 0, 1, 2, 3, 4, 5, 6, 7, 8, 9, 10, 11, 12, 13, 14, 15, 16, 17, 18, 19, 20, 21, 22, 23, 24, 25, 26, 27, 28] (by decide) (fun u => rfl) rfl rfl rfl rfl hl.1 rfl (Nat.le_of_ble_eq_true rfl) dX2_readMoon_80 ⟨Nat.zero_le _, Nat.zero_le _⟩ (fun u80 H locs h80 hP hD hS => ?_)
        obtain ⟨o80_ps, o80_fn, o80_fa⟩ := u80
        try dsimp only at h80
        have hf80 := h80.2
        replace h80 := h80.1
        replace hP : va_P (eD E) vwCl (rdL E qr qx fx ln o80_ps o80_fn o80_fa o73_na cx ck ap vp_73) H := hP
        replace hD : va_D A (rdL E qr qx fx ln o80_ps o80_fn o80_fa o73_na cx ck ap vp_73) := hD
        rw [n_59] at hf80
        have hs80 := CF.then (s := fun z : ((Unit × (Int × Int × Int)) × (Int × Int × Int)) × (Nat × Int × (Nat → Int)) => sgnF fx ln.toInt 59 z.2.2.1) hs73 hf80 ((((okF.chk (by decide)).th (fun _ => okF.num)).th (fun _ => okF.num)).th (fun _ => (okF.row _ _ _ _))) (fun z hz => by rw [hz.2.2.1])
        refine lv_aload_n hx hb dX2_readMoon_83 rfl (lv_at hl 2 rfl) ?_
        refine va_get (D := eD E) (ci := 2) (v := .int o80_fn) (C := RX2) (T := TX2) (N := 9) hx hb hts in_X2 hown hK hP 0 rfl rfl 4 (by decide) lk2 (fun _ h9 => h9) rfl dX2_readMoon_84 ?_
        refine lv_if_ne (tgt := 122) hx hb dX2_readMoon_87 (by decide) (fun c87 => ?_) (fun c87 => ?_)
        · have c87_ := i_ne c87
          subst hQ
          exact W.vret hx hb hr (fun t ht hW => ⟨⟨(o80_ps, o80_fn, o80_fa, o73_na, vp_73), rfl, (show (PlanI vp_73 ∧ (ps.toInt ≤ o80_ps.toInt ∧ o80_ps.toInt ≤ ln.toInt + 1) ∧ (o80_fn.toInt ≠ 0 ∨ o80_ps.toInt ≤ ln.toInt)) ∧ (CF (moonF fx ln.toInt S wd.toInt ps.toInt) fn.toInt fa.toInt o80_fn.toInt o80_fa.toInt (fun z => o80_ps.toInt = z.2 ∧ Rp (moonS S z.1.1.1.2.1 z.1.1.2.1 z.1.2) vp_73 cx ck)) from ⟨⟨hI, by omega, by omega⟩, (hs80.mono (fun q1 q2 z hz => absurd q2 (by omega)))⟩), by rw [ht]; exact hP, hD⟩, hS.F ht⟩) hS.2.2 dX2_readMoon_122
        · have c87_ := i_eq c87
          have hpz : ps.toInt ≤ o80_ps.toInt ∧ o80_ps.toInt ≤ ln.toInt := by omega
          refine lv_aload_n hx hb dX2_readMoon_90 rfl (lv_at hl 1 rfl) ?_
          refine lv_iload_n hx hb dX2_readMoon_91 rfl (lv_at hl 0 rfl) ?_
          refine lv_aload_n hx hb dX2_readMoon_92 rfl (lv_at hl 2 rfl) ?_
          refine va_get (D := eD E) (ci := 2) (v := .ref (ap 0)) (C := RX2) (T := TX2) (N := 9) hx hb hts in_X2 hown hK hP 0 rfl rfl 3 (by decide) lk0 (fun _ h9 => h9) rfl dX2_readMoon_93 ?_
          refine va_get (D := eD E) (ci := 1) (v := .int (vp_73 0 0)) (C := RX1) (T := TX1) (N := 11) hx hb hts in_X1 hown hK hP 2 rfl rfl 0 (by decide) lk7 (fun _ h9 => h9) rfl dX2_readMoon_96 ?_
          refine lv_aload_n hx hb dX2_readMoon_99 rfl (lv_at hl 2 rfl) ?_
          refine va_get (D := eD E) (ci := 2) (v := .ref (ap 0)) (C := RX2) (T := TX2) (N := 9) hx hb hts in_X2 hown hK hP 0 rfl rfl 3 (by decide) lk0 (fun _ h9 => h9) rfl dX2_readMoon_100 ?_
          refine va_get (D := eD E) (ci := 1) (v := .int (vp_73 2 0)) (C := RX1) (T := TX1) (N := 11) hx hb hts in_X1 hown hK hP 2 rfl rfl 2 (by decide) lk8 (fun _ h9 => h9) rfl dX2_readMoon_103 ?_
          refine mt_Vv (w1 := fun (u : Int32 × (Nat → Int32) × (Nat → Int32)) => moonL E (ap 40) (ap 43) (ap 44) u.1 (vp_73 41 0) (vp_73 42 0) u.2.1 u.2.2) (wf := fun (u : Int32 × (Nat → Int32) × (Nat → Int32)) => rdL E qr qx fx ln o80_ps o80_fn o80_fa o73_na cx ck ap (up3 (up3 (up2 vp_73 40 0 u.1) 43 u.2.1) 44 u.2.2)) (wr := [(qr, .inr (2, [.ref qx, .int ln, .int o80_ps, .ref (ap 0), .int o80_fn, .int o80_fa, .int o73_na, .int cx, .int ck])), (qx, .inl (eI E, 250, .inl fx)), ((ap 0), .inr (1, [.int (vp_73 0 0), .int (vp_73 1 0), .int (vp_73 2 0), .ref (ap 3), .ref (ap 4), .int (vp_73 5 0), .ref (ap 6), .ref (ap 7), .ref (ap 8), .ref (ap 9), .ref (ap 10)])), ((ap 3), .inl (eI E, 24, .inl (vp_73 3))), ((ap 4), .inl (eI E, 24, .inl (vp_73 4))), ((ap 6), .inl (eM E, 3, .inr (.inr (.inr (.inr (fun i => some (ap (20 + 10 * i)))))))), ((ap 20), .inr (0, [.int (vp_73 20 0), .int (vp_73 21 0), .int (vp_73 22 0), .ref (ap 23), .ref (ap 24)])), ((ap 23), .inl (eI E, 18, .inl (vp_73 23))), ((ap 24), .inl (eI E, 24, .inl (vp_73 24))), ((ap 30), .inr (0, [.int (vp_73 30 0), .int (vp_73 31 0), .int (vp_73 32 0), .ref (ap 33), .ref (ap 34)])), ((ap 33), .inl (eI E, 18, .inl (vp_73 33))), ((ap 34), .inl (eI E, 24, .inl (vp_73 34))), ((ap 7), .inr (5, [.int (vp_73 60 0), .ref (ap 61), .ref (ap 62), .ref (ap 63)])), ((ap 61), .inl (eI E, 6, .inl (vp_73 61))), ((ap 62), .inl (eI E, 6, .inl (vp_73 62))), ((ap 63), .inl (eI E, 6, .inl (vp_73 63))), ((ap 8), .inr (5, [.int (vp_73 70 0), .ref (ap 71), .ref (ap 72), .ref (ap 73)])), ((ap 71), .inl (eI E, 6, .inl (vp_73 71))), ((ap 72), .inl (eI E, 6, .inl (vp_73 72))), ((ap 73), .inl (eI E, 6, .inl (vp_73 73))), ((ap 9), .inr (5, [.int (vp_73 80 0), .ref (ap 81), .ref (ap 82), .ref (ap 83)])), ((ap 81), .inl (eI E, 6, .inl (vp_73 81))), ((ap 82), .inl (eI E, 6, .inl (vp_73 82))), ((ap 83), .inl (eI E, 6, .inl (vp_73 83))), ((ap 10), .inr (5, [.int (vp_73 90 0), .ref (ap 91), .ref (ap 92), .ref (ap 93)])), ((ap 91), .inl (eI E, 6, .inl (vp_73 91))), ((ap 92), .inl (eI E, 6, .inl (vp_73 92))), ((ap 93), .inl (eI E, 6, .inl (vp_73 93)))]) (As := [.int r73, .int (vp_73 0 0), .int (vp_73 2 0)]) (rest := []) (C := RX0) (ci := 0) ⟨hx, hb, hml, hown, hts⟩ (c_X0_settle l E H.size (ap 40) (ap 43) (ap 44) (vp_73 40 0) (vp_73 41 0) (vp_73 42 0) (vp_73 43) (vp_73 44) r73 (vp_73 0 0) (vp_73 2 0) hmx.2.1 hmx.2.2 (by rw [hpx]; omega) (by rw [hpy]; omega) (by omega) (by rw [hwx]; omega) (by rw [hcx]; omega)) (cwV 3 hts gX2_readMoon_X0_settle rfl rfl rfl (by decide +kernel) ⟨Nat.le_of_ble_eq_true rfl, Nat.le_of_ble_eq_true rfl⟩) hE hS hA hP hD [12, 13, 14] [0, 1, 2, 3, 4, 5, 6, 7, 8, 9, 10, 11, 15, 16, 17, 18, 19, 20, 21, 22, 23, 24, 25, 26, 27, 28, 29, 30] rfl rfl (by decide) (by decide) (by decide) [0, 1, 2, 3, 4, 5, 6, 7, 8, 9, 10, 11, 28, 29, 30, 12, 13, 14, 15, 16, 17, 18, 19, 20, 21, 22, 23, 24, 25, 26, 27] (by decide) (fun u => rfl) rfl rfl rfl rfl hl.1 rfl (Nat.le_of_ble_eq_true rfl) dX2_readMoon_106 ⟨Nat.zero_le _, Nat.zero_le _⟩ (fun u106 H locs h106 hP hD hS => ?_)
          obtain ⟨o106_m0, o106_mr, o106_ma⟩ := u106
          try dsimp only at h106
          have hf106 := h106.2
          replace h106 := h106.1
          replace hP : va_P (eD E) vwCl (rdL E qr qx fx ln o80_ps o80_fn o80_fa o73_na cx ck ap (up3 (up3 (up2 vp_73 40 0 o106_m0) 43 o106_mr) 44 o106_ma)) H := hP
          replace hD : va_D A (rdL E qr qx fx ln o80_ps o80_fn o80_fa o73_na cx ck ap (up3 (up3 (up2 vp_73 40 0 o106_m0) 43 o106_mr) 44 o106_ma)) := hD
          generalize hv106 : up3 (up3 (up2 vp_73 40 0 o106_m0) 43 o106_mr) 44 o106_ma = vp_106 at hP hD
          have hI : PlanI vp_106 := by rw [← hv106]; exact pl_moon2 hI h106
          have hmcy : vp_106 5 0 = vp 5 0 := by rw [← hv106]; exact hmcx
          refine lv_aload_n hx hb dX2_readMoon_109 rfl (lv_at hl 2 rfl) ?_
          refine va_get (D := eD E) (ci := 2) (v := .ref (ap 0)) (C := RX2) (T := TX2) (N := 9) hx hb hts in_X2 hown hK hP 0 rfl rfl 3 (by decide) lk0 (fun _ h9 => h9) rfl dX2_readMoon_110 ?_
          refine lv_dup hx hb dX2_readMoon_113 rfl ?_
          refine va_get (D := eD E) (ci := 1) (v := .int (vp_106 5 0)) (C := RX1) (T := TX1) (N := 11) hx hb hts in_X1 hown hK hP 2 rfl rfl 5 (by decide) lk1 (fun _ h9 => h9) rfl dX2_readMoon_114 ?_
          refine lv_iconst (v := 1) hx hb dX2_readMoon_117 (by decide) ?_
          refine lv_iadd hx hb dX2_readMoon_118 ?_
          refine lv_topi (fun x118 e118 => ?_)
          have t118 := i_add e118 (by rw [hmcy]; omega)
          rw [hmcy] at t118
          refine va_put (D := eD E) (ci := 1) (v := .int x118) (ty := .int) (C := RX1) (T := TX1) (N := 11) hx hb hts in_X1 tyX1 tyX1_ok nmX1 hown hK hP hD hS 2 rfl rfl 5 (by decide) lk1 (fun _ h9 => h9) rfl (by decide +kernel) rfl rfl (Nat.le_of_ble_eq_true rfl) dX2_readMoon_119 (fun H locs hP hD hS => ?_)
          replace hP : va_P (eD E) vwCl (rdL E qr qx fx ln o80_ps o80_fn o80_fa o73_na cx ck ap (up2 vp_106 5 0 x118)) H := hP
          replace hD : va_D A (rdL E qr qx fx ln o80_ps o80_fn o80_fa o73_na cx ck ap (up2 vp_106 5 0 x118)) := hD
          generalize hv119 : up2 vp_106 5 0 x118 = vp_119 at hP hD
          have hI : PlanI vp_119 := by rw [← hv119]; exact pl_mc hI (by have q := i_add e118 (by rw [hmcy]; omega); rw [hmcy] at q; omega)
          have hok := hs73.get ((((okF.chk (by decide)).th (fun _ => okF.num)).th (fun _ => okF.num)).th (fun _ => (okF.row _ _ _ _))) (by omega)
          have hS43 : S 43 0 = 2 := by rw [← hcn, q44]; decide
          have hsz0 : S 44 0 ≤ 9 := by have q := (hRp.2.2.1.2.1 (by omega)).1; have q2 := hI0.2.2.1.1; omega
          have hsz1 : S 44 1 ≤ 9 := by have q := (hRp.2.2.1.2.2.1 (by omega)).1; have q2 := hI0.2.2.2.1.1; omega
          have hmo : ∀ z : (((Unit × (Int × Int × Int)) × (Int × Int × Int)) × (Nat × Int × (Nat → Int))) × Int, ((((True ∧ r51.toInt = z.1.1.1.2.1 ∧ o51_ps.toInt = z.1.1.1.2.2.1 ∧ o51_na.toInt = z.1.1.1.2.2.2) ∧ r62.toInt = z.1.1.2.1 ∧ o62_ps.toInt = z.1.1.2.2.1 ∧ o62_na.toInt = z.1.1.2.2.2) ∧ r73.toInt = z.1.2.1 ∧ o73_ps.toInt = z.1.2.2.1 ∧ ∀ j, j < z.1.2.1 → (o73_mr j).toInt = z.1.2.2.2 (9 * (S 43 0).toNat + j)) ∧ o80_ps.toInt = z.2) → moonF fx ln.toInt S wd.toInt ps.toInt = .inr z → Rp (moonS S z.1.1.1.2.1 z.1.1.2.1 z.1.2) vp_119 cx ck := fun z hz hzz => by rw [← hv119, ← hv106, ← hv73, ← hv65, ← hv54, ← hz.1.1.1.2.1, ← hz.1.1.2.1]; have hk := row_keep _ _ _ _ _ (th_get (th_get hzz).1).2; rw [show 9 * (S 43 0).toNat = 18 by rw [hS43]; rfl] at hk; exact rp_moon2 hRp hS43 (by omega) (by rw [hf106.1]; exact hz.1.2.1) (fun j hj => by rw [hf106.2 j (by omega), show vp_73 43 = o73_mr by rw [← hv73]; rfl]; have q := hz.1.2.2.2 j hj; rw [show 9 * (S 43 0).toNat = 18 by rw [hS43]; rfl] at q; exact q) (fun j hj => hk.2.2.2 j (Or.inl (by omega))) (hsz0) (hsz1)
          subst hQ
          exact W.vret hx hb hr (fun t ht hW => ⟨⟨(o80_ps, o80_fn, o80_fa, o73_na, vp_119), rfl, (show (PlanI vp_119 ∧ (ps.toInt ≤ o80_ps.toInt ∧ o80_ps.toInt ≤ ln.toInt + 1) ∧ (o80_fn.toInt ≠ 0 ∨ o80_ps.toInt ≤ ln.toInt)) ∧ (CF (moonF fx ln.toInt S wd.toInt ps.toInt) fn.toInt fa.toInt o80_fn.toInt o80_fa.toInt (fun z => o80_ps.toInt = z.2 ∧ Rp (moonS S z.1.1.1.2.1 z.1.1.2.1 z.1.2) vp_119 cx ck)) from ⟨⟨hI, by omega, by omega⟩, (hs80.mono2 (fun q1 q2 z hzz hz => ⟨hz.2, hmo z hz hzz⟩))⟩), by rw [ht]; exact hP, hD⟩, hS.F ht⟩) hS.2.2 dX2_readMoon_122
    · have c26_ := i_ne c26
      subst hQ
      exact W.vret hx hb hr (fun t ht hW => ⟨⟨(ps, o19_fn, o19_fa, na, vp), rfl, (show (PlanI vp ∧ (ps.toInt ≤ ps.toInt ∧ ps.toInt ≤ ln.toInt + 1) ∧ (o19_fn.toInt ≠ 0 ∨ ps.toInt ≤ ln.toInt)) ∧ (CF (moonF fx ln.toInt S wd.toInt ps.toInt) fn.toInt fa.toInt o19_fn.toInt o19_fa.toInt (fun z => ps.toInt = z.2 ∧ Rp (moonS S z.1.1.1.2.1 z.1.1.2.1 z.1.2) vp cx ck)) from ⟨⟨hI, by omega, by omega⟩, ((((hk19.stop (ok2 := fun _ => True) (by omega)).stop (ok2 := fun _ => True) (by omega)).stop (ok2 := fun _ => True) (by omega)).stop (by omega))⟩), by rw [ht]; exact hP, hD⟩, hS.F ht⟩) hS.2.2 dX2_readMoon_29
  refine lv_icmp_lt (tgt := 16) hx hb dX2_readMoon_9 (by decide) (fun c9 => ?_) (fun c9 => ?_)
  · have c9_ := i_lt c9
    refine lv_iconst (v := 0) hx hb dX2_readMoon_16 (by decide) ?_
    exact K17 0 _ _ ls hP hD hS (by omega) (Or.inl ⟨by decide, by omega⟩) (lv_sub hl [0, 1] rfl)
  · have c9_ := i_nlt c9
    refine lv_iconst (v := 1) hx hb dX2_readMoon_12 (by decide) ?_
    refine lv_goto (tgt := 17) hx hb dX2_readMoon_13 (by decide) ?_
    exact K17 1 _ _ ls hP hD hS (by omega) (Or.inr ⟨by decide, by omega⟩) (lv_sub hl [0, 1] rfl)
