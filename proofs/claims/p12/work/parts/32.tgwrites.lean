def rm_X9_least : Room := { frames := 6, cells := 0, slots := 0, locals := 152 }
set_option maxHeartbeats 4000000 in
set_option maxRecDepth 100000 in
theorem c_X9_least (l : Launch) (E : Ev) (sz : Nat) (a : Nat → Nat) (v : Vf) (cz0 : Nat) (cz1 : Nat) (rt : Value) (rp : Value) (aq : Nat → Nat) (vq : Vf) (ap : Nat → Nat) (vp : Vf) (as_ : Nat → Nat) (vs : Vf) (ai : Nat → Nat) (vi : Vf) (bi : Nat → Nat) (vj : Vf) (x : Int32) (y : Int32) (step : Int32) (n : Int32) (i : Int32) (hTA : TgA v vp vq vs vi vj) : Met l yX9_least wsX9_least rm_X9_least (MtP E sz [.ref (a 99), .int x, .int y, .int step, .int n, .int i] (tgL E a v cz0 cz1 rt rp aq vq ap vp as_ vs ai vi bi vj)) (va_Qi (fun (r : Int32) (u : Vf × Nat × Nat) => (TgA u.1 vp vq vs vi vj) ∧ fr [201, 202, 203] v u.1) (MtB E (va_A (tgL E a v cz0 cz1 rt rp aq vq ap vp as_ vs ai vi bi vj) sz) (fun u => tgL E a u.1 u.2.1 u.2.2 rt rp aq vq ap vp as_ vs ai vi bi vj)) (va_A (tgL E a v cz0 cz1 rt rp aq vq ap vp as_ vs ai vi bi vj) sz)) 0 0 (va_A (tgL E a v cz0 cz1 rt rp aq vq ap vp as_ vs ai vi bi vj) sz) := by
  refine Met.ofW (cc := cX9_least) (maxL := 9) (ret := (some .int)) (by decide) rfl ?_
  intro p e s m args below meth c s₁ B hml hv
  obtain ⟨rfl, hsz, hE, hP, hD0⟩ := hv
  subst hsz
  have hD := hD0.self (sz := s.heap.size)
  generalize hAe : va_A (tgL E a v cz0 cz1 rt rp aq vq ap vp as_ vs ai vi bi vj) s.heap.size = A at hD hE ⊢
  have hA : ∀ q : Nat, s.heap.size ≤ q → A q := fun q h => by rw [← hAe]; exact Or.inr h
  have hS : va_S A s.heap s.heap [] := va_S.rf
  have hx := B.exec
  have hb := B.bytes
  have hr := B.returns
  have hts := atoms_spec (ws := wsX9_least) B.pre
  have hown : s.vm.findClass RX9 = some m.cls := findClass_of_methodNamed B.named
  have hlocks := B.notSynchronized
  have hK := hE.1
  have in_X9 : ∀ w ∈ u_ws RX9 TX9 13, w ∈ wsX9_least := fun w h => List.mem_cons_of_mem _ (List.mem_append_left _ (List.mem_append_left _ (List.mem_append_left _ (List.mem_append_left _ (List.mem_append_left _ (List.mem_append_left _ (List.mem_append_right _ h)))))))
  have in_X8 : ∀ w ∈ u_ws RX8 TX8 2, w ∈ wsX9_least := fun w h => List.mem_cons_of_mem _ (List.mem_append_left _ (List.mem_append_left _ (List.mem_append_left _ (List.mem_append_left _ (List.mem_append_left _ (List.mem_append_right _ h))))))
  have lk0 := hts (.fieldLink RX9 43 "TidedGround" "world" "LTidedGround$World;") (List.mem_of_getElem? (i := 1) rfl)
  have lk1 := hts (.fieldLink RX9 91 "TidedGround$World" "plan" "LTidedGround$Plan;") (List.mem_of_getElem? (i := 2) rfl)
  have lk2 := hts (.constant RX9 161 (-1000000001)) (List.mem_of_getElem? (i := 3) rfl)
  have lk3 := hts (.constant RX9 81 (-1000000002)) (List.mem_of_getElem? (i := 4) rfl)
  have lk4 := hts (.fieldLink RX9 56 "TidedGround" "routes" "LTidedGround$Routes;") (List.mem_of_getElem? (i := 5) rfl)
  have n_m1000000002 : ((-1000000002) : Int32).toInt = -1000000002 := by decide
  have n_m1000000001 : ((-1000000001) : Int32).toInt = -1000000001 := by decide
  have n_m1 : ((-1) : Int32).toInt = -1 := by decide
  have n_0 : (0 : Int32).toInt = 0 := by decide
  have n_1 : (1 : Int32).toInt = 1 := by decide
  have n_40 : (40 : Int32).toInt = 40 := by decide
  have hl := lv_entry ([.ref (a 99), .int x, .int y, .int step, .int n, .int i]) (n := 9) (Nat.le_of_ble_eq_true rfl)
  rw [lg_entry_eq]
  generalize (lg_sl ([.ref (a 99), .int x, .int y, .int step, .int n, .int i]) ++ List.replicate (9 - (lg_sl ([.ref (a 99), .int x, .int y, .int step, .int n, .int i])).length) Slot.unset).toArray = ls at hl ⊢
  have hl : lv_has ls 9 [(0, .ref (a 99)), (1, .int x), (2, .int y), (3, .int step), (4, .int n), (5, .int i)] := hl
  refine W_abs (fun Q hQ => ?_)
  obtain ⟨hT, hG, hI, hI2, hJ, hJi, hJj⟩ := id hTA
  obtain ⟨hT1, hT2⟩ := id hT
  have hJ_vs := hJ
  have hJ_vi := hJi
  have hJ_vj := hJj
  obtain ⟨hg, hmc, hm0, hm1, hm2, hs0, hs1, hs2, hs3⟩ := id hI
  obtain ⟨hg1, hg2, hg3, hg4⟩ := id hg
  have hz0 := hm0.1
  have hz1 := hm1.1
  have hz2 := hm2.1
  have hc0 := hs0.1
  have hc1 := hs1.1
  have hc2 := hs2.1
  have hc3 := hs3.1
  obtain ⟨hj0, hj1, hj2⟩ := id hJ
  have hg5 : 0 ≤ (vp 2 0).toInt := by rw [hg3]; exact Int.mul_nonneg hg1.1 hg2.1
  have hG1 := hG.1
  have hG4 := hG.2.2.2
  have hFz : fr [201, 202, 203] v v := fr.rf
  refine lv_aload_n hx hb dX9_least_0 rfl (lv_at hl 0 rfl) ?_
  refine va_get (D := eD E) (ci := 9) (v := .ref (a 5)) (C := RX9) (T := TX9) (N := 13) hx hb hts in_X9 hown hK hP 0 rfl rfl 5 (by decide) lk0 (fun _ h9 => h9) rfl dX9_least_1 ?_
  refine va_get (D := eD E) (ci := 8) (v := .ref (ap 0)) (C := RX8) (T := TX8) (N := 2) hx hb hts in_X8 hown hK hP 18 rfl rfl 0 (by decide) lk1 (fun _ h9 => h9) rfl dX9_least_4 ?_
  refine lv_iload_n hx hb dX9_least_7 rfl (lv_at hl 1 rfl) ?_
  refine rd_V (As := [.int x]) (rest := []) (C := RX1) (ci := 1) ⟨hx, hb, hml, hown, hts⟩ (c_X1_cellOfPair l E A ap vp x hI) (cwV 1 hts gX9_least_X1_cellOfPair rfl rfl rfl (by decide +kernel) ⟨Nat.le_of_ble_eq_true rfl, Nat.le_of_ble_eq_true rfl⟩) (hE.kept hS.2.1) (hP.sub (ws' := planL E ap vp) [19, 20, 21, 22, 23, 24, 25, 26, 27, 28, 29, 30, 31, 32, 33, 34, 35, 36, 37, 38, 39, 40, 41, 42, 43, 44, 45, 46, 47] rfl) rfl rfl rfl rfl hl.1 rfl (Nat.le_of_ble_eq_true rfl) dX9_least_8 ⟨Nat.zero_le _, Nat.zero_le _⟩ (fun r8 h8 => ?_)
  have hf8 := h8.2
  replace h8 := h8.1
  refine lv_istore (lv' := [(6, .int r8), (0, .ref (a 99)), (1, .int x), (2, .int y), (3, .int step), (4, .int n), (5, .int i)]) hx hb dX9_least_11 hl (by decide) rfl (fun ls hl => ?_)
  refine lv_aload_n hx hb dX9_least_13 rfl (lv_at hl 1 rfl) ?_
  refine va_get (D := eD E) (ci := 9) (v := .ref (a 5)) (C := RX9) (T := TX9) (N := 13) hx hb hts in_X9 hown hK hP 0 rfl rfl 5 (by decide) lk0 (fun _ h9 => h9) rfl dX9_least_14 ?_
  refine va_get (D := eD E) (ci := 8) (v := .ref (ap 0)) (C := RX8) (T := TX8) (N := 2) hx hb hts in_X8 hown hK hP 18 rfl rfl 0 (by decide) lk1 (fun _ h9 => h9) rfl dX9_least_17 ?_
  refine lv_iload_n hx hb dX9_least_20 rfl (lv_at hl 3 rfl) ?_
  refine rd_V (As := [.int y]) (rest := []) (C := RX1) (ci := 1) ⟨hx, hb, hml, hown, hts⟩ (c_X1_cellOfPair l E A ap vp y hI) (cwV 1 hts gX9_least_X1_cellOfPair rfl rfl rfl (by decide +kernel) ⟨Nat.le_of_ble_eq_true rfl, Nat.le_of_ble_eq_true rfl⟩) (hE.kept hS.2.1) (hP.sub (ws' := planL E ap vp) [19, 20, 21, 22, 23, 24, 25, 26, 27, 28, 29, 30, 31, 32, 33, 34, 35, 36, 37, 38, 39, 40, 41, 42, 43, 44, 45, 46, 47] rfl) rfl rfl rfl rfl hl.1 rfl (Nat.le_of_ble_eq_true rfl) dX9_least_21 ⟨Nat.zero_le _, Nat.zero_le _⟩ (fun r21 h21 => ?_)
  have hf21 := h21.2
  replace h21 := h21.1
  refine lv_istore (lv' := [(7, .int r21), (6, .int r8), (0, .ref (a 99)), (1, .int x), (2, .int y), (3, .int step), (4, .int n), (5, .int i)]) hx hb dX9_least_24 hl (by decide) rfl (fun ls hl => ?_)
  refine lv_iload hx hb dX9_least_26 (lv_at hl 1 rfl) ?_
  refine lv_iconst (v := (-1)) hx hb dX9_least_28 (by decide) ?_
  refine lv_icmp_eq (tgt := 38) hx hb dX9_least_29 (by decide) (fun c29 => ?_) (fun c29 => ?_)
  · have c29_ := i_eq c29
    clear h8
    refine lv_ldc hx hb hown lk2 dX9_least_38 ?_
    subst hQ
    exact W.iret (v := (-1000000001)) hx hb hr (fun t ht hW => ⟨⟨(-1000000001), (v, cz0, cz1), rfl, (show (TgA v vp vq vs vi vj) ∧ fr [201, 202, 203] v v from ⟨hTA, hFz⟩), by rw [ht]; exact hP, hD⟩, hS.F ht⟩) hS.2.2 dX9_least_40
  · have c29_ := i_ne c29
    replace h8 := cm_n h8 c29_
    clear c29_
    refine lv_iload hx hb dX9_least_32 (lv_at hl 0 rfl) ?_
    refine lv_iconst (v := (-1)) hx hb dX9_least_34 (by decide) ?_
    refine lv_icmp_ne (tgt := 41) hx hb dX9_least_35 (by decide) (fun c35 => ?_) (fun c35 => ?_)
    · have c35_ := i_ne c35
      replace h21 := cm_n h21 c35_
      clear c35_
      refine lv_iload_n hx hb dX9_least_41 rfl (lv_at hl 5 rfl) ?_
      refine rd_S (As := [.int step]) (rest := []) ⟨hx, hb, hml, hown, hts⟩ (c_X9_isNoStep l E A step) (va_cwS 1 hts gX9_least_X9_isNoStep rfl rfl rfl (by decide +kernel) ⟨Nat.le_of_ble_eq_true rfl, Nat.le_of_ble_eq_true rfl⟩) (hE.kept hS.2.1) (hP.sub (ws' := []) [] rfl) rfl hl.1 rfl (Nat.le_of_ble_eq_true rfl) dX9_least_42 ⟨Nat.zero_le _, Nat.zero_le _⟩ (fun r42 h42 => ?_)
      refine lv_if_ne (tgt := 59) hx hb dX9_least_45 (by decide) (fun c45 => ?_) (fun c45 => ?_)
      · have c45_ := i_ne c45
        replace h42 := or_y h42 c45_
        clear c45_
        refine lv_ldc hx hb hown lk3 dX9_least_59 ?_
        subst hQ
        exact W.iret (v := (-1000000002)) hx hb hr (fun t ht hW => ⟨⟨(-1000000002), (v, cz0, cz1), rfl, (show (TgA v vp vq vs vi vj) ∧ fr [201, 202, 203] v v from ⟨hTA, hFz⟩), by rw [ht]; exact hP, hD⟩, hS.F ht⟩) hS.2.2 dX9_least_61
      · have c45_ := i_eq c45
        replace h42 := or_n h42 c45_
        refine lv_iload hx hb dX9_least_48 (lv_at hl 6 rfl) ?_
        refine lv_iconst (v := 1) hx hb dX9_least_50 (by decide) ?_
        refine lv_bipush (v := 40) hx hb dX9_least_51 (by decide) ?_
        refine rd_S (As := [.int n, .int 1, .int 40]) (rest := []) ⟨hx, hb, hml, hown, hts⟩ (c_X9_isOff l E A n 1 40) (va_cwS 3 hts gX9_least_X9_isOff rfl rfl rfl (by decide +kernel) ⟨Nat.le_of_ble_eq_true rfl, Nat.le_of_ble_eq_true rfl⟩) (hE.kept hS.2.1) (hP.sub (ws' := []) [] rfl) rfl hl.1 rfl (Nat.le_of_ble_eq_true rfl) dX9_least_53 ⟨Nat.zero_le _, Nat.zero_le _⟩ (fun r53 h53 => ?_)
        refine lv_if_eq (tgt := 62) hx hb dX9_least_56 (by decide) (fun c56 => ?_) (fun c56 => ?_)
        · have c56_ := i_eq c56
          replace h53 := or_n h53 c56_
          refine lv_aload_n hx hb dX9_least_62 rfl (lv_at hl 2 rfl) ?_
          refine va_get (D := eD E) (ci := 9) (v := .ref (a 8)) (C := RX9) (T := TX9) (N := 13) hx hb hts in_X9 hown hK hP 0 rfl rfl 8 (by decide) lk4 (fun _ h9 => h9) rfl dX9_least_63 ?_
          refine lv_iload hx hb dX9_least_66 (lv_at hl 1 rfl) ?_
          refine lv_iload hx hb dX9_least_68 (lv_at hl 0 rfl) ?_
          refine lv_iload_n hx hb dX9_least_70 rfl (lv_at hl 5 rfl) ?_
          refine lv_iload hx hb dX9_least_71 (lv_at hl 6 rfl) ?_
          refine mt_Vi (w1 := fun (u : Nat × Nat × (Nat → Int32) × (Nat → Int32) × (Nat → Int32)) => roL E (a 8) u.1 u.2.1 (a 203) u.2.2.1 u.2.2.2.1 u.2.2.2.2 (a 5) ap vp as_ vs) (wf := fun (u : Nat × Nat × (Nat → Int32) × (Nat → Int32) × (Nat → Int32)) => tgL E a (up3 (up3 (up3 v 201 u.2.2.1) 202 u.2.2.2.1) 203 u.2.2.2.2) u.1 u.2.1 rt rp aq vq ap vp as_ vs ai vi bi vj) (wr := [((a 99), .inr (9, [.ref (a 0), .int (v 1 0), .int (v 2 0), .ref (a 3), .ref (aq 0), .ref (a 5), .ref (as_ 0), .ref (a 7), .ref (a 8), .ref (a 9), .ref (a 10), .ref (a 11), .int (v 12 0)])), ((a 0), .inl (eI E, 250, .inl (v 0))), ((a 11), .inl (eI E, 30, .inl (v 11))), ((a 3), .inr (2, [rt, .int (v 101 0), .int (v 102 0), rp, .int (v 104 0), .int (v 105 0), .int (v 106 0), .int (v 107 0), .int (v 108 0)])), ((a 7), .inl (eS E, 2, .inr (.inr (.inr (.inr (fun i => some (cond (Nat.beq i 0) (ai 0) (bi 0)))))))), ((a 9), .inr (7, [.ref (a 5), .ref (a 301), .ref (a 302), .int (v 303 0), .int (v 304 0)])), ((a 301), .inl (eI E, 5, .inl (v 301))), ((a 302), .inl (eI E, 5, .inl (v 302))), ((a 10), .inr (4, [.ref (a 5), .int (v 401 0), .ref (a 402), .ref (a 403), .ref (a 404), .ref (a 405), .int (v 406 0), .ref (a 407), .int (v 408 0), .int (v 409 0), .int (v 410 0)])), ((a 402), .inl (eI E, 12, .inl (v 402))), ((a 403), .inl (eI E, 12, .inl (v 403))), ((a 404), .inl (eI E, 12, .inl (v 404))), ((a 405), .inl (eI E, 729, .inl (v 405))), ((a 407), .inl (eI E, 55, .inl (v 407))), ((aq 0), .inr (1, [.int (vq 0 0), .int (vq 1 0), .int (vq 2 0), .ref (aq 3), .ref (aq 4), .int (vq 5 0), .ref (aq 6), .ref (aq 7), .ref (aq 8), .ref (aq 9), .ref (aq 10)])), ((aq 3), .inl (eI E, 24, .inl (vq 3))), ((aq 4), .inl (eI E, 24, .inl (vq 4))), ((aq 6), .inl (eM E, 3, .inr (.inr (.inr (.inr (fun i => some (aq (20 + 10 * i)))))))), ((aq 20), .inr (0, [.int (vq 20 0), .int (vq 21 0), .int (vq 22 0), .ref (aq 23), .ref (aq 24)])), ((aq 23), .inl (eI E, 18, .inl (vq 23))), ((aq 24), .inl (eI E, 24, .inl (vq 24))), ((aq 30), .inr (0, [.int (vq 30 0), .int (vq 31 0), .int (vq 32 0), .ref (aq 33), .ref (aq 34)])), ((aq 33), .inl (eI E, 18, .inl (vq 33))), ((aq 34), .inl (eI E, 24, .inl (vq 34))), ((aq 40), .inr (0, [.int (vq 40 0), .int (vq 41 0), .int (vq 42 0), .ref (aq 43), .ref (aq 44)])), ((aq 43), .inl (eI E, 18, .inl (vq 43))), ((aq 44), .inl (eI E, 24, .inl (vq 44))), ((aq 7), .inr (5, [.int (vq 60 0), .ref (aq 61), .ref (aq 62), .ref (aq 63)])), ((aq 61), .inl (eI E, 6, .inl (vq 61))), ((aq 62), .inl (eI E, 6, .inl (vq 62))), ((aq 63), .inl (eI E, 6, .inl (vq 63))), ((aq 8), .inr (5, [.int (vq 70 0), .ref (aq 71), .ref (aq 72), .ref (aq 73)])), ((aq 71), .inl (eI E, 6, .inl (vq 71))), ((aq 72), .inl (eI E, 6, .inl (vq 72))), ((aq 73), .inl (eI E, 6, .inl (vq 73))), ((aq 9), .inr (5, [.int (vq 80 0), .ref (aq 81), .ref (aq 82), .ref (aq 83)])), ((aq 81), .inl (eI E, 6, .inl (vq 81))), ((aq 82), .inl (eI E, 6, .inl (vq 82))), ((aq 83), .inl (eI E, 6, .inl (vq 83))), ((aq 10), .inr (5, [.int (vq 90 0), .ref (aq 91), .ref (aq 92), .ref (aq 93)])), ((aq 91), .inl (eI E, 6, .inl (vq 91))), ((aq 92), .inl (eI E, 6, .inl (vq 92))), ((aq 93), .inl (eI E, 6, .inl (vq 93))), ((ai 0), .inr (6, [.int (vi 0 0), .ref (ai 1), .ref (ai 2), .ref (ai 3), .int (vi 4 0), .int (vi 5 0), .int (vi 6 0), .int (vi 7 0), .int (vi 8 0)])), ((ai 1), .inl (eI E, 3, .inl (vi 1))), ((ai 2), .inl (eI E, 24, .inl (vi 2))), ((ai 3), .inl (eI E, 6, .inl (vi 3))), ((bi 0), .inr (6, [.int (vj 0 0), .ref (bi 1), .ref (bi 2), .ref (bi 3), .int (vj 4 0), .int (vj 5 0), .int (vj 6 0), .int (vj 7 0), .int (vj 8 0)])), ((bi 1), .inl (eI E, 3, .inl (vj 1))), ((bi 2), .inl (eI E, 24, .inl (vj 2))), ((bi 3), .inl (eI E, 6, .inl (vj 3)))]) (As := [.int r8, .int r21, .int step, .int n]) (rest := []) (C := RX3) (ci := 3) ⟨hx, hb, hml, hown, hts⟩ (c_X3_leastPushed l E s.heap.size (a 8) cz0 cz1 (a 203) (v 201) (v 202) (v 203) (a 5) ap vp as_ vs r8 r21 step n hI hJ (by omega) (by omega) (by omega)) (cwV 4 hts gX9_least_X3_leastPushed rfl rfl rfl (by decide +kernel) ⟨Nat.le_of_ble_eq_true rfl, Nat.le_of_ble_eq_true rfl⟩) hE hS hA hP hD [5, 6, 7, 8, 18, 19, 20, 21, 22, 23, 24, 25, 26, 27, 28, 29, 30, 31, 32, 33, 34, 35, 36, 37, 38, 39, 40, 41, 42, 43, 44, 45, 46, 47, 48, 49, 50, 51] [0, 1, 2, 3, 4, 9, 10, 11, 12, 13, 14, 15, 16, 17, 52, 53, 54, 55, 56, 57, 58, 59, 60, 61, 62, 63, 64, 65, 66, 67, 68, 69, 70, 71, 72, 73, 74, 75, 76, 77, 78, 79, 80, 81, 82, 83, 84, 85, 86, 87, 88] rfl rfl (by decide) (by decide) (by decide) [0, 1, 2, 3, 4, 51, 52, 53, 54, 5, 6, 7, 8, 9, 10, 11, 12, 13, 55, 56, 57, 58, 59, 60, 61, 62, 63, 64, 65, 66, 67, 68, 69, 70, 71, 72, 73, 74, 75, 76, 77, 78, 79, 80, 81, 82, 83, 84, 85, 86, 87, 88, 14, 15, 16, 17, 18, 19, 20, 21, 22, 23, 24, 25, 26, 27, 28, 29, 30, 31, 32, 33, 34, 35, 36, 37, 38, 39, 40, 41, 42, 43, 44, 45, 46, 47, 48, 49, 50] (by decide) (fun u => rfl) rfl rfl rfl rfl hl.1 rfl (Nat.le_of_ble_eq_true rfl) dX9_least_73 ⟨Nat.zero_le _, Nat.zero_le _⟩ (fun r73 u73 H locs h73 hP hD hS => ?_)
          obtain ⟨o73_c0, o73_c1, o73_g0, o73_g1, o73_gh⟩ := u73
          try dsimp only at h73
          replace hP : va_P (eD E) vwCl (tgL E a (up3 (up3 (up3 v 201 o73_g0) 202 o73_g1) 203 o73_gh) o73_c0 o73_c1 rt rp aq vq ap vp as_ vs ai vi bi vj) H := hP
          replace hD : va_D A (tgL E a (up3 (up3 (up3 v 201 o73_g0) 202 o73_g1) 203 o73_gh) o73_c0 o73_c1 rt rp aq vq ap vp as_ vs ai vi bi vj) := hD
          generalize hv73 : up3 (up3 (up3 v 201 o73_g0) 202 o73_g1) 203 o73_gh = v_73 at hP hD
          have hFz : fr [201, 202, 203] v v_73 := by first | exact hFz | (rw [← hv73]; repeat' (first | exact hFz | refine fr.up ?_ (by decide) | refine fr.up3 ?_ (by decide)))
          have hT : TgI v_73 := by rw [← hv73]; exact hT
          have hG : SgI (v_73 401 0) (v_73 402) (v_73 403) (v_73 408 0) := by rw [← hv73]; exact hG
          refine lv_istore (lv' := [(8, .int r73), (7, .int r21), (6, .int r8), (0, .ref (a 99)), (1, .int x), (2, .int y), (3, .int step), (4, .int n), (5, .int i)]) hx hb dX9_least_76 hl (by decide) rfl (fun ls hl => ?_)
          refine lv_iload hx hb dX9_least_78 (lv_at hl 8 rfl) ?_
          refine lv_iconst (v := (-1)) hx hb dX9_least_80 (by decide) ?_
          refine lv_icmp_eq (tgt := 90) hx hb dX9_least_81 (by decide) (fun c81 => ?_) (fun c81 => ?_)
          · have c81_ := i_eq c81
            refine lv_iload hx hb dX9_least_90 (lv_at hl 0 rfl) ?_
            subst hQ
            exact W.iret (v := r73) hx hb hr (fun t ht hW => ⟨⟨r73, (v_73, o73_c0, o73_c1), rfl, (show (TgA v_73 vp vq vs vi vj) ∧ fr [201, 202, 203] v v_73 from ⟨⟨hT, hG, hI, hI2, hJ, hJi, hJj⟩, hFz⟩), by rw [ht]; exact hP, hD⟩, hS.F ht⟩) hS.2.2 dX9_least_92
          · have c81_ := i_ne c81
            refine lv_iload hx hb dX9_least_84 (lv_at hl 0 rfl) ?_
            refine lv_iconst (v := (-1)) hx hb dX9_least_86 (by decide) ?_
            refine lv_icmp_ne (tgt := 93) hx hb dX9_least_87 (by decide) (fun c87 => ?_) (fun c87 => ?_)
            · have c87_ := i_ne c87
              refine lv_aload_n hx hb dX9_least_93 rfl (lv_at hl 3 rfl) ?_
              refine va_get (D := eD E) (ci := 9) (v := .ref (a 8)) (C := RX9) (T := TX9) (N := 13) hx hb hts in_X9 hown hK hP 0 rfl rfl 8 (by decide) lk4 (fun _ h9 => h9) rfl dX9_least_94 ?_
              refine lv_iload hx hb dX9_least_97 (lv_at hl 2 rfl) ?_
              refine lv_iload hx hb dX9_least_99 (lv_at hl 1 rfl) ?_
              refine lv_iload hx hb dX9_least_101 (lv_at hl 7 rfl) ?_
              refine lv_iload hx hb dX9_least_103 (lv_at hl 8 rfl) ?_
              refine rd_V (As := [.int r8, .int r21, .int n, .int i]) (rest := []) (C := RX3) (ci := 3) ⟨hx, hb, hml, hown, hts⟩ (c_X3_wayTaken l E A (up1 (up1 a 201 o73_c0) 202 o73_c1) v_73 ap vp as_ vs r8 r21 n i hI hJ (by omega) (by omega)) (cwV 4 hts gX9_least_X3_wayTaken rfl rfl rfl (by decide +kernel) ⟨Nat.le_of_ble_eq_true rfl, Nat.le_of_ble_eq_true rfl⟩) (hE.kept hS.2.1) (hP.sub (ws' := rpL E (up1 (up1 a 201 o73_c0) 202 o73_c1) v_73 ap vp as_ vs) [5, 8, 18, 19, 20, 21, 22, 23, 24, 25, 26, 27, 28, 29, 30, 31, 32, 33, 34, 35, 36, 37, 38, 39, 40, 41, 42, 43, 44, 45, 46, 47, 48, 49, 50, 51] rfl) rfl rfl rfl rfl hl.1 rfl (Nat.le_of_ble_eq_true rfl) dX9_least_105 ⟨Nat.zero_le _, Nat.zero_le _⟩ (fun r105 h105 => ?_)
              subst hQ
              exact W.iret (v := r105) hx hb hr (fun t ht hW => ⟨⟨r105, (v_73, o73_c0, o73_c1), rfl, (show (TgA v_73 vp vq vs vi vj) ∧ fr [201, 202, 203] v v_73 from ⟨⟨hT, hG, hI, hI2, hJ, hJi, hJj⟩, hFz⟩), by rw [ht]; exact hP, hD⟩, hS.F ht⟩) hS.2.2 dX9_least_108
            · have c87_ := i_eq c87
              refine lv_iload hx hb dX9_least_90 (lv_at hl 0 rfl) ?_
              subst hQ
              exact W.iret (v := r73) hx hb hr (fun t ht hW => ⟨⟨r73, (v_73, o73_c0, o73_c1), rfl, (show (TgA v_73 vp vq vs vi vj) ∧ fr [201, 202, 203] v v_73 from ⟨⟨hT, hG, hI, hI2, hJ, hJi, hJj⟩, hFz⟩), by rw [ht]; exact hP, hD⟩, hS.F ht⟩) hS.2.2 dX9_least_92
        · have c56_ := i_ne c56
          replace h53 := or_y h53 c56_
          clear c56_
          refine lv_ldc hx hb hown lk3 dX9_least_59 ?_
          subst hQ
          exact W.iret (v := (-1000000002)) hx hb hr (fun t ht hW => ⟨⟨(-1000000002), (v, cz0, cz1), rfl, (show (TgA v vp vq vs vi vj) ∧ fr [201, 202, 203] v v from ⟨hTA, hFz⟩), by rw [ht]; exact hP, hD⟩, hS.F ht⟩) hS.2.2 dX9_least_61
    · have c35_ := i_eq c35
      clear h21
      refine lv_ldc hx hb hown lk2 dX9_least_38 ?_
      subst hQ
      exact W.iret (v := (-1000000001)) hx hb hr (fun t ht hW => ⟨⟨(-1000000001), (v, cz0, cz1), rfl, (show (TgA v vp vq vs vi vj) ∧ fr [201, 202, 203] v v from ⟨hTA, hFz⟩), by rw [ht]; exact hP, hD⟩, hS.F ht⟩) hS.2.2 dX9_least_40
def rm_X9_water : Room := { frames := 4, cells := 0, slots := 0, locals := 96 }
set_option maxHeartbeats 4000000 in
set_option maxRecDepth 100000 in
theorem c_X9_water (l : Launch) (E : Ev) (sz : Nat) (a : Nat → Nat) (v : Vf) (cz0 : Nat) (cz1 : Nat) (rt : Value) (rp : Value) (aq : Nat → Nat) (vq : Vf) (ap : Nat → Nat) (vp : Vf) (as_ : Nat → Nat) (vs : Vf) (ai : Nat → Nat) (vi : Vf) (bi : Nat → Nat) (vj : Vf) (n : Int32) (step : Int32) (what : Int32) (hTA : TgA v vp vq vs vi vj) : Met l yX9_water wsX9_water rm_X9_water (MtP E sz [.ref (a 99), .int n, .int step, .int what] (tgL E a v cz0 cz1 rt rp aq vq ap vp as_ vs ai vi bi vj)) (va_Qi (fun (r : Int32) (u : Vf) => (TgA u vp vq vs vi vj) ∧ fr [301, 302, 303, 304] v u) (MtB E (va_A (tgL E a v cz0 cz1 rt rp aq vq ap vp as_ vs ai vi bi vj) sz) (fun u => tgL E a u cz0 cz1 rt rp aq vq ap vp as_ vs ai vi bi vj)) (va_A (tgL E a v cz0 cz1 rt rp aq vq ap vp as_ vs ai vi bi vj) sz)) 0 0 (va_A (tgL E a v cz0 cz1 rt rp aq vq ap vp as_ vs ai vi bi vj) sz) := by
  refine Met.ofW (cc := cX9_water) (maxL := 4) (ret := (some .int)) (by decide) rfl ?_
  intro p e s m args below meth c s₁ B hml hv
  obtain ⟨rfl, hsz, hE, hP, hD0⟩ := hv
  subst hsz
  have hD := hD0.self (sz := s.heap.size)
  generalize hAe : va_A (tgL E a v cz0 cz1 rt rp aq vq ap vp as_ vs ai vi bi vj) s.heap.size = A at hD hE ⊢
  have hA : ∀ q : Nat, s.heap.size ≤ q → A q := fun q h => by rw [← hAe]; exact Or.inr h
  have hS : va_S A s.heap s.heap [] := va_S.rf
  have hx := B.exec
  have hb := B.bytes
  have hr := B.returns
  have hts := atoms_spec (ws := wsX9_water) B.pre
  have hown : s.vm.findClass RX9 = some m.cls := findClass_of_methodNamed B.named
  have hlocks := B.notSynchronized
  have hK := hE.1
  have in_X9 : ∀ w ∈ u_ws RX9 TX9 13, w ∈ wsX9_water := fun w h => List.mem_cons_of_mem _ (List.mem_append_left _ (List.mem_append_left _ (List.mem_append_left _ (List.mem_append_left _ (List.mem_append_left _ (List.mem_append_left _ (List.mem_append_right _ h)))))))
  have in_X8 : ∀ w ∈ u_ws RX8 TX8 2, w ∈ wsX9_water := fun w h => List.mem_cons_of_mem _ (List.mem_append_left _ (List.mem_append_left _ (List.mem_append_left _ (List.mem_append_left _ (List.mem_append_left _ (List.mem_append_right _ h))))))
  have in_X1 : ∀ w ∈ u_ws RX1 TX1 11, w ∈ wsX9_water := fun w h => List.mem_cons_of_mem _ (List.mem_append_left _ (List.mem_append_left _ (List.mem_append_left _ (List.mem_append_left _ (List.mem_append_right _ h)))))
  have in_X5 : ∀ w ∈ u_ws RX5 TX5 4, w ∈ wsX9_water := fun w h => List.mem_cons_of_mem _ (List.mem_append_left _ (List.mem_append_left _ (List.mem_append_left _ (List.mem_append_right _ h))))
  have in_X7 : ∀ w ∈ u_ws RX7 TX7 5, w ∈ wsX9_water := fun w h => List.mem_cons_of_mem _ (List.mem_append_left _ (List.mem_append_left _ (List.mem_append_right _ h)))
  have lk0 := hts (.constant RX9 81 (-1000000002)) (List.mem_of_getElem? (i := 1) rfl)
  have lk1 := hts (.fieldLink RX9 43 "TidedGround" "world" "LTidedGround$World;") (List.mem_of_getElem? (i := 2) rfl)
  have lk2 := hts (.fieldLink RX9 91 "TidedGround$World" "plan" "LTidedGround$Plan;") (List.mem_of_getElem? (i := 3) rfl)
  have lk3 := hts (.fieldLink RX9 132 "TidedGround$Plan" "wells" "LTidedGround$Sites;") (List.mem_of_getElem? (i := 4) rfl)
  have lk4 := hts (.fieldLink RX9 126 "TidedGround$Sites" "count" "I") (List.mem_of_getElem? (i := 5) rfl)
  have lk5 := hts (.fieldLink RX9 63 "TidedGround" "wells" "LTidedGround$Wells;") (List.mem_of_getElem? (i := 7) rfl)
  have lk6 := hts (.fieldLink RX9 288 "TidedGround$Wells" "below" "I") (List.mem_of_getElem? (i := 9) rfl)
  have lk7 := hts (.fieldLink RX9 285 "TidedGround$Wells" "above" "I") (List.mem_of_getElem? (i := 8) rfl)
  have lk8 := hts (.constant RX9 236 (-1000000003)) (List.mem_of_getElem? (i := 6) rfl)
  have n_m1000000003 : ((-1000000003) : Int32).toInt = -1000000003 := by decide
  have n_m1000000002 : ((-1000000002) : Int32).toInt = -1000000002 := by decide
  have n_0 : (0 : Int32).toInt = 0 := by decide
  have n_1 : (1 : Int32).toInt = 1 := by decide
  have n_2 : (2 : Int32).toInt = 2 := by decide
  have n_9999 : (9999 : Int32).toInt = 9999 := by decide
  have hl := lv_entry ([.ref (a 99), .int n, .int step, .int what]) (n := 4) (Nat.le_of_ble_eq_true rfl)
  rw [lg_entry_eq]
  generalize (lg_sl ([.ref (a 99), .int n, .int step, .int what]) ++ List.replicate (4 - (lg_sl ([.ref (a 99), .int n, .int step, .int what])).length) Slot.unset).toArray = ls at hl ⊢
  have hl : lv_has ls 4 [(0, .ref (a 99)), (1, .int n), (2, .int step), (3, .int what)] := hl
  refine W_abs (fun Q hQ => ?_)
  obtain ⟨hT, hG, hI, hI2, hJ, hJi, hJj⟩ := id hTA
  obtain ⟨hT1, hT2⟩ := id hT
  have hJ_vs := hJ
  have hJ_vi := hJi
  have hJ_vj := hJj
  obtain ⟨hg, hmc, hm0, hm1, hm2, hs0, hs1, hs2, hs3⟩ := id hI
  obtain ⟨hg1, hg2, hg3, hg4⟩ := id hg
  have hz0 := hm0.1
  have hz1 := hm1.1
  have hz2 := hm2.1
  have hc0 := hs0.1
  have hc1 := hs1.1
  have hc2 := hs2.1
  have hc3 := hs3.1
  obtain ⟨hj0, hj1, hj2⟩ := id hJ
  have hg5 : 0 ≤ (vp 2 0).toInt := by rw [hg3]; exact Int.mul_nonneg hg1.1 hg2.1
  have hG1 := hG.1
  have hG4 := hG.2.2.2
  have hFz : fr [301, 302, 303, 304] v v := fr.rf
  refine lv_iload_n hx hb dX9_water_0 rfl (lv_at hl 1 rfl) ?_
  refine lv_iconst (v := 0) hx hb dX9_water_1 (by decide) ?_
  refine lv_sipush (v := 9999) hx hb dX9_water_2 (by decide) ?_
  refine rd_S (As := [.int n, .int 0, .int 9999]) (rest := []) ⟨hx, hb, hml, hown, hts⟩ (c_X9_isOff l E A n 0 9999) (va_cwS 3 hts gX9_water_X9_isOff rfl rfl rfl (by decide +kernel) ⟨Nat.le_of_ble_eq_true rfl, Nat.le_of_ble_eq_true rfl⟩) (hE.kept hS.2.1) (hP.sub (ws' := []) [] rfl) rfl hl.1 rfl (Nat.le_of_ble_eq_true rfl) dX9_water_5 ⟨Nat.zero_le _, Nat.zero_le _⟩ (fun r5 h5 => ?_)
  refine lv_if_ne (tgt := 27) hx hb dX9_water_8 (by decide) (fun c8 => ?_) (fun c8 => ?_)
  · have c8_ := i_ne c8
    replace h5 := or_y h5 c8_
    clear c8_
    refine lv_ldc hx hb hown lk0 dX9_water_27 ?_
    subst hQ
    exact W.iret (v := (-1000000002)) hx hb hr (fun t ht hW => ⟨⟨(-1000000002), (v), rfl, (show (TgA v vp vq vs vi vj) ∧ fr [301, 302, 303, 304] v v from ⟨hTA, hFz⟩), by rw [ht]; exact hP, hD⟩, hS.F ht⟩) hS.2.2 dX9_water_29
  · have c8_ := i_eq c8
    replace h5 := or_n h5 c8_
    refine lv_iload_n hx hb dX9_water_11 rfl (lv_at hl 2 rfl) ?_
    refine rd_S (As := [.int step]) (rest := []) ⟨hx, hb, hml, hown, hts⟩ (c_X9_isNoStep l E A step) (va_cwS 1 hts gX9_water_X9_isNoStep rfl rfl rfl (by decide +kernel) ⟨Nat.le_of_ble_eq_true rfl, Nat.le_of_ble_eq_true rfl⟩) (hE.kept hS.2.1) (hP.sub (ws' := []) [] rfl) rfl hl.1 rfl (Nat.le_of_ble_eq_true rfl) dX9_water_12 ⟨Nat.zero_le _, Nat.zero_le _⟩ (fun r12 h12 => ?_)
    refine lv_if_ne (tgt := 27) hx hb dX9_water_15 (by decide) (fun c15 => ?_) (fun c15 => ?_)
    · have c15_ := i_ne c15
      replace h12 := or_y h12 c15_
      clear c15_
      refine lv_ldc hx hb hown lk0 dX9_water_27 ?_
      subst hQ
      exact W.iret (v := (-1000000002)) hx hb hr (fun t ht hW => ⟨⟨(-1000000002), (v), rfl, (show (TgA v vp vq vs vi vj) ∧ fr [301, 302, 303, 304] v v from ⟨hTA, hFz⟩), by rw [ht]; exact hP, hD⟩, hS.F ht⟩) hS.2.2 dX9_water_29
    · have c15_ := i_eq c15
      replace h12 := or_n h12 c15_
      refine lv_iload_n hx hb dX9_water_18 rfl (lv_at hl 3 rfl) ?_
      refine lv_iconst (v := 0) hx hb dX9_water_19 (by decide) ?_
      refine lv_iconst (v := 2) hx hb dX9_water_20 (by decide) ?_
      refine rd_S (As := [.int what, .int 0, .int 2]) (rest := []) ⟨hx, hb, hml, hown, hts⟩ (c_X9_isOff l E A what 0 2) (va_cwS 3 hts gX9_water_X9_isOff rfl rfl rfl (by decide +kernel) ⟨Nat.le_of_ble_eq_true rfl, Nat.le_of_ble_eq_true rfl⟩) (hE.kept hS.2.1) (hP.sub (ws' := []) [] rfl) rfl hl.1 rfl (Nat.le_of_ble_eq_true rfl) dX9_water_21 ⟨Nat.zero_le _, Nat.zero_le _⟩ (fun r21 h21 => ?_)
      refine lv_if_eq (tgt := 30) hx hb dX9_water_24 (by decide) (fun c24 => ?_) (fun c24 => ?_)
      · have c24_ := i_eq c24
        replace h21 := or_n h21 c24_
        refine lv_aload_n hx hb dX9_water_30 rfl (lv_at hl 0 rfl) ?_
        refine va_get (D := eD E) (ci := 9) (v := .ref (a 5)) (C := RX9) (T := TX9) (N := 13) hx hb hts in_X9 hown hK hP 0 rfl rfl 5 (by decide) lk1 (fun _ h9 => h9) rfl dX9_water_31 ?_
        refine va_get (D := eD E) (ci := 8) (v := .ref (ap 0)) (C := RX8) (T := TX8) (N := 2) hx hb hts in_X8 hown hK hP 18 rfl rfl 0 (by decide) lk2 (fun _ h9 => h9) rfl dX9_water_34 ?_
        refine va_get (D := eD E) (ci := 1) (v := .ref (ap 9)) (C := RX1) (T := TX1) (N := 11) hx hb hts in_X1 hown hK hP 19 rfl rfl 9 (by decide) lk3 (fun _ h9 => h9) rfl dX9_water_37 ?_
        refine va_get (D := eD E) (ci := 5) (v := .int (vp 80 0)) (C := RX5) (T := TX5) (N := 4) hx hb hts in_X5 hown hK hP 40 rfl rfl 0 (by decide) lk4 (fun _ h9 => h9) rfl dX9_water_40 ?_
        refine lv_if_ne (tgt := 49) hx hb dX9_water_43 (by decide) (fun c43 => ?_) (fun c43 => ?_)
        · have c43_ := i_ne c43
          refine lv_aload_n hx hb dX9_water_49 rfl (lv_at hl 0 rfl) ?_
          refine va_get (D := eD E) (ci := 9) (v := .ref (a 9)) (C := RX9) (T := TX9) (N := 13) hx hb hts in_X9 hown hK hP 0 rfl rfl 9 (by decide) lk5 (fun _ h9 => h9) rfl dX9_water_50 ?_
          refine lv_iload_n hx hb dX9_water_53 rfl (lv_at hl 1 rfl) ?_
          refine lv_iload_n hx hb dX9_water_54 rfl (lv_at hl 2 rfl) ?_
          refine mt_Vv (w1 := fun (u : (Nat → Int32) × (Nat → Int32) × Int32 × Int32) => weL E (a 9) (a 301) (a 302) u.2.2.1 u.2.2.2 u.1 u.2.1 (a 5) ap vp as_ vs) (wf := fun (u : (Nat → Int32) × (Nat → Int32) × Int32 × Int32) => tgL E a (up2 (up2 (up3 (up3 v 301 u.1) 302 u.2.1) 303 0 u.2.2.1) 304 0 u.2.2.2) cz0 cz1 rt rp aq vq ap vp as_ vs ai vi bi vj) (wr := [((a 99), .inr (9, [.ref (a 0), .int (v 1 0), .int (v 2 0), .ref (a 3), .ref (aq 0), .ref (a 5), .ref (as_ 0), .ref (a 7), .ref (a 8), .ref (a 9), .ref (a 10), .ref (a 11), .int (v 12 0)])), ((a 0), .inl (eI E, 250, .inl (v 0))), ((a 11), .inl (eI E, 30, .inl (v 11))), ((a 3), .inr (2, [rt, .int (v 101 0), .int (v 102 0), rp, .int (v 104 0), .int (v 105 0), .int (v 106 0), .int (v 107 0), .int (v 108 0)])), ((a 7), .inl (eS E, 2, .inr (.inr (.inr (.inr (fun i => some (cond (Nat.beq i 0) (ai 0) (bi 0)))))))), ((a 8), .inr (3, [.ref (a 5), .ref cz0, .ref cz1, .ref (a 203)])), (cz0, .inl (eI E, 24, .inl (v 201))), (cz1, .inl (eI E, 24, .inl (v 202))), ((a 203), .inl (eI E, 960, .inl (v 203))), ((a 10), .inr (4, [.ref (a 5), .int (v 401 0), .ref (a 402), .ref (a 403), .ref (a 404), .ref (a 405), .int (v 406 0), .ref (a 407), .int (v 408 0), .int (v 409 0), .int (v 410 0)])), ((a 402), .inl (eI E, 12, .inl (v 402))), ((a 403), .inl (eI E, 12, .inl (v 403))), ((a 404), .inl (eI E, 12, .inl (v 404))), ((a 405), .inl (eI E, 729, .inl (v 405))), ((a 407), .inl (eI E, 55, .inl (v 407))), ((aq 0), .inr (1, [.int (vq 0 0), .int (vq 1 0), .int (vq 2 0), .ref (aq 3), .ref (aq 4), .int (vq 5 0), .ref (aq 6), .ref (aq 7), .ref (aq 8), .ref (aq 9), .ref (aq 10)])), ((aq 3), .inl (eI E, 24, .inl (vq 3))), ((aq 4), .inl (eI E, 24, .inl (vq 4))), ((aq 6), .inl (eM E, 3, .inr (.inr (.inr (.inr (fun i => some (aq (20 + 10 * i)))))))), ((aq 20), .inr (0, [.int (vq 20 0), .int (vq 21 0), .int (vq 22 0), .ref (aq 23), .ref (aq 24)])), ((aq 23), .inl (eI E, 18, .inl (vq 23))), ((aq 24), .inl (eI E, 24, .inl (vq 24))), ((aq 30), .inr (0, [.int (vq 30 0), .int (vq 31 0), .int (vq 32 0), .ref (aq 33), .ref (aq 34)])), ((aq 33), .inl (eI E, 18, .inl (vq 33))), ((aq 34), .inl (eI E, 24, .inl (vq 34))), ((aq 40), .inr (0, [.int (vq 40 0), .int (vq 41 0), .int (vq 42 0), .ref (aq 43), .ref (aq 44)])), ((aq 43), .inl (eI E, 18, .inl (vq 43))), ((aq 44), .inl (eI E, 24, .inl (vq 44))), ((aq 7), .inr (5, [.int (vq 60 0), .ref (aq 61), .ref (aq 62), .ref (aq 63)])), ((aq 61), .inl (eI E, 6, .inl (vq 61))), ((aq 62), .inl (eI E, 6, .inl (vq 62))), ((aq 63), .inl (eI E, 6, .inl (vq 63))), ((aq 8), .inr (5, [.int (vq 70 0), .ref (aq 71), .ref (aq 72), .ref (aq 73)])), ((aq 71), .inl (eI E, 6, .inl (vq 71))), ((aq 72), .inl (eI E, 6, .inl (vq 72))), ((aq 73), .inl (eI E, 6, .inl (vq 73))), ((aq 9), .inr (5, [.int (vq 80 0), .ref (aq 81), .ref (aq 82), .ref (aq 83)])), ((aq 81), .inl (eI E, 6, .inl (vq 81))), ((aq 82), .inl (eI E, 6, .inl (vq 82))), ((aq 83), .inl (eI E, 6, .inl (vq 83))), ((aq 10), .inr (5, [.int (vq 90 0), .ref (aq 91), .ref (aq 92), .ref (aq 93)])), ((aq 91), .inl (eI E, 6, .inl (vq 91))), ((aq 92), .inl (eI E, 6, .inl (vq 92))), ((aq 93), .inl (eI E, 6, .inl (vq 93))), ((ai 0), .inr (6, [.int (vi 0 0), .ref (ai 1), .ref (ai 2), .ref (ai 3), .int (vi 4 0), .int (vi 5 0), .int (vi 6 0), .int (vi 7 0), .int (vi 8 0)])), ((ai 1), .inl (eI E, 3, .inl (vi 1))), ((ai 2), .inl (eI E, 24, .inl (vi 2))), ((ai 3), .inl (eI E, 6, .inl (vi 3))), ((bi 0), .inr (6, [.int (vj 0 0), .ref (bi 1), .ref (bi 2), .ref (bi 3), .int (vj 4 0), .int (vj 5 0), .int (vj 6 0), .int (vj 7 0), .int (vj 8 0)])), ((bi 1), .inl (eI E, 3, .inl (vj 1))), ((bi 2), .inl (eI E, 24, .inl (vj 2))), ((bi 3), .inl (eI E, 6, .inl (vj 3)))]) (As := [.int n, .int step]) (rest := []) (C := RX7) (ci := 7) ⟨hx, hb, hml, hown, hts⟩ (c_X7_settle l E s.heap.size (a 9) (a 301) (a 302) (v 303 0) (v 304 0) (v 301) (v 302) (a 5) ap vp as_ vs n step hI hJ (by omega)) (cwV 2 hts gX9_water_X7_settle rfl rfl rfl (by decide +kernel) ⟨Nat.le_of_ble_eq_true rfl, Nat.le_of_ble_eq_true rfl⟩) hE hS hA hP hD [9, 10, 11, 18, 19, 20, 21, 22, 23, 24, 25, 26, 27, 28, 29, 30, 31, 32, 33, 34, 35, 36, 37, 38, 39, 40, 41, 42, 43, 44, 45, 46, 47, 48, 49, 50, 51] [0, 1, 2, 3, 4, 5, 6, 7, 8, 12, 13, 14, 15, 16, 17, 52, 53, 54, 55, 56, 57, 58, 59, 60, 61, 62, 63, 64, 65, 66, 67, 68, 69, 70, 71, 72, 73, 74, 75, 76, 77, 78, 79, 80, 81, 82, 83, 84, 85, 86, 87, 88] rfl rfl (by decide) (by decide) (by decide) [0, 1, 2, 3, 4, 5, 6, 7, 8, 52, 53, 54, 9, 10, 11, 12, 13, 14, 55, 56, 57, 58, 59, 60, 61, 62, 63, 64, 65, 66, 67, 68, 69, 70, 71, 72, 73, 74, 75, 76, 77, 78, 79, 80, 81, 82, 83, 84, 85, 86, 87, 88, 15, 16, 17, 18, 19, 20, 21, 22, 23, 24, 25, 26, 27, 28, 29, 30, 31, 32, 33, 34, 35, 36, 37, 38, 39, 40, 41, 42, 43, 44, 45, 46, 47, 48, 49, 50, 51] (by decide) (fun u => rfl) rfl rfl rfl rfl hl.1 rfl (Nat.le_of_ble_eq_true rfl) dX9_water_55 ⟨Nat.zero_le _, Nat.zero_le _⟩ (fun u55 H locs h55 hP hD hS => ?_)
          obtain ⟨o55_g1, o55_g2, o55_ab, o55_be⟩ := u55
          try dsimp only at h55
          replace hP : va_P (eD E) vwCl (tgL E a (up2 (up2 (up3 (up3 v 301 o55_g1) 302 o55_g2) 303 0 o55_ab) 304 0 o55_be) cz0 cz1 rt rp aq vq ap vp as_ vs ai vi bi vj) H := hP
          replace hD : va_D A (tgL E a (up2 (up2 (up3 (up3 v 301 o55_g1) 302 o55_g2) 303 0 o55_ab) 304 0 o55_be) cz0 cz1 rt rp aq vq ap vp as_ vs ai vi bi vj) := hD
          generalize hv55 : up2 (up2 (up3 (up3 v 301 o55_g1) 302 o55_g2) 303 0 o55_ab) 304 0 o55_be = v_55 at hP hD
          have hFz : fr [301, 302, 303, 304] v v_55 := by first | exact hFz | (rw [← hv55]; repeat' (first | exact hFz | refine fr.up ?_ (by decide) | refine fr.up3 ?_ (by decide)))
          have hT : TgI v_55 := by rw [← hv55]; exact hT
          have hG : SgI (v_55 401 0) (v_55 402) (v_55 403) (v_55 408 0) := by rw [← hv55]; exact hG
          refine lv_iload_n hx hb dX9_water_58 rfl (lv_at hl 3 rfl) ?_
          refine lv_if_ne (tgt := 70) hx hb dX9_water_59 (by decide) (fun c59 => ?_) (fun c59 => ?_)
          · have c59_ := i_ne c59
            refine lv_iload_n hx hb dX9_water_70 rfl (lv_at hl 3 rfl) ?_
            refine lv_iconst (v := 1) hx hb dX9_water_71 (by decide) ?_
            refine lv_icmp_ne (tgt := 85) hx hb dX9_water_72 (by decide) (fun c72 => ?_) (fun c72 => ?_)
            · have c72_ := i_ne c72
              refine lv_aload_n hx hb dX9_water_85 rfl (lv_at hl 0 rfl) ?_
              refine va_get (D := eD E) (ci := 9) (v := .ref (a 9)) (C := RX9) (T := TX9) (N := 13) hx hb hts in_X9 hown hK hP 0 rfl rfl 9 (by decide) lk5 (fun _ h9 => h9) rfl dX9_water_86 ?_
              refine rd_V (As := []) (rest := []) (C := RX7) (ci := 7) ⟨hx, hb, hml, hown, hts⟩ (c_X7_wetWells l E A (a 9) (a 301) (a 302) (v_55 303 0) (v_55 304 0) (v_55 301) (v_55 302) (a 5) ap vp as_ vs hI hJ) (cwV 0 hts gX9_water_X7_wetWells rfl rfl rfl (by decide +kernel) ⟨Nat.le_of_ble_eq_true rfl, Nat.le_of_ble_eq_true rfl⟩) (hE.kept hS.2.1) (hP.sub (ws' := weL E (a 9) (a 301) (a 302) (v_55 303 0) (v_55 304 0) (v_55 301) (v_55 302) (a 5) ap vp as_ vs) [9, 10, 11, 18, 19, 20, 21, 22, 23, 24, 25, 26, 27, 28, 29, 30, 31, 32, 33, 34, 35, 36, 37, 38, 39, 40, 41, 42, 43, 44, 45, 46, 47, 48, 49, 50, 51] rfl) rfl rfl rfl rfl hl.1 rfl (Nat.le_of_ble_eq_true rfl) dX9_water_89 ⟨Nat.zero_le _, Nat.zero_le _⟩ (fun r89 h89 => ?_)
              subst hQ
              exact W.iret (v := r89) hx hb hr (fun t ht hW => ⟨⟨r89, (v_55), rfl, (show (TgA v_55 vp vq vs vi vj) ∧ fr [301, 302, 303, 304] v v_55 from ⟨⟨hT, hG, hI, hI2, hJ, hJi, hJj⟩, hFz⟩), by rw [ht]; exact hP, hD⟩, hS.F ht⟩) hS.2.2 dX9_water_92
            · have c72_ := i_eq c72
              refine lv_aload_n hx hb dX9_water_75 rfl (lv_at hl 0 rfl) ?_
              refine va_get (D := eD E) (ci := 9) (v := .ref (a 9)) (C := RX9) (T := TX9) (N := 13) hx hb hts in_X9 hown hK hP 0 rfl rfl 9 (by decide) lk5 (fun _ h9 => h9) rfl dX9_water_76 ?_
              refine va_get (D := eD E) (ci := 7) (v := .int (v_55 304 0)) (C := RX7) (T := TX7) (N := 5) hx hb hts in_X7 hown hK hP 9 rfl rfl 4 (by decide) lk6 (fun _ h9 => h9) rfl dX9_water_79 ?_
              refine lv_goto (tgt := 92) hx hb dX9_water_82 (by decide) ?_
              subst hQ
              exact W.iret (v := (v_55 304 0)) hx hb hr (fun t ht hW => ⟨⟨(v_55 304 0), (v_55), rfl, (show (TgA v_55 vp vq vs vi vj) ∧ fr [301, 302, 303, 304] v v_55 from ⟨⟨hT, hG, hI, hI2, hJ, hJi, hJj⟩, hFz⟩), by rw [ht]; exact hP, hD⟩, hS.F ht⟩) hS.2.2 dX9_water_92
          · have c59_ := i_eq c59
            refine lv_aload_n hx hb dX9_water_62 rfl (lv_at hl 0 rfl) ?_
            refine va_get (D := eD E) (ci := 9) (v := .ref (a 9)) (C := RX9) (T := TX9) (N := 13) hx hb hts in_X9 hown hK hP 0 rfl rfl 9 (by decide) lk5 (fun _ h9 => h9) rfl dX9_water_63 ?_
            refine va_get (D := eD E) (ci := 7) (v := .int (v_55 303 0)) (C := RX7) (T := TX7) (N := 5) hx hb hts in_X7 hown hK hP 9 rfl rfl 3 (by decide) lk7 (fun _ h9 => h9) rfl dX9_water_66 ?_
            subst hQ
            exact W.iret (v := (v_55 303 0)) hx hb hr (fun t ht hW => ⟨⟨(v_55 303 0), (v_55), rfl, (show (TgA v_55 vp vq vs vi vj) ∧ fr [301, 302, 303, 304] v v_55 from ⟨⟨hT, hG, hI, hI2, hJ, hJi, hJj⟩, hFz⟩), by rw [ht]; exact hP, hD⟩, hS.F ht⟩) hS.2.2 dX9_water_69
        · have c43_ := i_eq c43
          refine lv_ldc hx hb hown lk8 dX9_water_46 ?_
          subst hQ
          exact W.iret (v := (-1000000003)) hx hb hr (fun t ht hW => ⟨⟨(-1000000003), (v), rfl, (show (TgA v vp vq vs vi vj) ∧ fr [301, 302, 303, 304] v v from ⟨hTA, hFz⟩), by rw [ht]; exact hP, hD⟩, hS.F ht⟩) hS.2.2 dX9_water_48
      · have c24_ := i_ne c24
        replace h21 := or_y h21 c24_
        clear c24_
        refine lv_ldc hx hb hown lk0 dX9_water_27 ?_
        subst hQ
        exact W.iret (v := (-1000000002)) hx hb hr (fun t ht hW => ⟨⟨(-1000000002), (v), rfl, (show (TgA v vp vq vs vi vj) ∧ fr [301, 302, 303, 304] v v from ⟨hTA, hFz⟩), by rw [ht]; exact hP, hD⟩, hS.F ht⟩) hS.2.2 dX9_water_29
def rm_X9_see : Room := { frames := 1, cells := 0, slots := 0, locals := 23 }
set_option maxHeartbeats 4000000 in
set_option maxRecDepth 100000 in
theorem c_X9_see (l : Launch) (E : Ev) (sz : Nat) (a : Nat → Nat) (v : Vf) (cz0 : Nat) (cz1 : Nat) (rt : Value) (rp : Value) (aq : Nat → Nat) (vq : Vf) (ap : Nat → Nat) (vp : Vf) (as_ : Nat → Nat) (vs : Vf) (ai : Nat → Nat) (vi : Vf) (bi : Nat → Nat) (vj : Vf) (x : Int32) (y : Int32) (step : Int32) (z : Int32) (hTA : TgA v vp vq vs vi vj) : Met l yX9_see wsX9_see rm_X9_see (MtP E sz [.ref (a 99), .int x, .int y, .int step, .int z] (tgL E a v cz0 cz1 rt rp aq vq ap vp as_ vs ai vi bi vj)) (va_Qi (fun (r : Int32) (u : Vf) => ((TgA u vp vq vs vi vj) ∧ fr [401, 402, 403, 404] v u) ∧ ((SeeP x y step z (vp 0 0) (vp 1 0) (v 401 0) r (u 401 0)) ∧ (SeeR r (v 401 0) (vp 0 0) x y step z (v 402) (v 403) (v 404) (u 402) (u 403) (u 404)))) (MtB E (va_A (tgL E a v cz0 cz1 rt rp aq vq ap vp as_ vs ai vi bi vj) sz) (fun u => tgL E a u cz0 cz1 rt rp aq vq ap vp as_ vs ai vi bi vj)) (va_A (tgL E a v cz0 cz1 rt rp aq vq ap vp as_ vs ai vi bi vj) sz)) 0 0 (va_A (tgL E a v cz0 cz1 rt rp aq vq ap vp as_ vs ai vi bi vj) sz) := by
  refine Met.ofW (cc := cX9_see) (maxL := 6) (ret := (some .int)) (by decide) rfl ?_
  intro p e s m args below meth c s₁ B hml hv
  obtain ⟨rfl, hsz, hE, hP, hD0⟩ := hv
  subst hsz
  have hD := hD0.self (sz := s.heap.size)
  generalize hAe : va_A (tgL E a v cz0 cz1 rt rp aq vq ap vp as_ vs ai vi bi vj) s.heap.size = A at hD hE ⊢
  have hA : ∀ q : Nat, s.heap.size ≤ q → A q := fun q h => by rw [← hAe]; exact Or.inr h
  have hS : va_S A s.heap s.heap [] := va_S.rf
  have hx := B.exec
  have hb := B.bytes
  have hr := B.returns
  have hts := atoms_spec (ws := wsX9_see) B.pre
  have hown : s.vm.findClass RX9 = some m.cls := findClass_of_methodNamed B.named
  have hlocks := B.notSynchronized
  have hK := hE.1
  have in_X9 : ∀ w ∈ u_ws RX9 TX9 13, w ∈ wsX9_see := fun w h => List.mem_cons_of_mem _ (List.mem_append_left _ (List.mem_append_left _ (List.mem_append_left _ (List.mem_append_right _ h))))
  have in_X8 : ∀ w ∈ u_ws RX8 TX8 2, w ∈ wsX9_see := fun w h => List.mem_cons_of_mem _ (List.mem_append_left _ (List.mem_append_left _ (List.mem_append_right _ h)))
  have in_X4 : ∀ w ∈ u_ws RX4 TX4 11, w ∈ wsX9_see := fun w h => List.mem_cons_of_mem _ (List.mem_append_left _ (List.mem_append_right _ h))
  have lk0 := hts (.fieldLink RX9 43 "TidedGround" "world" "LTidedGround$World;") (List.mem_of_getElem? (i := 1) rfl)
  have lk1 := hts (.fieldLink RX9 91 "TidedGround$World" "plan" "LTidedGround$Plan;") (List.mem_of_getElem? (i := 2) rfl)
  have lk2 := hts (.constant RX9 81 (-1000000002)) (List.mem_of_getElem? (i := 4) rfl)
  have lk3 := hts (.fieldLink RX9 70 "TidedGround" "sightings" "LTidedGround$Sightings;") (List.mem_of_getElem? (i := 5) rfl)
  have lk4 := hts (.fieldLink RX9 103 "TidedGround$Sightings" "count" "I") (List.mem_of_getElem? (i := 6) rfl)
  have lk5 := hts (.constant RX9 85 (-1000000004)) (List.mem_of_getElem? (i := 7) rfl)
  have lk6 := hts (.constant RX9 161 (-1000000001)) (List.mem_of_getElem? (i := 3) rfl)
  have n_m1000000004 : ((-1000000004) : Int32).toInt = -1000000004 := by decide
  have n_m1000000002 : ((-1000000002) : Int32).toInt = -1000000002 := by decide
  have n_m1000000001 : ((-1000000001) : Int32).toInt = -1000000001 := by decide
  have n_m999 : ((-999) : Int32).toInt = -999 := by decide
  have n_m1 : ((-1) : Int32).toInt = -1 := by decide
  have n_0 : (0 : Int32).toInt = 0 := by decide
  have n_12 : (12 : Int32).toInt = 12 := by decide
  have n_999 : (999 : Int32).toInt = 999 := by decide
  have hl := lv_entry ([.ref (a 99), .int x, .int y, .int step, .int z]) (n := 6) (Nat.le_of_ble_eq_true rfl)
  rw [lg_entry_eq]
  generalize (lg_sl ([.ref (a 99), .int x, .int y, .int step, .int z]) ++ List.replicate (6 - (lg_sl ([.ref (a 99), .int x, .int y, .int step, .int z])).length) Slot.unset).toArray = ls at hl ⊢
  have hl : lv_has ls 6 [(0, .ref (a 99)), (1, .int x), (2, .int y), (3, .int step), (4, .int z)] := hl
  refine W_abs (fun Q hQ => ?_)
  obtain ⟨hT, hG, hI, hI2, hJ, hJi, hJj⟩ := id hTA
  obtain ⟨hT1, hT2⟩ := id hT
  have hJ_vs := hJ
  have hJ_vi := hJi
  have hJ_vj := hJj
  obtain ⟨hg, hmc, hm0, hm1, hm2, hs0, hs1, hs2, hs3⟩ := id hI
  obtain ⟨hg1, hg2, hg3, hg4⟩ := id hg
  have hz0 := hm0.1
  have hz1 := hm1.1
  have hz2 := hm2.1
  have hc0 := hs0.1
  have hc1 := hs1.1
  have hc2 := hs2.1
  have hc3 := hs3.1
  obtain ⟨hj0, hj1, hj2⟩ := id hJ
  have hg5 : 0 ≤ (vp 2 0).toInt := by rw [hg3]; exact Int.mul_nonneg hg1.1 hg2.1
  have hG1 := hG.1
  have hG4 := hG.2.2.2
  have hFz : fr [401, 402, 403, 404] v v := fr.rf
  refine lv_aload_n hx hb dX9_see_0 rfl (lv_at hl 0 rfl) ?_
  refine va_get (D := eD E) (ci := 9) (v := .ref (a 5)) (C := RX9) (T := TX9) (N := 13) hx hb hts in_X9 hown hK hP 0 rfl rfl 5 (by decide) lk0 (fun _ h9 => h9) rfl dX9_see_1 ?_
  refine va_get (D := eD E) (ci := 8) (v := .ref (ap 0)) (C := RX8) (T := TX8) (N := 2) hx hb hts in_X8 hown hK hP 18 rfl rfl 0 (by decide) lk1 (fun _ h9 => h9) rfl dX9_see_4 ?_
  refine lv_iload_n hx hb dX9_see_7 rfl (lv_at hl 1 rfl) ?_
  refine lv_iload_n hx hb dX9_see_8 rfl (lv_at hl 2 rfl) ?_
  refine rd_V (As := [.int x, .int y]) (rest := []) (C := RX1) (ci := 1) ⟨hx, hb, hml, hown, hts⟩ (c_X1_cellAt l E A ap vp x y hI) (cwV 2 hts gX9_see_X1_cellAt rfl rfl rfl (by decide +kernel) ⟨Nat.le_of_ble_eq_true rfl, Nat.le_of_ble_eq_true rfl⟩) (hE.kept hS.2.1) (hP.sub (ws' := planL E ap vp) [19, 20, 21, 22, 23, 24, 25, 26, 27, 28, 29, 30, 31, 32, 33, 34, 35, 36, 37, 38, 39, 40, 41, 42, 43, 44, 45, 46, 47] rfl) rfl rfl rfl rfl hl.1 rfl (Nat.le_of_ble_eq_true rfl) dX9_see_9 ⟨Nat.zero_le _, Nat.zero_le _⟩ (fun r9 h9 => ?_)
  have hf9 := h9.2
  replace h9 := h9.1
  have hm9 : y.toInt < 0 ∨ 0 ≤ (vp 0 0).toInt * y.toInt := (Int.lt_or_le y.toInt 0).imp id (fun q => Int.mul_nonneg (by omega) q)
  refine lv_istore (lv' := [(5, .int r9), (0, .ref (a 99)), (1, .int x), (2, .int y), (3, .int step), (4, .int z)]) hx hb dX9_see_12 hl (by decide) rfl (fun ls hl => ?_)
  refine lv_iload hx hb dX9_see_14 (lv_at hl 0 rfl) ?_
  refine lv_iconst (v := (-1)) hx hb dX9_see_16 (by decide) ?_
  refine lv_icmp_ne (tgt := 23) hx hb dX9_see_17 (by decide) (fun c17 => ?_) (fun c17 => ?_)
  · have c17_ := i_ne c17
    replace h9 := cm_n h9 c17_
    clear c17_
    have sv23_r9 : 0 ≤ r9.toInt ∧ r9.toInt ≤ 23 := by omega
    have hr9 : r9.toInt = (vp 0 0).toInt * y.toInt + x.toInt := by omega
    have hcel : (0 ≤ x.toInt ∧ x.toInt < (vp 0 0).toInt) ∧ 0 ≤ y.toInt ∧ y.toInt < (vp 1 0).toInt := by omega
    clear hf9 hm9
    refine lv_iload_n hx hb dX9_see_23 rfl (lv_at hl 4 rfl) ?_
    refine lv_iconst (v := 0) hx hb dX9_see_24 (by decide) ?_
    refine lv_sipush (v := 999) hx hb dX9_see_25 (by decide) ?_
    refine rd_S (As := [.int step, .int 0, .int 999]) (rest := []) ⟨hx, hb, hml, hown, hts⟩ (c_X9_isOff l E A step 0 999) (va_cwS 3 hts gX9_see_X9_isOff rfl rfl rfl (by decide +kernel) ⟨Nat.le_of_ble_eq_true rfl, Nat.le_of_ble_eq_true rfl⟩) (hE.kept hS.2.1) (hP.sub (ws' := []) [] rfl) rfl hl.1 rfl (Nat.le_of_ble_eq_true rfl) dX9_see_28 ⟨Nat.zero_le _, Nat.zero_le _⟩ (fun r28 h28 => ?_)
    refine lv_if_ne (tgt := 48) hx hb dX9_see_31 (by decide) (fun c31 => ?_) (fun c31 => ?_)
    · have c31_ := i_ne c31
      replace h28 := or_y h28 c31_
      clear c31_
      refine lv_ldc hx hb hown lk2 dX9_see_48 ?_
      subst hQ
      exact W.iret (v := (-1000000002)) hx hb hr (fun t ht hW => ⟨⟨(-1000000002), (v), rfl, (show ((TgA v vp vq vs vi vj) ∧ fr [401, 402, 403, 404] v v) ∧ ((SeeP x y step z (vp 0 0) (vp 1 0) (v 401 0) ((-1000000002) : Int32) (v 401 0)) ∧ (SeeR ((-1000000002) : Int32) (v 401 0) (vp 0 0) x y step z (v 402) (v 403) (v 404) (v 402) (v 403) (v 404))) from ⟨⟨hTA, hFz⟩, ⟨(Or.inr ⟨hcel, Or.inl ⟨by omega, by omega, rfl⟩⟩), (Or.inl ⟨by omega, rfl, rfl, rfl⟩)⟩⟩), by rw [ht]; exact hP, hD⟩, hS.F ht⟩) hS.2.2 dX9_see_50
    · have c31_ := i_eq c31
      replace h28 := or_n h28 c31_
      refine lv_iload hx hb dX9_see_34 (lv_at hl 5 rfl) ?_
      refine lv_sipush (v := (-999)) hx hb dX9_see_36 (by decide) ?_
      refine lv_sipush (v := 999) hx hb dX9_see_39 (by decide) ?_
      refine rd_S (As := [.int z, .int (-999), .int 999]) (rest := []) ⟨hx, hb, hml, hown, hts⟩ (c_X9_isOff l E A z (-999) 999) (va_cwS 3 hts gX9_see_X9_isOff rfl rfl rfl (by decide +kernel) ⟨Nat.le_of_ble_eq_true rfl, Nat.le_of_ble_eq_true rfl⟩) (hE.kept hS.2.1) (hP.sub (ws' := []) [] rfl) rfl hl.1 rfl (Nat.le_of_ble_eq_true rfl) dX9_see_42 ⟨Nat.zero_le _, Nat.zero_le _⟩ (fun r42 h42 => ?_)
      refine lv_if_eq (tgt := 51) hx hb dX9_see_45 (by decide) (fun c45 => ?_) (fun c45 => ?_)
      · have c45_ := i_eq c45
        replace h42 := or_n h42 c45_
        refine lv_aload_n hx hb dX9_see_51 rfl (lv_at hl 1 rfl) ?_
        refine va_get (D := eD E) (ci := 9) (v := .ref (a 10)) (C := RX9) (T := TX9) (N := 13) hx hb hts in_X9 hown hK hP 0 rfl rfl 10 (by decide) lk3 (fun _ h9 => h9) rfl dX9_see_52 ?_
        refine va_get (D := eD E) (ci := 4) (v := .int (v 401 0)) (C := RX4) (T := TX4) (N := 11) hx hb hts in_X4 hown hK hP 12 rfl rfl 1 (by decide) lk4 (fun _ h9 => h9) rfl dX9_see_55 ?_
        refine lv_bipush (v := 12) hx hb dX9_see_58 (by decide) ?_
        refine lv_icmp_lt (tgt := 66) hx hb dX9_see_60 (by decide) (fun c60 => ?_) (fun c60 => ?_)
        · have c60_ := i_lt c60
          refine lv_aload_n hx hb dX9_see_66 rfl (lv_at hl 1 rfl) ?_
          refine va_get (D := eD E) (ci := 9) (v := .ref (a 10)) (C := RX9) (T := TX9) (N := 13) hx hb hts in_X9 hown hK hP 0 rfl rfl 10 (by decide) lk3 (fun _ h9 => h9) rfl dX9_see_67 ?_
          refine lv_iload hx hb dX9_see_70 (lv_at hl 0 rfl) ?_
          refine lv_iload_n hx hb dX9_see_72 rfl (lv_at hl 4 rfl) ?_
          refine lv_iload hx hb dX9_see_73 (lv_at hl 5 rfl) ?_
          refine mt_Vv (w1 := fun (u : Int32 × (Nat → Int32) × (Nat → Int32) × (Nat → Int32)) => saL E (a 10) (a 402) (a 403) (a 404) (a 405) (a 407) u.1 (v 406 0) (v 408 0) (v 409 0) (v 410 0) u.2.1 u.2.2.1 u.2.2.2 (v 405) (v 407) (a 5)) (wf := fun (u : Int32 × (Nat → Int32) × (Nat → Int32) × (Nat → Int32)) => tgL E a (up3 (up3 (up3 (up2 v 401 0 u.1) 402 u.2.1) 403 u.2.2.1) 404 u.2.2.2) cz0 cz1 rt rp aq vq ap vp as_ vs ai vi bi vj) (wr := [((a 99), .inr (9, [.ref (a 0), .int (v 1 0), .int (v 2 0), .ref (a 3), .ref (aq 0), .ref (a 5), .ref (as_ 0), .ref (a 7), .ref (a 8), .ref (a 9), .ref (a 10), .ref (a 11), .int (v 12 0)])), ((a 0), .inl (eI E, 250, .inl (v 0))), ((a 11), .inl (eI E, 30, .inl (v 11))), ((a 3), .inr (2, [rt, .int (v 101 0), .int (v 102 0), rp, .int (v 104 0), .int (v 105 0), .int (v 106 0), .int (v 107 0), .int (v 108 0)])), ((a 7), .inl (eS E, 2, .inr (.inr (.inr (.inr (fun i => some (cond (Nat.beq i 0) (ai 0) (bi 0)))))))), ((a 8), .inr (3, [.ref (a 5), .ref cz0, .ref cz1, .ref (a 203)])), (cz0, .inl (eI E, 24, .inl (v 201))), (cz1, .inl (eI E, 24, .inl (v 202))), ((a 203), .inl (eI E, 960, .inl (v 203))), ((a 9), .inr (7, [.ref (a 5), .ref (a 301), .ref (a 302), .int (v 303 0), .int (v 304 0)])), ((a 301), .inl (eI E, 5, .inl (v 301))), ((a 302), .inl (eI E, 5, .inl (v 302))), ((a 5), .inr (8, [.ref (ap 0), .ref (as_ 0)])), ((ap 0), .inr (1, [.int (vp 0 0), .int (vp 1 0), .int (vp 2 0), .ref (ap 3), .ref (ap 4), .int (vp 5 0), .ref (ap 6), .ref (ap 7), .ref (ap 8), .ref (ap 9), .ref (ap 10)])), ((ap 3), .inl (eI E, 24, .inl (vp 3))), ((ap 4), .inl (eI E, 24, .inl (vp 4))), ((ap 6), .inl (eM E, 3, .inr (.inr (.inr (.inr (fun i => some (ap (20 + 10 * i)))))))), ((ap 20), .inr (0, [.int (vp 20 0), .int (vp 21 0), .int (vp 22 0), .ref (ap 23), .ref (ap 24)])), ((ap 23), .inl (eI E, 18, .inl (vp 23))), ((ap 24), .inl (eI E, 24, .inl (vp 24))), ((ap 30), .inr (0, [.int (vp 30 0), .int (vp 31 0), .int (vp 32 0), .ref (ap 33), .ref (ap 34)])), ((ap 33), .inl (eI E, 18, .inl (vp 33))), ((ap 34), .inl (eI E, 24, .inl (vp 34))), ((ap 40), .inr (0, [.int (vp 40 0), .int (vp 41 0), .int (vp 42 0), .ref (ap 43), .ref (ap 44)])), ((ap 43), .inl (eI E, 18, .inl (vp 43))), ((ap 44), .inl (eI E, 24, .inl (vp 44))), ((ap 7), .inr (5, [.int (vp 60 0), .ref (ap 61), .ref (ap 62), .ref (ap 63)])), ((ap 61), .inl (eI E, 6, .inl (vp 61))), ((ap 62), .inl (eI E, 6, .inl (vp 62))), ((ap 63), .inl (eI E, 6, .inl (vp 63))), ((ap 8), .inr (5, [.int (vp 70 0), .ref (ap 71), .ref (ap 72), .ref (ap 73)])), ((ap 71), .inl (eI E, 6, .inl (vp 71))), ((ap 72), .inl (eI E, 6, .inl (vp 72))), ((ap 73), .inl (eI E, 6, .inl (vp 73))), ((ap 9), .inr (5, [.int (vp 80 0), .ref (ap 81), .ref (ap 82), .ref (ap 83)])), ((ap 81), .inl (eI E, 6, .inl (vp 81))), ((ap 82), .inl (eI E, 6, .inl (vp 82))), ((ap 83), .inl (eI E, 6, .inl (vp 83))), ((ap 10), .inr (5, [.int (vp 90 0), .ref (ap 91), .ref (ap 92), .ref (ap 93)])), ((ap 91), .inl (eI E, 6, .inl (vp 91))), ((ap 92), .inl (eI E, 6, .inl (vp 92))), ((ap 93), .inl (eI E, 6, .inl (vp 93))), ((as_ 0), .inr (6, [.int (vs 0 0), .ref (as_ 1), .ref (as_ 2), .ref (as_ 3), .int (vs 4 0), .int (vs 5 0), .int (vs 6 0), .int (vs 7 0), .int (vs 8 0)])), ((as_ 1), .inl (eI E, 3, .inl (vs 1))), ((as_ 2), .inl (eI E, 24, .inl (vs 2))), ((as_ 3), .inl (eI E, 6, .inl (vs 3))), ((aq 0), .inr (1, [.int (vq 0 0), .int (vq 1 0), .int (vq 2 0), .ref (aq 3), .ref (aq 4), .int (vq 5 0), .ref (aq 6), .ref (aq 7), .ref (aq 8), .ref (aq 9), .ref (aq 10)])), ((aq 3), .inl (eI E, 24, .inl (vq 3))), ((aq 4), .inl (eI E, 24, .inl (vq 4))), ((aq 6), .inl (eM E, 3, .inr (.inr (.inr (.inr (fun i => some (aq (20 + 10 * i)))))))), ((aq 20), .inr (0, [.int (vq 20 0), .int (vq 21 0), .int (vq 22 0), .ref (aq 23), .ref (aq 24)])), ((aq 23), .inl (eI E, 18, .inl (vq 23))), ((aq 24), .inl (eI E, 24, .inl (vq 24))), ((aq 30), .inr (0, [.int (vq 30 0), .int (vq 31 0), .int (vq 32 0), .ref (aq 33), .ref (aq 34)])), ((aq 33), .inl (eI E, 18, .inl (vq 33))), ((aq 34), .inl (eI E, 24, .inl (vq 34))), ((aq 40), .inr (0, [.int (vq 40 0), .int (vq 41 0), .int (vq 42 0), .ref (aq 43), .ref (aq 44)])), ((aq 43), .inl (eI E, 18, .inl (vq 43))), ((aq 44), .inl (eI E, 24, .inl (vq 44))), ((aq 7), .inr (5, [.int (vq 60 0), .ref (aq 61), .ref (aq 62), .ref (aq 63)])), ((aq 61), .inl (eI E, 6, .inl (vq 61))), ((aq 62), .inl (eI E, 6, .inl (vq 62))), ((aq 63), .inl (eI E, 6, .inl (vq 63))), ((aq 8), .inr (5, [.int (vq 70 0), .ref (aq 71), .ref (aq 72), .ref (aq 73)])), ((aq 71), .inl (eI E, 6, .inl (vq 71))), ((aq 72), .inl (eI E, 6, .inl (vq 72))), ((aq 73), .inl (eI E, 6, .inl (vq 73))), ((aq 9), .inr (5, [.int (vq 80 0), .ref (aq 81), .ref (aq 82), .ref (aq 83)])), ((aq 81), .inl (eI E, 6, .inl (vq 81))), ((aq 82), .inl (eI E, 6, .inl (vq 82))), ((aq 83), .inl (eI E, 6, .inl (vq 83))), ((aq 10), .inr (5, [.int (vq 90 0), .ref (aq 91), .ref (aq 92), .ref (aq 93)])), ((aq 91), .inl (eI E, 6, .inl (vq 91))), ((aq 92), .inl (eI E, 6, .inl (vq 92))), ((aq 93), .inl (eI E, 6, .inl (vq 93))), ((ai 0), .inr (6, [.int (vi 0 0), .ref (ai 1), .ref (ai 2), .ref (ai 3), .int (vi 4 0), .int (vi 5 0), .int (vi 6 0), .int (vi 7 0), .int (vi 8 0)])), ((ai 1), .inl (eI E, 3, .inl (vi 1))), ((ai 2), .inl (eI E, 24, .inl (vi 2))), ((ai 3), .inl (eI E, 6, .inl (vi 3))), ((bi 0), .inr (6, [.int (vj 0 0), .ref (bi 1), .ref (bi 2), .ref (bi 3), .int (vj 4 0), .int (vj 5 0), .int (vj 6 0), .int (vj 7 0), .int (vj 8 0)])), ((bi 1), .inl (eI E, 3, .inl (vj 1))), ((bi 2), .inl (eI E, 24, .inl (vj 2))), ((bi 3), .inl (eI E, 6, .inl (vj 3)))]) (As := [.int r9, .int step, .int z]) (rest := []) (C := RX4) (ci := 4) ⟨hx, hb, hml, hown, hts⟩ (c_X4_add l E s.heap.size (a 10) (a 402) (a 403) (a 404) (a 405) (a 407) (v 401 0) (v 406 0) (v 408 0) (v 409 0) (v 410 0) (v 402) (v 403) (v 404) (v 405) (v 407) (a 5) r9 step z hG (by omega) (by omega)) (cwV 3 hts gX9_see_X4_add rfl rfl rfl (by decide +kernel) ⟨Nat.le_of_ble_eq_true rfl, Nat.le_of_ble_eq_true rfl⟩) hE hS hA hP hD [12, 13, 14, 15, 16, 17] [0, 1, 2, 3, 4, 5, 6, 7, 8, 9, 10, 11, 18, 19, 20, 21, 22, 23, 24, 25, 26, 27, 28, 29, 30, 31, 32, 33, 34, 35, 36, 37, 38, 39, 40, 41, 42, 43, 44, 45, 46, 47, 48, 49, 50, 51, 52, 53, 54, 55, 56, 57, 58, 59, 60, 61, 62, 63, 64, 65, 66, 67, 68, 69, 70, 71, 72, 73, 74, 75, 76, 77, 78, 79, 80, 81, 82, 83, 84, 85, 86, 87, 88] rfl rfl (by decide) (by decide) (by decide) [0, 1, 2, 3, 4, 5, 6, 7, 8, 9, 10, 11, 83, 84, 85, 86, 87, 88, 12, 13, 14, 15, 16, 17, 18, 19, 20, 21, 22, 23, 24, 25, 26, 27, 28, 29, 30, 31, 32, 33, 34, 35, 36, 37, 38, 39, 40, 41, 42, 43, 44, 45, 46, 47, 48, 49, 50, 51, 52, 53, 54, 55, 56, 57, 58, 59, 60, 61, 62, 63, 64, 65, 66, 67, 68, 69, 70, 71, 72, 73, 74, 75, 76, 77, 78, 79, 80, 81, 82] (by decide) (fun u => rfl) rfl rfl rfl rfl hl.1 rfl (Nat.le_of_ble_eq_true rfl) dX9_see_75 ⟨Nat.zero_le _, Nat.zero_le _⟩ (fun u75 H locs h75 hP hD hS => ?_)
          obtain ⟨o75_sn, o75_s2, o75_s3, o75_s4⟩ := u75
          try dsimp only at h75
          have hf75 := h75.2
          replace h75 := h75.1
          replace hP : va_P (eD E) vwCl (tgL E a (up3 (up3 (up3 (up2 v 401 0 o75_sn) 402 o75_s2) 403 o75_s3) 404 o75_s4) cz0 cz1 rt rp aq vq ap vp as_ vs ai vi bi vj) H := hP
          replace hD : va_D A (tgL E a (up3 (up3 (up3 (up2 v 401 0 o75_sn) 402 o75_s2) 403 o75_s3) 404 o75_s4) cz0 cz1 rt rp aq vq ap vp as_ vs ai vi bi vj) := hD
          generalize hv75 : up3 (up3 (up3 (up2 v 401 0 o75_sn) 402 o75_s2) 403 o75_s3) 404 o75_s4 = v_75 at hP hD
          have hFz : fr [401, 402, 403, 404] v v_75 := by first | exact hFz | (rw [← hv75]; repeat' (first | exact hFz | refine fr.up ?_ (by decide) | refine fr.up3 ?_ (by decide)))
          have hT : TgI v_75 := by rw [← hv75]; exact hT
          have hG : SgI (v_75 401 0) (v_75 402) (v_75 403) (v_75 408 0) := by rw [← hv75]; exact h75
          have hq75 : (v_75 401 0).toInt = (v 401 0).toInt + 1 := by rw [← hv75]; exact hf75.1 (by omega)
          have hro75 : v_75 402 = upd (v 402) (v 401 0).toNatClampNeg r9 ∧ v_75 403 = upd (v 403) (v 401 0).toNatClampNeg step ∧ v_75 404 = upd (v 404) (v 401 0).toNatClampNeg z := by rw [← hv75]; exact hf75.2 (by omega)
          refine lv_aload_n hx hb dX9_see_78 rfl (lv_at hl 1 rfl) ?_
          refine va_get (D := eD E) (ci := 9) (v := .ref (a 10)) (C := RX9) (T := TX9) (N := 13) hx hb hts in_X9 hown hK hP 0 rfl rfl 10 (by decide) lk3 (fun _ h9 => h9) rfl dX9_see_79 ?_
          refine va_get (D := eD E) (ci := 4) (v := .int (v_75 401 0)) (C := RX4) (T := TX4) (N := 11) hx hb hts in_X4 hown hK hP 12 rfl rfl 1 (by decide) lk4 (fun _ h9 => h9) rfl dX9_see_82 ?_
          subst hQ
          exact W.iret (v := (v_75 401 0)) hx hb hr (fun t ht hW => ⟨⟨(v_75 401 0), (v_75), rfl, (show ((TgA v_75 vp vq vs vi vj) ∧ fr [401, 402, 403, 404] v v_75) ∧ ((SeeP x y step z (vp 0 0) (vp 1 0) (v 401 0) (v_75 401 0) (v_75 401 0)) ∧ (SeeR (v_75 401 0) (v 401 0) (vp 0 0) x y step z (v 402) (v 403) (v 404) (v_75 402) (v_75 403) (v_75 404))) from ⟨⟨⟨hT, hG, hI, hI2, hJ, hJi, hJj⟩, hFz⟩, ⟨(Or.inr ⟨hcel, Or.inr ⟨by omega, Or.inr ⟨by omega, hq75, hq75⟩⟩⟩), (Or.inr ⟨by omega, r9, hr9, hro75.1, hro75.2.1, hro75.2.2⟩)⟩⟩), by rw [ht]; exact hP, hD⟩, hS.F ht⟩) hS.2.2 dX9_see_85
        · have c60_ := i_nlt c60
          refine lv_ldc hx hb hown lk5 dX9_see_63 ?_
          subst hQ
          exact W.iret (v := (-1000000004)) hx hb hr (fun t ht hW => ⟨⟨(-1000000004), (v), rfl, (show ((TgA v vp vq vs vi vj) ∧ fr [401, 402, 403, 404] v v) ∧ ((SeeP x y step z (vp 0 0) (vp 1 0) (v 401 0) ((-1000000004) : Int32) (v 401 0)) ∧ (SeeR ((-1000000004) : Int32) (v 401 0) (vp 0 0) x y step z (v 402) (v 403) (v 404) (v 402) (v 403) (v 404))) from ⟨⟨hTA, hFz⟩, ⟨(Or.inr ⟨hcel, Or.inr ⟨by omega, Or.inl ⟨by omega, by omega, rfl⟩⟩⟩), (Or.inl ⟨by omega, rfl, rfl, rfl⟩)⟩⟩), by rw [ht]; exact hP, hD⟩, hS.F ht⟩) hS.2.2 dX9_see_65
      · have c45_ := i_ne c45
        replace h42 := or_y h42 c45_
        clear c45_
        refine lv_ldc hx hb hown lk2 dX9_see_48 ?_
        subst hQ
        exact W.iret (v := (-1000000002)) hx hb hr (fun t ht hW => ⟨⟨(-1000000002), (v), rfl, (show ((TgA v vp vq vs vi vj) ∧ fr [401, 402, 403, 404] v v) ∧ ((SeeP x y step z (vp 0 0) (vp 1 0) (v 401 0) ((-1000000002) : Int32) (v 401 0)) ∧ (SeeR ((-1000000002) : Int32) (v 401 0) (vp 0 0) x y step z (v 402) (v 403) (v 404) (v 402) (v 403) (v 404))) from ⟨⟨hTA, hFz⟩, ⟨(Or.inr ⟨hcel, Or.inl ⟨by omega, by omega, rfl⟩⟩), (Or.inl ⟨by omega, rfl, rfl, rfl⟩)⟩⟩), by rw [ht]; exact hP, hD⟩, hS.F ht⟩) hS.2.2 dX9_see_50
  · have c17_ := i_eq c17
    clear h9
    refine lv_ldc hx hb hown lk6 dX9_see_20 ?_
    subst hQ
    exact W.iret (v := (-1000000001)) hx hb hr (fun t ht hW => ⟨⟨(-1000000001), (v), rfl, (show ((TgA v vp vq vs vi vj) ∧ fr [401, 402, 403, 404] v v) ∧ ((SeeP x y step z (vp 0 0) (vp 1 0) (v 401 0) ((-1000000001) : Int32) (v 401 0)) ∧ (SeeR ((-1000000001) : Int32) (v 401 0) (vp 0 0) x y step z (v 402) (v 403) (v 404) (v 402) (v 403) (v 404))) from ⟨⟨hTA, hFz⟩, ⟨(Or.inl ⟨by omega, by omega, rfl⟩), (Or.inl ⟨by omega, rfl, rfl, rfl⟩)⟩⟩), by rw [ht]; exact hP, hD⟩, hS.F ht⟩) hS.2.2 dX9_see_22
def rm_X9_fits : Room := { frames := 4, cells := 0, slots := 0, locals := 95 }
set_option maxHeartbeats 4000000 in
set_option maxRecDepth 100000 in
theorem c_X9_fits (l : Launch) (E : Ev) (sz : Nat) (a : Nat → Nat) (v : Vf) (cz0 : Nat) (cz1 : Nat) (rt : Value) (rp : Value) (aq : Nat → Nat) (vq : Vf) (ap : Nat → Nat) (vp : Vf) (as_ : Nat → Nat) (vs : Vf) (ai : Nat → Nat) (vi : Vf) (bi : Nat → Nat) (vj : Vf) (i : Int32) (k : Int32) (hTA : TgA v vp vq vs vi vj) : Met l yX9_fits wsX9_fits rm_X9_fits (MtP E sz [.ref (a 99), .int i, .int k] (tgL E a v cz0 cz1 rt rp aq vq ap vp as_ vs ai vi bi vj)) (va_Qi (fun (r : Int32) (u : Vf) => (TgA u vp vq vs vi vj) ∧ fr [405, 406] v u) (MtB E (va_A (tgL E a v cz0 cz1 rt rp aq vq ap vp as_ vs ai vi bi vj) sz) (fun u => tgL E a u cz0 cz1 rt rp aq vq ap vp as_ vs ai vi bi vj)) (va_A (tgL E a v cz0 cz1 rt rp aq vq ap vp as_ vs ai vi bi vj) sz)) 0 0 (va_A (tgL E a v cz0 cz1 rt rp aq vq ap vp as_ vs ai vi bi vj) sz) := by
  refine Met.ofW (cc := cX9_fits) (maxL := 4) (ret := (some .int)) (by decide) rfl ?_
  intro p e s m args below meth c s₁ B hml hv
  obtain ⟨rfl, hsz, hE, hP, hD0⟩ := hv
  subst hsz
  have hD := hD0.self (sz := s.heap.size)
  generalize hAe : va_A (tgL E a v cz0 cz1 rt rp aq vq ap vp as_ vs ai vi bi vj) s.heap.size = A at hD hE ⊢
  have hA : ∀ q : Nat, s.heap.size ≤ q → A q := fun q h => by rw [← hAe]; exact Or.inr h
  have hS : va_S A s.heap s.heap [] := va_S.rf
  have hx := B.exec
  have hb := B.bytes
  have hr := B.returns
  have hts := atoms_spec (ws := wsX9_fits) B.pre
  have hown : s.vm.findClass RX9 = some m.cls := findClass_of_methodNamed B.named
  have hlocks := B.notSynchronized
  have hK := hE.1
  have in_X9 : ∀ w ∈ u_ws RX9 TX9 13, w ∈ wsX9_fits := fun w h => List.mem_cons_of_mem _ (List.mem_append_left _ (List.mem_append_left _ (List.mem_append_left _ (List.mem_append_left _ (List.mem_append_left _ (List.mem_append_right _ h))))))
  have lk0 := hts (.fieldLink RX9 70 "TidedGround" "sightings" "LTidedGround$Sightings;") (List.mem_of_getElem? (i := 2) rfl)
  have lk1 := hts (.constant RX9 161 (-1000000001)) (List.mem_of_getElem? (i := 1) rfl)
  have n_m1000000001 : ((-1000000001) : Int32).toInt = -1000000001 := by decide
  have n_m1 : ((-1) : Int32).toInt = -1 := by decide
  have n_0 : (0 : Int32).toInt = 0 := by decide
  have n_1 : (1 : Int32).toInt = 1 := by decide
  have hl := lv_entry ([.ref (a 99), .int i, .int k]) (n := 4) (Nat.le_of_ble_eq_true rfl)
  rw [lg_entry_eq]
  generalize (lg_sl ([.ref (a 99), .int i, .int k]) ++ List.replicate (4 - (lg_sl ([.ref (a 99), .int i, .int k])).length) Slot.unset).toArray = ls at hl ⊢
  have hl : lv_has ls 4 [(0, .ref (a 99)), (1, .int i), (2, .int k)] := hl
  refine W_abs (fun Q hQ => ?_)
  obtain ⟨hT, hG, hI, hI2, hJ, hJi, hJj⟩ := id hTA
  obtain ⟨hT1, hT2⟩ := id hT
  have hJ_vs := hJ
  have hJ_vi := hJi
  have hJ_vj := hJj
  obtain ⟨hg, hmc, hm0, hm1, hm2, hs0, hs1, hs2, hs3⟩ := id hI
  obtain ⟨hg1, hg2, hg3, hg4⟩ := id hg
  have hz0 := hm0.1
  have hz1 := hm1.1
  have hz2 := hm2.1
  have hc0 := hs0.1
  have hc1 := hs1.1
  have hc2 := hs2.1
  have hc3 := hs3.1
  obtain ⟨hj0, hj1, hj2⟩ := id hJ
  have hg5 : 0 ≤ (vp 2 0).toInt := by rw [hg3]; exact Int.mul_nonneg hg1.1 hg2.1
  have hG1 := hG.1
  have hG4 := hG.2.2.2
  have hFz : fr [405, 406] v v := fr.rf
  refine lv_iload_n hx hb dX9_fits_0 rfl (lv_at hl 1 rfl) ?_
  refine lv_iconst (v := (-1)) hx hb dX9_fits_1 (by decide) ?_
  refine lv_icmp_eq (tgt := 16) hx hb dX9_fits_2 (by decide) (fun c2 => ?_) (fun c2 => ?_)
  · have c2_ := i_eq c2
    refine lv_aload_n hx hb dX9_fits_16 rfl (lv_at hl 0 rfl) ?_
    refine va_get (D := eD E) (ci := 9) (v := .ref (a 10)) (C := RX9) (T := TX9) (N := 13) hx hb hts in_X9 hown hK hP 0 rfl rfl 10 (by decide) lk0 (fun _ h9 => h9) rfl dX9_fits_17 ?_
    refine mt_Vi (w1 := fun (u : Int32 × (Nat → Int32)) => sgL E (a 10) (a 402) (a 403) (a 404) (a 405) (a 407) (v 401 0) u.1 (v 408 0) (v 409 0) (v 410 0) (v 402) (v 403) (v 404) u.2 (v 407) (a 5) ap vp as_ vs) (wf := fun (u : Int32 × (Nat → Int32)) => tgL E a (up3 (up2 v 406 0 u.1) 405 u.2) cz0 cz1 rt rp aq vq ap vp as_ vs ai vi bi vj) (wr := [((a 99), .inr (9, [.ref (a 0), .int (v 1 0), .int (v 2 0), .ref (a 3), .ref (aq 0), .ref (a 5), .ref (as_ 0), .ref (a 7), .ref (a 8), .ref (a 9), .ref (a 10), .ref (a 11), .int (v 12 0)])), ((a 0), .inl (eI E, 250, .inl (v 0))), ((a 11), .inl (eI E, 30, .inl (v 11))), ((a 3), .inr (2, [rt, .int (v 101 0), .int (v 102 0), rp, .int (v 104 0), .int (v 105 0), .int (v 106 0), .int (v 107 0), .int (v 108 0)])), ((a 7), .inl (eS E, 2, .inr (.inr (.inr (.inr (fun i => some (cond (Nat.beq i 0) (ai 0) (bi 0)))))))), ((a 8), .inr (3, [.ref (a 5), .ref cz0, .ref cz1, .ref (a 203)])), (cz0, .inl (eI E, 24, .inl (v 201))), (cz1, .inl (eI E, 24, .inl (v 202))), ((a 203), .inl (eI E, 960, .inl (v 203))), ((a 9), .inr (7, [.ref (a 5), .ref (a 301), .ref (a 302), .int (v 303 0), .int (v 304 0)])), ((a 301), .inl (eI E, 5, .inl (v 301))), ((a 302), .inl (eI E, 5, .inl (v 302))), ((aq 0), .inr (1, [.int (vq 0 0), .int (vq 1 0), .int (vq 2 0), .ref (aq 3), .ref (aq 4), .int (vq 5 0), .ref (aq 6), .ref (aq 7), .ref (aq 8), .ref (aq 9), .ref (aq 10)])), ((aq 3), .inl (eI E, 24, .inl (vq 3))), ((aq 4), .inl (eI E, 24, .inl (vq 4))), ((aq 6), .inl (eM E, 3, .inr (.inr (.inr (.inr (fun i => some (aq (20 + 10 * i)))))))), ((aq 20), .inr (0, [.int (vq 20 0), .int (vq 21 0), .int (vq 22 0), .ref (aq 23), .ref (aq 24)])), ((aq 23), .inl (eI E, 18, .inl (vq 23))), ((aq 24), .inl (eI E, 24, .inl (vq 24))), ((aq 30), .inr (0, [.int (vq 30 0), .int (vq 31 0), .int (vq 32 0), .ref (aq 33), .ref (aq 34)])), ((aq 33), .inl (eI E, 18, .inl (vq 33))), ((aq 34), .inl (eI E, 24, .inl (vq 34))), ((aq 40), .inr (0, [.int (vq 40 0), .int (vq 41 0), .int (vq 42 0), .ref (aq 43), .ref (aq 44)])), ((aq 43), .inl (eI E, 18, .inl (vq 43))), ((aq 44), .inl (eI E, 24, .inl (vq 44))), ((aq 7), .inr (5, [.int (vq 60 0), .ref (aq 61), .ref (aq 62), .ref (aq 63)])), ((aq 61), .inl (eI E, 6, .inl (vq 61))), ((aq 62), .inl (eI E, 6, .inl (vq 62))), ((aq 63), .inl (eI E, 6, .inl (vq 63))), ((aq 8), .inr (5, [.int (vq 70 0), .ref (aq 71), .ref (aq 72), .ref (aq 73)])), ((aq 71), .inl (eI E, 6, .inl (vq 71))), ((aq 72), .inl (eI E, 6, .inl (vq 72))), ((aq 73), .inl (eI E, 6, .inl (vq 73))), ((aq 9), .inr (5, [.int (vq 80 0), .ref (aq 81), .ref (aq 82), .ref (aq 83)])), ((aq 81), .inl (eI E, 6, .inl (vq 81))), ((aq 82), .inl (eI E, 6, .inl (vq 82))), ((aq 83), .inl (eI E, 6, .inl (vq 83))), ((aq 10), .inr (5, [.int (vq 90 0), .ref (aq 91), .ref (aq 92), .ref (aq 93)])), ((aq 91), .inl (eI E, 6, .inl (vq 91))), ((aq 92), .inl (eI E, 6, .inl (vq 92))), ((aq 93), .inl (eI E, 6, .inl (vq 93))), ((ai 0), .inr (6, [.int (vi 0 0), .ref (ai 1), .ref (ai 2), .ref (ai 3), .int (vi 4 0), .int (vi 5 0), .int (vi 6 0), .int (vi 7 0), .int (vi 8 0)])), ((ai 1), .inl (eI E, 3, .inl (vi 1))), ((ai 2), .inl (eI E, 24, .inl (vi 2))), ((ai 3), .inl (eI E, 6, .inl (vi 3))), ((bi 0), .inr (6, [.int (vj 0 0), .ref (bi 1), .ref (bi 2), .ref (bi 3), .int (vj 4 0), .int (vj 5 0), .int (vj 6 0), .int (vj 7 0), .int (vj 8 0)])), ((bi 1), .inl (eI E, 3, .inl (vj 1))), ((bi 2), .inl (eI E, 24, .inl (vj 2))), ((bi 3), .inl (eI E, 6, .inl (vj 3)))]) (As := []) (rest := []) (C := RX4) (ci := 4) ⟨hx, hb, hml, hown, hts⟩ (c_X4_findFits l E s.heap.size (a 10) (a 402) (a 403) (a 404) (a 405) (a 407) (v 401 0) (v 406 0) (v 408 0) (v 409 0) (v 410 0) (v 402) (v 403) (v 404) (v 405) (v 407) (a 5) ap vp as_ vs hI hJ hG) (cwV 0 hts gX9_fits_X4_findFits rfl rfl rfl (by decide +kernel) ⟨Nat.le_of_ble_eq_true rfl, Nat.le_of_ble_eq_true rfl⟩) hE hS hA hP hD [12, 13, 14, 15, 16, 17, 18, 19, 20, 21, 22, 23, 24, 25, 26, 27, 28, 29, 30, 31, 32, 33, 34, 35, 36, 37, 38, 39, 40, 41, 42, 43, 44, 45, 46, 47, 48, 49, 50, 51] [0, 1, 2, 3, 4, 5, 6, 7, 8, 9, 10, 11, 52, 53, 54, 55, 56, 57, 58, 59, 60, 61, 62, 63, 64, 65, 66, 67, 68, 69, 70, 71, 72, 73, 74, 75, 76, 77, 78, 79, 80, 81, 82, 83, 84, 85, 86, 87, 88] rfl rfl (by decide) (by decide) (by decide) [0, 1, 2, 3, 4, 5, 6, 7, 8, 9, 10, 11, 49, 50, 51, 52, 53, 54, 55, 56, 57, 58, 59, 60, 61, 62, 63, 64, 65, 66, 67, 68, 69, 70, 71, 72, 73, 74, 75, 76, 77, 78, 79, 80, 81, 82, 83, 84, 85, 86, 87, 88, 12, 13, 14, 15, 16, 17, 18, 19, 20, 21, 22, 23, 24, 25, 26, 27, 28, 29, 30, 31, 32, 33, 34, 35, 36, 37, 38, 39, 40, 41, 42, 43, 44, 45, 46, 47, 48] (by decide) (fun u => rfl) rfl rfl rfl rfl hl.1 rfl (Nat.le_of_ble_eq_true rfl) dX9_fits_20 ⟨Nat.zero_le _, Nat.zero_le _⟩ (fun r20 u20 H locs h20 hP hD hS => ?_)
    obtain ⟨o20_fc, o20_s5⟩ := u20
    try dsimp only at h20
    replace hP : va_P (eD E) vwCl (tgL E a (up3 (up2 v 406 0 o20_fc) 405 o20_s5) cz0 cz1 rt rp aq vq ap vp as_ vs ai vi bi vj) H := hP
    replace hD : va_D A (tgL E a (up3 (up2 v 406 0 o20_fc) 405 o20_s5) cz0 cz1 rt rp aq vq ap vp as_ vs ai vi bi vj) := hD
    generalize hv20 : up3 (up2 v 406 0 o20_fc) 405 o20_s5 = v_20 at hP hD
    have hFz : fr [405, 406] v v_20 := by first | exact hFz | (rw [← hv20]; repeat' (first | exact hFz | refine fr.up ?_ (by decide) | refine fr.up3 ?_ (by decide)))
    have hT : TgI v_20 := by rw [← hv20]; exact hT
    have hG : SgI (v_20 401 0) (v_20 402) (v_20 403) (v_20 408 0) := by rw [← hv20]; exact hG
    have hF : fitI (v_20 406 0) (v_20 405) := by rw [← hv20]; exact h20.1
    refine lv_istore_n (lv' := [(3, .int r20), (0, .ref (a 99)), (1, .int i), (2, .int k)]) hx hb dX9_fits_23 rfl hl (by decide) rfl (fun ls hl => ?_)
    refine lv_iload_n hx hb dX9_fits_24 rfl (lv_at hl 2 rfl) ?_
    refine lv_iconst (v := (-1)) hx hb dX9_fits_25 (by decide) ?_
    refine lv_icmp_ne (tgt := 31) hx hb dX9_fits_26 (by decide) (fun c26 => ?_) (fun c26 => ?_)
    · have c26_ := i_ne c26
      refine lv_iload_n hx hb dX9_fits_31 rfl (lv_at hl 2 rfl) ?_
      refine lv_iconst (v := 0) hx hb dX9_fits_32 (by decide) ?_
      refine lv_iload_n hx hb dX9_fits_33 rfl (lv_at hl 0 rfl) ?_
      refine lv_iconst (v := 1) hx hb dX9_fits_34 (by decide) ?_
      refine lv_isub hx hb dX9_fits_35 ?_
      refine lv_topi (fun x35 e35 => ?_)
      refine rd_S (As := [.int i, .int 0, .int x35]) (rest := []) ⟨hx, hb, hml, hown, hts⟩ (c_X9_isOff l E A i 0 x35) (va_cwS 3 hts gX9_fits_X9_isOff rfl rfl rfl (by decide +kernel) ⟨Nat.le_of_ble_eq_true rfl, Nat.le_of_ble_eq_true rfl⟩) (hE.kept hS.2.1) (hP.sub (ws' := []) [] rfl) rfl hl.1 rfl (Nat.le_of_ble_eq_true rfl) dX9_fits_36 ⟨Nat.zero_le _, Nat.zero_le _⟩ (fun r36 h36 => ?_)
      refine lv_if_eq (tgt := 46) hx hb dX9_fits_39 (by decide) (fun c39 => ?_) (fun c39 => ?_)
      · have c39_ := i_eq c39
        replace h36 := or_n h36 c39_
        refine lv_aload_n hx hb dX9_fits_46 rfl (lv_at hl 1 rfl) ?_
        refine va_get (D := eD E) (ci := 9) (v := .ref (a 10)) (C := RX9) (T := TX9) (N := 13) hx hb hts in_X9 hown hK hP 0 rfl rfl 10 (by decide) lk0 (fun _ h9 => h9) rfl dX9_fits_47 ?_
        refine lv_iload_n hx hb dX9_fits_50 rfl (lv_at hl 2 rfl) ?_
        refine lv_iload_n hx hb dX9_fits_51 rfl (lv_at hl 3 rfl) ?_
        refine rd_V (As := [.int i, .int k]) (rest := []) (C := RX4) (ci := 4) ⟨hx, hb, hml, hown, hts⟩ (c_X4_shiftIn l E A (a 10) (a 402) (a 403) (a 404) (a 405) (a 407) (v_20 401 0) (v_20 406 0) (v_20 408 0) (v_20 409 0) (v_20 410 0) (v_20 402) (v_20 403) (v_20 404) (v_20 405) (v_20 407) (a 5) ap vp as_ vs i k hI hJ hG hF) (cwV 2 hts gX9_fits_X4_shiftIn rfl rfl rfl (by decide +kernel) ⟨Nat.le_of_ble_eq_true rfl, Nat.le_of_ble_eq_true rfl⟩) (hE.kept hS.2.1) (hP.sub (ws' := sgL E (a 10) (a 402) (a 403) (a 404) (a 405) (a 407) (v_20 401 0) (v_20 406 0) (v_20 408 0) (v_20 409 0) (v_20 410 0) (v_20 402) (v_20 403) (v_20 404) (v_20 405) (v_20 407) (a 5) ap vp as_ vs) [12, 13, 14, 15, 16, 17, 18, 19, 20, 21, 22, 23, 24, 25, 26, 27, 28, 29, 30, 31, 32, 33, 34, 35, 36, 37, 38, 39, 40, 41, 42, 43, 44, 45, 46, 47, 48, 49, 50, 51] rfl) rfl rfl rfl rfl hl.1 rfl (Nat.le_of_ble_eq_true rfl) dX9_fits_52 ⟨Nat.zero_le _, Nat.zero_le _⟩ (fun r52 h52 => ?_)
        subst hQ
        exact W.iret (v := r52) hx hb hr (fun t ht hW => ⟨⟨r52, (v_20), rfl, (show (TgA v_20 vp vq vs vi vj) ∧ fr [405, 406] v v_20 from ⟨⟨hT, hG, hI, hI2, hJ, hJi, hJj⟩, hFz⟩), by rw [ht]; exact hP, hD⟩, hS.F ht⟩) hS.2.2 dX9_fits_55
      · have c39_ := i_ne c39
        replace h36 := or_y h36 c39_
        clear c39_
        refine lv_iconst (v := (-1)) hx hb dX9_fits_42 (by decide) ?_
        refine lv_goto (tgt := 55) hx hb dX9_fits_43 (by decide) ?_
        subst hQ
        exact W.iret (v := (-1)) hx hb hr (fun t ht hW => ⟨⟨(-1), (v_20), rfl, (show (TgA v_20 vp vq vs vi vj) ∧ fr [405, 406] v v_20 from ⟨⟨hT, hG, hI, hI2, hJ, hJi, hJj⟩, hFz⟩), by rw [ht]; exact hP, hD⟩, hS.F ht⟩) hS.2.2 dX9_fits_55
    · have c26_ := i_eq c26
      refine lv_iload_n hx hb dX9_fits_29 rfl (lv_at hl 0 rfl) ?_
      subst hQ
      exact W.iret (v := r20) hx hb hr (fun t ht hW => ⟨⟨r20, (v_20), rfl, (show (TgA v_20 vp vq vs vi vj) ∧ fr [405, 406] v v_20 from ⟨⟨hT, hG, hI, hI2, hJ, hJi, hJj⟩, hFz⟩), by rw [ht]; exact hP, hD⟩, hS.F ht⟩) hS.2.2 dX9_fits_30
  · have c2_ := i_ne c2
    refine lv_aload_n hx hb dX9_fits_5 rfl (lv_at hl 0 rfl) ?_
    refine lv_iload_n hx hb dX9_fits_6 rfl (lv_at hl 2 rfl) ?_
    refine rd_V (As := [.int k]) (rest := []) (C := RX9) (ci := 9) ⟨hx, hb, hml, hown, hts⟩ (c_X9_isNoMoon l E A (up1 (up1 a 201 cz0) 202 cz1) v aq ap vp as_ vs k hI hJ hT) (cwV 1 hts gX9_fits_X9_isNoMoon rfl rfl rfl (by decide +kernel) ⟨Nat.le_of_ble_eq_true rfl, Nat.le_of_ble_eq_true rfl⟩) (hE.kept hS.2.1) (hP.sub (ws' := tgsL E (up1 (up1 a 201 cz0) 202 cz1) v aq ap vp as_ vs) [0, 2, 5, 8, 12, 18, 19, 20, 21, 22, 23, 24, 25, 26, 27, 28, 29, 30, 31, 32, 33, 34, 35, 36, 37, 38, 39, 40, 41, 42, 43, 44, 45, 46, 47, 48, 49, 50, 51] rfl) rfl rfl rfl rfl hl.1 rfl (Nat.le_of_ble_eq_true rfl) dX9_fits_7 ⟨Nat.zero_le _, Nat.zero_le _⟩ (fun r7 h7 => ?_)
    refine lv_if_eq (tgt := 16) hx hb dX9_fits_10 (by decide) (fun c10 => ?_) (fun c10 => ?_)
    · have c10_ := i_eq c10
      replace h7 := or_n h7 c10_
      refine lv_aload_n hx hb dX9_fits_16 rfl (lv_at hl 0 rfl) ?_
      refine va_get (D := eD E) (ci := 9) (v := .ref (a 10)) (C := RX9) (T := TX9) (N := 13) hx hb hts in_X9 hown hK hP 0 rfl rfl 10 (by decide) lk0 (fun _ h9 => h9) rfl dX9_fits_17 ?_
      refine mt_Vi (w1 := fun (u : Int32 × (Nat → Int32)) => sgL E (a 10) (a 402) (a 403) (a 404) (a 405) (a 407) (v 401 0) u.1 (v 408 0) (v 409 0) (v 410 0) (v 402) (v 403) (v 404) u.2 (v 407) (a 5) ap vp as_ vs) (wf := fun (u : Int32 × (Nat → Int32)) => tgL E a (up3 (up2 v 406 0 u.1) 405 u.2) cz0 cz1 rt rp aq vq ap vp as_ vs ai vi bi vj) (wr := [((a 99), .inr (9, [.ref (a 0), .int (v 1 0), .int (v 2 0), .ref (a 3), .ref (aq 0), .ref (a 5), .ref (as_ 0), .ref (a 7), .ref (a 8), .ref (a 9), .ref (a 10), .ref (a 11), .int (v 12 0)])), ((a 0), .inl (eI E, 250, .inl (v 0))), ((a 11), .inl (eI E, 30, .inl (v 11))), ((a 3), .inr (2, [rt, .int (v 101 0), .int (v 102 0), rp, .int (v 104 0), .int (v 105 0), .int (v 106 0), .int (v 107 0), .int (v 108 0)])), ((a 7), .inl (eS E, 2, .inr (.inr (.inr (.inr (fun i => some (cond (Nat.beq i 0) (ai 0) (bi 0)))))))), ((a 8), .inr (3, [.ref (a 5), .ref cz0, .ref cz1, .ref (a 203)])), (cz0, .inl (eI E, 24, .inl (v 201))), (cz1, .inl (eI E, 24, .inl (v 202))), ((a 203), .inl (eI E, 960, .inl (v 203))), ((a 9), .inr (7, [.ref (a 5), .ref (a 301), .ref (a 302), .int (v 303 0), .int (v 304 0)])), ((a 301), .inl (eI E, 5, .inl (v 301))), ((a 302), .inl (eI E, 5, .inl (v 302))), ((aq 0), .inr (1, [.int (vq 0 0), .int (vq 1 0), .int (vq 2 0), .ref (aq 3), .ref (aq 4), .int (vq 5 0), .ref (aq 6), .ref (aq 7), .ref (aq 8), .ref (aq 9), .ref (aq 10)])), ((aq 3), .inl (eI E, 24, .inl (vq 3))), ((aq 4), .inl (eI E, 24, .inl (vq 4))), ((aq 6), .inl (eM E, 3, .inr (.inr (.inr (.inr (fun i => some (aq (20 + 10 * i)))))))), ((aq 20), .inr (0, [.int (vq 20 0), .int (vq 21 0), .int (vq 22 0), .ref (aq 23), .ref (aq 24)])), ((aq 23), .inl (eI E, 18, .inl (vq 23))), ((aq 24), .inl (eI E, 24, .inl (vq 24))), ((aq 30), .inr (0, [.int (vq 30 0), .int (vq 31 0), .int (vq 32 0), .ref (aq 33), .ref (aq 34)])), ((aq 33), .inl (eI E, 18, .inl (vq 33))), ((aq 34), .inl (eI E, 24, .inl (vq 34))), ((aq 40), .inr (0, [.int (vq 40 0), .int (vq 41 0), .int (vq 42 0), .ref (aq 43), .ref (aq 44)])), ((aq 43), .inl (eI E, 18, .inl (vq 43))), ((aq 44), .inl (eI E, 24, .inl (vq 44))), ((aq 7), .inr (5, [.int (vq 60 0), .ref (aq 61), .ref (aq 62), .ref (aq 63)])), ((aq 61), .inl (eI E, 6, .inl (vq 61))), ((aq 62), .inl (eI E, 6, .inl (vq 62))), ((aq 63), .inl (eI E, 6, .inl (vq 63))), ((aq 8), .inr (5, [.int (vq 70 0), .ref (aq 71), .ref (aq 72), .ref (aq 73)])), ((aq 71), .inl (eI E, 6, .inl (vq 71))), ((aq 72), .inl (eI E, 6, .inl (vq 72))), ((aq 73), .inl (eI E, 6, .inl (vq 73))), ((aq 9), .inr (5, [.int (vq 80 0), .ref (aq 81), .ref (aq 82), .ref (aq 83)])), ((aq 81), .inl (eI E, 6, .inl (vq 81))), ((aq 82), .inl (eI E, 6, .inl (vq 82))), ((aq 83), .inl (eI E, 6, .inl (vq 83))), ((aq 10), .inr (5, [.int (vq 90 0), .ref (aq 91), .ref (aq 92), .ref (aq 93)])), ((aq 91), .inl (eI E, 6, .inl (vq 91))), ((aq 92), .inl (eI E, 6, .inl (vq 92))), ((aq 93), .inl (eI E, 6, .inl (vq 93))), ((ai 0), .inr (6, [.int (vi 0 0), .ref (ai 1), .ref (ai 2), .ref (ai 3), .int (vi 4 0), .int (vi 5 0), .int (vi 6 0), .int (vi 7 0), .int (vi 8 0)])), ((ai 1), .inl (eI E, 3, .inl (vi 1))), ((ai 2), .inl (eI E, 24, .inl (vi 2))), ((ai 3), .inl (eI E, 6, .inl (vi 3))), ((bi 0), .inr (6, [.int (vj 0 0), .ref (bi 1), .ref (bi 2), .ref (bi 3), .int (vj 4 0), .int (vj 5 0), .int (vj 6 0), .int (vj 7 0), .int (vj 8 0)])), ((bi 1), .inl (eI E, 3, .inl (vj 1))), ((bi 2), .inl (eI E, 24, .inl (vj 2))), ((bi 3), .inl (eI E, 6, .inl (vj 3)))]) (As := []) (rest := []) (C := RX4) (ci := 4) ⟨hx, hb, hml, hown, hts⟩ (c_X4_findFits l E s.heap.size (a 10) (a 402) (a 403) (a 404) (a 405) (a 407) (v 401 0) (v 406 0) (v 408 0) (v 409 0) (v 410 0) (v 402) (v 403) (v 404) (v 405) (v 407) (a 5) ap vp as_ vs hI hJ hG) (cwV 0 hts gX9_fits_X4_findFits rfl rfl rfl (by decide +kernel) ⟨Nat.le_of_ble_eq_true rfl, Nat.le_of_ble_eq_true rfl⟩) hE hS hA hP hD [12, 13, 14, 15, 16, 17, 18, 19, 20, 21, 22, 23, 24, 25, 26, 27, 28, 29, 30, 31, 32, 33, 34, 35, 36, 37, 38, 39, 40, 41, 42, 43, 44, 45, 46, 47, 48, 49, 50, 51] [0, 1, 2, 3, 4, 5, 6, 7, 8, 9, 10, 11, 52, 53, 54, 55, 56, 57, 58, 59, 60, 61, 62, 63, 64, 65, 66, 67, 68, 69, 70, 71, 72, 73, 74, 75, 76, 77, 78, 79, 80, 81, 82, 83, 84, 85, 86, 87, 88] rfl rfl (by decide) (by decide) (by decide) [0, 1, 2, 3, 4, 5, 6, 7, 8, 9, 10, 11, 49, 50, 51, 52, 53, 54, 55, 56, 57, 58, 59, 60, 61, 62, 63, 64, 65, 66, 67, 68, 69, 70, 71, 72, 73, 74, 75, 76, 77, 78, 79, 80, 81, 82, 83, 84, 85, 86, 87, 88, 12, 13, 14, 15, 16, 17, 18, 19, 20, 21, 22, 23, 24, 25, 26, 27, 28, 29, 30, 31, 32, 33, 34, 35, 36, 37, 38, 39, 40, 41, 42, 43, 44, 45, 46, 47, 48] (by decide) (fun u => rfl) rfl rfl rfl rfl hl.1 rfl (Nat.le_of_ble_eq_true rfl) dX9_fits_20 ⟨Nat.zero_le _, Nat.zero_le _⟩ (fun r20 u20 H locs h20 hP hD hS => ?_)
      obtain ⟨o20_fc, o20_s5⟩ := u20
      try dsimp only at h20
      replace hP : va_P (eD E) vwCl (tgL E a (up3 (up2 v 406 0 o20_fc) 405 o20_s5) cz0 cz1 rt rp aq vq ap vp as_ vs ai vi bi vj) H := hP
      replace hD : va_D A (tgL E a (up3 (up2 v 406 0 o20_fc) 405 o20_s5) cz0 cz1 rt rp aq vq ap vp as_ vs ai vi bi vj) := hD
      generalize hv20 : up3 (up2 v 406 0 o20_fc) 405 o20_s5 = v_20 at hP hD
      have hFz : fr [405, 406] v v_20 := by first | exact hFz | (rw [← hv20]; repeat' (first | exact hFz | refine fr.up ?_ (by decide) | refine fr.up3 ?_ (by decide)))
      have hT : TgI v_20 := by rw [← hv20]; exact hT
      have hG : SgI (v_20 401 0) (v_20 402) (v_20 403) (v_20 408 0) := by rw [← hv20]; exact hG
      have hF : fitI (v_20 406 0) (v_20 405) := by rw [← hv20]; exact h20.1
      refine lv_istore_n (lv' := [(3, .int r20), (0, .ref (a 99)), (1, .int i), (2, .int k)]) hx hb dX9_fits_23 rfl hl (by decide) rfl (fun ls hl => ?_)
      refine lv_iload_n hx hb dX9_fits_24 rfl (lv_at hl 2 rfl) ?_
      refine lv_iconst (v := (-1)) hx hb dX9_fits_25 (by decide) ?_
      refine lv_icmp_ne (tgt := 31) hx hb dX9_fits_26 (by decide) (fun c26 => ?_) (fun c26 => ?_)
      · have c26_ := i_ne c26
        refine lv_iload_n hx hb dX9_fits_31 rfl (lv_at hl 2 rfl) ?_
        refine lv_iconst (v := 0) hx hb dX9_fits_32 (by decide) ?_
        refine lv_iload_n hx hb dX9_fits_33 rfl (lv_at hl 0 rfl) ?_
        refine lv_iconst (v := 1) hx hb dX9_fits_34 (by decide) ?_
        refine lv_isub hx hb dX9_fits_35 ?_
        refine lv_topi (fun x35 e35 => ?_)
        refine rd_S (As := [.int i, .int 0, .int x35]) (rest := []) ⟨hx, hb, hml, hown, hts⟩ (c_X9_isOff l E A i 0 x35) (va_cwS 3 hts gX9_fits_X9_isOff rfl rfl rfl (by decide +kernel) ⟨Nat.le_of_ble_eq_true rfl, Nat.le_of_ble_eq_true rfl⟩) (hE.kept hS.2.1) (hP.sub (ws' := []) [] rfl) rfl hl.1 rfl (Nat.le_of_ble_eq_true rfl) dX9_fits_36 ⟨Nat.zero_le _, Nat.zero_le _⟩ (fun r36 h36 => ?_)
        refine lv_if_eq (tgt := 46) hx hb dX9_fits_39 (by decide) (fun c39 => ?_) (fun c39 => ?_)
        · have c39_ := i_eq c39
          replace h36 := or_n h36 c39_
          refine lv_aload_n hx hb dX9_fits_46 rfl (lv_at hl 1 rfl) ?_
          refine va_get (D := eD E) (ci := 9) (v := .ref (a 10)) (C := RX9) (T := TX9) (N := 13) hx hb hts in_X9 hown hK hP 0 rfl rfl 10 (by decide) lk0 (fun _ h9 => h9) rfl dX9_fits_47 ?_
          refine lv_iload_n hx hb dX9_fits_50 rfl (lv_at hl 2 rfl) ?_
          refine lv_iload_n hx hb dX9_fits_51 rfl (lv_at hl 3 rfl) ?_
          refine rd_V (As := [.int i, .int k]) (rest := []) (C := RX4) (ci := 4) ⟨hx, hb, hml, hown, hts⟩ (c_X4_shiftIn l E A (a 10) (a 402) (a 403) (a 404) (a 405) (a 407) (v_20 401 0) (v_20 406 0) (v_20 408 0) (v_20 409 0) (v_20 410 0) (v_20 402) (v_20 403) (v_20 404) (v_20 405) (v_20 407) (a 5) ap vp as_ vs i k hI hJ hG hF) (cwV 2 hts gX9_fits_X4_shiftIn rfl rfl rfl (by decide +kernel) ⟨Nat.le_of_ble_eq_true rfl, Nat.le_of_ble_eq_true rfl⟩) (hE.kept hS.2.1) (hP.sub (ws' := sgL E (a 10) (a 402) (a 403) (a 404) (a 405) (a 407) (v_20 401 0) (v_20 406 0) (v_20 408 0) (v_20 409 0) (v_20 410 0) (v_20 402) (v_20 403) (v_20 404) (v_20 405) (v_20 407) (a 5) ap vp as_ vs) [12, 13, 14, 15, 16, 17, 18, 19, 20, 21, 22, 23, 24, 25, 26, 27, 28, 29, 30, 31, 32, 33, 34, 35, 36, 37, 38, 39, 40, 41, 42, 43, 44, 45, 46, 47, 48, 49, 50, 51] rfl) rfl rfl rfl rfl hl.1 rfl (Nat.le_of_ble_eq_true rfl) dX9_fits_52 ⟨Nat.zero_le _, Nat.zero_le _⟩ (fun r52 h52 => ?_)
          subst hQ
          exact W.iret (v := r52) hx hb hr (fun t ht hW => ⟨⟨r52, (v_20), rfl, (show (TgA v_20 vp vq vs vi vj) ∧ fr [405, 406] v v_20 from ⟨⟨hT, hG, hI, hI2, hJ, hJi, hJj⟩, hFz⟩), by rw [ht]; exact hP, hD⟩, hS.F ht⟩) hS.2.2 dX9_fits_55
        · have c39_ := i_ne c39
          replace h36 := or_y h36 c39_
          clear c39_
          refine lv_iconst (v := (-1)) hx hb dX9_fits_42 (by decide) ?_
          refine lv_goto (tgt := 55) hx hb dX9_fits_43 (by decide) ?_
          subst hQ
          exact W.iret (v := (-1)) hx hb hr (fun t ht hW => ⟨⟨(-1), (v_20), rfl, (show (TgA v_20 vp vq vs vi vj) ∧ fr [405, 406] v v_20 from ⟨⟨hT, hG, hI, hI2, hJ, hJi, hJj⟩, hFz⟩), by rw [ht]; exact hP, hD⟩, hS.F ht⟩) hS.2.2 dX9_fits_55
      · have c26_ := i_eq c26
        refine lv_iload_n hx hb dX9_fits_29 rfl (lv_at hl 0 rfl) ?_
        subst hQ
        exact W.iret (v := r20) hx hb hr (fun t ht hW => ⟨⟨r20, (v_20), rfl, (show (TgA v_20 vp vq vs vi vj) ∧ fr [405, 406] v v_20 from ⟨⟨hT, hG, hI, hI2, hJ, hJi, hJj⟩, hFz⟩), by rw [ht]; exact hP, hD⟩, hS.F ht⟩) hS.2.2 dX9_fits_30
    · have c10_ := i_ne c10
      replace h7 := or_y h7 c10_
      clear c10_
      refine lv_ldc hx hb hown lk1 dX9_fits_13 ?_
      subst hQ
      exact W.iret (v := (-1000000001)) hx hb hr (fun t ht hW => ⟨⟨(-1000000001), (v), rfl, (show (TgA v vp vq vs vi vj) ∧ fr [405, 406] v v from ⟨hTA, hFz⟩), by rw [ht]; exact hP, hD⟩, hS.F ht⟩) hS.2.2 dX9_fits_15
def rm_X9_look : Room := { frames := 5, cells := 0, slots := 0, locals := 119 }
set_option maxHeartbeats 4000000 in
set_option maxRecDepth 100000 in
theorem c_X9_look (l : Launch) (E : Ev) (sz : Nat) (a : Nat → Nat) (v : Vf) (cz0 : Nat) (cz1 : Nat) (rt : Value) (rp : Value) (aq : Nat → Nat) (vq : Vf) (ap : Nat → Nat) (vp : Vf) (as_ : Nat → Nat) (vs : Vf) (ai : Nat → Nat) (vi : Vf) (bi : Nat → Nat) (vj : Vf) (what : Int32) (hTA : TgA v vp vq vs vi vj) : Met l yX9_look wsX9_look rm_X9_look (MtP E sz [.ref (a 99), .int what] (tgL E a v cz0 cz1 rt rp aq vq ap vp as_ vs ai vi bi vj)) (va_Qi (fun (r : Int32) (u : Vf) => (TgA u vp vq vs vi vj) ∧ fr [405, 406, 407, 408, 409, 410] v u) (MtB E (va_A (tgL E a v cz0 cz1 rt rp aq vq ap vp as_ vs ai vi bi vj) sz) (fun u => tgL E a u cz0 cz1 rt rp aq vq ap vp as_ vs ai vi bi vj)) (va_A (tgL E a v cz0 cz1 rt rp aq vq ap vp as_ vs ai vi bi vj) sz)) 0 0 (va_A (tgL E a v cz0 cz1 rt rp aq vq ap vp as_ vs ai vi bi vj) sz) := by
  refine Met.ofW (cc := cX9_look) (maxL := 2) (ret := (some .int)) (by decide) rfl ?_
  intro p e s m args below meth c s₁ B hml hv
  obtain ⟨rfl, hsz, hE, hP, hD0⟩ := hv
  subst hsz
  have hD := hD0.self (sz := s.heap.size)
  generalize hAe : va_A (tgL E a v cz0 cz1 rt rp aq vq ap vp as_ vs ai vi bi vj) s.heap.size = A at hD hE ⊢
  have hA : ∀ q : Nat, s.heap.size ≤ q → A q := fun q h => by rw [← hAe]; exact Or.inr h
  have hS : va_S A s.heap s.heap [] := va_S.rf
  have hx := B.exec
  have hb := B.bytes
  have hr := B.returns
  have hts := atoms_spec (ws := wsX9_look) B.pre
  have hown : s.vm.findClass RX9 = some m.cls := findClass_of_methodNamed B.named
  have hlocks := B.notSynchronized
  have hK := hE.1
  have in_X9 : ∀ w ∈ u_ws RX9 TX9 13, w ∈ wsX9_look := fun w h => List.mem_cons_of_mem _ (List.mem_append_left _ (List.mem_append_left _ (List.mem_append_left _ (List.mem_append_left _ (List.mem_append_left _ (List.mem_append_right _ h))))))
  have in_X4 : ∀ w ∈ u_ws RX4 TX4 11, w ∈ wsX9_look := fun w h => List.mem_cons_of_mem _ (List.mem_append_left _ (List.mem_append_left _ (List.mem_append_left _ (List.mem_append_right _ h))))
  have in_X8 : ∀ w ∈ u_ws RX8 TX8 2, w ∈ wsX9_look := fun w h => List.mem_cons_of_mem _ (List.mem_append_left _ (List.mem_append_left _ (List.mem_append_left _ (List.mem_append_left _ (List.mem_append_right _ h)))))
  have lk0 := hts (.fieldLink RX9 70 "TidedGround" "sightings" "LTidedGround$Sightings;") (List.mem_of_getElem? (i := 2) rfl)
  have lk1 := hts (.fieldLink RX9 317 "TidedGround$Sightings" "lookLeft" "I") (List.mem_of_getElem? (i := 7) rfl)
  have lk2 := hts (.fieldLink RX9 314 "TidedGround$Sightings" "lookStep" "I") (List.mem_of_getElem? (i := 6) rfl)
  have lk3 := hts (.fieldLink RX9 43 "TidedGround" "world" "LTidedGround$World;") (List.mem_of_getElem? (i := 3) rfl)
  have lk4 := hts (.fieldLink RX9 91 "TidedGround$World" "plan" "LTidedGround$Plan;") (List.mem_of_getElem? (i := 4) rfl)
  have lk5 := hts (.fieldLink RX9 311 "TidedGround$Sightings" "lookCell" "I") (List.mem_of_getElem? (i := 5) rfl)
  have lk6 := hts (.constant RX9 81 (-1000000002)) (List.mem_of_getElem? (i := 1) rfl)
  have n_m1000000002 : ((-1000000002) : Int32).toInt = -1000000002 := by decide
  have n_m1 : ((-1) : Int32).toInt = -1 := by decide
  have n_0 : (0 : Int32).toInt = 0 := by decide
  have n_1 : (1 : Int32).toInt = 1 := by decide
  have n_2 : (2 : Int32).toInt = 2 := by decide
  have hl := lv_entry ([.ref (a 99), .int what]) (n := 2) (Nat.le_of_ble_eq_true rfl)
  rw [lg_entry_eq]
  generalize (lg_sl ([.ref (a 99), .int what]) ++ List.replicate (2 - (lg_sl ([.ref (a 99), .int what])).length) Slot.unset).toArray = ls at hl ⊢
  have hl : lv_has ls 2 [(0, .ref (a 99)), (1, .int what)] := hl
  refine W_abs (fun Q hQ => ?_)
  obtain ⟨hT, hG, hI, hI2, hJ, hJi, hJj⟩ := id hTA
  obtain ⟨hT1, hT2⟩ := id hT
  have hJ_vs := hJ
  have hJ_vi := hJi
  have hJ_vj := hJj
  obtain ⟨hg, hmc, hm0, hm1, hm2, hs0, hs1, hs2, hs3⟩ := id hI
  obtain ⟨hg1, hg2, hg3, hg4⟩ := id hg
  have hz0 := hm0.1
  have hz1 := hm1.1
  have hz2 := hm2.1
  have hc0 := hs0.1
  have hc1 := hs1.1
  have hc2 := hs2.1
  have hc3 := hs3.1
  obtain ⟨hj0, hj1, hj2⟩ := id hJ
  have hg5 : 0 ≤ (vp 2 0).toInt := by rw [hg3]; exact Int.mul_nonneg hg1.1 hg2.1
  have hG1 := hG.1
  have hG4 := hG.2.2.2
  have hFz : fr [405, 406, 407, 408, 409, 410] v v := fr.rf
  refine lv_iload_n hx hb dX9_look_0 rfl (lv_at hl 1 rfl) ?_
  refine lv_iconst (v := 0) hx hb dX9_look_1 (by decide) ?_
  refine lv_iconst (v := 2) hx hb dX9_look_2 (by decide) ?_
  refine rd_S (As := [.int what, .int 0, .int 2]) (rest := []) ⟨hx, hb, hml, hown, hts⟩ (c_X9_isOff l E A what 0 2) (va_cwS 3 hts gX9_look_X9_isOff rfl rfl rfl (by decide +kernel) ⟨Nat.le_of_ble_eq_true rfl, Nat.le_of_ble_eq_true rfl⟩) (hE.kept hS.2.1) (hP.sub (ws' := []) [] rfl) rfl hl.1 rfl (Nat.le_of_ble_eq_true rfl) dX9_look_3 ⟨Nat.zero_le _, Nat.zero_le _⟩ (fun r3 h3 => ?_)
  refine lv_if_eq (tgt := 12) hx hb dX9_look_6 (by decide) (fun c6 => ?_) (fun c6 => ?_)
  · have c6_ := i_eq c6
    replace h3 := or_n h3 c6_
    refine lv_aload_n hx hb dX9_look_12 rfl (lv_at hl 0 rfl) ?_
    refine va_get (D := eD E) (ci := 9) (v := .ref (a 10)) (C := RX9) (T := TX9) (N := 13) hx hb hts in_X9 hown hK hP 0 rfl rfl 10 (by decide) lk0 (fun _ h9 => h9) rfl dX9_look_13 ?_
    refine mt_Vi (w1 := fun (u : Int32 × (Nat → Int32) × (Nat → Int32) × Int32 × Int32 × Int32) => sgL E (a 10) (a 402) (a 403) (a 404) (a 405) (a 407) (v 401 0) u.1 u.2.2.2.1 u.2.2.2.2.1 u.2.2.2.2.2 (v 402) (v 403) (v 404) u.2.1 u.2.2.1 (a 5) ap vp as_ vs) (wf := fun (u : Int32 × (Nat → Int32) × (Nat → Int32) × Int32 × Int32 × Int32) => tgL E a (up2 (up2 (up2 (up3 (up3 (up2 v 406 0 u.1) 405 u.2.1) 407 u.2.2.1) 408 0 u.2.2.2.1) 409 0 u.2.2.2.2.1) 410 0 u.2.2.2.2.2) cz0 cz1 rt rp aq vq ap vp as_ vs ai vi bi vj) (wr := [((a 99), .inr (9, [.ref (a 0), .int (v 1 0), .int (v 2 0), .ref (a 3), .ref (aq 0), .ref (a 5), .ref (as_ 0), .ref (a 7), .ref (a 8), .ref (a 9), .ref (a 10), .ref (a 11), .int (v 12 0)])), ((a 0), .inl (eI E, 250, .inl (v 0))), ((a 11), .inl (eI E, 30, .inl (v 11))), ((a 3), .inr (2, [rt, .int (v 101 0), .int (v 102 0), rp, .int (v 104 0), .int (v 105 0), .int (v 106 0), .int (v 107 0), .int (v 108 0)])), ((a 7), .inl (eS E, 2, .inr (.inr (.inr (.inr (fun i => some (cond (Nat.beq i 0) (ai 0) (bi 0)))))))), ((a 8), .inr (3, [.ref (a 5), .ref cz0, .ref cz1, .ref (a 203)])), (cz0, .inl (eI E, 24, .inl (v 201))), (cz1, .inl (eI E, 24, .inl (v 202))), ((a 203), .inl (eI E, 960, .inl (v 203))), ((a 9), .inr (7, [.ref (a 5), .ref (a 301), .ref (a 302), .int (v 303 0), .int (v 304 0)])), ((a 301), .inl (eI E, 5, .inl (v 301))), ((a 302), .inl (eI E, 5, .inl (v 302))), ((aq 0), .inr (1, [.int (vq 0 0), .int (vq 1 0), .int (vq 2 0), .ref (aq 3), .ref (aq 4), .int (vq 5 0), .ref (aq 6), .ref (aq 7), .ref (aq 8), .ref (aq 9), .ref (aq 10)])), ((aq 3), .inl (eI E, 24, .inl (vq 3))), ((aq 4), .inl (eI E, 24, .inl (vq 4))), ((aq 6), .inl (eM E, 3, .inr (.inr (.inr (.inr (fun i => some (aq (20 + 10 * i)))))))), ((aq 20), .inr (0, [.int (vq 20 0), .int (vq 21 0), .int (vq 22 0), .ref (aq 23), .ref (aq 24)])), ((aq 23), .inl (eI E, 18, .inl (vq 23))), ((aq 24), .inl (eI E, 24, .inl (vq 24))), ((aq 30), .inr (0, [.int (vq 30 0), .int (vq 31 0), .int (vq 32 0), .ref (aq 33), .ref (aq 34)])), ((aq 33), .inl (eI E, 18, .inl (vq 33))), ((aq 34), .inl (eI E, 24, .inl (vq 34))), ((aq 40), .inr (0, [.int (vq 40 0), .int (vq 41 0), .int (vq 42 0), .ref (aq 43), .ref (aq 44)])), ((aq 43), .inl (eI E, 18, .inl (vq 43))), ((aq 44), .inl (eI E, 24, .inl (vq 44))), ((aq 7), .inr (5, [.int (vq 60 0), .ref (aq 61), .ref (aq 62), .ref (aq 63)])), ((aq 61), .inl (eI E, 6, .inl (vq 61))), ((aq 62), .inl (eI E, 6, .inl (vq 62))), ((aq 63), .inl (eI E, 6, .inl (vq 63))), ((aq 8), .inr (5, [.int (vq 70 0), .ref (aq 71), .ref (aq 72), .ref (aq 73)])), ((aq 71), .inl (eI E, 6, .inl (vq 71))), ((aq 72), .inl (eI E, 6, .inl (vq 72))), ((aq 73), .inl (eI E, 6, .inl (vq 73))), ((aq 9), .inr (5, [.int (vq 80 0), .ref (aq 81), .ref (aq 82), .ref (aq 83)])), ((aq 81), .inl (eI E, 6, .inl (vq 81))), ((aq 82), .inl (eI E, 6, .inl (vq 82))), ((aq 83), .inl (eI E, 6, .inl (vq 83))), ((aq 10), .inr (5, [.int (vq 90 0), .ref (aq 91), .ref (aq 92), .ref (aq 93)])), ((aq 91), .inl (eI E, 6, .inl (vq 91))), ((aq 92), .inl (eI E, 6, .inl (vq 92))), ((aq 93), .inl (eI E, 6, .inl (vq 93))), ((ai 0), .inr (6, [.int (vi 0 0), .ref (ai 1), .ref (ai 2), .ref (ai 3), .int (vi 4 0), .int (vi 5 0), .int (vi 6 0), .int (vi 7 0), .int (vi 8 0)])), ((ai 1), .inl (eI E, 3, .inl (vi 1))), ((ai 2), .inl (eI E, 24, .inl (vi 2))), ((ai 3), .inl (eI E, 6, .inl (vi 3))), ((bi 0), .inr (6, [.int (vj 0 0), .ref (bi 1), .ref (bi 2), .ref (bi 3), .int (vj 4 0), .int (vj 5 0), .int (vj 6 0), .int (vj 7 0), .int (vj 8 0)])), ((bi 1), .inl (eI E, 3, .inl (vj 1))), ((bi 2), .inl (eI E, 24, .inl (vj 2))), ((bi 3), .inl (eI E, 6, .inl (vj 3)))]) (As := []) (rest := []) (C := RX4) (ci := 4) ⟨hx, hb, hml, hown, hts⟩ (c_X4_findBestLook l E s.heap.size (a 10) (a 402) (a 403) (a 404) (a 405) (a 407) (v 401 0) (v 406 0) (v 408 0) (v 409 0) (v 410 0) (v 402) (v 403) (v 404) (v 405) (v 407) (a 5) ap vp as_ vs hI hJ hG) (cwV 0 hts gX9_look_X4_findBestLook rfl rfl rfl (by decide +kernel) ⟨Nat.le_of_ble_eq_true rfl, Nat.le_of_ble_eq_true rfl⟩) hE hS hA hP hD [12, 13, 14, 15, 16, 17, 18, 19, 20, 21, 22, 23, 24, 25, 26, 27, 28, 29, 30, 31, 32, 33, 34, 35, 36, 37, 38, 39, 40, 41, 42, 43, 44, 45, 46, 47, 48, 49, 50, 51] [0, 1, 2, 3, 4, 5, 6, 7, 8, 9, 10, 11, 52, 53, 54, 55, 56, 57, 58, 59, 60, 61, 62, 63, 64, 65, 66, 67, 68, 69, 70, 71, 72, 73, 74, 75, 76, 77, 78, 79, 80, 81, 82, 83, 84, 85, 86, 87, 88] rfl rfl (by decide) (by decide) (by decide) [0, 1, 2, 3, 4, 5, 6, 7, 8, 9, 10, 11, 49, 50, 51, 52, 53, 54, 55, 56, 57, 58, 59, 60, 61, 62, 63, 64, 65, 66, 67, 68, 69, 70, 71, 72, 73, 74, 75, 76, 77, 78, 79, 80, 81, 82, 83, 84, 85, 86, 87, 88, 12, 13, 14, 15, 16, 17, 18, 19, 20, 21, 22, 23, 24, 25, 26, 27, 28, 29, 30, 31, 32, 33, 34, 35, 36, 37, 38, 39, 40, 41, 42, 43, 44, 45, 46, 47, 48] (by decide) (fun u => rfl) rfl rfl rfl rfl hl.1 rfl (Nat.le_of_ble_eq_true rfl) dX9_look_16 ⟨Nat.zero_le _, Nat.zero_le _⟩ (fun r16 u16 H locs h16 hP hD hS => ?_)
    obtain ⟨o16_fc, o16_s5, o16_s7, o16_l1, o16_l2, o16_l3⟩ := u16
    try dsimp only at h16
    replace hP : va_P (eD E) vwCl (tgL E a (up2 (up2 (up2 (up3 (up3 (up2 v 406 0 o16_fc) 405 o16_s5) 407 o16_s7) 408 0 o16_l1) 409 0 o16_l2) 410 0 o16_l3) cz0 cz1 rt rp aq vq ap vp as_ vs ai vi bi vj) H := hP
    replace hD : va_D A (tgL E a (up2 (up2 (up2 (up3 (up3 (up2 v 406 0 o16_fc) 405 o16_s5) 407 o16_s7) 408 0 o16_l1) 409 0 o16_l2) 410 0 o16_l3) cz0 cz1 rt rp aq vq ap vp as_ vs ai vi bi vj) := hD
    generalize hv16 : up2 (up2 (up2 (up3 (up3 (up2 v 406 0 o16_fc) 405 o16_s5) 407 o16_s7) 408 0 o16_l1) 409 0 o16_l2) 410 0 o16_l3 = v_16 at hP hD
    have hFz : fr [405, 406, 407, 408, 409, 410] v v_16 := by first | exact hFz | (rw [← hv16]; repeat' (first | exact hFz | refine fr.up ?_ (by decide) | refine fr.up3 ?_ (by decide)))
    have hT : TgI v_16 := by rw [← hv16]; exact hT
    have hG : SgI (v_16 401 0) (v_16 402) (v_16 403) (v_16 408 0) := by rw [← hv16]; exact h16.2.2
    have hG4 := hG.2.2.2
    refine lv_if_ne (tgt := 24) hx hb dX9_look_19 (by decide) (fun c19 => ?_) (fun c19 => ?_)
    · have c19_ := i_ne c19
      refine lv_iload_n hx hb dX9_look_24 rfl (lv_at hl 1 rfl) ?_
      refine lv_if_ne (tgt := 46) hx hb dX9_look_25 (by decide) (fun c25 => ?_) (fun c25 => ?_)
      · have c25_ := i_ne c25
        refine lv_iload_n hx hb dX9_look_46 rfl (lv_at hl 1 rfl) ?_
        refine lv_iconst (v := 1) hx hb dX9_look_47 (by decide) ?_
        refine lv_icmp_ne (tgt := 61) hx hb dX9_look_48 (by decide) (fun c48 => ?_) (fun c48 => ?_)
        · have c48_ := i_ne c48
          refine lv_aload_n hx hb dX9_look_61 rfl (lv_at hl 0 rfl) ?_
          refine va_get (D := eD E) (ci := 9) (v := .ref (a 10)) (C := RX9) (T := TX9) (N := 13) hx hb hts in_X9 hown hK hP 0 rfl rfl 10 (by decide) lk0 (fun _ h9 => h9) rfl dX9_look_62 ?_
          refine va_get (D := eD E) (ci := 4) (v := .int (v_16 410 0)) (C := RX4) (T := TX4) (N := 11) hx hb hts in_X4 hown hK hP 12 rfl rfl 10 (by decide) lk1 (fun _ h9 => h9) rfl dX9_look_65 ?_
          subst hQ
          exact W.iret (v := (v_16 410 0)) hx hb hr (fun t ht hW => ⟨⟨(v_16 410 0), (v_16), rfl, (show (TgA v_16 vp vq vs vi vj) ∧ fr [405, 406, 407, 408, 409, 410] v v_16 from ⟨⟨hT, hG, hI, hI2, hJ, hJi, hJj⟩, hFz⟩), by rw [ht]; exact hP, hD⟩, hS.F ht⟩) hS.2.2 dX9_look_68
        · have c48_ := i_eq c48
          refine lv_aload_n hx hb dX9_look_51 rfl (lv_at hl 0 rfl) ?_
          refine va_get (D := eD E) (ci := 9) (v := .ref (a 10)) (C := RX9) (T := TX9) (N := 13) hx hb hts in_X9 hown hK hP 0 rfl rfl 10 (by decide) lk0 (fun _ h9 => h9) rfl dX9_look_52 ?_
          refine va_get (D := eD E) (ci := 4) (v := .int (v_16 409 0)) (C := RX4) (T := TX4) (N := 11) hx hb hts in_X4 hown hK hP 12 rfl rfl 9 (by decide) lk2 (fun _ h9 => h9) rfl dX9_look_55 ?_
          refine lv_goto (tgt := 68) hx hb dX9_look_58 (by decide) ?_
          subst hQ
          exact W.iret (v := (v_16 409 0)) hx hb hr (fun t ht hW => ⟨⟨(v_16 409 0), (v_16), rfl, (show (TgA v_16 vp vq vs vi vj) ∧ fr [405, 406, 407, 408, 409, 410] v v_16 from ⟨⟨hT, hG, hI, hI2, hJ, hJi, hJj⟩, hFz⟩), by rw [ht]; exact hP, hD⟩, hS.F ht⟩) hS.2.2 dX9_look_68
      · have c25_ := i_eq c25
        refine lv_aload_n hx hb dX9_look_28 rfl (lv_at hl 0 rfl) ?_
        refine va_get (D := eD E) (ci := 9) (v := .ref (a 5)) (C := RX9) (T := TX9) (N := 13) hx hb hts in_X9 hown hK hP 0 rfl rfl 5 (by decide) lk3 (fun _ h9 => h9) rfl dX9_look_29 ?_
        refine va_get (D := eD E) (ci := 8) (v := .ref (ap 0)) (C := RX8) (T := TX8) (N := 2) hx hb hts in_X8 hown hK hP 18 rfl rfl 0 (by decide) lk4 (fun _ h9 => h9) rfl dX9_look_32 ?_
        refine lv_aload_n hx hb dX9_look_35 rfl (lv_at hl 0 rfl) ?_
        refine va_get (D := eD E) (ci := 9) (v := .ref (a 10)) (C := RX9) (T := TX9) (N := 13) hx hb hts in_X9 hown hK hP 0 rfl rfl 10 (by decide) lk0 (fun _ h9 => h9) rfl dX9_look_36 ?_
        refine va_get (D := eD E) (ci := 4) (v := .int (v_16 408 0)) (C := RX4) (T := TX4) (N := 11) hx hb hts in_X4 hown hK hP 12 rfl rfl 8 (by decide) lk5 (fun _ h9 => h9) rfl dX9_look_39 ?_
        refine rd_V (As := [.int (v_16 408 0)]) (rest := []) (C := RX1) (ci := 1) ⟨hx, hb, hml, hown, hts⟩ (c_X1_pairOf l E A ap vp (v_16 408 0) hI (by omega)) (cwV 1 hts gX9_look_X1_pairOf rfl rfl rfl (by decide +kernel) ⟨Nat.le_of_ble_eq_true rfl, Nat.le_of_ble_eq_true rfl⟩) (hE.kept hS.2.1) (hP.sub (ws' := planL E ap vp) [19, 20, 21, 22, 23, 24, 25, 26, 27, 28, 29, 30, 31, 32, 33, 34, 35, 36, 37, 38, 39, 40, 41, 42, 43, 44, 45, 46, 47] rfl) rfl rfl rfl rfl hl.1 rfl (Nat.le_of_ble_eq_true rfl) dX9_look_42 ⟨Nat.zero_le _, Nat.zero_le _⟩ (fun r42 h42 => ?_)
        have hf42 := h42.2
        replace h42 := h42.1
        subst hQ
        exact W.iret (v := r42) hx hb hr (fun t ht hW => ⟨⟨r42, (v_16), rfl, (show (TgA v_16 vp vq vs vi vj) ∧ fr [405, 406, 407, 408, 409, 410] v v_16 from ⟨⟨hT, hG, hI, hI2, hJ, hJi, hJj⟩, hFz⟩), by rw [ht]; exact hP, hD⟩, hS.F ht⟩) hS.2.2 dX9_look_45
    · have c19_ := i_eq c19
      refine lv_iconst (v := (-1)) hx hb dX9_look_22 (by decide) ?_
      subst hQ
      exact W.iret (v := (-1)) hx hb hr (fun t ht hW => ⟨⟨(-1), (v_16), rfl, (show (TgA v_16 vp vq vs vi vj) ∧ fr [405, 406, 407, 408, 409, 410] v v_16 from ⟨⟨hT, hG, hI, hI2, hJ, hJi, hJj⟩, hFz⟩), by rw [ht]; exact hP, hD⟩, hS.F ht⟩) hS.2.2 dX9_look_23
  · have c6_ := i_ne c6
    replace h3 := or_y h3 c6_
    clear c6_
    refine lv_ldc hx hb hown lk6 dX9_look_9 ?_
    subst hQ
    exact W.iret (v := (-1000000002)) hx hb hr (fun t ht hW => ⟨⟨(-1000000002), (v), rfl, (show (TgA v vp vq vs vi vj) ∧ fr [405, 406, 407, 408, 409, 410] v v from ⟨hTA, hFz⟩), by rw [ht]; exact hP, hD⟩, hS.F ht⟩) hS.2.2 dX9_look_11
def rm_X9_write : Room := { frames := 2, cells := 0, slots := 0, locals := 42 }
set_option maxHeartbeats 4000000 in
set_option maxRecDepth 100000 in
theorem c_X9_write (l : Launch) (E : Ev) (sz : Nat) (a : Nat → Nat) (v : Vf) (cz0 : Nat) (cz1 : Nat) (rt : Value) (rp : Value) (aq : Nat → Nat) (vq : Vf) (ap : Nat → Nat) (vp : Vf) (as_ : Nat → Nat) (vs : Vf) (ai : Nat → Nat) (vi : Vf) (bi : Nat → Nat) (vj : Vf) (way : Int32) (hTA : TgA v vp vq vs vi vj) : Met l yX9_write wsX9_write rm_X9_write (MtP E sz [.ref (a 99), .int way] (tgL E a v cz0 cz1 rt rp aq vq ap vp as_ vs ai vi bi vj)) (va_Qi (fun (r : Int32) (u : Vf) => ((TgA u vp vq vs vi vj) ∧ fr [11, 12] v u) ∧ ((CntP (0 ≤ way.toInt ∧ way.toInt ≤ 4) 30 (v 12 0) r (u 12 0)) ∧ (RowP r (v 12 0) (v 11) (u 11) way))) (MtB E (va_A (tgL E a v cz0 cz1 rt rp aq vq ap vp as_ vs ai vi bi vj) sz) (fun u => tgL E a u cz0 cz1 rt rp aq vq ap vp as_ vs ai vi bi vj)) (va_A (tgL E a v cz0 cz1 rt rp aq vq ap vp as_ vs ai vi bi vj) sz)) 0 0 (va_A (tgL E a v cz0 cz1 rt rp aq vq ap vp as_ vs ai vi bi vj) sz) := by
  refine Met.ofW (cc := cX9_write) (maxL := 2) (ret := (some .int)) (by decide) rfl ?_
  intro p e s m args below meth c s₁ B hml hv
  obtain ⟨rfl, hsz, hE, hP, hD0⟩ := hv
  subst hsz
  have hD := hD0.self (sz := s.heap.size)
  generalize hAe : va_A (tgL E a v cz0 cz1 rt rp aq vq ap vp as_ vs ai vi bi vj) s.heap.size = A at hD hE ⊢
  have hA : ∀ q : Nat, s.heap.size ≤ q → A q := fun q h => by rw [← hAe]; exact Or.inr h
  have hS : va_S A s.heap s.heap [] := va_S.rf
  have hx := B.exec
  have hb := B.bytes
  have hr := B.returns
  have hts := atoms_spec (ws := wsX9_write) B.pre
  have hown : s.vm.findClass RX9 = some m.cls := findClass_of_methodNamed B.named
  have hlocks := B.notSynchronized
  have hK := hE.1
  have in_X9 : ∀ w ∈ u_ws RX9 TX9 13, w ∈ wsX9_write := fun w h => List.mem_cons_of_mem _ (List.mem_append_right _ h)
  have lk0 := hts (.fieldLink RX9 106 "TidedGround" "bookCount" "I") (List.mem_of_getElem? (i := 2) rfl)
  have lk1 := hts (.fieldLink RX9 74 "TidedGround" "book" "[I") (List.mem_of_getElem? (i := 4) rfl)
  have lk2 := hts (.constant RX9 85 (-1000000004)) (List.mem_of_getElem? (i := 3) rfl)
  have lk3 := hts (.constant RX9 81 (-1000000002)) (List.mem_of_getElem? (i := 1) rfl)
  have n_m1000000004 : ((-1000000004) : Int32).toInt = -1000000004 := by decide
  have n_m1000000002 : ((-1000000002) : Int32).toInt = -1000000002 := by decide
  have n_0 : (0 : Int32).toInt = 0 := by decide
  have n_1 : (1 : Int32).toInt = 1 := by decide
  have n_30 : (30 : Int32).toInt = 30 := by decide
  have hl := lv_entry ([.ref (a 99), .int way]) (n := 2) (Nat.le_of_ble_eq_true rfl)
  rw [lg_entry_eq]
  generalize (lg_sl ([.ref (a 99), .int way]) ++ List.replicate (2 - (lg_sl ([.ref (a 99), .int way])).length) Slot.unset).toArray = ls at hl ⊢
  have hl : lv_has ls 2 [(0, .ref (a 99)), (1, .int way)] := hl
  refine W_abs (fun Q hQ => ?_)
  obtain ⟨hT, hG, hI, hI2, hJ, hJi, hJj⟩ := id hTA
  obtain ⟨hT1, hT2⟩ := id hT
  have hJ_vs := hJ
  have hJ_vi := hJi
  have hJ_vj := hJj
  obtain ⟨hg, hmc, hm0, hm1, hm2, hs0, hs1, hs2, hs3⟩ := id hI
  obtain ⟨hg1, hg2, hg3, hg4⟩ := id hg
  have hz0 := hm0.1
  have hz1 := hm1.1
  have hz2 := hm2.1
  have hc0 := hs0.1
  have hc1 := hs1.1
  have hc2 := hs2.1
  have hc3 := hs3.1
  obtain ⟨hj0, hj1, hj2⟩ := id hJ
  have hg5 : 0 ≤ (vp 2 0).toInt := by rw [hg3]; exact Int.mul_nonneg hg1.1 hg2.1
  have hG1 := hG.1
  have hG4 := hG.2.2.2
  have hFz : fr [11, 12] v v := fr.rf
  refine lv_iload_n hx hb dX9_write_0 rfl (lv_at hl 1 rfl) ?_
  refine rd_S (As := [.int way]) (rest := []) ⟨hx, hb, hml, hown, hts⟩ (c_X9_isNoWay l E A way) (va_cwS 1 hts gX9_write_X9_isNoWay rfl rfl rfl (by decide +kernel) ⟨Nat.le_of_ble_eq_true rfl, Nat.le_of_ble_eq_true rfl⟩) (hE.kept hS.2.1) (hP.sub (ws' := []) [] rfl) rfl hl.1 rfl (Nat.le_of_ble_eq_true rfl) dX9_write_1 ⟨Nat.zero_le _, Nat.zero_le _⟩ (fun r1 h1 => ?_)
  refine lv_if_eq (tgt := 10) hx hb dX9_write_4 (by decide) (fun c4 => ?_) (fun c4 => ?_)
  · have c4_ := i_eq c4
    replace h1 := or_n h1 c4_
    refine lv_aload_n hx hb dX9_write_10 rfl (lv_at hl 0 rfl) ?_
    refine va_get (D := eD E) (ci := 9) (v := .int (v 12 0)) (C := RX9) (T := TX9) (N := 13) hx hb hts in_X9 hown hK hP 0 rfl rfl 12 (by decide) lk0 (fun _ h9 => h9) rfl dX9_write_11 ?_
    refine lv_bipush (v := 30) hx hb dX9_write_14 (by decide) ?_
    refine lv_icmp_lt (tgt := 22) hx hb dX9_write_16 (by decide) (fun c16 => ?_) (fun c16 => ?_)
    · have c16_ := i_lt c16
      refine lv_aload_n hx hb dX9_write_22 rfl (lv_at hl 0 rfl) ?_
      refine va_get (D := eD E) (ci := 9) (v := .ref (a 11)) (C := RX9) (T := TX9) (N := 13) hx hb hts in_X9 hown hK hP 0 rfl rfl 11 (by decide) lk1 (fun _ h9 => h9) rfl dX9_write_23 ?_
      refine lv_aload_n hx hb dX9_write_26 rfl (lv_at hl 0 rfl) ?_
      refine va_get (D := eD E) (ci := 9) (v := .int (v 12 0)) (C := RX9) (T := TX9) (N := 13) hx hb hts in_X9 hown hK hP 0 rfl rfl 12 (by decide) lk0 (fun _ h9 => h9) rfl dX9_write_27 ?_
      refine lv_iload_n hx hb dX9_write_30 rfl (lv_at hl 1 rfl) ?_
      refine va_iast hx hb hK hP hD hS 2 0 rfl rfl (n := 30) (f := (v 11)) (i_in (by omega) (by omega)) dX9_write_31 (fun H locs hP hD hS => ?_)
      replace hP : va_P (eD E) vwCl (tgL E a (up2 v 11 ((v 12 0).toNatClampNeg) way) cz0 cz1 rt rp aq vq ap vp as_ vs ai vi bi vj) H := hP
      replace hD : va_D A (tgL E a (up2 v 11 ((v 12 0).toNatClampNeg) way) cz0 cz1 rt rp aq vq ap vp as_ vs ai vi bi vj) := hD
      generalize hv31 : up2 v 11 ((v 12 0).toNatClampNeg) way = v_31 at hP hD
      have hFz : fr [11, 12] v v_31 := by first | exact hFz | (rw [← hv31]; exact hFz.up (by decide))
      have hq31 : v_31 12 0 = v 12 0 := by rw [← hv31]; rfl
      refine lv_aload_n hx hb dX9_write_32 rfl (lv_at hl 0 rfl) ?_
      refine lv_dup hx hb dX9_write_33 rfl ?_
      refine va_get (D := eD E) (ci := 9) (v := .int (v_31 12 0)) (C := RX9) (T := TX9) (N := 13) hx hb hts in_X9 hown hK hP 0 rfl rfl 12 (by decide) lk0 (fun _ h9 => h9) rfl dX9_write_34 ?_
      refine lv_iconst (v := 1) hx hb dX9_write_37 (by decide) ?_
      refine lv_iadd hx hb dX9_write_38 ?_
      refine lv_topi (fun x38 e38 => ?_)
      have t38 := i_add e38 (by rw [hq31]; omega)
      rw [hq31] at t38
      refine va_put (D := eD E) (ci := 9) (v := .int x38) (ty := .int) (C := RX9) (T := TX9) (N := 13) hx hb hts in_X9 tyX9 tyX9_ok nmX9 hown hK hP hD hS 0 rfl rfl 12 (by decide) lk0 (fun _ h9 => h9) rfl (by decide +kernel) rfl rfl (Nat.le_of_ble_eq_true rfl) dX9_write_39 (fun H locs hP hD hS => ?_)
      replace hP : va_P (eD E) vwCl (tgL E a (up2 v_31 12 0 x38) cz0 cz1 rt rp aq vq ap vp as_ vs ai vi bi vj) H := hP
      replace hD : va_D A (tgL E a (up2 v_31 12 0 x38) cz0 cz1 rt rp aq vq ap vp as_ vs ai vi bi vj) := hD
      generalize hv39 : up2 v_31 12 0 x38 = v_39 at hP hD
      have hFz : fr [11, 12] v v_39 := by first | exact hFz | (rw [← hv39]; exact hFz.up (by decide))
      have hT : TgI v_39 := by rw [← hv39, ← hv31]; exact ⟨hT.1, (show 0 ≤ x38.toInt ∧ x38.toInt ≤ 30 by omega)⟩
      have hG : SgI (v_39 401 0) (v_39 402) (v_39 403) (v_39 408 0) := by rw [← hv39, ← hv31]; exact hG
      have hq39 : v_39 12 0 = x38 := by rw [← hv39]; rfl
      refine lv_aload_n hx hb dX9_write_42 rfl (lv_at hl 0 rfl) ?_
      refine va_get (D := eD E) (ci := 9) (v := .int (v_39 12 0)) (C := RX9) (T := TX9) (N := 13) hx hb hts in_X9 hown hK hP 0 rfl rfl 12 (by decide) lk0 (fun _ h9 => h9) rfl dX9_write_43 ?_
      subst hQ
      exact W.iret (v := (v_39 12 0)) hx hb hr (fun t ht hW => ⟨⟨(v_39 12 0), (v_39), rfl, (show ((TgA v_39 vp vq vs vi vj) ∧ fr [11, 12] v v_39) ∧ ((CntP (0 ≤ way.toInt ∧ way.toInt ≤ 4) 30 (v 12 0) (v_39 12 0) (v_39 12 0)) ∧ (RowP (v_39 12 0) (v 12 0) (v 11) (v_39 11) way)) from ⟨⟨⟨hT, hG, hI, hI2, hJ, hJi, hJj⟩, hFz⟩, ⟨(Or.inr ⟨by omega, Or.inr ⟨by omega, by rw [hq39]; omega, by rw [hq39]; omega⟩⟩), (Or.inr ⟨by rw [hq39]; omega, by rw [← hv39, ← hv31]; rfl⟩)⟩⟩), by rw [ht]; exact hP, hD⟩, hS.F ht⟩) hS.2.2 dX9_write_46
    · have c16_ := i_nlt c16
      refine lv_ldc hx hb hown lk2 dX9_write_19 ?_
      subst hQ
      exact W.iret (v := (-1000000004)) hx hb hr (fun t ht hW => ⟨⟨(-1000000004), (v), rfl, (show ((TgA v vp vq vs vi vj) ∧ fr [11, 12] v v) ∧ ((CntP (0 ≤ way.toInt ∧ way.toInt ≤ 4) 30 (v 12 0) ((-1000000004) : Int32) (v 12 0)) ∧ (RowP ((-1000000004) : Int32) (v 12 0) (v 11) (v 11) way)) from ⟨⟨hTA, hFz⟩, ⟨(Or.inr ⟨by omega, Or.inl ⟨by omega, by omega, rfl⟩⟩), (Or.inl ⟨by omega, rfl⟩)⟩⟩), by rw [ht]; exact hP, hD⟩, hS.F ht⟩) hS.2.2 dX9_write_21
  · have c4_ := i_ne c4
    replace h1 := or_y h1 c4_
    clear c4_
    refine lv_ldc hx hb hown lk3 dX9_write_7 ?_
    subst hQ
    exact W.iret (v := (-1000000002)) hx hb hr (fun t ht hW => ⟨⟨(-1000000002), (v), rfl, (show ((TgA v vp vq vs vi vj) ∧ fr [11, 12] v v) ∧ ((CntP (0 ≤ way.toInt ∧ way.toInt ≤ 4) 30 (v 12 0) ((-1000000002) : Int32) (v 12 0)) ∧ (RowP ((-1000000002) : Int32) (v 12 0) (v 11) (v 11) way)) from ⟨⟨hTA, hFz⟩, ⟨(Or.inl ⟨by omega, by omega, rfl⟩), (Or.inl ⟨by omega, rfl⟩)⟩⟩), by rw [ht]; exact hP, hD⟩, hS.F ht⟩) hS.2.2 dX9_write_9
def rm_X9_tear : Room := { frames := 0, cells := 0, slots := 0, locals := 0 }
set_option maxHeartbeats 4000000 in
set_option maxRecDepth 100000 in
theorem c_X9_tear (l : Launch) (E : Ev) (sz : Nat) (a : Nat → Nat) (v : Vf) (cz0 : Nat) (cz1 : Nat) (rt : Value) (rp : Value) (aq : Nat → Nat) (vq : Vf) (ap : Nat → Nat) (vp : Vf) (as_ : Nat → Nat) (vs : Vf) (ai : Nat → Nat) (vi : Vf) (bi : Nat → Nat) (vj : Vf) (hTA : TgA v vp vq vs vi vj) : Met l yX9_tear wsX9_tear rm_X9_tear (MtP E sz [.ref (a 99)] (tgL E a v cz0 cz1 rt rp aq vq ap vp as_ vs ai vi bi vj)) (va_Qi (fun (r : Int32) (u : Vf) => ((TgA u vp vq vs vi vj) ∧ fr [12, 401] v u) ∧ (TearP (v 12 0) (v 401 0) r (u 12 0) (u 401 0))) (MtB E (va_A (tgL E a v cz0 cz1 rt rp aq vq ap vp as_ vs ai vi bi vj) sz) (fun u => tgL E a u cz0 cz1 rt rp aq vq ap vp as_ vs ai vi bi vj)) (va_A (tgL E a v cz0 cz1 rt rp aq vq ap vp as_ vs ai vi bi vj) sz)) 0 0 (va_A (tgL E a v cz0 cz1 rt rp aq vq ap vp as_ vs ai vi bi vj) sz) := by
  refine Met.ofW (cc := cX9_tear) (maxL := 2) (ret := (some .int)) (by decide) rfl ?_
  intro p e s m args below meth c s₁ B hml hv
  obtain ⟨rfl, hsz, hE, hP, hD0⟩ := hv
  subst hsz
  have hD := hD0.self (sz := s.heap.size)
  generalize hAe : va_A (tgL E a v cz0 cz1 rt rp aq vq ap vp as_ vs ai vi bi vj) s.heap.size = A at hD hE ⊢
  have hA : ∀ q : Nat, s.heap.size ≤ q → A q := fun q h => by rw [← hAe]; exact Or.inr h
  have hS : va_S A s.heap s.heap [] := va_S.rf
  have hx := B.exec
  have hb := B.bytes
  have hr := B.returns
  have hts := atoms_spec (ws := wsX9_tear) B.pre
  have hown : s.vm.findClass RX9 = some m.cls := findClass_of_methodNamed B.named
  have hlocks := B.notSynchronized
  have hK := hE.1
  have in_X9 : ∀ w ∈ u_ws RX9 TX9 13, w ∈ wsX9_tear := fun w h => List.mem_cons_of_mem _ (List.mem_append_left _ (List.mem_append_right _ h))
  have in_X4 : ∀ w ∈ u_ws RX4 TX4 11, w ∈ wsX9_tear := fun w h => List.mem_cons_of_mem _ (List.mem_append_right _ h)
  have lk0 := hts (.fieldLink RX9 106 "TidedGround" "bookCount" "I") (List.mem_of_getElem? (i := 1) rfl)
  have lk1 := hts (.fieldLink RX9 70 "TidedGround" "sightings" "LTidedGround$Sightings;") (List.mem_of_getElem? (i := 2) rfl)
  have lk2 := hts (.fieldLink RX9 103 "TidedGround$Sightings" "count" "I") (List.mem_of_getElem? (i := 3) rfl)
  have n_0 : (0 : Int32).toInt = 0 := by decide
  have hl := lv_entry ([.ref (a 99)]) (n := 2) (Nat.le_of_ble_eq_true rfl)
  rw [lg_entry_eq]
  generalize (lg_sl ([.ref (a 99)]) ++ List.replicate (2 - (lg_sl ([.ref (a 99)])).length) Slot.unset).toArray = ls at hl ⊢
  have hl : lv_has ls 2 [(0, .ref (a 99))] := hl
  refine W_abs (fun Q hQ => ?_)
  obtain ⟨hT, hG, hI, hI2, hJ, hJi, hJj⟩ := id hTA
  obtain ⟨hT1, hT2⟩ := id hT
  have hJ_vs := hJ
  have hJ_vi := hJi
  have hJ_vj := hJj
  obtain ⟨hg, hmc, hm0, hm1, hm2, hs0, hs1, hs2, hs3⟩ := id hI
  obtain ⟨hg1, hg2, hg3, hg4⟩ := id hg
  have hz0 := hm0.1
  have hz1 := hm1.1
  have hz2 := hm2.1
  have hc0 := hs0.1
  have hc1 := hs1.1
  have hc2 := hs2.1
  have hc3 := hs3.1
  obtain ⟨hj0, hj1, hj2⟩ := id hJ
  have hg5 : 0 ≤ (vp 2 0).toInt := by rw [hg3]; exact Int.mul_nonneg hg1.1 hg2.1
  have hG1 := hG.1
  have hG4 := hG.2.2.2
  have hFz : fr [12, 401] v v := fr.rf
  refine lv_aload_n hx hb dX9_tear_0 rfl (lv_at hl 0 rfl) ?_
  refine va_get (D := eD E) (ci := 9) (v := .int (v 12 0)) (C := RX9) (T := TX9) (N := 13) hx hb hts in_X9 hown hK hP 0 rfl rfl 12 (by decide) lk0 (fun _ h9 => h9) rfl dX9_tear_1 ?_
  refine lv_aload_n hx hb dX9_tear_4 rfl (lv_at hl 0 rfl) ?_
  refine va_get (D := eD E) (ci := 9) (v := .ref (a 10)) (C := RX9) (T := TX9) (N := 13) hx hb hts in_X9 hown hK hP 0 rfl rfl 10 (by decide) lk1 (fun _ h9 => h9) rfl dX9_tear_5 ?_
  refine va_get (D := eD E) (ci := 4) (v := .int (v 401 0)) (C := RX4) (T := TX4) (N := 11) hx hb hts in_X4 hown hK hP 12 rfl rfl 1 (by decide) lk2 (fun _ h9 => h9) rfl dX9_tear_8 ?_
  refine lv_iadd hx hb dX9_tear_11 ?_
  refine lv_topi (fun x11 e11 => ?_)
  have t11 := i_add e11 (by omega)
  have ti11 := i_add e11 (by omega)
  refine lv_istore_n (lv' := [(1, .int x11), (0, .ref (a 99))]) hx hb dX9_tear_12 rfl hl (by decide) rfl (fun ls hl => ?_)
  refine lv_aload_n hx hb dX9_tear_13 rfl (lv_at hl 1 rfl) ?_
  refine lv_iconst (v := 0) hx hb dX9_tear_14 (by decide) ?_
  refine va_put (D := eD E) (ci := 9) (v := .int 0) (ty := .int) (C := RX9) (T := TX9) (N := 13) hx hb hts in_X9 tyX9 tyX9_ok nmX9 hown hK hP hD hS 0 rfl rfl 12 (by decide) lk0 (fun _ h9 => h9) rfl (by decide +kernel) rfl rfl (Nat.le_of_ble_eq_true rfl) dX9_tear_15 (fun H locs hP hD hS => ?_)
  replace hP : va_P (eD E) vwCl (tgL E a (up2 v 12 0 0) cz0 cz1 rt rp aq vq ap vp as_ vs ai vi bi vj) H := hP
  replace hD : va_D A (tgL E a (up2 v 12 0 0) cz0 cz1 rt rp aq vq ap vp as_ vs ai vi bi vj) := hD
  generalize hv15 : up2 v 12 0 0 = v_15 at hP hD
  have hFz : fr [12, 401] v v_15 := by first | exact hFz | (rw [← hv15]; exact hFz.up (by decide))
  refine lv_aload_n hx hb dX9_tear_18 rfl (lv_at hl 1 rfl) ?_
  refine va_get (D := eD E) (ci := 9) (v := .ref (a 10)) (C := RX9) (T := TX9) (N := 13) hx hb hts in_X9 hown hK hP 0 rfl rfl 10 (by decide) lk1 (fun _ h9 => h9) rfl dX9_tear_19 ?_
  refine lv_iconst (v := 0) hx hb dX9_tear_22 (by decide) ?_
  refine va_put (D := eD E) (ci := 4) (v := .int 0) (ty := .int) (C := RX4) (T := TX4) (N := 11) hx hb hts in_X4 tyX4 tyX4_ok nmX4 hown hK hP hD hS 12 rfl rfl 1 (by decide) lk2 (fun _ h9 => h9) rfl (by decide +kernel) rfl rfl (Nat.le_of_ble_eq_true rfl) dX9_tear_23 (fun H locs hP hD hS => ?_)
  replace hP : va_P (eD E) vwCl (tgL E a (up2 v_15 401 0 0) cz0 cz1 rt rp aq vq ap vp as_ vs ai vi bi vj) H := hP
  replace hD : va_D A (tgL E a (up2 v_15 401 0 0) cz0 cz1 rt rp aq vq ap vp as_ vs ai vi bi vj) := hD
  generalize hv23 : up2 v_15 401 0 0 = v_23 at hP hD
  have hFz : fr [12, 401] v v_23 := by first | exact hFz | (rw [← hv23]; exact hFz.up (by decide))
  have hT : TgI v_23 := by rw [← hv23, ← hv15]; exact ⟨hT.1, (by decide : 0 ≤ (0 : Int32).toInt ∧ (0 : Int32).toInt ≤ 30)⟩
  have hG : SgI (v_23 401 0) (v_23 402) (v_23 403) (v_23 408 0) := by rw [← hv23, ← hv15]; exact ⟨(by decide : 0 ≤ (0 : Int32).toInt ∧ (0 : Int32).toInt ≤ 12), hG.2⟩
  refine lv_iload_n hx hb dX9_tear_26 rfl (lv_at hl 0 rfl) ?_
  subst hQ
  exact W.iret (v := x11) hx hb hr (fun t ht hW => ⟨⟨x11, (v_23), rfl, (show ((TgA v_23 vp vq vs vi vj) ∧ fr [12, 401] v v_23) ∧ (TearP (v 12 0) (v 401 0) x11 (v_23 12 0) (v_23 401 0)) from ⟨⟨⟨hT, hG, hI, hI2, hJ, hJi, hJj⟩, hFz⟩, ⟨ti11, (by rw [← hv23, ← hv15]; rfl), (by rw [← hv23]; rfl)⟩⟩), by rw [ht]; exact hP, hD⟩, hS.F ht⟩) hS.2.2 dX9_tear_27
def rm_X9_seed : Room := { frames := 0, cells := 0, slots := 0, locals := 0 }
set_option maxHeartbeats 4000000 in
set_option maxRecDepth 100000 in
theorem c_X9_seed (l : Launch) (E : Ev) (sz : Nat) (a : Nat → Nat) (v : Vf) (cz0 : Nat) (cz1 : Nat) (rt : Value) (rp : Value) (aq : Nat → Nat) (vq : Vf) (ap : Nat → Nat) (vp : Vf) (as_ : Nat → Nat) (vs : Vf) (ai : Nat → Nat) (vi : Vf) (bi : Nat → Nat) (vj : Vf) (x : Int32) (hTA : TgA v vp vq vs vi vj) : Met l yX9_seed wsX9_seed rm_X9_seed (MtP E sz [.ref (a 99), .int x] (tgL E a v cz0 cz1 rt rp aq vq ap vp as_ vs ai vi bi vj)) (va_Qi (fun (r : Int32) (u : Vf) => ((TgA v vp vq u vi vj) ∧ fr [7] vs u) ∧ (SetP x 0 2147483647 (vs 7 0) r (u 7 0))) (MtB E (va_A (tgL E a v cz0 cz1 rt rp aq vq ap vp as_ vs ai vi bi vj) sz) (fun u => tgL E a v cz0 cz1 rt rp aq vq ap vp as_ u ai vi bi vj)) (va_A (tgL E a v cz0 cz1 rt rp aq vq ap vp as_ vs ai vi bi vj) sz)) 0 0 (va_A (tgL E a v cz0 cz1 rt rp aq vq ap vp as_ vs ai vi bi vj) sz) := by
  refine Met.ofW (cc := cX9_seed) (maxL := 3) (ret := (some .int)) (by decide) rfl ?_
  intro p e s m args below meth c s₁ B hml hv
  obtain ⟨rfl, hsz, hE, hP, hD0⟩ := hv
  subst hsz
  have hD := hD0.self (sz := s.heap.size)
  generalize hAe : va_A (tgL E a v cz0 cz1 rt rp aq vq ap vp as_ vs ai vi bi vj) s.heap.size = A at hD hE ⊢
  have hA : ∀ q : Nat, s.heap.size ≤ q → A q := fun q h => by rw [← hAe]; exact Or.inr h
  have hS : va_S A s.heap s.heap [] := va_S.rf
  have hx := B.exec
  have hb := B.bytes
  have hr := B.returns
  have hts := atoms_spec (ws := wsX9_seed) B.pre
  have hown : s.vm.findClass RX9 = some m.cls := findClass_of_methodNamed B.named
  have hlocks := B.notSynchronized
  have hK := hE.1
  have in_X9 : ∀ w ∈ u_ws RX9 TX9 13, w ∈ wsX9_seed := fun w h => List.mem_cons_of_mem _ (List.mem_append_left _ (List.mem_append_right _ h))
  have in_X6 : ∀ w ∈ u_ws RX6 TX6 9, w ∈ wsX9_seed := fun w h => List.mem_cons_of_mem _ (List.mem_append_right _ h)
  have lk0 := hts (.fieldLink RX9 34 "TidedGround" "now" "LTidedGround$State;") (List.mem_of_getElem? (i := 2) rfl)
  have lk1 := hts (.fieldLink RX9 322 "TidedGround$State" "seed" "I") (List.mem_of_getElem? (i := 3) rfl)
  have lk2 := hts (.constant RX9 81 (-1000000002)) (List.mem_of_getElem? (i := 1) rfl)
  have n_m1000000002 : ((-1000000002) : Int32).toInt = -1000000002 := by decide
  have n_0 : (0 : Int32).toInt = 0 := by decide
  have hl := lv_entry ([.ref (a 99), .int x]) (n := 3) (Nat.le_of_ble_eq_true rfl)
  rw [lg_entry_eq]
  generalize (lg_sl ([.ref (a 99), .int x]) ++ List.replicate (3 - (lg_sl ([.ref (a 99), .int x])).length) Slot.unset).toArray = ls at hl ⊢
  have hl : lv_has ls 3 [(0, .ref (a 99)), (1, .int x)] := hl
  refine W_abs (fun Q hQ => ?_)
  obtain ⟨hT, hG, hI, hI2, hJ, hJi, hJj⟩ := id hTA
  obtain ⟨hT1, hT2⟩ := id hT
  have hJ_vs := hJ
  have hJ_vi := hJi
  have hJ_vj := hJj
  obtain ⟨hg, hmc, hm0, hm1, hm2, hs0, hs1, hs2, hs3⟩ := id hI
  obtain ⟨hg1, hg2, hg3, hg4⟩ := id hg
  have hz0 := hm0.1
  have hz1 := hm1.1
  have hz2 := hm2.1
  have hc0 := hs0.1
  have hc1 := hs1.1
  have hc2 := hs2.1
  have hc3 := hs3.1
  obtain ⟨hj0, hj1, hj2⟩ := id hJ
  have hg5 : 0 ≤ (vp 2 0).toInt := by rw [hg3]; exact Int.mul_nonneg hg1.1 hg2.1
  have hG1 := hG.1
  have hG4 := hG.2.2.2
  have hxr := i_rng x
  have hFz : fr [7] vs vs := fr.rf
  refine lv_iload_n hx hb dX9_seed_0 rfl (lv_at hl 1 rfl) ?_
  refine lv_if_ge (tgt := 7) hx hb dX9_seed_1 (by decide) (fun c1 => ?_) (fun c1 => ?_)
  · have c1_ := i_le c1
    refine lv_aload_n hx hb dX9_seed_7 rfl (lv_at hl 0 rfl) ?_
    refine va_get (D := eD E) (ci := 9) (v := .ref (as_ 0)) (C := RX9) (T := TX9) (N := 13) hx hb hts in_X9 hown hK hP 0 rfl rfl 6 (by decide) lk0 (fun _ h9 => h9) rfl dX9_seed_8 ?_
    refine va_get (D := eD E) (ci := 6) (v := .int (vs 7 0)) (C := RX6) (T := TX6) (N := 9) hx hb hts in_X6 hown hK hP 48 rfl rfl 7 (by decide) lk1 (fun _ h9 => h9) rfl dX9_seed_11 ?_
    refine lv_istore_n (lv' := [(2, .int (vs 7 0)), (0, .ref (a 99)), (1, .int x)]) hx hb dX9_seed_14 rfl hl (by decide) rfl (fun ls hl => ?_)
    refine lv_aload_n hx hb dX9_seed_15 rfl (lv_at hl 1 rfl) ?_
    refine va_get (D := eD E) (ci := 9) (v := .ref (as_ 0)) (C := RX9) (T := TX9) (N := 13) hx hb hts in_X9 hown hK hP 0 rfl rfl 6 (by decide) lk0 (fun _ h9 => h9) rfl dX9_seed_16 ?_
    refine lv_iload_n hx hb dX9_seed_19 rfl (lv_at hl 2 rfl) ?_
    refine va_put (D := eD E) (ci := 6) (v := .int x) (ty := .int) (C := RX6) (T := TX6) (N := 9) hx hb hts in_X6 tyX6 tyX6_ok nmX6 hown hK hP hD hS 48 rfl rfl 7 (by decide) lk1 (fun _ h9 => h9) rfl (by decide +kernel) rfl rfl (Nat.le_of_ble_eq_true rfl) dX9_seed_20 (fun H locs hP hD hS => ?_)
    replace hP : va_P (eD E) vwCl (tgL E a v cz0 cz1 rt rp aq vq ap vp as_ (up2 vs 7 0 x) ai vi bi vj) H := hP
    replace hD : va_D A (tgL E a v cz0 cz1 rt rp aq vq ap vp as_ (up2 vs 7 0 x) ai vi bi vj) := hD
    generalize hv20 : up2 vs 7 0 x = vs_20 at hP hD
    have hFz : fr [7] vs vs_20 := by first | exact hFz | (rw [← hv20]; exact hFz.up (by decide))
    refine lv_iload_n hx hb dX9_seed_23 rfl (lv_at hl 0 rfl) ?_
    subst hQ
    exact W.iret (v := (vs 7 0)) hx hb hr (fun t ht hW => ⟨⟨(vs 7 0), (vs_20), rfl, (show ((TgA v vp vq vs_20 vi vj) ∧ fr [7] vs vs_20) ∧ (SetP x 0 2147483647 (vs 7 0) (vs 7 0) (vs_20 7 0)) from ⟨⟨⟨hT, hG, hI, hI2, (by rw [← hv20]; exact hJ), hJi, hJj⟩, hFz⟩, (Or.inr ⟨by omega, rfl, by rw [← hv20]; rfl⟩)⟩), by rw [ht]; exact hP, hD⟩, hS.F ht⟩) hS.2.2 dX9_seed_24
  · have c1_ := i_nle c1
    refine lv_ldc hx hb hown lk2 dX9_seed_4 ?_
    subst hQ
    exact W.iret (v := (-1000000002)) hx hb hr (fun t ht hW => ⟨⟨(-1000000002), (vs), rfl, (show ((TgA v vp vq vs vi vj) ∧ fr [7] vs vs) ∧ (SetP x 0 2147483647 (vs 7 0) ((-1000000002) : Int32) (vs 7 0)) from ⟨⟨hTA, hFz⟩, (Or.inl ⟨by omega, by omega, rfl⟩)⟩), by rw [ht]; exact hP, hD⟩, hS.F ht⟩) hS.2.2 dX9_seed_6
def rm_X9_keep : Room := { frames := 1, cells := 0, slots := 0, locals := 22 }
set_option maxHeartbeats 4000000 in
set_option maxRecDepth 100000 in
theorem c_X9_keep (l : Launch) (E : Ev) (sz : Nat) (a : Nat → Nat) (v : Vf) (cz0 : Nat) (cz1 : Nat) (rt : Value) (rp : Value) (aq : Nat → Nat) (vq : Vf) (ap : Nat → Nat) (vp : Vf) (as_ : Nat → Nat) (vs : Vf) (ai : Nat → Nat) (vi : Vf) (bi : Nat → Nat) (vj : Vf) (i : Int32) (hTA : TgA v vp vq vs vi vj) : Met l yX9_keep wsX9_keep rm_X9_keep (MtP E sz [.ref (a 99), .int i] (tgL E a v cz0 cz1 rt rp aq vq ap vp as_ vs ai vi bi vj)) (va_Qi (fun (r : Int32) (u : Vf × Vf) => (TgA v vp vq vs u.1 u.2 ∧ ((r.toInt = -1000000001 ∧ (i.toInt < 0 ∨ 1 < i.toInt)) ∨ (r.toInt = 1 ∧ 0 ≤ i.toInt ∧ i.toInt ≤ 1))) ∧ (KeepC i vs vi vj u.1 u.2)) (MtB E (va_A (tgL E a v cz0 cz1 rt rp aq vq ap vp as_ vs ai vi bi vj) sz) (fun u => tgL E a v cz0 cz1 rt rp aq vq ap vp as_ vs ai u.1 bi u.2)) (va_A (tgL E a v cz0 cz1 rt rp aq vq ap vp as_ vs ai vi bi vj) sz)) 0 0 (va_A (tgL E a v cz0 cz1 rt rp aq vq ap vp as_ vs ai vi bi vj) sz) := by
  refine Met.ofW (cc := cX9_keep) (maxL := 2) (ret := (some .int)) (by decide) rfl ?_
  intro p e s m args below meth c s₁ B hml hv
  obtain ⟨rfl, hsz, hE, hP, hD0⟩ := hv
  subst hsz
  have hD := hD0.self (sz := s.heap.size)
  generalize hAe : va_A (tgL E a v cz0 cz1 rt rp aq vq ap vp as_ vs ai vi bi vj) s.heap.size = A at hD hE ⊢
  have hA : ∀ q : Nat, s.heap.size ≤ q → A q := fun q h => by rw [← hAe]; exact Or.inr h
  have hS : va_S A s.heap s.heap [] := va_S.rf
  have hx := B.exec
  have hb := B.bytes
  have hr := B.returns
  have hts := atoms_spec (ws := wsX9_keep) B.pre
  have hown : s.vm.findClass RX9 = some m.cls := findClass_of_methodNamed B.named
  have hlocks := B.notSynchronized
  have hK := hE.1
  have in_X9 : ∀ w ∈ u_ws RX9 TX9 13, w ∈ wsX9_keep := fun w h => List.mem_cons_of_mem _ (List.mem_append_left _ (List.mem_append_right _ h))
  have in_X6 : ∀ w ∈ u_ws RX6 TX6 9, w ∈ wsX9_keep := fun w h => List.mem_cons_of_mem _ (List.mem_append_right _ h)
  have lk0 := hts (.fieldLink RX9 47 "TidedGround" "images" "[LTidedGround$State;") (List.mem_of_getElem? (i := 2) rfl)
  have lk1 := hts (.fieldLink RX9 34 "TidedGround" "now" "LTidedGround$State;") (List.mem_of_getElem? (i := 3) rfl)
  have lk2 := hts (.fieldLink RX9 109 "TidedGround$State" "kept" "Z") (List.mem_of_getElem? (i := 4) rfl)
  have lk3 := hts (.constant RX9 161 (-1000000001)) (List.mem_of_getElem? (i := 1) rfl)
  have n_m1000000001 : ((-1000000001) : Int32).toInt = -1000000001 := by decide
  have n_0 : (0 : Int32).toInt = 0 := by decide
  have n_1 : (1 : Int32).toInt = 1 := by decide
  have hl := lv_entry ([.ref (a 99), .int i]) (n := 2) (Nat.le_of_ble_eq_true rfl)
  rw [lg_entry_eq]
  generalize (lg_sl ([.ref (a 99), .int i]) ++ List.replicate (2 - (lg_sl ([.ref (a 99), .int i])).length) Slot.unset).toArray = ls at hl ⊢
  have hl : lv_has ls 2 [(0, .ref (a 99)), (1, .int i)] := hl
  refine W_abs (fun Q hQ => ?_)
  obtain ⟨hT, hG, hI, hI2, hJ, hJi, hJj⟩ := id hTA
  obtain ⟨hT1, hT2⟩ := id hT
  have hJ_vs := hJ
  have hJ_vi := hJi
  have hJ_vj := hJj
  obtain ⟨hg, hmc, hm0, hm1, hm2, hs0, hs1, hs2, hs3⟩ := id hI
  obtain ⟨hg1, hg2, hg3, hg4⟩ := id hg
  have hz0 := hm0.1
  have hz1 := hm1.1
  have hz2 := hm2.1
  have hc0 := hs0.1
  have hc1 := hs1.1
  have hc2 := hs2.1
  have hc3 := hs3.1
  obtain ⟨hj0, hj1, hj2⟩ := id hJ
  have hg5 : 0 ≤ (vp 2 0).toInt := by rw [hg3]; exact Int.mul_nonneg hg1.1 hg2.1
  have hG1 := hG.1
  have hG4 := hG.2.2.2
  refine lv_iload_n hx hb dX9_keep_0 rfl (lv_at hl 1 rfl) ?_
  refine lv_iconst (v := 0) hx hb dX9_keep_1 (by decide) ?_
  refine lv_iconst (v := 1) hx hb dX9_keep_2 (by decide) ?_
  refine rd_S (As := [.int i, .int 0, .int 1]) (rest := []) ⟨hx, hb, hml, hown, hts⟩ (c_X9_isOff l E A i 0 1) (va_cwS 3 hts gX9_keep_X9_isOff rfl rfl rfl (by decide +kernel) ⟨Nat.le_of_ble_eq_true rfl, Nat.le_of_ble_eq_true rfl⟩) (hE.kept hS.2.1) (hP.sub (ws' := []) [] rfl) rfl hl.1 rfl (Nat.le_of_ble_eq_true rfl) dX9_keep_3 ⟨Nat.zero_le _, Nat.zero_le _⟩ (fun r3 h3 => ?_)
  refine lv_if_eq (tgt := 12) hx hb dX9_keep_6 (by decide) (fun c6 => ?_) (fun c6 => ?_)
  · have c6_ := i_eq c6
    replace h3 := or_n h3 c6_
    rcases (show i = 0 ∨ i = 1 from i_c2 (by omega) (by omega)) with rfl | rfl
    · refine lv_aload_n hx hb dX9_keep_12 rfl (lv_at hl 0 rfl) ?_
      refine va_get (D := eD E) (ci := 9) (v := .ref (a 7)) (C := RX9) (T := TX9) (N := 13) hx hb hts in_X9 hown hK hP 0 rfl rfl 7 (by decide) lk0 (fun _ h9 => h9) rfl dX9_keep_13 ?_
      refine lv_iload_n hx hb dX9_keep_16 rfl (lv_at hl 1 rfl) ?_
      refine va_aldq hx hb hK hP 4 3 rfl rfl (i_in (by decide) (by decide)) dX9_keep_17 ?_
      refine W.eq (g2 := F0 m 18 ls [.ref (ai 0)]) rfl ?_
      refine lv_aload_n hx hb dX9_keep_18 rfl (lv_at hl 0 rfl) ?_
      refine va_get (D := eD E) (ci := 9) (v := .ref (as_ 0)) (C := RX9) (T := TX9) (N := 13) hx hb hts in_X9 hown hK hP 0 rfl rfl 6 (by decide) lk1 (fun _ h9 => h9) rfl dX9_keep_19 ?_
      refine mt_Vv (w1 := fun (u : Vf) => st2L E ai u as_ vs) (wf := fun (u : Vf) => tgL E a v cz0 cz1 rt rp aq vq ap vp as_ vs ai u bi vj) (wr := [((a 99), .inr (9, [.ref (a 0), .int (v 1 0), .int (v 2 0), .ref (a 3), .ref (aq 0), .ref (a 5), .ref (as_ 0), .ref (a 7), .ref (a 8), .ref (a 9), .ref (a 10), .ref (a 11), .int (v 12 0)])), ((a 0), .inl (eI E, 250, .inl (v 0))), ((a 11), .inl (eI E, 30, .inl (v 11))), ((a 3), .inr (2, [rt, .int (v 101 0), .int (v 102 0), rp, .int (v 104 0), .int (v 105 0), .int (v 106 0), .int (v 107 0), .int (v 108 0)])), ((a 7), .inl (eS E, 2, .inr (.inr (.inr (.inr (fun i => some (cond (Nat.beq i 0) (ai 0) (bi 0)))))))), ((a 8), .inr (3, [.ref (a 5), .ref cz0, .ref cz1, .ref (a 203)])), (cz0, .inl (eI E, 24, .inl (v 201))), (cz1, .inl (eI E, 24, .inl (v 202))), ((a 203), .inl (eI E, 960, .inl (v 203))), ((a 9), .inr (7, [.ref (a 5), .ref (a 301), .ref (a 302), .int (v 303 0), .int (v 304 0)])), ((a 301), .inl (eI E, 5, .inl (v 301))), ((a 302), .inl (eI E, 5, .inl (v 302))), ((a 10), .inr (4, [.ref (a 5), .int (v 401 0), .ref (a 402), .ref (a 403), .ref (a 404), .ref (a 405), .int (v 406 0), .ref (a 407), .int (v 408 0), .int (v 409 0), .int (v 410 0)])), ((a 402), .inl (eI E, 12, .inl (v 402))), ((a 403), .inl (eI E, 12, .inl (v 403))), ((a 404), .inl (eI E, 12, .inl (v 404))), ((a 405), .inl (eI E, 729, .inl (v 405))), ((a 407), .inl (eI E, 55, .inl (v 407))), ((a 5), .inr (8, [.ref (ap 0), .ref (as_ 0)])), ((ap 0), .inr (1, [.int (vp 0 0), .int (vp 1 0), .int (vp 2 0), .ref (ap 3), .ref (ap 4), .int (vp 5 0), .ref (ap 6), .ref (ap 7), .ref (ap 8), .ref (ap 9), .ref (ap 10)])), ((ap 3), .inl (eI E, 24, .inl (vp 3))), ((ap 4), .inl (eI E, 24, .inl (vp 4))), ((ap 6), .inl (eM E, 3, .inr (.inr (.inr (.inr (fun i => some (ap (20 + 10 * i)))))))), ((ap 20), .inr (0, [.int (vp 20 0), .int (vp 21 0), .int (vp 22 0), .ref (ap 23), .ref (ap 24)])), ((ap 23), .inl (eI E, 18, .inl (vp 23))), ((ap 24), .inl (eI E, 24, .inl (vp 24))), ((ap 30), .inr (0, [.int (vp 30 0), .int (vp 31 0), .int (vp 32 0), .ref (ap 33), .ref (ap 34)])), ((ap 33), .inl (eI E, 18, .inl (vp 33))), ((ap 34), .inl (eI E, 24, .inl (vp 34))), ((ap 40), .inr (0, [.int (vp 40 0), .int (vp 41 0), .int (vp 42 0), .ref (ap 43), .ref (ap 44)])), ((ap 43), .inl (eI E, 18, .inl (vp 43))), ((ap 44), .inl (eI E, 24, .inl (vp 44))), ((ap 7), .inr (5, [.int (vp 60 0), .ref (ap 61), .ref (ap 62), .ref (ap 63)])), ((ap 61), .inl (eI E, 6, .inl (vp 61))), ((ap 62), .inl (eI E, 6, .inl (vp 62))), ((ap 63), .inl (eI E, 6, .inl (vp 63))), ((ap 8), .inr (5, [.int (vp 70 0), .ref (ap 71), .ref (ap 72), .ref (ap 73)])), ((ap 71), .inl (eI E, 6, .inl (vp 71))), ((ap 72), .inl (eI E, 6, .inl (vp 72))), ((ap 73), .inl (eI E, 6, .inl (vp 73))), ((ap 9), .inr (5, [.int (vp 80 0), .ref (ap 81), .ref (ap 82), .ref (ap 83)])), ((ap 81), .inl (eI E, 6, .inl (vp 81))), ((ap 82), .inl (eI E, 6, .inl (vp 82))), ((ap 83), .inl (eI E, 6, .inl (vp 83))), ((ap 10), .inr (5, [.int (vp 90 0), .ref (ap 91), .ref (ap 92), .ref (ap 93)])), ((ap 91), .inl (eI E, 6, .inl (vp 91))), ((ap 92), .inl (eI E, 6, .inl (vp 92))), ((ap 93), .inl (eI E, 6, .inl (vp 93))), ((aq 0), .inr (1, [.int (vq 0 0), .int (vq 1 0), .int (vq 2 0), .ref (aq 3), .ref (aq 4), .int (vq 5 0), .ref (aq 6), .ref (aq 7), .ref (aq 8), .ref (aq 9), .ref (aq 10)])), ((aq 3), .inl (eI E, 24, .inl (vq 3))), ((aq 4), .inl (eI E, 24, .inl (vq 4))), ((aq 6), .inl (eM E, 3, .inr (.inr (.inr (.inr (fun i => some (aq (20 + 10 * i)))))))), ((aq 20), .inr (0, [.int (vq 20 0), .int (vq 21 0), .int (vq 22 0), .ref (aq 23), .ref (aq 24)])), ((aq 23), .inl (eI E, 18, .inl (vq 23))), ((aq 24), .inl (eI E, 24, .inl (vq 24))), ((aq 30), .inr (0, [.int (vq 30 0), .int (vq 31 0), .int (vq 32 0), .ref (aq 33), .ref (aq 34)])), ((aq 33), .inl (eI E, 18, .inl (vq 33))), ((aq 34), .inl (eI E, 24, .inl (vq 34))), ((aq 40), .inr (0, [.int (vq 40 0), .int (vq 41 0), .int (vq 42 0), .ref (aq 43), .ref (aq 44)])), ((aq 43), .inl (eI E, 18, .inl (vq 43))), ((aq 44), .inl (eI E, 24, .inl (vq 44))), ((aq 7), .inr (5, [.int (vq 60 0), .ref (aq 61), .ref (aq 62), .ref (aq 63)])), ((aq 61), .inl (eI E, 6, .inl (vq 61))), ((aq 62), .inl (eI E, 6, .inl (vq 62))), ((aq 63), .inl (eI E, 6, .inl (vq 63))), ((aq 8), .inr (5, [.int (vq 70 0), .ref (aq 71), .ref (aq 72), .ref (aq 73)])), ((aq 71), .inl (eI E, 6, .inl (vq 71))), ((aq 72), .inl (eI E, 6, .inl (vq 72))), ((aq 73), .inl (eI E, 6, .inl (vq 73))), ((aq 9), .inr (5, [.int (vq 80 0), .ref (aq 81), .ref (aq 82), .ref (aq 83)])), ((aq 81), .inl (eI E, 6, .inl (vq 81))), ((aq 82), .inl (eI E, 6, .inl (vq 82))), ((aq 83), .inl (eI E, 6, .inl (vq 83))), ((aq 10), .inr (5, [.int (vq 90 0), .ref (aq 91), .ref (aq 92), .ref (aq 93)])), ((aq 91), .inl (eI E, 6, .inl (vq 91))), ((aq 92), .inl (eI E, 6, .inl (vq 92))), ((aq 93), .inl (eI E, 6, .inl (vq 93))), ((bi 0), .inr (6, [.int (vj 0 0), .ref (bi 1), .ref (bi 2), .ref (bi 3), .int (vj 4 0), .int (vj 5 0), .int (vj 6 0), .int (vj 7 0), .int (vj 8 0)])), ((bi 1), .inl (eI E, 3, .inl (vj 1))), ((bi 2), .inl (eI E, 24, .inl (vj 2))), ((bi 3), .inl (eI E, 6, .inl (vj 3)))]) (As := [.ref (as_ 0)]) (rest := []) (C := RX6) (ci := 6) ⟨hx, hb, hml, hown, hts⟩ (c_X6_copyFrom l E s.heap.size ai vi as_ vs hJ_vs) (cwV 1 hts gX9_keep_X6_copyFrom rfl rfl rfl (by decide +kernel) ⟨Nat.le_of_ble_eq_true rfl, Nat.le_of_ble_eq_true rfl⟩) hE hS hA hP hD [81, 82, 83, 84, 48, 49, 50, 51] [0, 1, 2, 3, 4, 5, 6, 7, 8, 9, 10, 11, 12, 13, 14, 15, 16, 17, 18, 19, 20, 21, 22, 23, 24, 25, 26, 27, 28, 29, 30, 31, 32, 33, 34, 35, 36, 37, 38, 39, 40, 41, 42, 43, 44, 45, 46, 47, 52, 53, 54, 55, 56, 57, 58, 59, 60, 61, 62, 63, 64, 65, 66, 67, 68, 69, 70, 71, 72, 73, 74, 75, 76, 77, 78, 79, 80, 85, 86, 87, 88] rfl rfl (by decide) (by decide) (by decide) [0, 1, 2, 3, 4, 5, 6, 7, 8, 9, 10, 11, 12, 13, 14, 15, 16, 17, 18, 19, 20, 21, 22, 23, 24, 25, 26, 27, 28, 29, 30, 31, 32, 33, 34, 35, 36, 37, 38, 39, 40, 41, 42, 43, 44, 45, 46, 47, 85, 86, 87, 88, 48, 49, 50, 51, 52, 53, 54, 55, 56, 57, 58, 59, 60, 61, 62, 63, 64, 65, 66, 67, 68, 69, 70, 71, 72, 73, 74, 75, 76, 81, 82, 83, 84, 77, 78, 79, 80] (by decide) (fun u => rfl) rfl rfl rfl rfl hl.1 rfl (Nat.le_of_ble_eq_true rfl) dX9_keep_22 ⟨Nat.zero_le _, Nat.zero_le _⟩ (fun u22 H locs h22 hP hD hS => ?_)
      generalize u22 = o22_vs at hP hD h22
      try dsimp only at h22
      have hf22 := h22.2
      replace h22 := h22.1
      replace hP : va_P (eD E) vwCl (tgL E a v cz0 cz1 rt rp aq vq ap vp as_ vs ai o22_vs bi vj) H := hP
      replace hD : va_D A (tgL E a v cz0 cz1 rt rp aq vq ap vp as_ vs ai o22_vs bi vj) := hD
      refine lv_aload_n hx hb dX9_keep_25 rfl (lv_at hl 0 rfl) ?_
      refine va_get (D := eD E) (ci := 9) (v := .ref (a 7)) (C := RX9) (T := TX9) (N := 13) hx hb hts in_X9 hown hK hP 0 rfl rfl 7 (by decide) lk0 (fun _ h9 => h9) rfl dX9_keep_26 ?_
      refine lv_iload_n hx hb dX9_keep_29 rfl (lv_at hl 1 rfl) ?_
      refine va_aldq hx hb hK hP 4 3 rfl rfl (i_in (by decide) (by decide)) dX9_keep_30 ?_
      refine W.eq (g2 := F0 m 31 ls [.ref (ai 0)]) rfl ?_
      refine lv_iconst (v := 1) hx hb dX9_keep_31 (by decide) ?_
      refine va_put (D := eD E) (ci := 6) (v := .int 1) (ty := .boolean) (C := RX6) (T := TX6) (N := 9) hx hb hts in_X6 tyX6 tyX6_ok nmX6 hown hK hP hD hS 81 rfl rfl 8 (by decide) lk2 (fun _ h9 => h9) rfl (by decide +kernel) rfl rfl (Nat.le_of_ble_eq_true rfl) dX9_keep_32 (fun H locs hP hD hS => ?_)
      replace hP : va_P (eD E) vwCl (tgL E a v cz0 cz1 rt rp aq vq ap vp as_ vs ai (up2 o22_vs 8 0 1) bi vj) H := hP
      replace hD : va_D A (tgL E a v cz0 cz1 rt rp aq vq ap vp as_ vs ai (up2 o22_vs 8 0 1) bi vj) := hD
      generalize hv32 : up2 o22_vs 8 0 1 = vi_32 at hP hD
      refine lv_iconst (v := 1) hx hb dX9_keep_35 (by decide) ?_
      subst hQ
      exact W.iret (v := 1) hx hb hr (fun t ht hW => ⟨⟨1, (vi_32, vj), rfl, (show (TgA v vp vq vs vi_32 vj ∧ (((1 : Int32).toInt = -1000000001 ∧ ((0 : Int32).toInt < 0 ∨ 1 < (0 : Int32).toInt)) ∨ ((1 : Int32).toInt = 1 ∧ 0 ≤ (0 : Int32).toInt ∧ (0 : Int32).toInt ≤ 1))) ∧ (KeepC (0 : Int32) vs vi vj vi_32 vj) from ⟨⟨⟨hT, hG, hI, hI2, hJ, (by rw [← hv32]; exact h22), hJj⟩, by omega⟩, (Or.inr (Or.inl ⟨by decide, ⟨(by rw [← hv32]; exact hf22.1), (by rw [← hv32]; rfl)⟩, rfl⟩))⟩), by rw [ht]; exact hP, hD⟩, hS.F ht⟩) hS.2.2 dX9_keep_36
    · refine lv_aload_n hx hb dX9_keep_12 rfl (lv_at hl 0 rfl) ?_
      refine va_get (D := eD E) (ci := 9) (v := .ref (a 7)) (C := RX9) (T := TX9) (N := 13) hx hb hts in_X9 hown hK hP 0 rfl rfl 7 (by decide) lk0 (fun _ h9 => h9) rfl dX9_keep_13 ?_
      refine lv_iload_n hx hb dX9_keep_16 rfl (lv_at hl 1 rfl) ?_
      refine va_aldq hx hb hK hP 4 3 rfl rfl (i_in (by decide) (by decide)) dX9_keep_17 ?_
      refine W.eq (g2 := F0 m 18 ls [.ref (bi 0)]) rfl ?_
      refine lv_aload_n hx hb dX9_keep_18 rfl (lv_at hl 0 rfl) ?_
      refine va_get (D := eD E) (ci := 9) (v := .ref (as_ 0)) (C := RX9) (T := TX9) (N := 13) hx hb hts in_X9 hown hK hP 0 rfl rfl 6 (by decide) lk1 (fun _ h9 => h9) rfl dX9_keep_19 ?_
      refine mt_Vv (w1 := fun (u : Vf) => st2L E bi u as_ vs) (wf := fun (u : Vf) => tgL E a v cz0 cz1 rt rp aq vq ap vp as_ vs ai vi bi u) (wr := [((a 99), .inr (9, [.ref (a 0), .int (v 1 0), .int (v 2 0), .ref (a 3), .ref (aq 0), .ref (a 5), .ref (as_ 0), .ref (a 7), .ref (a 8), .ref (a 9), .ref (a 10), .ref (a 11), .int (v 12 0)])), ((a 0), .inl (eI E, 250, .inl (v 0))), ((a 11), .inl (eI E, 30, .inl (v 11))), ((a 3), .inr (2, [rt, .int (v 101 0), .int (v 102 0), rp, .int (v 104 0), .int (v 105 0), .int (v 106 0), .int (v 107 0), .int (v 108 0)])), ((a 7), .inl (eS E, 2, .inr (.inr (.inr (.inr (fun i => some (cond (Nat.beq i 0) (ai 0) (bi 0)))))))), ((a 8), .inr (3, [.ref (a 5), .ref cz0, .ref cz1, .ref (a 203)])), (cz0, .inl (eI E, 24, .inl (v 201))), (cz1, .inl (eI E, 24, .inl (v 202))), ((a 203), .inl (eI E, 960, .inl (v 203))), ((a 9), .inr (7, [.ref (a 5), .ref (a 301), .ref (a 302), .int (v 303 0), .int (v 304 0)])), ((a 301), .inl (eI E, 5, .inl (v 301))), ((a 302), .inl (eI E, 5, .inl (v 302))), ((a 10), .inr (4, [.ref (a 5), .int (v 401 0), .ref (a 402), .ref (a 403), .ref (a 404), .ref (a 405), .int (v 406 0), .ref (a 407), .int (v 408 0), .int (v 409 0), .int (v 410 0)])), ((a 402), .inl (eI E, 12, .inl (v 402))), ((a 403), .inl (eI E, 12, .inl (v 403))), ((a 404), .inl (eI E, 12, .inl (v 404))), ((a 405), .inl (eI E, 729, .inl (v 405))), ((a 407), .inl (eI E, 55, .inl (v 407))), ((a 5), .inr (8, [.ref (ap 0), .ref (as_ 0)])), ((ap 0), .inr (1, [.int (vp 0 0), .int (vp 1 0), .int (vp 2 0), .ref (ap 3), .ref (ap 4), .int (vp 5 0), .ref (ap 6), .ref (ap 7), .ref (ap 8), .ref (ap 9), .ref (ap 10)])), ((ap 3), .inl (eI E, 24, .inl (vp 3))), ((ap 4), .inl (eI E, 24, .inl (vp 4))), ((ap 6), .inl (eM E, 3, .inr (.inr (.inr (.inr (fun i => some (ap (20 + 10 * i)))))))), ((ap 20), .inr (0, [.int (vp 20 0), .int (vp 21 0), .int (vp 22 0), .ref (ap 23), .ref (ap 24)])), ((ap 23), .inl (eI E, 18, .inl (vp 23))), ((ap 24), .inl (eI E, 24, .inl (vp 24))), ((ap 30), .inr (0, [.int (vp 30 0), .int (vp 31 0), .int (vp 32 0), .ref (ap 33), .ref (ap 34)])), ((ap 33), .inl (eI E, 18, .inl (vp 33))), ((ap 34), .inl (eI E, 24, .inl (vp 34))), ((ap 40), .inr (0, [.int (vp 40 0), .int (vp 41 0), .int (vp 42 0), .ref (ap 43), .ref (ap 44)])), ((ap 43), .inl (eI E, 18, .inl (vp 43))), ((ap 44), .inl (eI E, 24, .inl (vp 44))), ((ap 7), .inr (5, [.int (vp 60 0), .ref (ap 61), .ref (ap 62), .ref (ap 63)])), ((ap 61), .inl (eI E, 6, .inl (vp 61))), ((ap 62), .inl (eI E, 6, .inl (vp 62))), ((ap 63), .inl (eI E, 6, .inl (vp 63))), ((ap 8), .inr (5, [.int (vp 70 0), .ref (ap 71), .ref (ap 72), .ref (ap 73)])), ((ap 71), .inl (eI E, 6, .inl (vp 71))), ((ap 72), .inl (eI E, 6, .inl (vp 72))), ((ap 73), .inl (eI E, 6, .inl (vp 73))), ((ap 9), .inr (5, [.int (vp 80 0), .ref (ap 81), .ref (ap 82), .ref (ap 83)])), ((ap 81), .inl (eI E, 6, .inl (vp 81))), ((ap 82), .inl (eI E, 6, .inl (vp 82))), ((ap 83), .inl (eI E, 6, .inl (vp 83))), ((ap 10), .inr (5, [.int (vp 90 0), .ref (ap 91), .ref (ap 92), .ref (ap 93)])), ((ap 91), .inl (eI E, 6, .inl (vp 91))), ((ap 92), .inl (eI E, 6, .inl (vp 92))), ((ap 93), .inl (eI E, 6, .inl (vp 93))), ((aq 0), .inr (1, [.int (vq 0 0), .int (vq 1 0), .int (vq 2 0), .ref (aq 3), .ref (aq 4), .int (vq 5 0), .ref (aq 6), .ref (aq 7), .ref (aq 8), .ref (aq 9), .ref (aq 10)])), ((aq 3), .inl (eI E, 24, .inl (vq 3))), ((aq 4), .inl (eI E, 24, .inl (vq 4))), ((aq 6), .inl (eM E, 3, .inr (.inr (.inr (.inr (fun i => some (aq (20 + 10 * i)))))))), ((aq 20), .inr (0, [.int (vq 20 0), .int (vq 21 0), .int (vq 22 0), .ref (aq 23), .ref (aq 24)])), ((aq 23), .inl (eI E, 18, .inl (vq 23))), ((aq 24), .inl (eI E, 24, .inl (vq 24))), ((aq 30), .inr (0, [.int (vq 30 0), .int (vq 31 0), .int (vq 32 0), .ref (aq 33), .ref (aq 34)])), ((aq 33), .inl (eI E, 18, .inl (vq 33))), ((aq 34), .inl (eI E, 24, .inl (vq 34))), ((aq 40), .inr (0, [.int (vq 40 0), .int (vq 41 0), .int (vq 42 0), .ref (aq 43), .ref (aq 44)])), ((aq 43), .inl (eI E, 18, .inl (vq 43))), ((aq 44), .inl (eI E, 24, .inl (vq 44))), ((aq 7), .inr (5, [.int (vq 60 0), .ref (aq 61), .ref (aq 62), .ref (aq 63)])), ((aq 61), .inl (eI E, 6, .inl (vq 61))), ((aq 62), .inl (eI E, 6, .inl (vq 62))), ((aq 63), .inl (eI E, 6, .inl (vq 63))), ((aq 8), .inr (5, [.int (vq 70 0), .ref (aq 71), .ref (aq 72), .ref (aq 73)])), ((aq 71), .inl (eI E, 6, .inl (vq 71))), ((aq 72), .inl (eI E, 6, .inl (vq 72))), ((aq 73), .inl (eI E, 6, .inl (vq 73))), ((aq 9), .inr (5, [.int (vq 80 0), .ref (aq 81), .ref (aq 82), .ref (aq 83)])), ((aq 81), .inl (eI E, 6, .inl (vq 81))), ((aq 82), .inl (eI E, 6, .inl (vq 82))), ((aq 83), .inl (eI E, 6, .inl (vq 83))), ((aq 10), .inr (5, [.int (vq 90 0), .ref (aq 91), .ref (aq 92), .ref (aq 93)])), ((aq 91), .inl (eI E, 6, .inl (vq 91))), ((aq 92), .inl (eI E, 6, .inl (vq 92))), ((aq 93), .inl (eI E, 6, .inl (vq 93))), ((ai 0), .inr (6, [.int (vi 0 0), .ref (ai 1), .ref (ai 2), .ref (ai 3), .int (vi 4 0), .int (vi 5 0), .int (vi 6 0), .int (vi 7 0), .int (vi 8 0)])), ((ai 1), .inl (eI E, 3, .inl (vi 1))), ((ai 2), .inl (eI E, 24, .inl (vi 2))), ((ai 3), .inl (eI E, 6, .inl (vi 3)))]) (As := [.ref (as_ 0)]) (rest := []) (C := RX6) (ci := 6) ⟨hx, hb, hml, hown, hts⟩ (c_X6_copyFrom l E s.heap.size bi vj as_ vs hJ_vs) (cwV 1 hts gX9_keep_X6_copyFrom rfl rfl rfl (by decide +kernel) ⟨Nat.le_of_ble_eq_true rfl, Nat.le_of_ble_eq_true rfl⟩) hE hS hA hP hD [85, 86, 87, 88, 48, 49, 50, 51] [0, 1, 2, 3, 4, 5, 6, 7, 8, 9, 10, 11, 12, 13, 14, 15, 16, 17, 18, 19, 20, 21, 22, 23, 24, 25, 26, 27, 28, 29, 30, 31, 32, 33, 34, 35, 36, 37, 38, 39, 40, 41, 42, 43, 44, 45, 46, 47, 52, 53, 54, 55, 56, 57, 58, 59, 60, 61, 62, 63, 64, 65, 66, 67, 68, 69, 70, 71, 72, 73, 74, 75, 76, 77, 78, 79, 80, 81, 82, 83, 84] rfl rfl (by decide) (by decide) (by decide) [0, 1, 2, 3, 4, 5, 6, 7, 8, 9, 10, 11, 12, 13, 14, 15, 16, 17, 18, 19, 20, 21, 22, 23, 24, 25, 26, 27, 28, 29, 30, 31, 32, 33, 34, 35, 36, 37, 38, 39, 40, 41, 42, 43, 44, 45, 46, 47, 85, 86, 87, 88, 48, 49, 50, 51, 52, 53, 54, 55, 56, 57, 58, 59, 60, 61, 62, 63, 64, 65, 66, 67, 68, 69, 70, 71, 72, 73, 74, 75, 76, 77, 78, 79, 80, 81, 82, 83, 84] (by decide) (fun u => rfl) rfl rfl rfl rfl hl.1 rfl (Nat.le_of_ble_eq_true rfl) dX9_keep_22 ⟨Nat.zero_le _, Nat.zero_le _⟩ (fun u22 H locs h22 hP hD hS => ?_)
      generalize u22 = o22_vs at hP hD h22
      try dsimp only at h22
      have hf22 := h22.2
      replace h22 := h22.1
      replace hP : va_P (eD E) vwCl (tgL E a v cz0 cz1 rt rp aq vq ap vp as_ vs ai vi bi o22_vs) H := hP
      replace hD : va_D A (tgL E a v cz0 cz1 rt rp aq vq ap vp as_ vs ai vi bi o22_vs) := hD
      refine lv_aload_n hx hb dX9_keep_25 rfl (lv_at hl 0 rfl) ?_
      refine va_get (D := eD E) (ci := 9) (v := .ref (a 7)) (C := RX9) (T := TX9) (N := 13) hx hb hts in_X9 hown hK hP 0 rfl rfl 7 (by decide) lk0 (fun _ h9 => h9) rfl dX9_keep_26 ?_
      refine lv_iload_n hx hb dX9_keep_29 rfl (lv_at hl 1 rfl) ?_
      refine va_aldq hx hb hK hP 4 3 rfl rfl (i_in (by decide) (by decide)) dX9_keep_30 ?_
      refine W.eq (g2 := F0 m 31 ls [.ref (bi 0)]) rfl ?_
      refine lv_iconst (v := 1) hx hb dX9_keep_31 (by decide) ?_
      refine va_put (D := eD E) (ci := 6) (v := .int 1) (ty := .boolean) (C := RX6) (T := TX6) (N := 9) hx hb hts in_X6 tyX6 tyX6_ok nmX6 hown hK hP hD hS 85 rfl rfl 8 (by decide) lk2 (fun _ h9 => h9) rfl (by decide +kernel) rfl rfl (Nat.le_of_ble_eq_true rfl) dX9_keep_32 (fun H locs hP hD hS => ?_)
      replace hP : va_P (eD E) vwCl (tgL E a v cz0 cz1 rt rp aq vq ap vp as_ vs ai vi bi (up2 o22_vs 8 0 1)) H := hP
      replace hD : va_D A (tgL E a v cz0 cz1 rt rp aq vq ap vp as_ vs ai vi bi (up2 o22_vs 8 0 1)) := hD
      generalize hv32 : up2 o22_vs 8 0 1 = vj_32 at hP hD
      refine lv_iconst (v := 1) hx hb dX9_keep_35 (by decide) ?_
      subst hQ
      exact W.iret (v := 1) hx hb hr (fun t ht hW => ⟨⟨1, (vi, vj_32), rfl, (show (TgA v vp vq vs vi vj_32 ∧ (((1 : Int32).toInt = -1000000001 ∧ ((1 : Int32).toInt < 0 ∨ 1 < (1 : Int32).toInt)) ∨ ((1 : Int32).toInt = 1 ∧ 0 ≤ (1 : Int32).toInt ∧ (1 : Int32).toInt ≤ 1))) ∧ (KeepC (1 : Int32) vs vi vj vi vj_32) from ⟨⟨⟨hT, hG, hI, hI2, hJ, hJi, (by rw [← hv32]; exact h22)⟩, by omega⟩, (Or.inr (Or.inr ⟨by decide, ⟨(by rw [← hv32]; exact hf22.1), (by rw [← hv32]; rfl)⟩, rfl⟩))⟩), by rw [ht]; exact hP, hD⟩, hS.F ht⟩) hS.2.2 dX9_keep_36
  · have c6_ := i_ne c6
    replace h3 := or_y h3 c6_
    clear c6_
    refine lv_ldc hx hb hown lk3 dX9_keep_9 ?_
    subst hQ
    exact W.iret (v := (-1000000001)) hx hb hr (fun t ht hW => ⟨⟨(-1000000001), (vi, vj), rfl, (show (TgA v vp vq vs vi vj ∧ ((((-1000000001) : Int32).toInt = -1000000001 ∧ (i.toInt < 0 ∨ 1 < i.toInt)) ∨ (((-1000000001) : Int32).toInt = 1 ∧ 0 ≤ i.toInt ∧ i.toInt ≤ 1))) ∧ (KeepC i vs vi vj vi vj) from ⟨⟨hTA, by omega⟩, (Or.inl ⟨by omega, rfl, rfl⟩)⟩), by rw [ht]; exact hP, hD⟩, hS.F ht⟩) hS.2.2 dX9_keep_11
def rm_X9_goBack : Room := { frames := 1, cells := 0, slots := 0, locals := 22 }
set_option maxHeartbeats 4000000 in
set_option maxRecDepth 100000 in
theorem c_X9_goBack (l : Launch) (E : Ev) (sz : Nat) (a : Nat → Nat) (v : Vf) (cz0 : Nat) (cz1 : Nat) (rt : Value) (rp : Value) (aq : Nat → Nat) (vq : Vf) (ap : Nat → Nat) (vp : Vf) (as_ : Nat → Nat) (vs : Vf) (ai : Nat → Nat) (vi : Vf) (bi : Nat → Nat) (vj : Vf) (i : Int32) (hTA : TgA v vp vq vs vi vj) : Met l yX9_goBack wsX9_goBack rm_X9_goBack (MtP E sz [.ref (a 99), .int i] (tgL E a v cz0 cz1 rt rp aq vq ap vp as_ vs ai vi bi vj)) (va_Qi (fun (r : Int32) (u : Vf) => (TgA v vp vq u vi vj) ∧ (GoC i vs vi vj r u)) (MtB E (va_A (tgL E a v cz0 cz1 rt rp aq vq ap vp as_ vs ai vi bi vj) sz) (fun u => tgL E a v cz0 cz1 rt rp aq vq ap vp as_ u ai vi bi vj)) (va_A (tgL E a v cz0 cz1 rt rp aq vq ap vp as_ vs ai vi bi vj) sz)) 0 0 (va_A (tgL E a v cz0 cz1 rt rp aq vq ap vp as_ vs ai vi bi vj) sz) := by
  refine Met.ofW (cc := cX9_goBack) (maxL := 2) (ret := (some .int)) (by decide) rfl ?_
  intro p e s m args below meth c s₁ B hml hv
  obtain ⟨rfl, hsz, hE, hP, hD0⟩ := hv
  subst hsz
  have hD := hD0.self (sz := s.heap.size)
  generalize hAe : va_A (tgL E a v cz0 cz1 rt rp aq vq ap vp as_ vs ai vi bi vj) s.heap.size = A at hD hE ⊢
  have hA : ∀ q : Nat, s.heap.size ≤ q → A q := fun q h => by rw [← hAe]; exact Or.inr h
  have hS : va_S A s.heap s.heap [] := va_S.rf
  have hx := B.exec
  have hb := B.bytes
  have hr := B.returns
  have hts := atoms_spec (ws := wsX9_goBack) B.pre
  have hown : s.vm.findClass RX9 = some m.cls := findClass_of_methodNamed B.named
  have hlocks := B.notSynchronized
  have hK := hE.1
  have in_X9 : ∀ w ∈ u_ws RX9 TX9 13, w ∈ wsX9_goBack := fun w h => List.mem_cons_of_mem _ (List.mem_append_left _ (List.mem_append_right _ h))
  have in_X6 : ∀ w ∈ u_ws RX6 TX6 9, w ∈ wsX9_goBack := fun w h => List.mem_cons_of_mem _ (List.mem_append_right _ h)
  have lk0 := hts (.fieldLink RX9 47 "TidedGround" "images" "[LTidedGround$State;") (List.mem_of_getElem? (i := 2) rfl)
  have lk1 := hts (.fieldLink RX9 109 "TidedGround$State" "kept" "Z") (List.mem_of_getElem? (i := 3) rfl)
  have lk2 := hts (.fieldLink RX9 34 "TidedGround" "now" "LTidedGround$State;") (List.mem_of_getElem? (i := 5) rfl)
  have lk3 := hts (.constant RX9 236 (-1000000003)) (List.mem_of_getElem? (i := 4) rfl)
  have lk4 := hts (.constant RX9 161 (-1000000001)) (List.mem_of_getElem? (i := 1) rfl)
  have n_m1000000003 : ((-1000000003) : Int32).toInt = -1000000003 := by decide
  have n_m1000000001 : ((-1000000001) : Int32).toInt = -1000000001 := by decide
  have n_0 : (0 : Int32).toInt = 0 := by decide
  have n_1 : (1 : Int32).toInt = 1 := by decide
  have hl := lv_entry ([.ref (a 99), .int i]) (n := 2) (Nat.le_of_ble_eq_true rfl)
  rw [lg_entry_eq]
  generalize (lg_sl ([.ref (a 99), .int i]) ++ List.replicate (2 - (lg_sl ([.ref (a 99), .int i])).length) Slot.unset).toArray = ls at hl ⊢
  have hl : lv_has ls 2 [(0, .ref (a 99)), (1, .int i)] := hl
  refine W_abs (fun Q hQ => ?_)
  obtain ⟨hT, hG, hI, hI2, hJ, hJi, hJj⟩ := id hTA
  obtain ⟨hT1, hT2⟩ := id hT
  have hJ_vs := hJ
  have hJ_vi := hJi
  have hJ_vj := hJj
  obtain ⟨hg, hmc, hm0, hm1, hm2, hs0, hs1, hs2, hs3⟩ := id hI
  obtain ⟨hg1, hg2, hg3, hg4⟩ := id hg
  have hz0 := hm0.1
  have hz1 := hm1.1
  have hz2 := hm2.1
  have hc0 := hs0.1
  have hc1 := hs1.1
  have hc2 := hs2.1
  have hc3 := hs3.1
  obtain ⟨hj0, hj1, hj2⟩ := id hJ
  have hg5 : 0 ≤ (vp 2 0).toInt := by rw [hg3]; exact Int.mul_nonneg hg1.1 hg2.1
  have hG1 := hG.1
  have hG4 := hG.2.2.2
  refine lv_iload_n hx hb dX9_goBack_0 rfl (lv_at hl 1 rfl) ?_
  refine lv_iconst (v := 0) hx hb dX9_goBack_1 (by decide) ?_
  refine lv_iconst (v := 1) hx hb dX9_goBack_2 (by decide) ?_
  refine rd_S (As := [.int i, .int 0, .int 1]) (rest := []) ⟨hx, hb, hml, hown, hts⟩ (c_X9_isOff l E A i 0 1) (va_cwS 3 hts gX9_goBack_X9_isOff rfl rfl rfl (by decide +kernel) ⟨Nat.le_of_ble_eq_true rfl, Nat.le_of_ble_eq_true rfl⟩) (hE.kept hS.2.1) (hP.sub (ws' := []) [] rfl) rfl hl.1 rfl (Nat.le_of_ble_eq_true rfl) dX9_goBack_3 ⟨Nat.zero_le _, Nat.zero_le _⟩ (fun r3 h3 => ?_)
  refine lv_if_eq (tgt := 12) hx hb dX9_goBack_6 (by decide) (fun c6 => ?_) (fun c6 => ?_)
  · have c6_ := i_eq c6
    replace h3 := or_n h3 c6_
    rcases (show i = 0 ∨ i = 1 from i_c2 (by omega) (by omega)) with rfl | rfl
    · refine lv_aload_n hx hb dX9_goBack_12 rfl (lv_at hl 0 rfl) ?_
      refine va_get (D := eD E) (ci := 9) (v := .ref (a 7)) (C := RX9) (T := TX9) (N := 13) hx hb hts in_X9 hown hK hP 0 rfl rfl 7 (by decide) lk0 (fun _ h9 => h9) rfl dX9_goBack_13 ?_
      refine lv_iload_n hx hb dX9_goBack_16 rfl (lv_at hl 1 rfl) ?_
      refine va_aldq hx hb hK hP 4 3 rfl rfl (i_in (by decide) (by decide)) dX9_goBack_17 ?_
      refine W.eq (g2 := F0 m 18 ls [.ref (ai 0)]) rfl ?_
      refine va_get (D := eD E) (ci := 6) (v := .int (vi 8 0)) (C := RX6) (T := TX6) (N := 9) hx hb hts in_X6 hown hK hP 81 rfl rfl 8 (by decide) lk1 (fun _ h9 => h9) rfl dX9_goBack_18 ?_
      refine lv_if_ne (tgt := 27) hx hb dX9_goBack_21 (by decide) (fun c21 => ?_) (fun c21 => ?_)
      · have c21_ := i_ne c21
        refine lv_aload_n hx hb dX9_goBack_27 rfl (lv_at hl 0 rfl) ?_
        refine va_get (D := eD E) (ci := 9) (v := .ref (as_ 0)) (C := RX9) (T := TX9) (N := 13) hx hb hts in_X9 hown hK hP 0 rfl rfl 6 (by decide) lk2 (fun _ h9 => h9) rfl dX9_goBack_28 ?_
        refine lv_aload_n hx hb dX9_goBack_31 rfl (lv_at hl 0 rfl) ?_
        refine va_get (D := eD E) (ci := 9) (v := .ref (a 7)) (C := RX9) (T := TX9) (N := 13) hx hb hts in_X9 hown hK hP 0 rfl rfl 7 (by decide) lk0 (fun _ h9 => h9) rfl dX9_goBack_32 ?_
        refine lv_iload_n hx hb dX9_goBack_35 rfl (lv_at hl 1 rfl) ?_
        refine va_aldq hx hb hK hP 4 3 rfl rfl (i_in (by decide) (by decide)) dX9_goBack_36 ?_
        refine W.eq (g2 := F0 m 37 ls [.ref (ai 0), .ref (as_ 0)]) rfl ?_
        refine mt_Vv (w1 := fun (u : Vf) => st2L E as_ u ai vi) (wf := fun (u : Vf) => tgL E a v cz0 cz1 rt rp aq vq ap vp as_ u ai vi bi vj) (wr := [((a 99), .inr (9, [.ref (a 0), .int (v 1 0), .int (v 2 0), .ref (a 3), .ref (aq 0), .ref (a 5), .ref (as_ 0), .ref (a 7), .ref (a 8), .ref (a 9), .ref (a 10), .ref (a 11), .int (v 12 0)])), ((a 0), .inl (eI E, 250, .inl (v 0))), ((a 11), .inl (eI E, 30, .inl (v 11))), ((a 3), .inr (2, [rt, .int (v 101 0), .int (v 102 0), rp, .int (v 104 0), .int (v 105 0), .int (v 106 0), .int (v 107 0), .int (v 108 0)])), ((a 7), .inl (eS E, 2, .inr (.inr (.inr (.inr (fun i => some (cond (Nat.beq i 0) (ai 0) (bi 0)))))))), ((a 8), .inr (3, [.ref (a 5), .ref cz0, .ref cz1, .ref (a 203)])), (cz0, .inl (eI E, 24, .inl (v 201))), (cz1, .inl (eI E, 24, .inl (v 202))), ((a 203), .inl (eI E, 960, .inl (v 203))), ((a 9), .inr (7, [.ref (a 5), .ref (a 301), .ref (a 302), .int (v 303 0), .int (v 304 0)])), ((a 301), .inl (eI E, 5, .inl (v 301))), ((a 302), .inl (eI E, 5, .inl (v 302))), ((a 10), .inr (4, [.ref (a 5), .int (v 401 0), .ref (a 402), .ref (a 403), .ref (a 404), .ref (a 405), .int (v 406 0), .ref (a 407), .int (v 408 0), .int (v 409 0), .int (v 410 0)])), ((a 402), .inl (eI E, 12, .inl (v 402))), ((a 403), .inl (eI E, 12, .inl (v 403))), ((a 404), .inl (eI E, 12, .inl (v 404))), ((a 405), .inl (eI E, 729, .inl (v 405))), ((a 407), .inl (eI E, 55, .inl (v 407))), ((a 5), .inr (8, [.ref (ap 0), .ref (as_ 0)])), ((ap 0), .inr (1, [.int (vp 0 0), .int (vp 1 0), .int (vp 2 0), .ref (ap 3), .ref (ap 4), .int (vp 5 0), .ref (ap 6), .ref (ap 7), .ref (ap 8), .ref (ap 9), .ref (ap 10)])), ((ap 3), .inl (eI E, 24, .inl (vp 3))), ((ap 4), .inl (eI E, 24, .inl (vp 4))), ((ap 6), .inl (eM E, 3, .inr (.inr (.inr (.inr (fun i => some (ap (20 + 10 * i)))))))), ((ap 20), .inr (0, [.int (vp 20 0), .int (vp 21 0), .int (vp 22 0), .ref (ap 23), .ref (ap 24)])), ((ap 23), .inl (eI E, 18, .inl (vp 23))), ((ap 24), .inl (eI E, 24, .inl (vp 24))), ((ap 30), .inr (0, [.int (vp 30 0), .int (vp 31 0), .int (vp 32 0), .ref (ap 33), .ref (ap 34)])), ((ap 33), .inl (eI E, 18, .inl (vp 33))), ((ap 34), .inl (eI E, 24, .inl (vp 34))), ((ap 40), .inr (0, [.int (vp 40 0), .int (vp 41 0), .int (vp 42 0), .ref (ap 43), .ref (ap 44)])), ((ap 43), .inl (eI E, 18, .inl (vp 43))), ((ap 44), .inl (eI E, 24, .inl (vp 44))), ((ap 7), .inr (5, [.int (vp 60 0), .ref (ap 61), .ref (ap 62), .ref (ap 63)])), ((ap 61), .inl (eI E, 6, .inl (vp 61))), ((ap 62), .inl (eI E, 6, .inl (vp 62))), ((ap 63), .inl (eI E, 6, .inl (vp 63))), ((ap 8), .inr (5, [.int (vp 70 0), .ref (ap 71), .ref (ap 72), .ref (ap 73)])), ((ap 71), .inl (eI E, 6, .inl (vp 71))), ((ap 72), .inl (eI E, 6, .inl (vp 72))), ((ap 73), .inl (eI E, 6, .inl (vp 73))), ((ap 9), .inr (5, [.int (vp 80 0), .ref (ap 81), .ref (ap 82), .ref (ap 83)])), ((ap 81), .inl (eI E, 6, .inl (vp 81))), ((ap 82), .inl (eI E, 6, .inl (vp 82))), ((ap 83), .inl (eI E, 6, .inl (vp 83))), ((ap 10), .inr (5, [.int (vp 90 0), .ref (ap 91), .ref (ap 92), .ref (ap 93)])), ((ap 91), .inl (eI E, 6, .inl (vp 91))), ((ap 92), .inl (eI E, 6, .inl (vp 92))), ((ap 93), .inl (eI E, 6, .inl (vp 93))), ((aq 0), .inr (1, [.int (vq 0 0), .int (vq 1 0), .int (vq 2 0), .ref (aq 3), .ref (aq 4), .int (vq 5 0), .ref (aq 6), .ref (aq 7), .ref (aq 8), .ref (aq 9), .ref (aq 10)])), ((aq 3), .inl (eI E, 24, .inl (vq 3))), ((aq 4), .inl (eI E, 24, .inl (vq 4))), ((aq 6), .inl (eM E, 3, .inr (.inr (.inr (.inr (fun i => some (aq (20 + 10 * i)))))))), ((aq 20), .inr (0, [.int (vq 20 0), .int (vq 21 0), .int (vq 22 0), .ref (aq 23), .ref (aq 24)])), ((aq 23), .inl (eI E, 18, .inl (vq 23))), ((aq 24), .inl (eI E, 24, .inl (vq 24))), ((aq 30), .inr (0, [.int (vq 30 0), .int (vq 31 0), .int (vq 32 0), .ref (aq 33), .ref (aq 34)])), ((aq 33), .inl (eI E, 18, .inl (vq 33))), ((aq 34), .inl (eI E, 24, .inl (vq 34))), ((aq 40), .inr (0, [.int (vq 40 0), .int (vq 41 0), .int (vq 42 0), .ref (aq 43), .ref (aq 44)])), ((aq 43), .inl (eI E, 18, .inl (vq 43))), ((aq 44), .inl (eI E, 24, .inl (vq 44))), ((aq 7), .inr (5, [.int (vq 60 0), .ref (aq 61), .ref (aq 62), .ref (aq 63)])), ((aq 61), .inl (eI E, 6, .inl (vq 61))), ((aq 62), .inl (eI E, 6, .inl (vq 62))), ((aq 63), .inl (eI E, 6, .inl (vq 63))), ((aq 8), .inr (5, [.int (vq 70 0), .ref (aq 71), .ref (aq 72), .ref (aq 73)])), ((aq 71), .inl (eI E, 6, .inl (vq 71))), ((aq 72), .inl (eI E, 6, .inl (vq 72))), ((aq 73), .inl (eI E, 6, .inl (vq 73))), ((aq 9), .inr (5, [.int (vq 80 0), .ref (aq 81), .ref (aq 82), .ref (aq 83)])), ((aq 81), .inl (eI E, 6, .inl (vq 81))), ((aq 82), .inl (eI E, 6, .inl (vq 82))), ((aq 83), .inl (eI E, 6, .inl (vq 83))), ((aq 10), .inr (5, [.int (vq 90 0), .ref (aq 91), .ref (aq 92), .ref (aq 93)])), ((aq 91), .inl (eI E, 6, .inl (vq 91))), ((aq 92), .inl (eI E, 6, .inl (vq 92))), ((aq 93), .inl (eI E, 6, .inl (vq 93))), ((bi 0), .inr (6, [.int (vj 0 0), .ref (bi 1), .ref (bi 2), .ref (bi 3), .int (vj 4 0), .int (vj 5 0), .int (vj 6 0), .int (vj 7 0), .int (vj 8 0)])), ((bi 1), .inl (eI E, 3, .inl (vj 1))), ((bi 2), .inl (eI E, 24, .inl (vj 2))), ((bi 3), .inl (eI E, 6, .inl (vj 3)))]) (As := [.ref (ai 0)]) (rest := []) (C := RX6) (ci := 6) ⟨hx, hb, hml, hown, hts⟩ (c_X6_copyFrom l E s.heap.size as_ vs ai vi hJ_vi) (cwV 1 hts gX9_goBack_X6_copyFrom rfl rfl rfl (by decide +kernel) ⟨Nat.le_of_ble_eq_true rfl, Nat.le_of_ble_eq_true rfl⟩) hE hS hA hP hD [48, 49, 50, 51, 81, 82, 83, 84] [0, 1, 2, 3, 4, 5, 6, 7, 8, 9, 10, 11, 12, 13, 14, 15, 16, 17, 18, 19, 20, 21, 22, 23, 24, 25, 26, 27, 28, 29, 30, 31, 32, 33, 34, 35, 36, 37, 38, 39, 40, 41, 42, 43, 44, 45, 46, 47, 52, 53, 54, 55, 56, 57, 58, 59, 60, 61, 62, 63, 64, 65, 66, 67, 68, 69, 70, 71, 72, 73, 74, 75, 76, 77, 78, 79, 80, 85, 86, 87, 88] rfl rfl (by decide) (by decide) (by decide) [0, 1, 2, 3, 4, 5, 6, 7, 8, 9, 10, 11, 12, 13, 14, 15, 16, 17, 18, 19, 20, 21, 22, 23, 24, 25, 26, 27, 28, 29, 30, 31, 32, 33, 34, 35, 36, 37, 38, 39, 40, 41, 42, 43, 44, 45, 46, 47, 81, 82, 83, 84, 48, 49, 50, 51, 52, 53, 54, 55, 56, 57, 58, 59, 60, 61, 62, 63, 64, 65, 66, 67, 68, 69, 70, 71, 72, 73, 74, 75, 76, 85, 86, 87, 88, 77, 78, 79, 80] (by decide) (fun u => rfl) rfl rfl rfl rfl hl.1 rfl (Nat.le_of_ble_eq_true rfl) dX9_goBack_37 ⟨Nat.zero_le _, Nat.zero_le _⟩ (fun u37 H locs h37 hP hD hS => ?_)
        generalize u37 = o37_vs at hP hD h37
        try dsimp only at h37
        have hf37 := h37.2
        replace h37 := h37.1
        replace hP : va_P (eD E) vwCl (tgL E a v cz0 cz1 rt rp aq vq ap vp as_ o37_vs ai vi bi vj) H := hP
        replace hD : va_D A (tgL E a v cz0 cz1 rt rp aq vq ap vp as_ o37_vs ai vi bi vj) := hD
        refine lv_iconst (v := 1) hx hb dX9_goBack_40 (by decide) ?_
        subst hQ
        exact W.iret (v := 1) hx hb hr (fun t ht hW => ⟨⟨1, (o37_vs), rfl, (show (TgA v vp vq o37_vs vi vj) ∧ (GoC (0 : Int32) vs vi vj (1 : Int32) o37_vs) from ⟨⟨hT, hG, hI, hI2, h37, hJi, hJj⟩, (by first | exact Or.inr (Or.inl ⟨by decide, Or.inr ⟨by omega, by omega, hf37.1⟩⟩) | exact Or.inr (Or.inr ⟨by decide, Or.inr ⟨by omega, by omega, hf37.1⟩⟩))⟩), by rw [ht]; exact hP, hD⟩, hS.F ht⟩) hS.2.2 dX9_goBack_41
      · have c21_ := i_eq c21
        refine lv_ldc hx hb hown lk3 dX9_goBack_24 ?_
        subst hQ
        exact W.iret (v := (-1000000003)) hx hb hr (fun t ht hW => ⟨⟨(-1000000003), (vs), rfl, (show (TgA v vp vq vs vi vj) ∧ (GoC (0 : Int32) vs vi vj ((-1000000003) : Int32) vs) from ⟨hTA, (by first | exact Or.inr (Or.inl ⟨by decide, Or.inl ⟨by omega, by omega, rfl⟩⟩) | exact Or.inr (Or.inr ⟨by decide, Or.inl ⟨by omega, by omega, rfl⟩⟩))⟩), by rw [ht]; exact hP, hD⟩, hS.F ht⟩) hS.2.2 dX9_goBack_26
    · refine lv_aload_n hx hb dX9_goBack_12 rfl (lv_at hl 0 rfl) ?_
      refine va_get (D := eD E) (ci := 9) (v := .ref (a 7)) (C := RX9) (T := TX9) (N := 13) hx hb hts in_X9 hown hK hP 0 rfl rfl 7 (by decide) lk0 (fun _ h9 => h9) rfl dX9_goBack_13 ?_
      refine lv_iload_n hx hb dX9_goBack_16 rfl (lv_at hl 1 rfl) ?_
      refine va_aldq hx hb hK hP 4 3 rfl rfl (i_in (by decide) (by decide)) dX9_goBack_17 ?_
      refine W.eq (g2 := F0 m 18 ls [.ref (bi 0)]) rfl ?_
      refine va_get (D := eD E) (ci := 6) (v := .int (vj 8 0)) (C := RX6) (T := TX6) (N := 9) hx hb hts in_X6 hown hK hP 85 rfl rfl 8 (by decide) lk1 (fun _ h9 => h9) rfl dX9_goBack_18 ?_
      refine lv_if_ne (tgt := 27) hx hb dX9_goBack_21 (by decide) (fun c21 => ?_) (fun c21 => ?_)
      · have c21_ := i_ne c21
        refine lv_aload_n hx hb dX9_goBack_27 rfl (lv_at hl 0 rfl) ?_
        refine va_get (D := eD E) (ci := 9) (v := .ref (as_ 0)) (C := RX9) (T := TX9) (N := 13) hx hb hts in_X9 hown hK hP 0 rfl rfl 6 (by decide) lk2 (fun _ h9 => h9) rfl dX9_goBack_28 ?_
        refine lv_aload_n hx hb dX9_goBack_31 rfl (lv_at hl 0 rfl) ?_
        refine va_get (D := eD E) (ci := 9) (v := .ref (a 7)) (C := RX9) (T := TX9) (N := 13) hx hb hts in_X9 hown hK hP 0 rfl rfl 7 (by decide) lk0 (fun _ h9 => h9) rfl dX9_goBack_32 ?_
        refine lv_iload_n hx hb dX9_goBack_35 rfl (lv_at hl 1 rfl) ?_
        refine va_aldq hx hb hK hP 4 3 rfl rfl (i_in (by decide) (by decide)) dX9_goBack_36 ?_
        refine W.eq (g2 := F0 m 37 ls [.ref (bi 0), .ref (as_ 0)]) rfl ?_
        refine mt_Vv (w1 := fun (u : Vf) => st2L E as_ u bi vj) (wf := fun (u : Vf) => tgL E a v cz0 cz1 rt rp aq vq ap vp as_ u ai vi bi vj) (wr := [((a 99), .inr (9, [.ref (a 0), .int (v 1 0), .int (v 2 0), .ref (a 3), .ref (aq 0), .ref (a 5), .ref (as_ 0), .ref (a 7), .ref (a 8), .ref (a 9), .ref (a 10), .ref (a 11), .int (v 12 0)])), ((a 0), .inl (eI E, 250, .inl (v 0))), ((a 11), .inl (eI E, 30, .inl (v 11))), ((a 3), .inr (2, [rt, .int (v 101 0), .int (v 102 0), rp, .int (v 104 0), .int (v 105 0), .int (v 106 0), .int (v 107 0), .int (v 108 0)])), ((a 7), .inl (eS E, 2, .inr (.inr (.inr (.inr (fun i => some (cond (Nat.beq i 0) (ai 0) (bi 0)))))))), ((a 8), .inr (3, [.ref (a 5), .ref cz0, .ref cz1, .ref (a 203)])), (cz0, .inl (eI E, 24, .inl (v 201))), (cz1, .inl (eI E, 24, .inl (v 202))), ((a 203), .inl (eI E, 960, .inl (v 203))), ((a 9), .inr (7, [.ref (a 5), .ref (a 301), .ref (a 302), .int (v 303 0), .int (v 304 0)])), ((a 301), .inl (eI E, 5, .inl (v 301))), ((a 302), .inl (eI E, 5, .inl (v 302))), ((a 10), .inr (4, [.ref (a 5), .int (v 401 0), .ref (a 402), .ref (a 403), .ref (a 404), .ref (a 405), .int (v 406 0), .ref (a 407), .int (v 408 0), .int (v 409 0), .int (v 410 0)])), ((a 402), .inl (eI E, 12, .inl (v 402))), ((a 403), .inl (eI E, 12, .inl (v 403))), ((a 404), .inl (eI E, 12, .inl (v 404))), ((a 405), .inl (eI E, 729, .inl (v 405))), ((a 407), .inl (eI E, 55, .inl (v 407))), ((a 5), .inr (8, [.ref (ap 0), .ref (as_ 0)])), ((ap 0), .inr (1, [.int (vp 0 0), .int (vp 1 0), .int (vp 2 0), .ref (ap 3), .ref (ap 4), .int (vp 5 0), .ref (ap 6), .ref (ap 7), .ref (ap 8), .ref (ap 9), .ref (ap 10)])), ((ap 3), .inl (eI E, 24, .inl (vp 3))), ((ap 4), .inl (eI E, 24, .inl (vp 4))), ((ap 6), .inl (eM E, 3, .inr (.inr (.inr (.inr (fun i => some (ap (20 + 10 * i)))))))), ((ap 20), .inr (0, [.int (vp 20 0), .int (vp 21 0), .int (vp 22 0), .ref (ap 23), .ref (ap 24)])), ((ap 23), .inl (eI E, 18, .inl (vp 23))), ((ap 24), .inl (eI E, 24, .inl (vp 24))), ((ap 30), .inr (0, [.int (vp 30 0), .int (vp 31 0), .int (vp 32 0), .ref (ap 33), .ref (ap 34)])), ((ap 33), .inl (eI E, 18, .inl (vp 33))), ((ap 34), .inl (eI E, 24, .inl (vp 34))), ((ap 40), .inr (0, [.int (vp 40 0), .int (vp 41 0), .int (vp 42 0), .ref (ap 43), .ref (ap 44)])), ((ap 43), .inl (eI E, 18, .inl (vp 43))), ((ap 44), .inl (eI E, 24, .inl (vp 44))), ((ap 7), .inr (5, [.int (vp 60 0), .ref (ap 61), .ref (ap 62), .ref (ap 63)])), ((ap 61), .inl (eI E, 6, .inl (vp 61))), ((ap 62), .inl (eI E, 6, .inl (vp 62))), ((ap 63), .inl (eI E, 6, .inl (vp 63))), ((ap 8), .inr (5, [.int (vp 70 0), .ref (ap 71), .ref (ap 72), .ref (ap 73)])), ((ap 71), .inl (eI E, 6, .inl (vp 71))), ((ap 72), .inl (eI E, 6, .inl (vp 72))), ((ap 73), .inl (eI E, 6, .inl (vp 73))), ((ap 9), .inr (5, [.int (vp 80 0), .ref (ap 81), .ref (ap 82), .ref (ap 83)])), ((ap 81), .inl (eI E, 6, .inl (vp 81))), ((ap 82), .inl (eI E, 6, .inl (vp 82))), ((ap 83), .inl (eI E, 6, .inl (vp 83))), ((ap 10), .inr (5, [.int (vp 90 0), .ref (ap 91), .ref (ap 92), .ref (ap 93)])), ((ap 91), .inl (eI E, 6, .inl (vp 91))), ((ap 92), .inl (eI E, 6, .inl (vp 92))), ((ap 93), .inl (eI E, 6, .inl (vp 93))), ((aq 0), .inr (1, [.int (vq 0 0), .int (vq 1 0), .int (vq 2 0), .ref (aq 3), .ref (aq 4), .int (vq 5 0), .ref (aq 6), .ref (aq 7), .ref (aq 8), .ref (aq 9), .ref (aq 10)])), ((aq 3), .inl (eI E, 24, .inl (vq 3))), ((aq 4), .inl (eI E, 24, .inl (vq 4))), ((aq 6), .inl (eM E, 3, .inr (.inr (.inr (.inr (fun i => some (aq (20 + 10 * i)))))))), ((aq 20), .inr (0, [.int (vq 20 0), .int (vq 21 0), .int (vq 22 0), .ref (aq 23), .ref (aq 24)])), ((aq 23), .inl (eI E, 18, .inl (vq 23))), ((aq 24), .inl (eI E, 24, .inl (vq 24))), ((aq 30), .inr (0, [.int (vq 30 0), .int (vq 31 0), .int (vq 32 0), .ref (aq 33), .ref (aq 34)])), ((aq 33), .inl (eI E, 18, .inl (vq 33))), ((aq 34), .inl (eI E, 24, .inl (vq 34))), ((aq 40), .inr (0, [.int (vq 40 0), .int (vq 41 0), .int (vq 42 0), .ref (aq 43), .ref (aq 44)])), ((aq 43), .inl (eI E, 18, .inl (vq 43))), ((aq 44), .inl (eI E, 24, .inl (vq 44))), ((aq 7), .inr (5, [.int (vq 60 0), .ref (aq 61), .ref (aq 62), .ref (aq 63)])), ((aq 61), .inl (eI E, 6, .inl (vq 61))), ((aq 62), .inl (eI E, 6, .inl (vq 62))), ((aq 63), .inl (eI E, 6, .inl (vq 63))), ((aq 8), .inr (5, [.int (vq 70 0), .ref (aq 71), .ref (aq 72), .ref (aq 73)])), ((aq 71), .inl (eI E, 6, .inl (vq 71))), ((aq 72), .inl (eI E, 6, .inl (vq 72))), ((aq 73), .inl (eI E, 6, .inl (vq 73))), ((aq 9), .inr (5, [.int (vq 80 0), .ref (aq 81), .ref (aq 82), .ref (aq 83)])), ((aq 81), .inl (eI E, 6, .inl (vq 81))), ((aq 82), .inl (eI E, 6, .inl (vq 82))), ((aq 83), .inl (eI E, 6, .inl (vq 83))), ((aq 10), .inr (5, [.int (vq 90 0), .ref (aq 91), .ref (aq 92), .ref (aq 93)])), ((aq 91), .inl (eI E, 6, .inl (vq 91))), ((aq 92), .inl (eI E, 6, .inl (vq 92))), ((aq 93), .inl (eI E, 6, .inl (vq 93))), ((ai 0), .inr (6, [.int (vi 0 0), .ref (ai 1), .ref (ai 2), .ref (ai 3), .int (vi 4 0), .int (vi 5 0), .int (vi 6 0), .int (vi 7 0), .int (vi 8 0)])), ((ai 1), .inl (eI E, 3, .inl (vi 1))), ((ai 2), .inl (eI E, 24, .inl (vi 2))), ((ai 3), .inl (eI E, 6, .inl (vi 3)))]) (As := [.ref (bi 0)]) (rest := []) (C := RX6) (ci := 6) ⟨hx, hb, hml, hown, hts⟩ (c_X6_copyFrom l E s.heap.size as_ vs bi vj hJ_vj) (cwV 1 hts gX9_goBack_X6_copyFrom rfl rfl rfl (by decide +kernel) ⟨Nat.le_of_ble_eq_true rfl, Nat.le_of_ble_eq_true rfl⟩) hE hS hA hP hD [48, 49, 50, 51, 85, 86, 87, 88] [0, 1, 2, 3, 4, 5, 6, 7, 8, 9, 10, 11, 12, 13, 14, 15, 16, 17, 18, 19, 20, 21, 22, 23, 24, 25, 26, 27, 28, 29, 30, 31, 32, 33, 34, 35, 36, 37, 38, 39, 40, 41, 42, 43, 44, 45, 46, 47, 52, 53, 54, 55, 56, 57, 58, 59, 60, 61, 62, 63, 64, 65, 66, 67, 68, 69, 70, 71, 72, 73, 74, 75, 76, 77, 78, 79, 80, 81, 82, 83, 84] rfl rfl (by decide) (by decide) (by decide) [0, 1, 2, 3, 4, 5, 6, 7, 8, 9, 10, 11, 12, 13, 14, 15, 16, 17, 18, 19, 20, 21, 22, 23, 24, 25, 26, 27, 28, 29, 30, 31, 32, 33, 34, 35, 36, 37, 38, 39, 40, 41, 42, 43, 44, 45, 46, 47, 81, 82, 83, 84, 48, 49, 50, 51, 52, 53, 54, 55, 56, 57, 58, 59, 60, 61, 62, 63, 64, 65, 66, 67, 68, 69, 70, 71, 72, 73, 74, 75, 76, 77, 78, 79, 80, 85, 86, 87, 88] (by decide) (fun u => rfl) rfl rfl rfl rfl hl.1 rfl (Nat.le_of_ble_eq_true rfl) dX9_goBack_37 ⟨Nat.zero_le _, Nat.zero_le _⟩ (fun u37 H locs h37 hP hD hS => ?_)
        generalize u37 = o37_vs at hP hD h37
        try dsimp only at h37
        have hf37 := h37.2
        replace h37 := h37.1
        replace hP : va_P (eD E) vwCl (tgL E a v cz0 cz1 rt rp aq vq ap vp as_ o37_vs ai vi bi vj) H := hP
        replace hD : va_D A (tgL E a v cz0 cz1 rt rp aq vq ap vp as_ o37_vs ai vi bi vj) := hD
        refine lv_iconst (v := 1) hx hb dX9_goBack_40 (by decide) ?_
        subst hQ
        exact W.iret (v := 1) hx hb hr (fun t ht hW => ⟨⟨1, (o37_vs), rfl, (show (TgA v vp vq o37_vs vi vj) ∧ (GoC (1 : Int32) vs vi vj (1 : Int32) o37_vs) from ⟨⟨hT, hG, hI, hI2, h37, hJi, hJj⟩, (by first | exact Or.inr (Or.inl ⟨by decide, Or.inr ⟨by omega, by omega, hf37.1⟩⟩) | exact Or.inr (Or.inr ⟨by decide, Or.inr ⟨by omega, by omega, hf37.1⟩⟩))⟩), by rw [ht]; exact hP, hD⟩, hS.F ht⟩) hS.2.2 dX9_goBack_41
      · have c21_ := i_eq c21
        refine lv_ldc hx hb hown lk3 dX9_goBack_24 ?_
        subst hQ
        exact W.iret (v := (-1000000003)) hx hb hr (fun t ht hW => ⟨⟨(-1000000003), (vs), rfl, (show (TgA v vp vq vs vi vj) ∧ (GoC (1 : Int32) vs vi vj ((-1000000003) : Int32) vs) from ⟨hTA, (by first | exact Or.inr (Or.inl ⟨by decide, Or.inl ⟨by omega, by omega, rfl⟩⟩) | exact Or.inr (Or.inr ⟨by decide, Or.inl ⟨by omega, by omega, rfl⟩⟩))⟩), by rw [ht]; exact hP, hD⟩, hS.F ht⟩) hS.2.2 dX9_goBack_26
  · have c6_ := i_ne c6
    replace h3 := or_y h3 c6_
    clear c6_
    refine lv_ldc hx hb hown lk4 dX9_goBack_9 ?_
    subst hQ
    exact W.iret (v := (-1000000001)) hx hb hr (fun t ht hW => ⟨⟨(-1000000001), (vs), rfl, (show (TgA v vp vq vs vi vj) ∧ (GoC i vs vi vj ((-1000000001) : Int32) vs) from ⟨hTA, (Or.inl ⟨by omega, by omega, rfl⟩)⟩), by rw [ht]; exact hP, hD⟩, hS.F ht⟩) hS.2.2 dX9_goBack_11
def rm_X9_startAnew : Room := { frames := 1, cells := 0, slots := 0, locals := 21 }
set_option maxHeartbeats 4000000 in
set_option maxRecDepth 100000 in
theorem c_X9_startAnew (l : Launch) (E : Ev) (sz : Nat) (a : Nat → Nat) (v : Vf) (cz0 : Nat) (cz1 : Nat) (rt : Value) (rp : Value) (aq : Nat → Nat) (vq : Vf) (ap : Nat → Nat) (vp : Vf) (as_ : Nat → Nat) (vs : Vf) (ai : Nat → Nat) (vi : Vf) (bi : Nat → Nat) (vj : Vf) (hTA : TgA v vp vq vs vi vj) : Met l yX9_startAnew wsX9_startAnew rm_X9_startAnew (MtP E sz [.ref (a 99)] (tgL E a v cz0 cz1 rt rp aq vq ap vp as_ vs ai vi bi vj)) (va_Qv (fun (u : Vf × Vf × Vf × Vf) => ((TgA u.1 vp vq u.2.1 u.2.2.1 u.2.2.2 ∧ (u.1 1 0) = v 1 0) ∧ fr [12, 401] v u.1) ∧ (stZ vs u.2.1 ∧ (u.1 12 0 = 0 ∧ u.1 401 0 = 0) ∧ (u.2.2.1 8 0 = 0 ∧ fr [8] vi u.2.2.1) ∧ (u.2.2.2 8 0 = 0 ∧ fr [8] vj u.2.2.2))) (MtB E (va_A (tgL E a v cz0 cz1 rt rp aq vq ap vp as_ vs ai vi bi vj) sz) (fun u => tgL E a u.1 cz0 cz1 rt rp aq vq ap vp as_ u.2.1 ai u.2.2.1 bi u.2.2.2)) (va_A (tgL E a v cz0 cz1 rt rp aq vq ap vp as_ vs ai vi bi vj) sz)) 0 0 (va_A (tgL E a v cz0 cz1 rt rp aq vq ap vp as_ vs ai vi bi vj) sz) := by
  refine Met.ofW (cc := cX9_startAnew) (maxL := 2) (ret := none) (by decide) rfl ?_
  intro p e s m args below meth c s₁ B hml hv
  obtain ⟨rfl, hsz, hE, hP, hD0⟩ := hv
  subst hsz
  have hD := hD0.self (sz := s.heap.size)
  generalize hAe : va_A (tgL E a v cz0 cz1 rt rp aq vq ap vp as_ vs ai vi bi vj) s.heap.size = A at hD hE ⊢
  have hA : ∀ q : Nat, s.heap.size ≤ q → A q := fun q h => by rw [← hAe]; exact Or.inr h
  have hS : va_S A s.heap s.heap [] := va_S.rf
  have hx := B.exec
  have hb := B.bytes
  have hr := B.returns
  have hts := atoms_spec (ws := wsX9_startAnew) B.pre
  have hown : s.vm.findClass RX9 = some m.cls := findClass_of_methodNamed B.named
  have hlocks := B.notSynchronized
  have hK := hE.1
  have in_X9 : ∀ w ∈ u_ws RX9 TX9 13, w ∈ wsX9_startAnew := fun w h => List.mem_cons_of_mem _ (List.mem_append_left _ (List.mem_append_left _ (List.mem_append_right _ h)))
  have in_X4 : ∀ w ∈ u_ws RX4 TX4 11, w ∈ wsX9_startAnew := fun w h => List.mem_cons_of_mem _ (List.mem_append_left _ (List.mem_append_right _ h))
  have in_X6 : ∀ w ∈ u_ws RX6 TX6 9, w ∈ wsX9_startAnew := fun w h => List.mem_cons_of_mem _ (List.mem_append_right _ h)
  have lk0 := hts (.fieldLink RX9 34 "TidedGround" "now" "LTidedGround$State;") (List.mem_of_getElem? (i := 1) rfl)
  have lk1 := hts (.fieldLink RX9 70 "TidedGround" "sightings" "LTidedGround$Sightings;") (List.mem_of_getElem? (i := 2) rfl)
  have lk2 := hts (.fieldLink RX9 103 "TidedGround$Sightings" "count" "I") (List.mem_of_getElem? (i := 3) rfl)
  have lk3 := hts (.fieldLink RX9 106 "TidedGround" "bookCount" "I") (List.mem_of_getElem? (i := 4) rfl)
  have lk4 := hts (.fieldLink RX9 47 "TidedGround" "images" "[LTidedGround$State;") (List.mem_of_getElem? (i := 5) rfl)
  have lk5 := hts (.fieldLink RX9 109 "TidedGround$State" "kept" "Z") (List.mem_of_getElem? (i := 6) rfl)
  have n_0 : (0 : Int32).toInt = 0 := by decide
  have n_1 : (1 : Int32).toInt = 1 := by decide
  have n_2 : (2 : Int32).toInt = 2 := by decide
  have hl := lv_entry ([.ref (a 99)]) (n := 2) (Nat.le_of_ble_eq_true rfl)
  rw [lg_entry_eq]
  generalize (lg_sl ([.ref (a 99)]) ++ List.replicate (2 - (lg_sl ([.ref (a 99)])).length) Slot.unset).toArray = ls at hl ⊢
  have hl : lv_has ls 2 [(0, .ref (a 99))] := hl
  refine W_abs (fun Q hQ => ?_)
  obtain ⟨hT, hG, hI, hI2, hJ, hJi, hJj⟩ := id hTA
  obtain ⟨hT1, hT2⟩ := id hT
  have hJ_vs := hJ
  have hJ_vi := hJi
  have hJ_vj := hJj
  obtain ⟨hg, hmc, hm0, hm1, hm2, hs0, hs1, hs2, hs3⟩ := id hI
  obtain ⟨hg1, hg2, hg3, hg4⟩ := id hg
  have hz0 := hm0.1
  have hz1 := hm1.1
  have hz2 := hm2.1
  have hc0 := hs0.1
  have hc1 := hs1.1
  have hc2 := hs2.1
  have hc3 := hs3.1
  obtain ⟨hj0, hj1, hj2⟩ := id hJ
  have hg5 : 0 ≤ (vp 2 0).toInt := by rw [hg3]; exact Int.mul_nonneg hg1.1 hg2.1
  have hG1 := hG.1
  have hG4 := hG.2.2.2
  have hFz : fr [12, 401] v v := fr.rf
  refine lv_aload_n hx hb dX9_startAnew_0 rfl (lv_at hl 0 rfl) ?_
  refine va_get (D := eD E) (ci := 9) (v := .ref (as_ 0)) (C := RX9) (T := TX9) (N := 13) hx hb hts in_X9 hown hK hP 0 rfl rfl 6 (by decide) lk0 (fun _ h9 => h9) rfl dX9_startAnew_1 ?_
  refine mt_Vv (w1 := fun (u : Vf) => stateL E as_ u) (wf := fun (u : Vf) => tgL E a v cz0 cz1 rt rp aq vq ap vp as_ u ai vi bi vj) (wr := [((a 99), .inr (9, [.ref (a 0), .int (v 1 0), .int (v 2 0), .ref (a 3), .ref (aq 0), .ref (a 5), .ref (as_ 0), .ref (a 7), .ref (a 8), .ref (a 9), .ref (a 10), .ref (a 11), .int (v 12 0)])), ((a 0), .inl (eI E, 250, .inl (v 0))), ((a 11), .inl (eI E, 30, .inl (v 11))), ((a 3), .inr (2, [rt, .int (v 101 0), .int (v 102 0), rp, .int (v 104 0), .int (v 105 0), .int (v 106 0), .int (v 107 0), .int (v 108 0)])), ((a 7), .inl (eS E, 2, .inr (.inr (.inr (.inr (fun i => some (cond (Nat.beq i 0) (ai 0) (bi 0)))))))), ((a 8), .inr (3, [.ref (a 5), .ref cz0, .ref cz1, .ref (a 203)])), (cz0, .inl (eI E, 24, .inl (v 201))), (cz1, .inl (eI E, 24, .inl (v 202))), ((a 203), .inl (eI E, 960, .inl (v 203))), ((a 9), .inr (7, [.ref (a 5), .ref (a 301), .ref (a 302), .int (v 303 0), .int (v 304 0)])), ((a 301), .inl (eI E, 5, .inl (v 301))), ((a 302), .inl (eI E, 5, .inl (v 302))), ((a 10), .inr (4, [.ref (a 5), .int (v 401 0), .ref (a 402), .ref (a 403), .ref (a 404), .ref (a 405), .int (v 406 0), .ref (a 407), .int (v 408 0), .int (v 409 0), .int (v 410 0)])), ((a 402), .inl (eI E, 12, .inl (v 402))), ((a 403), .inl (eI E, 12, .inl (v 403))), ((a 404), .inl (eI E, 12, .inl (v 404))), ((a 405), .inl (eI E, 729, .inl (v 405))), ((a 407), .inl (eI E, 55, .inl (v 407))), ((a 5), .inr (8, [.ref (ap 0), .ref (as_ 0)])), ((ap 0), .inr (1, [.int (vp 0 0), .int (vp 1 0), .int (vp 2 0), .ref (ap 3), .ref (ap 4), .int (vp 5 0), .ref (ap 6), .ref (ap 7), .ref (ap 8), .ref (ap 9), .ref (ap 10)])), ((ap 3), .inl (eI E, 24, .inl (vp 3))), ((ap 4), .inl (eI E, 24, .inl (vp 4))), ((ap 6), .inl (eM E, 3, .inr (.inr (.inr (.inr (fun i => some (ap (20 + 10 * i)))))))), ((ap 20), .inr (0, [.int (vp 20 0), .int (vp 21 0), .int (vp 22 0), .ref (ap 23), .ref (ap 24)])), ((ap 23), .inl (eI E, 18, .inl (vp 23))), ((ap 24), .inl (eI E, 24, .inl (vp 24))), ((ap 30), .inr (0, [.int (vp 30 0), .int (vp 31 0), .int (vp 32 0), .ref (ap 33), .ref (ap 34)])), ((ap 33), .inl (eI E, 18, .inl (vp 33))), ((ap 34), .inl (eI E, 24, .inl (vp 34))), ((ap 40), .inr (0, [.int (vp 40 0), .int (vp 41 0), .int (vp 42 0), .ref (ap 43), .ref (ap 44)])), ((ap 43), .inl (eI E, 18, .inl (vp 43))), ((ap 44), .inl (eI E, 24, .inl (vp 44))), ((ap 7), .inr (5, [.int (vp 60 0), .ref (ap 61), .ref (ap 62), .ref (ap 63)])), ((ap 61), .inl (eI E, 6, .inl (vp 61))), ((ap 62), .inl (eI E, 6, .inl (vp 62))), ((ap 63), .inl (eI E, 6, .inl (vp 63))), ((ap 8), .inr (5, [.int (vp 70 0), .ref (ap 71), .ref (ap 72), .ref (ap 73)])), ((ap 71), .inl (eI E, 6, .inl (vp 71))), ((ap 72), .inl (eI E, 6, .inl (vp 72))), ((ap 73), .inl (eI E, 6, .inl (vp 73))), ((ap 9), .inr (5, [.int (vp 80 0), .ref (ap 81), .ref (ap 82), .ref (ap 83)])), ((ap 81), .inl (eI E, 6, .inl (vp 81))), ((ap 82), .inl (eI E, 6, .inl (vp 82))), ((ap 83), .inl (eI E, 6, .inl (vp 83))), ((ap 10), .inr (5, [.int (vp 90 0), .ref (ap 91), .ref (ap 92), .ref (ap 93)])), ((ap 91), .inl (eI E, 6, .inl (vp 91))), ((ap 92), .inl (eI E, 6, .inl (vp 92))), ((ap 93), .inl (eI E, 6, .inl (vp 93))), ((aq 0), .inr (1, [.int (vq 0 0), .int (vq 1 0), .int (vq 2 0), .ref (aq 3), .ref (aq 4), .int (vq 5 0), .ref (aq 6), .ref (aq 7), .ref (aq 8), .ref (aq 9), .ref (aq 10)])), ((aq 3), .inl (eI E, 24, .inl (vq 3))), ((aq 4), .inl (eI E, 24, .inl (vq 4))), ((aq 6), .inl (eM E, 3, .inr (.inr (.inr (.inr (fun i => some (aq (20 + 10 * i)))))))), ((aq 20), .inr (0, [.int (vq 20 0), .int (vq 21 0), .int (vq 22 0), .ref (aq 23), .ref (aq 24)])), ((aq 23), .inl (eI E, 18, .inl (vq 23))), ((aq 24), .inl (eI E, 24, .inl (vq 24))), ((aq 30), .inr (0, [.int (vq 30 0), .int (vq 31 0), .int (vq 32 0), .ref (aq 33), .ref (aq 34)])), ((aq 33), .inl (eI E, 18, .inl (vq 33))), ((aq 34), .inl (eI E, 24, .inl (vq 34))), ((aq 40), .inr (0, [.int (vq 40 0), .int (vq 41 0), .int (vq 42 0), .ref (aq 43), .ref (aq 44)])), ((aq 43), .inl (eI E, 18, .inl (vq 43))), ((aq 44), .inl (eI E, 24, .inl (vq 44))), ((aq 7), .inr (5, [.int (vq 60 0), .ref (aq 61), .ref (aq 62), .ref (aq 63)])), ((aq 61), .inl (eI E, 6, .inl (vq 61))), ((aq 62), .inl (eI E, 6, .inl (vq 62))), ((aq 63), .inl (eI E, 6, .inl (vq 63))), ((aq 8), .inr (5, [.int (vq 70 0), .ref (aq 71), .ref (aq 72), .ref (aq 73)])), ((aq 71), .inl (eI E, 6, .inl (vq 71))), ((aq 72), .inl (eI E, 6, .inl (vq 72))), ((aq 73), .inl (eI E, 6, .inl (vq 73))), ((aq 9), .inr (5, [.int (vq 80 0), .ref (aq 81), .ref (aq 82), .ref (aq 83)])), ((aq 81), .inl (eI E, 6, .inl (vq 81))), ((aq 82), .inl (eI E, 6, .inl (vq 82))), ((aq 83), .inl (eI E, 6, .inl (vq 83))), ((aq 10), .inr (5, [.int (vq 90 0), .ref (aq 91), .ref (aq 92), .ref (aq 93)])), ((aq 91), .inl (eI E, 6, .inl (vq 91))), ((aq 92), .inl (eI E, 6, .inl (vq 92))), ((aq 93), .inl (eI E, 6, .inl (vq 93))), ((ai 0), .inr (6, [.int (vi 0 0), .ref (ai 1), .ref (ai 2), .ref (ai 3), .int (vi 4 0), .int (vi 5 0), .int (vi 6 0), .int (vi 7 0), .int (vi 8 0)])), ((ai 1), .inl (eI E, 3, .inl (vi 1))), ((ai 2), .inl (eI E, 24, .inl (vi 2))), ((ai 3), .inl (eI E, 6, .inl (vi 3))), ((bi 0), .inr (6, [.int (vj 0 0), .ref (bi 1), .ref (bi 2), .ref (bi 3), .int (vj 4 0), .int (vj 5 0), .int (vj 6 0), .int (vj 7 0), .int (vj 8 0)])), ((bi 1), .inl (eI E, 3, .inl (vj 1))), ((bi 2), .inl (eI E, 24, .inl (vj 2))), ((bi 3), .inl (eI E, 6, .inl (vj 3)))]) (As := []) (rest := []) (C := RX6) (ci := 6) ⟨hx, hb, hml, hown, hts⟩ (c_X6_restart l E s.heap.size as_ vs) (cwV 0 hts gX9_startAnew_X6_restart rfl rfl rfl (by decide +kernel) ⟨Nat.le_of_ble_eq_true rfl, Nat.le_of_ble_eq_true rfl⟩) hE hS hA hP hD [48, 49, 50, 51] [0, 1, 2, 3, 4, 5, 6, 7, 8, 9, 10, 11, 12, 13, 14, 15, 16, 17, 18, 19, 20, 21, 22, 23, 24, 25, 26, 27, 28, 29, 30, 31, 32, 33, 34, 35, 36, 37, 38, 39, 40, 41, 42, 43, 44, 45, 46, 47, 52, 53, 54, 55, 56, 57, 58, 59, 60, 61, 62, 63, 64, 65, 66, 67, 68, 69, 70, 71, 72, 73, 74, 75, 76, 77, 78, 79, 80, 81, 82, 83, 84, 85, 86, 87, 88] rfl rfl (by decide) (by decide) (by decide) [0, 1, 2, 3, 4, 5, 6, 7, 8, 9, 10, 11, 12, 13, 14, 15, 16, 17, 18, 19, 20, 21, 22, 23, 24, 25, 26, 27, 28, 29, 30, 31, 32, 33, 34, 35, 36, 37, 38, 39, 40, 41, 42, 43, 44, 45, 46, 47, 85, 86, 87, 88, 48, 49, 50, 51, 52, 53, 54, 55, 56, 57, 58, 59, 60, 61, 62, 63, 64, 65, 66, 67, 68, 69, 70, 71, 72, 73, 74, 75, 76, 77, 78, 79, 80, 81, 82, 83, 84] (by decide) (fun u => rfl) rfl rfl rfl rfl hl.1 rfl (Nat.le_of_ble_eq_true rfl) dX9_startAnew_4 ⟨Nat.zero_le _, Nat.zero_le _⟩ (fun u4 H locs h4 hP hD hS => ?_)
  generalize u4 = o4_vs at hP hD h4
  try dsimp only at h4
  have hf4 := h4.2
  replace h4 := h4.1
  replace hP : va_P (eD E) vwCl (tgL E a v cz0 cz1 rt rp aq vq ap vp as_ o4_vs ai vi bi vj) H := hP
  replace hD : va_D A (tgL E a v cz0 cz1 rt rp aq vq ap vp as_ o4_vs ai vi bi vj) := hD
  have hFz : fr [12, 401] v v := by first | exact hFz | (rw [← hv4]; repeat' (first | exact hFz | refine fr.up ?_ (by decide) | refine fr.up3 ?_ (by decide)))
  refine lv_aload_n hx hb dX9_startAnew_7 rfl (lv_at hl 0 rfl) ?_
  refine va_get (D := eD E) (ci := 9) (v := .ref (a 10)) (C := RX9) (T := TX9) (N := 13) hx hb hts in_X9 hown hK hP 0 rfl rfl 10 (by decide) lk1 (fun _ h9 => h9) rfl dX9_startAnew_8 ?_
  refine lv_iconst (v := 0) hx hb dX9_startAnew_11 (by decide) ?_
  refine va_put (D := eD E) (ci := 4) (v := .int 0) (ty := .int) (C := RX4) (T := TX4) (N := 11) hx hb hts in_X4 tyX4 tyX4_ok nmX4 hown hK hP hD hS 12 rfl rfl 1 (by decide) lk2 (fun _ h9 => h9) rfl (by decide +kernel) rfl rfl (Nat.le_of_ble_eq_true rfl) dX9_startAnew_12 (fun H locs hP hD hS => ?_)
  replace hP : va_P (eD E) vwCl (tgL E a (up2 v 401 0 0) cz0 cz1 rt rp aq vq ap vp as_ o4_vs ai vi bi vj) H := hP
  replace hD : va_D A (tgL E a (up2 v 401 0 0) cz0 cz1 rt rp aq vq ap vp as_ o4_vs ai vi bi vj) := hD
  generalize hv12 : up2 v 401 0 0 = v_12 at hP hD
  have hFz : fr [12, 401] v v_12 := by first | exact hFz | (rw [← hv12]; exact hFz.up (by decide))
  refine lv_aload_n hx hb dX9_startAnew_15 rfl (lv_at hl 0 rfl) ?_
  refine lv_iconst (v := 0) hx hb dX9_startAnew_16 (by decide) ?_
  refine va_put (D := eD E) (ci := 9) (v := .int 0) (ty := .int) (C := RX9) (T := TX9) (N := 13) hx hb hts in_X9 tyX9 tyX9_ok nmX9 hown hK hP hD hS 0 rfl rfl 12 (by decide) lk3 (fun _ h9 => h9) rfl (by decide +kernel) rfl rfl (Nat.le_of_ble_eq_true rfl) dX9_startAnew_17 (fun H locs hP hD hS => ?_)
  replace hP : va_P (eD E) vwCl (tgL E a (up2 v_12 12 0 0) cz0 cz1 rt rp aq vq ap vp as_ o4_vs ai vi bi vj) H := hP
  replace hD : va_D A (tgL E a (up2 v_12 12 0 0) cz0 cz1 rt rp aq vq ap vp as_ o4_vs ai vi bi vj) := hD
  generalize hv17 : up2 v_12 12 0 0 = v_17 at hP hD
  have hFz : fr [12, 401] v v_17 := by first | exact hFz | (rw [← hv17]; exact hFz.up (by decide))
  have hT : TgI v_17 := by rw [← hv17, ← hv12]; exact ⟨hT.1, (by decide : 0 ≤ (0 : Int32).toInt ∧ (0 : Int32).toInt ≤ 30)⟩
  have hG : SgI (v_17 401 0) (v_17 402) (v_17 403) (v_17 408 0) := by rw [← hv17, ← hv12]; exact ⟨(by decide : 0 ≤ (0 : Int32).toInt ∧ (0 : Int32).toInt ≤ 12), hG.2⟩
  have hq17 : v_17 1 0 = v 1 0 := by rw [← hv17, ← hv12]; rfl
  have hq17b : v_17 12 0 = 0 ∧ v_17 401 0 = 0 := by rw [← hv17, ← hv12]; exact ⟨rfl, rfl⟩
  refine lv_iconst (v := 0) hx hb dX9_startAnew_20 (by decide) ?_
  refine lv_istore_n (lv' := [(1, .int 0), (0, .ref (a 99))]) hx hb dX9_startAnew_21 rfl hl (by decide) rfl (fun ls hl => ?_)
  refine lv_iload_n hx hb dX9_startAnew_22 rfl (lv_at hl 0 rfl) ?_
  refine lv_iconst (v := 2) hx hb dX9_startAnew_23 (by decide) ?_
  refine lv_icmp_ge (tgt := 43) hx hb dX9_startAnew_24 (by decide) (fun q => absurd q (by decide)) (fun _ => ?_)
  refine lv_aload_n hx hb dX9_startAnew_27 rfl (lv_at hl 1 rfl) ?_
  refine va_get (D := eD E) (ci := 9) (v := .ref (a 7)) (C := RX9) (T := TX9) (N := 13) hx hb hts in_X9 hown hK hP 0 rfl rfl 7 (by decide) lk4 (fun _ h9 => h9) rfl dX9_startAnew_28 ?_
  refine lv_iload_n hx hb dX9_startAnew_31 rfl (lv_at hl 0 rfl) ?_
  refine va_aldq hx hb hK hP 4 3 rfl rfl (i_in (by decide) (by decide)) dX9_startAnew_32 ?_
  refine W.eq (g2 := F0 m 33 ls [.ref (ai 0)]) rfl ?_
  refine lv_iconst (v := 0) hx hb dX9_startAnew_33 (by decide) ?_
  refine va_put (D := eD E) (ci := 6) (v := .int 0) (ty := .boolean) (C := RX6) (T := TX6) (N := 9) hx hb hts in_X6 tyX6 tyX6_ok nmX6 hown hK hP hD hS 81 rfl rfl 8 (by decide) lk5 (fun _ h9 => h9) rfl (by decide +kernel) rfl rfl (Nat.le_of_ble_eq_true rfl) dX9_startAnew_34 (fun H locs hP hD hS => ?_)
  replace hP : va_P (eD E) vwCl (tgL E a v_17 cz0 cz1 rt rp aq vq ap vp as_ o4_vs ai (up2 vi 8 0 0) bi vj) H := hP
  replace hD : va_D A (tgL E a v_17 cz0 cz1 rt rp aq vq ap vp as_ o4_vs ai (up2 vi 8 0 0) bi vj) := hD
  generalize hv34 : up2 vi 8 0 0 = vi_34 at hP hD
  have hFz : fr [12, 401] v v_17 := by first | exact hFz | (rw [← hv34]; exact hFz.up (by decide))
  have hJi : StateI vi_34 := by rw [← hv34]; exact hJi
  have hkvi : vi_34 8 0 = 0 ∧ fr [8] vi vi_34 := by rw [← hv34]; exact ⟨rfl, fr.rf.up (by decide)⟩
  refine lv_iinc (v := 1) (lv' := [(1, .int 1), (0, .ref (a 99))]) hx hb dX9_startAnew_37 hl (k := 0) rfl (by decide) (by decide) rfl (fun ls hl => ?_)
  refine lv_goto (tgt := 22) hx hb dX9_startAnew_40 (by decide) ?_
  refine lv_iload_n hx hb dX9_startAnew_22 rfl (lv_at hl 0 rfl) ?_
  refine lv_iconst (v := 2) hx hb dX9_startAnew_23 (by decide) ?_
  refine lv_icmp_ge (tgt := 43) hx hb dX9_startAnew_24 (by decide) (fun q => absurd q (by decide)) (fun _ => ?_)
  refine lv_aload_n hx hb dX9_startAnew_27 rfl (lv_at hl 1 rfl) ?_
  refine va_get (D := eD E) (ci := 9) (v := .ref (a 7)) (C := RX9) (T := TX9) (N := 13) hx hb hts in_X9 hown hK hP 0 rfl rfl 7 (by decide) lk4 (fun _ h9 => h9) rfl dX9_startAnew_28 ?_
  refine lv_iload_n hx hb dX9_startAnew_31 rfl (lv_at hl 0 rfl) ?_
  refine va_aldq hx hb hK hP 4 3 rfl rfl (i_in (by decide) (by decide)) dX9_startAnew_32 ?_
  refine W.eq (g2 := F0 m 33 ls [.ref (bi 0)]) rfl ?_
  refine lv_iconst (v := 0) hx hb dX9_startAnew_33 (by decide) ?_
  refine va_put (D := eD E) (ci := 6) (v := .int 0) (ty := .boolean) (C := RX6) (T := TX6) (N := 9) hx hb hts in_X6 tyX6 tyX6_ok nmX6 hown hK hP hD hS 85 rfl rfl 8 (by decide) lk5 (fun _ h9 => h9) rfl (by decide +kernel) rfl rfl (Nat.le_of_ble_eq_true rfl) dX9_startAnew_34 (fun H locs hP hD hS => ?_)
  replace hP : va_P (eD E) vwCl (tgL E a v_17 cz0 cz1 rt rp aq vq ap vp as_ o4_vs ai vi_34 bi (up2 vj 8 0 0)) H := hP
  replace hD : va_D A (tgL E a v_17 cz0 cz1 rt rp aq vq ap vp as_ o4_vs ai vi_34 bi (up2 vj 8 0 0)) := hD
  generalize hv34 : up2 vj 8 0 0 = vj_34 at hP hD
  have hFz : fr [12, 401] v v_17 := by first | exact hFz | (rw [← hv34]; exact hFz.up (by decide))
  have hJj : StateI vj_34 := by rw [← hv34]; exact hJj
  have hkvj : vj_34 8 0 = 0 ∧ fr [8] vj vj_34 := by rw [← hv34]; exact ⟨rfl, fr.rf.up (by decide)⟩
  refine lv_iinc (v := 2) (lv' := [(1, .int 2), (0, .ref (a 99))]) hx hb dX9_startAnew_37 hl (k := 0) rfl (by decide) (by decide) rfl (fun ls hl => ?_)
  refine lv_goto (tgt := 22) hx hb dX9_startAnew_40 (by decide) ?_
  refine lv_iload_n hx hb dX9_startAnew_22 rfl (lv_at hl 0 rfl) ?_
  refine lv_iconst (v := 2) hx hb dX9_startAnew_23 (by decide) ?_
  refine lv_icmp_ge (tgt := 43) hx hb dX9_startAnew_24 (by decide) (fun _ => ?_) (fun q => absurd q (by decide))
  subst hQ
  exact W.vret hx hb hr (fun t ht hW => ⟨⟨(v_17, o4_vs, vi_34, vj_34), rfl, (show ((TgA v_17 vp vq o4_vs vi_34 vj_34 ∧ (v_17 1 0) = v 1 0) ∧ fr [12, 401] v v_17) ∧ (stZ vs o4_vs ∧ (v_17 12 0 = 0 ∧ v_17 401 0 = 0) ∧ (vi_34 8 0 = 0 ∧ fr [8] vi vi_34) ∧ (vj_34 8 0 = 0 ∧ fr [8] vj vj_34)) from ⟨⟨⟨⟨hT, hG, hI, hI2, h4, hJi, hJj⟩, hq17⟩, hFz⟩, ⟨hf4, hq17b, hkvi, hkvj⟩⟩), by rw [ht]; exact hP, hD⟩, hS.F ht⟩) hS.2.2 dX9_startAnew_43
def rm_X9_ground : Room := { frames := 6, cells := 0, slots := 0, locals := 139 }
set_option maxHeartbeats 4000000 in
set_option maxRecDepth 100000 in
theorem c_X9_ground (l : Launch) (E : Ev) (sz : Nat) (a : Nat → Nat) (v : Vf) (cz0 : Nat) (cz1 : Nat) (rt : Value) (rp : Value) (aq : Nat → Nat) (vq : Vf) (ap : Nat → Nat) (vp : Vf) (as_ : Nat → Nat) (vs : Vf) (ai : Nat → Nat) (vi : Vf) (bi : Nat → Nat) (vj : Vf) (S0 : St0) (hTA : TgA v vp vq vs vi vj) (hZ0 : Z0 S0) : Met l yX9_ground wsX9_ground rm_X9_ground (MtP E sz [.ref (a 99)] (tgL E a v cz0 cz1 rt rp aq vq ap vp as_ vs ai vi bi vj)) (va_Qi (fun (r : Int32) (u : Vf × Value × Value × (Nat → Nat) × Vf × (Nat → Nat) × Vf × Vf × Vf × Vf) => (TgA u.1 u.2.2.2.2.2.2.1 u.2.2.2.2.1 u.2.2.2.2.2.2.2.1 u.2.2.2.2.2.2.2.2.1 u.2.2.2.2.2.2.2.2.2 ∧ (u.1 1 0).toInt = 0) ∧ ((GrM (textF (v 0) (v 1 0).toInt 251 0 S0) r.toInt (u.1 2 0).toInt (fun S => ∃ cx ck, Rp S u.2.2.2.2.2.2.1 cx ck) ∧ u.1 0 = v 0) ∧ (GrC r v vp vs vi vj u.1 u.2.2.2.2.2.2.1 u.2.2.2.2.2.2.2.1 u.2.2.2.2.2.2.2.2.1 u.2.2.2.2.2.2.2.2.2))) (MtB E (va_A (tgL E a v cz0 cz1 rt rp aq vq ap vp as_ vs ai vi bi vj) sz) (fun u => tgL E a u.1 cz0 cz1 u.2.1 u.2.2.1 u.2.2.2.1 u.2.2.2.2.1 u.2.2.2.2.2.1 u.2.2.2.2.2.2.1 as_ u.2.2.2.2.2.2.2.1 ai u.2.2.2.2.2.2.2.2.1 bi u.2.2.2.2.2.2.2.2.2)) (va_A (tgL E a v cz0 cz1 rt rp aq vq ap vp as_ vs ai vi bi vj) sz)) 0 0 (va_A (tgL E a v cz0 cz1 rt rp aq vq ap vp as_ vs ai vi bi vj) sz) := by
  refine Met.ofW (cc := cX9_ground) (maxL := 3) (ret := (some .int)) (by decide) rfl ?_
  intro p e s m args below meth c s₁ B hml hv
  obtain ⟨rfl, hsz, hE, hP, hD0⟩ := hv
  subst hsz
  have hD := hD0.self (sz := s.heap.size)
  generalize hAe : va_A (tgL E a v cz0 cz1 rt rp aq vq ap vp as_ vs ai vi bi vj) s.heap.size = A at hD hE ⊢
  have hA : ∀ q : Nat, s.heap.size ≤ q → A q := fun q h => by rw [← hAe]; exact Or.inr h
  have hS : va_S A s.heap s.heap [] := va_S.rf
  have hx := B.exec
  have hb := B.bytes
  have hr := B.returns
  have hts := atoms_spec (ws := wsX9_ground) B.pre
  have hown : s.vm.findClass RX9 = some m.cls := findClass_of_methodNamed B.named
  have hlocks := B.notSynchronized
  have hK := hE.1
  have in_X9 : ∀ w ∈ u_ws RX9 TX9 13, w ∈ wsX9_ground := fun w h => List.mem_cons_of_mem _ (List.mem_append_left _ (List.mem_append_left _ (List.mem_append_left _ (List.mem_append_left _ (List.mem_append_left _ (List.mem_append_left _ (List.mem_append_left _ (List.mem_append_right _ h))))))))
  have in_X8 : ∀ w ∈ u_ws RX8 TX8 2, w ∈ wsX9_ground := fun w h => List.mem_cons_of_mem _ (List.mem_append_left _ (List.mem_append_left _ (List.mem_append_left _ (List.mem_append_left _ (List.mem_append_left _ (List.mem_append_right _ h))))))
  have in_X1 : ∀ w ∈ u_ws RX1 TX1 11, w ∈ wsX9_ground := fun w h => List.mem_cons_of_mem _ (List.mem_append_left _ (List.mem_append_left _ (List.mem_append_left _ (List.mem_append_left _ (List.mem_append_right _ h)))))
  have in_X2 : ∀ w ∈ u_ws RX2 TX2 9, w ∈ wsX9_ground := fun w h => List.mem_cons_of_mem _ (List.mem_append_left _ (List.mem_append_left _ (List.mem_append_left _ (List.mem_append_left _ (List.mem_append_left _ (List.mem_append_left _ (List.mem_append_right _ h)))))))
  have lk0 := hts (.fieldLink RX9 20 "TidedGround" "reader" "LTidedGround$Reader;") (List.mem_of_getElem? (i := 1) rfl)
  have lk1 := hts (.fieldLink RX9 9 "TidedGround" "letters" "[I") (List.mem_of_getElem? (i := 2) rfl)
  have lk2 := hts (.fieldLink RX9 82 "TidedGround" "letterCount" "I") (List.mem_of_getElem? (i := 3) rfl)
  have lk3 := hts (.fieldLink RX9 27 "TidedGround" "spare" "LTidedGround$Plan;") (List.mem_of_getElem? (i := 4) rfl)
  have lk4 := hts (.fieldLink RX9 13 "TidedGround" "faultAt" "I") (List.mem_of_getElem? (i := 6) rfl)
  have lk5 := hts (.fieldLink RX9 43 "TidedGround" "world" "LTidedGround$World;") (List.mem_of_getElem? (i := 7) rfl)
  have lk6 := hts (.fieldLink RX9 91 "TidedGround$World" "plan" "LTidedGround$Plan;") (List.mem_of_getElem? (i := 8) rfl)
  have lk7 := hts (.fieldLink RX9 97 "TidedGround$Plan" "cells" "I") (List.mem_of_getElem? (i := 9) rfl)
  have lk8 := hts (.fieldLink RX9 90 "TidedGround$Reader" "faultAt" "I") (List.mem_of_getElem? (i := 5) rfl)
  have n_m10 : ((-10) : Int32).toInt = -10 := by decide
  have n_m1 : ((-1) : Int32).toInt = -1 := by decide
  have n_0 : (0 : Int32).toInt = 0 := by decide
  have hl := lv_entry ([.ref (a 99)]) (n := 3) (Nat.le_of_ble_eq_true rfl)
  rw [lg_entry_eq]
  generalize (lg_sl ([.ref (a 99)]) ++ List.replicate (3 - (lg_sl ([.ref (a 99)])).length) Slot.unset).toArray = ls at hl ⊢
  have hl : lv_has ls 3 [(0, .ref (a 99))] := hl
  refine W_abs (fun Q hQ => ?_)
  obtain ⟨hT, hG, hI, hI2, hJ, hJi, hJj⟩ := id hTA
  obtain ⟨hT1, hT2⟩ := id hT
  have hJ_vs := hJ
  have hJ_vi := hJi
  have hJ_vj := hJj
  obtain ⟨hg, hmc, hm0, hm1, hm2, hs0, hs1, hs2, hs3⟩ := id hI
  obtain ⟨hg1, hg2, hg3, hg4⟩ := id hg
  have hz0 := hm0.1
  have hz1 := hm1.1
  have hz2 := hm2.1
  have hc0 := hs0.1
  have hc1 := hs1.1
  have hc2 := hs2.1
  have hc3 := hs3.1
  obtain ⟨hj0, hj1, hj2⟩ := id hJ
  have hg5 : 0 ≤ (vp 2 0).toInt := by rw [hg3]; exact Int.mul_nonneg hg1.1 hg2.1
  have hG1 := hG.1
  have hG4 := hG.2.2.2
  refine lv_aload_n hx hb dX9_ground_0 rfl (lv_at hl 0 rfl) ?_
  refine va_get (D := eD E) (ci := 9) (v := .ref (a 3)) (C := RX9) (T := TX9) (N := 13) hx hb hts in_X9 hown hK hP 0 rfl rfl 3 (by decide) lk0 (fun _ h9 => h9) rfl dX9_ground_1 ?_
  refine lv_aload_n hx hb dX9_ground_4 rfl (lv_at hl 0 rfl) ?_
  refine va_get (D := eD E) (ci := 9) (v := .ref (a 0)) (C := RX9) (T := TX9) (N := 13) hx hb hts in_X9 hown hK hP 0 rfl rfl 0 (by decide) lk1 (fun _ h9 => h9) rfl dX9_ground_5 ?_
  refine lv_aload_n hx hb dX9_ground_8 rfl (lv_at hl 0 rfl) ?_
  refine va_get (D := eD E) (ci := 9) (v := .int (v 1 0)) (C := RX9) (T := TX9) (N := 13) hx hb hts in_X9 hown hK hP 0 rfl rfl 1 (by decide) lk2 (fun _ h9 => h9) rfl dX9_ground_9 ?_
  refine lv_aload_n hx hb dX9_ground_12 rfl (lv_at hl 0 rfl) ?_
  refine va_get (D := eD E) (ci := 9) (v := .ref (aq 0)) (C := RX9) (T := TX9) (N := 13) hx hb hts in_X9 hown hK hP 0 rfl rfl 4 (by decide) lk3 (fun _ h9 => h9) rfl dX9_ground_13 ?_
  refine mt_Vi (w1 := fun (u : Value × Int32 × Int32 × Value × Int32 × Int32 × Int32 × Int32 × Int32 × Vf) => rtL E (a 3) u.1 u.2.1 u.2.2.1 u.2.2.2.1 u.2.2.2.2.1 u.2.2.2.2.2.1 u.2.2.2.2.2.2.1 u.2.2.2.2.2.2.2.1 u.2.2.2.2.2.2.2.2.1 (a 0) (v 0) aq u.2.2.2.2.2.2.2.2.2) (wf := fun (u : Value × Int32 × Int32 × Value × Int32 × Int32 × Int32 × Int32 × Int32 × Vf) => tgL E a (up2 (up2 (up2 (up2 (up2 (up2 (up2 v 101 0 u.2.1) 102 0 u.2.2.1) 104 0 u.2.2.2.2.1) 105 0 u.2.2.2.2.2.1) 106 0 u.2.2.2.2.2.2.1) 107 0 u.2.2.2.2.2.2.2.1) 108 0 u.2.2.2.2.2.2.2.2.1) cz0 cz1 u.1 u.2.2.2.1 aq u.2.2.2.2.2.2.2.2.2 ap vp as_ vs ai vi bi vj) (wr := [((a 99), .inr (9, [.ref (a 0), .int (v 1 0), .int (v 2 0), .ref (a 3), .ref (aq 0), .ref (a 5), .ref (as_ 0), .ref (a 7), .ref (a 8), .ref (a 9), .ref (a 10), .ref (a 11), .int (v 12 0)])), ((a 11), .inl (eI E, 30, .inl (v 11))), ((a 7), .inl (eS E, 2, .inr (.inr (.inr (.inr (fun i => some (cond (Nat.beq i 0) (ai 0) (bi 0)))))))), ((a 8), .inr (3, [.ref (a 5), .ref cz0, .ref cz1, .ref (a 203)])), (cz0, .inl (eI E, 24, .inl (v 201))), (cz1, .inl (eI E, 24, .inl (v 202))), ((a 203), .inl (eI E, 960, .inl (v 203))), ((a 9), .inr (7, [.ref (a 5), .ref (a 301), .ref (a 302), .int (v 303 0), .int (v 304 0)])), ((a 301), .inl (eI E, 5, .inl (v 301))), ((a 302), .inl (eI E, 5, .inl (v 302))), ((a 10), .inr (4, [.ref (a 5), .int (v 401 0), .ref (a 402), .ref (a 403), .ref (a 404), .ref (a 405), .int (v 406 0), .ref (a 407), .int (v 408 0), .int (v 409 0), .int (v 410 0)])), ((a 402), .inl (eI E, 12, .inl (v 402))), ((a 403), .inl (eI E, 12, .inl (v 403))), ((a 404), .inl (eI E, 12, .inl (v 404))), ((a 405), .inl (eI E, 729, .inl (v 405))), ((a 407), .inl (eI E, 55, .inl (v 407))), ((a 5), .inr (8, [.ref (ap 0), .ref (as_ 0)])), ((ap 0), .inr (1, [.int (vp 0 0), .int (vp 1 0), .int (vp 2 0), .ref (ap 3), .ref (ap 4), .int (vp 5 0), .ref (ap 6), .ref (ap 7), .ref (ap 8), .ref (ap 9), .ref (ap 10)])), ((ap 3), .inl (eI E, 24, .inl (vp 3))), ((ap 4), .inl (eI E, 24, .inl (vp 4))), ((ap 6), .inl (eM E, 3, .inr (.inr (.inr (.inr (fun i => some (ap (20 + 10 * i)))))))), ((ap 20), .inr (0, [.int (vp 20 0), .int (vp 21 0), .int (vp 22 0), .ref (ap 23), .ref (ap 24)])), ((ap 23), .inl (eI E, 18, .inl (vp 23))), ((ap 24), .inl (eI E, 24, .inl (vp 24))), ((ap 30), .inr (0, [.int (vp 30 0), .int (vp 31 0), .int (vp 32 0), .ref (ap 33), .ref (ap 34)])), ((ap 33), .inl (eI E, 18, .inl (vp 33))), ((ap 34), .inl (eI E, 24, .inl (vp 34))), ((ap 40), .inr (0, [.int (vp 40 0), .int (vp 41 0), .int (vp 42 0), .ref (ap 43), .ref (ap 44)])), ((ap 43), .inl (eI E, 18, .inl (vp 43))), ((ap 44), .inl (eI E, 24, .inl (vp 44))), ((ap 7), .inr (5, [.int (vp 60 0), .ref (ap 61), .ref (ap 62), .ref (ap 63)])), ((ap 61), .inl (eI E, 6, .inl (vp 61))), ((ap 62), .inl (eI E, 6, .inl (vp 62))), ((ap 63), .inl (eI E, 6, .inl (vp 63))), ((ap 8), .inr (5, [.int (vp 70 0), .ref (ap 71), .ref (ap 72), .ref (ap 73)])), ((ap 71), .inl (eI E, 6, .inl (vp 71))), ((ap 72), .inl (eI E, 6, .inl (vp 72))), ((ap 73), .inl (eI E, 6, .inl (vp 73))), ((ap 9), .inr (5, [.int (vp 80 0), .ref (ap 81), .ref (ap 82), .ref (ap 83)])), ((ap 81), .inl (eI E, 6, .inl (vp 81))), ((ap 82), .inl (eI E, 6, .inl (vp 82))), ((ap 83), .inl (eI E, 6, .inl (vp 83))), ((ap 10), .inr (5, [.int (vp 90 0), .ref (ap 91), .ref (ap 92), .ref (ap 93)])), ((ap 91), .inl (eI E, 6, .inl (vp 91))), ((ap 92), .inl (eI E, 6, .inl (vp 92))), ((ap 93), .inl (eI E, 6, .inl (vp 93))), ((as_ 0), .inr (6, [.int (vs 0 0), .ref (as_ 1), .ref (as_ 2), .ref (as_ 3), .int (vs 4 0), .int (vs 5 0), .int (vs 6 0), .int (vs 7 0), .int (vs 8 0)])), ((as_ 1), .inl (eI E, 3, .inl (vs 1))), ((as_ 2), .inl (eI E, 24, .inl (vs 2))), ((as_ 3), .inl (eI E, 6, .inl (vs 3))), ((ai 0), .inr (6, [.int (vi 0 0), .ref (ai 1), .ref (ai 2), .ref (ai 3), .int (vi 4 0), .int (vi 5 0), .int (vi 6 0), .int (vi 7 0), .int (vi 8 0)])), ((ai 1), .inl (eI E, 3, .inl (vi 1))), ((ai 2), .inl (eI E, 24, .inl (vi 2))), ((ai 3), .inl (eI E, 6, .inl (vi 3))), ((bi 0), .inr (6, [.int (vj 0 0), .ref (bi 1), .ref (bi 2), .ref (bi 3), .int (vj 4 0), .int (vj 5 0), .int (vj 6 0), .int (vj 7 0), .int (vj 8 0)])), ((bi 1), .inl (eI E, 3, .inl (vj 1))), ((bi 2), .inl (eI E, 24, .inl (vj 2))), ((bi 3), .inl (eI E, 6, .inl (vj 3)))]) (As := [.ref (a 0), .int (v 1 0), .ref (aq 0)]) (rest := []) (C := RX2) (ci := 2) ⟨hx, hb, hml, hown, hts⟩ (c_X2_readText l E s.heap.size (a 3) rt (v 101 0) (v 102 0) rp (v 104 0) (v 105 0) (v 106 0) (v 107 0) (v 108 0) (a 0) (v 0) aq vq (v 1 0) S0 (by omega) hI2.R hZ0) (cwV 3 hts gX9_ground_X2_readText rfl rfl rfl (by decide +kernel) ⟨Nat.le_of_ble_eq_true rfl, Nat.le_of_ble_eq_true rfl⟩) hE hS hA hP hD [3, 1, 52, 53, 54, 55, 56, 57, 58, 59, 60, 61, 62, 63, 64, 65, 66, 67, 68, 69, 70, 71, 72, 73, 74, 75, 76, 77, 78, 79, 80] [0, 2, 4, 5, 6, 7, 8, 9, 10, 11, 12, 13, 14, 15, 16, 17, 18, 19, 20, 21, 22, 23, 24, 25, 26, 27, 28, 29, 30, 31, 32, 33, 34, 35, 36, 37, 38, 39, 40, 41, 42, 43, 44, 45, 46, 47, 48, 49, 50, 51, 81, 82, 83, 84, 85, 86, 87, 88] rfl rfl (by decide) (by decide) (by decide) [0, 59, 1, 58, 2, 3, 4, 5, 6, 7, 8, 9, 10, 11, 12, 13, 14, 15, 16, 17, 18, 19, 20, 21, 22, 23, 24, 25, 26, 27, 28, 29, 30, 31, 32, 33, 34, 35, 36, 37, 38, 39, 40, 41, 42, 43, 44, 45, 46, 47, 48, 49, 60, 61, 62, 63, 64, 65, 66, 67, 68, 69, 70, 71, 72, 73, 74, 75, 76, 77, 78, 79, 80, 81, 82, 83, 84, 85, 86, 87, 88, 50, 51, 52, 53, 54, 55, 56, 57] (by decide) (fun u => rfl) rfl rfl rfl rfl hl.1 rfl (Nat.le_of_ble_eq_true rfl) dX9_ground_16 ⟨Nat.zero_le _, Nat.zero_le _⟩ (fun r16 u16 H locs h16 hP hD hS => ?_)
  obtain ⟨o16_rt, o16_ln, o16_ps, o16_rp, o16_fn, o16_fa, o16_na, o16_cx, o16_ck, o16_vp⟩ := u16
  try dsimp only at h16
  have hf16 := h16.2
  replace h16 := h16.1
  replace hP : va_P (eD E) vwCl (tgL E a (up2 (up2 (up2 (up2 (up2 (up2 (up2 v 101 0 o16_ln) 102 0 o16_ps) 104 0 o16_fn) 105 0 o16_fa) 106 0 o16_na) 107 0 o16_cx) 108 0 o16_ck) cz0 cz1 o16_rt o16_rp aq o16_vp ap vp as_ vs ai vi bi vj) H := hP
  replace hD : va_D A (tgL E a (up2 (up2 (up2 (up2 (up2 (up2 (up2 v 101 0 o16_ln) 102 0 o16_ps) 104 0 o16_fn) 105 0 o16_fa) 106 0 o16_na) 107 0 o16_cx) 108 0 o16_ck) cz0 cz1 o16_rt o16_rp aq o16_vp ap vp as_ vs ai vi bi vj) := hD
  generalize hv16 : up2 (up2 (up2 (up2 (up2 (up2 (up2 v 101 0 o16_ln) 102 0 o16_ps) 104 0 o16_fn) 105 0 o16_fa) 106 0 o16_na) 107 0 o16_cx) 108 0 o16_ck = v_16 at hP hD
  have hG : SgI (v_16 401 0) (v_16 402) (v_16 403) (v_16 408 0) := by rw [← hv16]; exact hG
  have hT12 : TgI v_16 := by rw [← hv16]; exact hT
  have hI2 := h16.1
  have hr16 : r16.toInt = o16_fn.toInt := by rw [h16.2]
  have hgr := hf16.gr (okF.text _ _ _)
  refine lv_istore_n (lv' := [(1, .int r16), (0, .ref (a 99))]) hx hb dX9_ground_19 rfl hl (by decide) rfl (fun ls hl => ?_)
  refine lv_aload_n hx hb dX9_ground_20 rfl (lv_at hl 1 rfl) ?_
  refine lv_iconst (v := 0) hx hb dX9_ground_21 (by decide) ?_
  refine va_put (D := eD E) (ci := 9) (v := .int 0) (ty := .int) (C := RX9) (T := TX9) (N := 13) hx hb hts in_X9 tyX9 tyX9_ok nmX9 hown hK hP hD hS 0 rfl rfl 1 (by decide) lk2 (fun _ h9 => h9) rfl (by decide +kernel) rfl rfl (Nat.le_of_ble_eq_true rfl) dX9_ground_22 (fun H locs hP hD hS => ?_)
  replace hP : va_P (eD E) vwCl (tgL E a (up2 v_16 1 0 0) cz0 cz1 o16_rt o16_rp aq o16_vp ap vp as_ vs ai vi bi vj) H := hP
  replace hD : va_D A (tgL E a (up2 v_16 1 0 0) cz0 cz1 o16_rt o16_rp aq o16_vp ap vp as_ vs ai vi bi vj) := hD
  generalize hv22 : up2 v_16 1 0 0 = v_22 at hP hD
  have hT : TgI v_22 := by rw [← hv22]; exact ⟨(by decide : 0 ≤ (0 : Int32).toInt ∧ (0 : Int32).toInt ≤ 250), hT12.2⟩
  have hG : SgI (v_22 401 0) (v_22 402) (v_22 403) (v_22 408 0) := by rw [← hv22]; exact hG
  have hz22 : v_22 1 0 = 0 := by rw [← hv22]; rfl
  have hq22 : v_22 105 0 = o16_fa ∧ v_22 0 = v 0 := by rw [← hv22, ← hv16]; exact ⟨rfl, rfl⟩
  refine lv_iload_n hx hb dX9_ground_25 rfl (lv_at hl 0 rfl) ?_
  refine lv_if_eq (tgt := 45) hx hb dX9_ground_26 (by decide) (fun c26 => ?_) (fun c26 => ?_)
  · have c26_ := i_eq c26
    refine lv_aload_n hx hb dX9_ground_45 rfl (lv_at hl 1 rfl) ?_
    refine lv_iconst (v := (-1)) hx hb dX9_ground_46 (by decide) ?_
    refine va_put (D := eD E) (ci := 9) (v := .int (-1)) (ty := .int) (C := RX9) (T := TX9) (N := 13) hx hb hts in_X9 tyX9 tyX9_ok nmX9 hown hK hP hD hS 0 rfl rfl 2 (by decide) lk4 (fun _ h9 => h9) rfl (by decide +kernel) rfl rfl (Nat.le_of_ble_eq_true rfl) dX9_ground_47 (fun H locs hP hD hS => ?_)
    replace hP : va_P (eD E) vwCl (tgL E a (up2 v_22 2 0 (-1)) cz0 cz1 o16_rt o16_rp aq o16_vp ap vp as_ vs ai vi bi vj) H := hP
    replace hD : va_D A (tgL E a (up2 v_22 2 0 (-1)) cz0 cz1 o16_rt o16_rp aq o16_vp ap vp as_ vs ai vi bi vj) := hD
    generalize hv47 : up2 v_22 2 0 (-1) = v_47 at hP hD
    have hT : TgI v_47 := by rw [← hv47]; exact hT
    have hG : SgI (v_47 401 0) (v_47 402) (v_47 403) (v_47 408 0) := by rw [← hv47]; exact hG
    have hz47 : v_47 1 0 = 0 := by rw [← hv47]; exact hz22
    have hfr47 : fr lG9a v v_47 := by rw [← hv47, ← hv22, ← hv16]; repeat' (first | exact fr.rf | refine fr.up ?_ (by decide))
    refine lv_aload_n hx hb dX9_ground_50 rfl (lv_at hl 1 rfl) ?_
    refine va_get (D := eD E) (ci := 9) (v := .ref (a 5)) (C := RX9) (T := TX9) (N := 13) hx hb hts in_X9 hown hK hP 0 rfl rfl 5 (by decide) lk5 (fun _ h9 => h9) rfl dX9_ground_51 ?_
    refine va_get (D := eD E) (ci := 8) (v := .ref (ap 0)) (C := RX8) (T := TX8) (N := 2) hx hb hts in_X8 hown hK hP 18 rfl rfl 0 (by decide) lk6 (fun _ h9 => h9) rfl dX9_ground_54 ?_
    refine lv_astore_n (lv' := [(2, .ref (ap 0)), (1, .int r16), (0, .ref (a 99))]) hx hb dX9_ground_57 rfl hl (by decide) rfl (fun ls hl => ?_)
    refine lv_aload_n hx hb dX9_ground_58 rfl (lv_at hl 2 rfl) ?_
    refine va_get (D := eD E) (ci := 9) (v := .ref (a 5)) (C := RX9) (T := TX9) (N := 13) hx hb hts in_X9 hown hK hP 0 rfl rfl 5 (by decide) lk5 (fun _ h9 => h9) rfl dX9_ground_59 ?_
    refine lv_aload_n hx hb dX9_ground_62 rfl (lv_at hl 2 rfl) ?_
    refine va_get (D := eD E) (ci := 9) (v := .ref (aq 0)) (C := RX9) (T := TX9) (N := 13) hx hb hts in_X9 hown hK hP 0 rfl rfl 4 (by decide) lk3 (fun _ h9 => h9) rfl dX9_ground_63 ?_
    refine va_put (D := eD E) (ci := 8) (v := .ref (aq 0)) (ty := (.object "TidedGround$Plan")) (C := RX8) (T := TX8) (N := 2) hx hb hts in_X8 tyX8 tyX8_ok nmX8 hown hK hP hD hS 18 rfl rfl 0 (by decide) lk6 (fun _ h9 => h9) rfl (by decide +kernel) rfl rfl (Nat.le_of_ble_eq_true rfl) dX9_ground_66 (fun H locs hP hD hS => ?_)
    replace hP : va_P (eD E) vwCl ([((a 99), .inr (9, [.ref (a 0), .int (v_47 1 0), .int (v_47 2 0), .ref (a 3), .ref (aq 0), .ref (a 5), .ref (as_ 0), .ref (a 7), .ref (a 8), .ref (a 9), .ref (a 10), .ref (a 11), .int (v_47 12 0)])), ((a 0), .inl (eI E, 250, .inl (v_47 0))), ((a 11), .inl (eI E, 30, .inl (v_47 11))), ((a 3), .inr (2, [o16_rt, .int (v_47 101 0), .int (v_47 102 0), o16_rp, .int (v_47 104 0), .int (v_47 105 0), .int (v_47 106 0), .int (v_47 107 0), .int (v_47 108 0)])), ((a 7), .inl (eS E, 2, .inr (.inr (.inr (.inr (fun i => some (cond (Nat.beq i 0) (ai 0) (bi 0)))))))), ((a 8), .inr (3, [.ref (a 5), .ref cz0, .ref cz1, .ref (a 203)])), (cz0, .inl (eI E, 24, .inl (v_47 201))), (cz1, .inl (eI E, 24, .inl (v_47 202))), ((a 203), .inl (eI E, 960, .inl (v_47 203))), ((a 9), .inr (7, [.ref (a 5), .ref (a 301), .ref (a 302), .int (v_47 303 0), .int (v_47 304 0)])), ((a 301), .inl (eI E, 5, .inl (v_47 301))), ((a 302), .inl (eI E, 5, .inl (v_47 302))), ((a 10), .inr (4, [.ref (a 5), .int (v_47 401 0), .ref (a 402), .ref (a 403), .ref (a 404), .ref (a 405), .int (v_47 406 0), .ref (a 407), .int (v_47 408 0), .int (v_47 409 0), .int (v_47 410 0)])), ((a 402), .inl (eI E, 12, .inl (v_47 402))), ((a 403), .inl (eI E, 12, .inl (v_47 403))), ((a 404), .inl (eI E, 12, .inl (v_47 404))), ((a 405), .inl (eI E, 729, .inl (v_47 405))), ((a 407), .inl (eI E, 55, .inl (v_47 407))), ((a 5), .inr (8, [.ref (aq 0), .ref (as_ 0)])), ((ap 0), .inr (1, [.int (vp 0 0), .int (vp 1 0), .int (vp 2 0), .ref (ap 3), .ref (ap 4), .int (vp 5 0), .ref (ap 6), .ref (ap 7), .ref (ap 8), .ref (ap 9), .ref (ap 10)])), ((ap 3), .inl (eI E, 24, .inl (vp 3))), ((ap 4), .inl (eI E, 24, .inl (vp 4))), ((ap 6), .inl (eM E, 3, .inr (.inr (.inr (.inr (fun i => some (ap (20 + 10 * i)))))))), ((ap 20), .inr (0, [.int (vp 20 0), .int (vp 21 0), .int (vp 22 0), .ref (ap 23), .ref (ap 24)])), ((ap 23), .inl (eI E, 18, .inl (vp 23))), ((ap 24), .inl (eI E, 24, .inl (vp 24))), ((ap 30), .inr (0, [.int (vp 30 0), .int (vp 31 0), .int (vp 32 0), .ref (ap 33), .ref (ap 34)])), ((ap 33), .inl (eI E, 18, .inl (vp 33))), ((ap 34), .inl (eI E, 24, .inl (vp 34))), ((ap 40), .inr (0, [.int (vp 40 0), .int (vp 41 0), .int (vp 42 0), .ref (ap 43), .ref (ap 44)])), ((ap 43), .inl (eI E, 18, .inl (vp 43))), ((ap 44), .inl (eI E, 24, .inl (vp 44))), ((ap 7), .inr (5, [.int (vp 60 0), .ref (ap 61), .ref (ap 62), .ref (ap 63)])), ((ap 61), .inl (eI E, 6, .inl (vp 61))), ((ap 62), .inl (eI E, 6, .inl (vp 62))), ((ap 63), .inl (eI E, 6, .inl (vp 63))), ((ap 8), .inr (5, [.int (vp 70 0), .ref (ap 71), .ref (ap 72), .ref (ap 73)])), ((ap 71), .inl (eI E, 6, .inl (vp 71))), ((ap 72), .inl (eI E, 6, .inl (vp 72))), ((ap 73), .inl (eI E, 6, .inl (vp 73))), ((ap 9), .inr (5, [.int (vp 80 0), .ref (ap 81), .ref (ap 82), .ref (ap 83)])), ((ap 81), .inl (eI E, 6, .inl (vp 81))), ((ap 82), .inl (eI E, 6, .inl (vp 82))), ((ap 83), .inl (eI E, 6, .inl (vp 83))), ((ap 10), .inr (5, [.int (vp 90 0), .ref (ap 91), .ref (ap 92), .ref (ap 93)])), ((ap 91), .inl (eI E, 6, .inl (vp 91))), ((ap 92), .inl (eI E, 6, .inl (vp 92))), ((ap 93), .inl (eI E, 6, .inl (vp 93))), ((as_ 0), .inr (6, [.int (vs 0 0), .ref (as_ 1), .ref (as_ 2), .ref (as_ 3), .int (vs 4 0), .int (vs 5 0), .int (vs 6 0), .int (vs 7 0), .int (vs 8 0)])), ((as_ 1), .inl (eI E, 3, .inl (vs 1))), ((as_ 2), .inl (eI E, 24, .inl (vs 2))), ((as_ 3), .inl (eI E, 6, .inl (vs 3))), ((aq 0), .inr (1, [.int (o16_vp 0 0), .int (o16_vp 1 0), .int (o16_vp 2 0), .ref (aq 3), .ref (aq 4), .int (o16_vp 5 0), .ref (aq 6), .ref (aq 7), .ref (aq 8), .ref (aq 9), .ref (aq 10)])), ((aq 3), .inl (eI E, 24, .inl (o16_vp 3))), ((aq 4), .inl (eI E, 24, .inl (o16_vp 4))), ((aq 6), .inl (eM E, 3, .inr (.inr (.inr (.inr (fun i => some (aq (20 + 10 * i)))))))), ((aq 20), .inr (0, [.int (o16_vp 20 0), .int (o16_vp 21 0), .int (o16_vp 22 0), .ref (aq 23), .ref (aq 24)])), ((aq 23), .inl (eI E, 18, .inl (o16_vp 23))), ((aq 24), .inl (eI E, 24, .inl (o16_vp 24))), ((aq 30), .inr (0, [.int (o16_vp 30 0), .int (o16_vp 31 0), .int (o16_vp 32 0), .ref (aq 33), .ref (aq 34)])), ((aq 33), .inl (eI E, 18, .inl (o16_vp 33))), ((aq 34), .inl (eI E, 24, .inl (o16_vp 34))), ((aq 40), .inr (0, [.int (o16_vp 40 0), .int (o16_vp 41 0), .int (o16_vp 42 0), .ref (aq 43), .ref (aq 44)])), ((aq 43), .inl (eI E, 18, .inl (o16_vp 43))), ((aq 44), .inl (eI E, 24, .inl (o16_vp 44))), ((aq 7), .inr (5, [.int (o16_vp 60 0), .ref (aq 61), .ref (aq 62), .ref (aq 63)])), ((aq 61), .inl (eI E, 6, .inl (o16_vp 61))), ((aq 62), .inl (eI E, 6, .inl (o16_vp 62))), ((aq 63), .inl (eI E, 6, .inl (o16_vp 63))), ((aq 8), .inr (5, [.int (o16_vp 70 0), .ref (aq 71), .ref (aq 72), .ref (aq 73)])), ((aq 71), .inl (eI E, 6, .inl (o16_vp 71))), ((aq 72), .inl (eI E, 6, .inl (o16_vp 72))), ((aq 73), .inl (eI E, 6, .inl (o16_vp 73))), ((aq 9), .inr (5, [.int (o16_vp 80 0), .ref (aq 81), .ref (aq 82), .ref (aq 83)])), ((aq 81), .inl (eI E, 6, .inl (o16_vp 81))), ((aq 82), .inl (eI E, 6, .inl (o16_vp 82))), ((aq 83), .inl (eI E, 6, .inl (o16_vp 83))), ((aq 10), .inr (5, [.int (o16_vp 90 0), .ref (aq 91), .ref (aq 92), .ref (aq 93)])), ((aq 91), .inl (eI E, 6, .inl (o16_vp 91))), ((aq 92), .inl (eI E, 6, .inl (o16_vp 92))), ((aq 93), .inl (eI E, 6, .inl (o16_vp 93))), ((ai 0), .inr (6, [.int (vi 0 0), .ref (ai 1), .ref (ai 2), .ref (ai 3), .int (vi 4 0), .int (vi 5 0), .int (vi 6 0), .int (vi 7 0), .int (vi 8 0)])), ((ai 1), .inl (eI E, 3, .inl (vi 1))), ((ai 2), .inl (eI E, 24, .inl (vi 2))), ((ai 3), .inl (eI E, 6, .inl (vi 3))), ((bi 0), .inr (6, [.int (vj 0 0), .ref (bi 1), .ref (bi 2), .ref (bi 3), .int (vj 4 0), .int (vj 5 0), .int (vj 6 0), .int (vj 7 0), .int (vj 8 0)])), ((bi 1), .inl (eI E, 3, .inl (vj 1))), ((bi 2), .inl (eI E, 24, .inl (vj 2))), ((bi 3), .inl (eI E, 6, .inl (vj 3)))]) H := hP
    replace hD : va_D A ([((a 99), .inr (9, [.ref (a 0), .int (v_47 1 0), .int (v_47 2 0), .ref (a 3), .ref (aq 0), .ref (a 5), .ref (as_ 0), .ref (a 7), .ref (a 8), .ref (a 9), .ref (a 10), .ref (a 11), .int (v_47 12 0)])), ((a 0), .inl (eI E, 250, .inl (v_47 0))), ((a 11), .inl (eI E, 30, .inl (v_47 11))), ((a 3), .inr (2, [o16_rt, .int (v_47 101 0), .int (v_47 102 0), o16_rp, .int (v_47 104 0), .int (v_47 105 0), .int (v_47 106 0), .int (v_47 107 0), .int (v_47 108 0)])), ((a 7), .inl (eS E, 2, .inr (.inr (.inr (.inr (fun i => some (cond (Nat.beq i 0) (ai 0) (bi 0)))))))), ((a 8), .inr (3, [.ref (a 5), .ref cz0, .ref cz1, .ref (a 203)])), (cz0, .inl (eI E, 24, .inl (v_47 201))), (cz1, .inl (eI E, 24, .inl (v_47 202))), ((a 203), .inl (eI E, 960, .inl (v_47 203))), ((a 9), .inr (7, [.ref (a 5), .ref (a 301), .ref (a 302), .int (v_47 303 0), .int (v_47 304 0)])), ((a 301), .inl (eI E, 5, .inl (v_47 301))), ((a 302), .inl (eI E, 5, .inl (v_47 302))), ((a 10), .inr (4, [.ref (a 5), .int (v_47 401 0), .ref (a 402), .ref (a 403), .ref (a 404), .ref (a 405), .int (v_47 406 0), .ref (a 407), .int (v_47 408 0), .int (v_47 409 0), .int (v_47 410 0)])), ((a 402), .inl (eI E, 12, .inl (v_47 402))), ((a 403), .inl (eI E, 12, .inl (v_47 403))), ((a 404), .inl (eI E, 12, .inl (v_47 404))), ((a 405), .inl (eI E, 729, .inl (v_47 405))), ((a 407), .inl (eI E, 55, .inl (v_47 407))), ((a 5), .inr (8, [.ref (aq 0), .ref (as_ 0)])), ((ap 0), .inr (1, [.int (vp 0 0), .int (vp 1 0), .int (vp 2 0), .ref (ap 3), .ref (ap 4), .int (vp 5 0), .ref (ap 6), .ref (ap 7), .ref (ap 8), .ref (ap 9), .ref (ap 10)])), ((ap 3), .inl (eI E, 24, .inl (vp 3))), ((ap 4), .inl (eI E, 24, .inl (vp 4))), ((ap 6), .inl (eM E, 3, .inr (.inr (.inr (.inr (fun i => some (ap (20 + 10 * i)))))))), ((ap 20), .inr (0, [.int (vp 20 0), .int (vp 21 0), .int (vp 22 0), .ref (ap 23), .ref (ap 24)])), ((ap 23), .inl (eI E, 18, .inl (vp 23))), ((ap 24), .inl (eI E, 24, .inl (vp 24))), ((ap 30), .inr (0, [.int (vp 30 0), .int (vp 31 0), .int (vp 32 0), .ref (ap 33), .ref (ap 34)])), ((ap 33), .inl (eI E, 18, .inl (vp 33))), ((ap 34), .inl (eI E, 24, .inl (vp 34))), ((ap 40), .inr (0, [.int (vp 40 0), .int (vp 41 0), .int (vp 42 0), .ref (ap 43), .ref (ap 44)])), ((ap 43), .inl (eI E, 18, .inl (vp 43))), ((ap 44), .inl (eI E, 24, .inl (vp 44))), ((ap 7), .inr (5, [.int (vp 60 0), .ref (ap 61), .ref (ap 62), .ref (ap 63)])), ((ap 61), .inl (eI E, 6, .inl (vp 61))), ((ap 62), .inl (eI E, 6, .inl (vp 62))), ((ap 63), .inl (eI E, 6, .inl (vp 63))), ((ap 8), .inr (5, [.int (vp 70 0), .ref (ap 71), .ref (ap 72), .ref (ap 73)])), ((ap 71), .inl (eI E, 6, .inl (vp 71))), ((ap 72), .inl (eI E, 6, .inl (vp 72))), ((ap 73), .inl (eI E, 6, .inl (vp 73))), ((ap 9), .inr (5, [.int (vp 80 0), .ref (ap 81), .ref (ap 82), .ref (ap 83)])), ((ap 81), .inl (eI E, 6, .inl (vp 81))), ((ap 82), .inl (eI E, 6, .inl (vp 82))), ((ap 83), .inl (eI E, 6, .inl (vp 83))), ((ap 10), .inr (5, [.int (vp 90 0), .ref (ap 91), .ref (ap 92), .ref (ap 93)])), ((ap 91), .inl (eI E, 6, .inl (vp 91))), ((ap 92), .inl (eI E, 6, .inl (vp 92))), ((ap 93), .inl (eI E, 6, .inl (vp 93))), ((as_ 0), .inr (6, [.int (vs 0 0), .ref (as_ 1), .ref (as_ 2), .ref (as_ 3), .int (vs 4 0), .int (vs 5 0), .int (vs 6 0), .int (vs 7 0), .int (vs 8 0)])), ((as_ 1), .inl (eI E, 3, .inl (vs 1))), ((as_ 2), .inl (eI E, 24, .inl (vs 2))), ((as_ 3), .inl (eI E, 6, .inl (vs 3))), ((aq 0), .inr (1, [.int (o16_vp 0 0), .int (o16_vp 1 0), .int (o16_vp 2 0), .ref (aq 3), .ref (aq 4), .int (o16_vp 5 0), .ref (aq 6), .ref (aq 7), .ref (aq 8), .ref (aq 9), .ref (aq 10)])), ((aq 3), .inl (eI E, 24, .inl (o16_vp 3))), ((aq 4), .inl (eI E, 24, .inl (o16_vp 4))), ((aq 6), .inl (eM E, 3, .inr (.inr (.inr (.inr (fun i => some (aq (20 + 10 * i)))))))), ((aq 20), .inr (0, [.int (o16_vp 20 0), .int (o16_vp 21 0), .int (o16_vp 22 0), .ref (aq 23), .ref (aq 24)])), ((aq 23), .inl (eI E, 18, .inl (o16_vp 23))), ((aq 24), .inl (eI E, 24, .inl (o16_vp 24))), ((aq 30), .inr (0, [.int (o16_vp 30 0), .int (o16_vp 31 0), .int (o16_vp 32 0), .ref (aq 33), .ref (aq 34)])), ((aq 33), .inl (eI E, 18, .inl (o16_vp 33))), ((aq 34), .inl (eI E, 24, .inl (o16_vp 34))), ((aq 40), .inr (0, [.int (o16_vp 40 0), .int (o16_vp 41 0), .int (o16_vp 42 0), .ref (aq 43), .ref (aq 44)])), ((aq 43), .inl (eI E, 18, .inl (o16_vp 43))), ((aq 44), .inl (eI E, 24, .inl (o16_vp 44))), ((aq 7), .inr (5, [.int (o16_vp 60 0), .ref (aq 61), .ref (aq 62), .ref (aq 63)])), ((aq 61), .inl (eI E, 6, .inl (o16_vp 61))), ((aq 62), .inl (eI E, 6, .inl (o16_vp 62))), ((aq 63), .inl (eI E, 6, .inl (o16_vp 63))), ((aq 8), .inr (5, [.int (o16_vp 70 0), .ref (aq 71), .ref (aq 72), .ref (aq 73)])), ((aq 71), .inl (eI E, 6, .inl (o16_vp 71))), ((aq 72), .inl (eI E, 6, .inl (o16_vp 72))), ((aq 73), .inl (eI E, 6, .inl (o16_vp 73))), ((aq 9), .inr (5, [.int (o16_vp 80 0), .ref (aq 81), .ref (aq 82), .ref (aq 83)])), ((aq 81), .inl (eI E, 6, .inl (o16_vp 81))), ((aq 82), .inl (eI E, 6, .inl (o16_vp 82))), ((aq 83), .inl (eI E, 6, .inl (o16_vp 83))), ((aq 10), .inr (5, [.int (o16_vp 90 0), .ref (aq 91), .ref (aq 92), .ref (aq 93)])), ((aq 91), .inl (eI E, 6, .inl (o16_vp 91))), ((aq 92), .inl (eI E, 6, .inl (o16_vp 92))), ((aq 93), .inl (eI E, 6, .inl (o16_vp 93))), ((ai 0), .inr (6, [.int (vi 0 0), .ref (ai 1), .ref (ai 2), .ref (ai 3), .int (vi 4 0), .int (vi 5 0), .int (vi 6 0), .int (vi 7 0), .int (vi 8 0)])), ((ai 1), .inl (eI E, 3, .inl (vi 1))), ((ai 2), .inl (eI E, 24, .inl (vi 2))), ((ai 3), .inl (eI E, 6, .inl (vi 3))), ((bi 0), .inr (6, [.int (vj 0 0), .ref (bi 1), .ref (bi 2), .ref (bi 3), .int (vj 4 0), .int (vj 5 0), .int (vj 6 0), .int (vj 7 0), .int (vj 8 0)])), ((bi 1), .inl (eI E, 3, .inl (vj 1))), ((bi 2), .inl (eI E, 24, .inl (vj 2))), ((bi 3), .inl (eI E, 6, .inl (vj 3)))]) := hD
    refine lv_aload_n hx hb dX9_ground_69 rfl (lv_at hl 2 rfl) ?_
    refine lv_aload_n hx hb dX9_ground_70 rfl (lv_at hl 0 rfl) ?_
    refine va_put (D := eD E) (ci := 9) (v := .ref (ap 0)) (ty := (.object "TidedGround$Plan")) (C := RX9) (T := TX9) (N := 13) hx hb hts in_X9 tyX9 tyX9_ok nmX9 hown hK hP hD hS 0 rfl rfl 4 (by decide) lk3 (fun _ h9 => h9) rfl (by decide +kernel) rfl rfl (Nat.le_of_ble_eq_true rfl) dX9_ground_71 (fun H locs hP hD hS => ?_)
    replace hP : va_P (eD E) vwCl ([((a 99), .inr (9, [.ref (a 0), .int (v_47 1 0), .int (v_47 2 0), .ref (a 3), .ref (ap 0), .ref (a 5), .ref (as_ 0), .ref (a 7), .ref (a 8), .ref (a 9), .ref (a 10), .ref (a 11), .int (v_47 12 0)])), ((a 0), .inl (eI E, 250, .inl (v_47 0))), ((a 11), .inl (eI E, 30, .inl (v_47 11))), ((a 3), .inr (2, [o16_rt, .int (v_47 101 0), .int (v_47 102 0), o16_rp, .int (v_47 104 0), .int (v_47 105 0), .int (v_47 106 0), .int (v_47 107 0), .int (v_47 108 0)])), ((a 7), .inl (eS E, 2, .inr (.inr (.inr (.inr (fun i => some (cond (Nat.beq i 0) (ai 0) (bi 0)))))))), ((a 8), .inr (3, [.ref (a 5), .ref cz0, .ref cz1, .ref (a 203)])), (cz0, .inl (eI E, 24, .inl (v_47 201))), (cz1, .inl (eI E, 24, .inl (v_47 202))), ((a 203), .inl (eI E, 960, .inl (v_47 203))), ((a 9), .inr (7, [.ref (a 5), .ref (a 301), .ref (a 302), .int (v_47 303 0), .int (v_47 304 0)])), ((a 301), .inl (eI E, 5, .inl (v_47 301))), ((a 302), .inl (eI E, 5, .inl (v_47 302))), ((a 10), .inr (4, [.ref (a 5), .int (v_47 401 0), .ref (a 402), .ref (a 403), .ref (a 404), .ref (a 405), .int (v_47 406 0), .ref (a 407), .int (v_47 408 0), .int (v_47 409 0), .int (v_47 410 0)])), ((a 402), .inl (eI E, 12, .inl (v_47 402))), ((a 403), .inl (eI E, 12, .inl (v_47 403))), ((a 404), .inl (eI E, 12, .inl (v_47 404))), ((a 405), .inl (eI E, 729, .inl (v_47 405))), ((a 407), .inl (eI E, 55, .inl (v_47 407))), ((a 5), .inr (8, [.ref (aq 0), .ref (as_ 0)])), ((ap 0), .inr (1, [.int (vp 0 0), .int (vp 1 0), .int (vp 2 0), .ref (ap 3), .ref (ap 4), .int (vp 5 0), .ref (ap 6), .ref (ap 7), .ref (ap 8), .ref (ap 9), .ref (ap 10)])), ((ap 3), .inl (eI E, 24, .inl (vp 3))), ((ap 4), .inl (eI E, 24, .inl (vp 4))), ((ap 6), .inl (eM E, 3, .inr (.inr (.inr (.inr (fun i => some (ap (20 + 10 * i)))))))), ((ap 20), .inr (0, [.int (vp 20 0), .int (vp 21 0), .int (vp 22 0), .ref (ap 23), .ref (ap 24)])), ((ap 23), .inl (eI E, 18, .inl (vp 23))), ((ap 24), .inl (eI E, 24, .inl (vp 24))), ((ap 30), .inr (0, [.int (vp 30 0), .int (vp 31 0), .int (vp 32 0), .ref (ap 33), .ref (ap 34)])), ((ap 33), .inl (eI E, 18, .inl (vp 33))), ((ap 34), .inl (eI E, 24, .inl (vp 34))), ((ap 40), .inr (0, [.int (vp 40 0), .int (vp 41 0), .int (vp 42 0), .ref (ap 43), .ref (ap 44)])), ((ap 43), .inl (eI E, 18, .inl (vp 43))), ((ap 44), .inl (eI E, 24, .inl (vp 44))), ((ap 7), .inr (5, [.int (vp 60 0), .ref (ap 61), .ref (ap 62), .ref (ap 63)])), ((ap 61), .inl (eI E, 6, .inl (vp 61))), ((ap 62), .inl (eI E, 6, .inl (vp 62))), ((ap 63), .inl (eI E, 6, .inl (vp 63))), ((ap 8), .inr (5, [.int (vp 70 0), .ref (ap 71), .ref (ap 72), .ref (ap 73)])), ((ap 71), .inl (eI E, 6, .inl (vp 71))), ((ap 72), .inl (eI E, 6, .inl (vp 72))), ((ap 73), .inl (eI E, 6, .inl (vp 73))), ((ap 9), .inr (5, [.int (vp 80 0), .ref (ap 81), .ref (ap 82), .ref (ap 83)])), ((ap 81), .inl (eI E, 6, .inl (vp 81))), ((ap 82), .inl (eI E, 6, .inl (vp 82))), ((ap 83), .inl (eI E, 6, .inl (vp 83))), ((ap 10), .inr (5, [.int (vp 90 0), .ref (ap 91), .ref (ap 92), .ref (ap 93)])), ((ap 91), .inl (eI E, 6, .inl (vp 91))), ((ap 92), .inl (eI E, 6, .inl (vp 92))), ((ap 93), .inl (eI E, 6, .inl (vp 93))), ((as_ 0), .inr (6, [.int (vs 0 0), .ref (as_ 1), .ref (as_ 2), .ref (as_ 3), .int (vs 4 0), .int (vs 5 0), .int (vs 6 0), .int (vs 7 0), .int (vs 8 0)])), ((as_ 1), .inl (eI E, 3, .inl (vs 1))), ((as_ 2), .inl (eI E, 24, .inl (vs 2))), ((as_ 3), .inl (eI E, 6, .inl (vs 3))), ((aq 0), .inr (1, [.int (o16_vp 0 0), .int (o16_vp 1 0), .int (o16_vp 2 0), .ref (aq 3), .ref (aq 4), .int (o16_vp 5 0), .ref (aq 6), .ref (aq 7), .ref (aq 8), .ref (aq 9), .ref (aq 10)])), ((aq 3), .inl (eI E, 24, .inl (o16_vp 3))), ((aq 4), .inl (eI E, 24, .inl (o16_vp 4))), ((aq 6), .inl (eM E, 3, .inr (.inr (.inr (.inr (fun i => some (aq (20 + 10 * i)))))))), ((aq 20), .inr (0, [.int (o16_vp 20 0), .int (o16_vp 21 0), .int (o16_vp 22 0), .ref (aq 23), .ref (aq 24)])), ((aq 23), .inl (eI E, 18, .inl (o16_vp 23))), ((aq 24), .inl (eI E, 24, .inl (o16_vp 24))), ((aq 30), .inr (0, [.int (o16_vp 30 0), .int (o16_vp 31 0), .int (o16_vp 32 0), .ref (aq 33), .ref (aq 34)])), ((aq 33), .inl (eI E, 18, .inl (o16_vp 33))), ((aq 34), .inl (eI E, 24, .inl (o16_vp 34))), ((aq 40), .inr (0, [.int (o16_vp 40 0), .int (o16_vp 41 0), .int (o16_vp 42 0), .ref (aq 43), .ref (aq 44)])), ((aq 43), .inl (eI E, 18, .inl (o16_vp 43))), ((aq 44), .inl (eI E, 24, .inl (o16_vp 44))), ((aq 7), .inr (5, [.int (o16_vp 60 0), .ref (aq 61), .ref (aq 62), .ref (aq 63)])), ((aq 61), .inl (eI E, 6, .inl (o16_vp 61))), ((aq 62), .inl (eI E, 6, .inl (o16_vp 62))), ((aq 63), .inl (eI E, 6, .inl (o16_vp 63))), ((aq 8), .inr (5, [.int (o16_vp 70 0), .ref (aq 71), .ref (aq 72), .ref (aq 73)])), ((aq 71), .inl (eI E, 6, .inl (o16_vp 71))), ((aq 72), .inl (eI E, 6, .inl (o16_vp 72))), ((aq 73), .inl (eI E, 6, .inl (o16_vp 73))), ((aq 9), .inr (5, [.int (o16_vp 80 0), .ref (aq 81), .ref (aq 82), .ref (aq 83)])), ((aq 81), .inl (eI E, 6, .inl (o16_vp 81))), ((aq 82), .inl (eI E, 6, .inl (o16_vp 82))), ((aq 83), .inl (eI E, 6, .inl (o16_vp 83))), ((aq 10), .inr (5, [.int (o16_vp 90 0), .ref (aq 91), .ref (aq 92), .ref (aq 93)])), ((aq 91), .inl (eI E, 6, .inl (o16_vp 91))), ((aq 92), .inl (eI E, 6, .inl (o16_vp 92))), ((aq 93), .inl (eI E, 6, .inl (o16_vp 93))), ((ai 0), .inr (6, [.int (vi 0 0), .ref (ai 1), .ref (ai 2), .ref (ai 3), .int (vi 4 0), .int (vi 5 0), .int (vi 6 0), .int (vi 7 0), .int (vi 8 0)])), ((ai 1), .inl (eI E, 3, .inl (vi 1))), ((ai 2), .inl (eI E, 24, .inl (vi 2))), ((ai 3), .inl (eI E, 6, .inl (vi 3))), ((bi 0), .inr (6, [.int (vj 0 0), .ref (bi 1), .ref (bi 2), .ref (bi 3), .int (vj 4 0), .int (vj 5 0), .int (vj 6 0), .int (vj 7 0), .int (vj 8 0)])), ((bi 1), .inl (eI E, 3, .inl (vj 1))), ((bi 2), .inl (eI E, 24, .inl (vj 2))), ((bi 3), .inl (eI E, 6, .inl (vj 3)))]) H := hP
    replace hD : va_D A ([((a 99), .inr (9, [.ref (a 0), .int (v_47 1 0), .int (v_47 2 0), .ref (a 3), .ref (ap 0), .ref (a 5), .ref (as_ 0), .ref (a 7), .ref (a 8), .ref (a 9), .ref (a 10), .ref (a 11), .int (v_47 12 0)])), ((a 0), .inl (eI E, 250, .inl (v_47 0))), ((a 11), .inl (eI E, 30, .inl (v_47 11))), ((a 3), .inr (2, [o16_rt, .int (v_47 101 0), .int (v_47 102 0), o16_rp, .int (v_47 104 0), .int (v_47 105 0), .int (v_47 106 0), .int (v_47 107 0), .int (v_47 108 0)])), ((a 7), .inl (eS E, 2, .inr (.inr (.inr (.inr (fun i => some (cond (Nat.beq i 0) (ai 0) (bi 0)))))))), ((a 8), .inr (3, [.ref (a 5), .ref cz0, .ref cz1, .ref (a 203)])), (cz0, .inl (eI E, 24, .inl (v_47 201))), (cz1, .inl (eI E, 24, .inl (v_47 202))), ((a 203), .inl (eI E, 960, .inl (v_47 203))), ((a 9), .inr (7, [.ref (a 5), .ref (a 301), .ref (a 302), .int (v_47 303 0), .int (v_47 304 0)])), ((a 301), .inl (eI E, 5, .inl (v_47 301))), ((a 302), .inl (eI E, 5, .inl (v_47 302))), ((a 10), .inr (4, [.ref (a 5), .int (v_47 401 0), .ref (a 402), .ref (a 403), .ref (a 404), .ref (a 405), .int (v_47 406 0), .ref (a 407), .int (v_47 408 0), .int (v_47 409 0), .int (v_47 410 0)])), ((a 402), .inl (eI E, 12, .inl (v_47 402))), ((a 403), .inl (eI E, 12, .inl (v_47 403))), ((a 404), .inl (eI E, 12, .inl (v_47 404))), ((a 405), .inl (eI E, 729, .inl (v_47 405))), ((a 407), .inl (eI E, 55, .inl (v_47 407))), ((a 5), .inr (8, [.ref (aq 0), .ref (as_ 0)])), ((ap 0), .inr (1, [.int (vp 0 0), .int (vp 1 0), .int (vp 2 0), .ref (ap 3), .ref (ap 4), .int (vp 5 0), .ref (ap 6), .ref (ap 7), .ref (ap 8), .ref (ap 9), .ref (ap 10)])), ((ap 3), .inl (eI E, 24, .inl (vp 3))), ((ap 4), .inl (eI E, 24, .inl (vp 4))), ((ap 6), .inl (eM E, 3, .inr (.inr (.inr (.inr (fun i => some (ap (20 + 10 * i)))))))), ((ap 20), .inr (0, [.int (vp 20 0), .int (vp 21 0), .int (vp 22 0), .ref (ap 23), .ref (ap 24)])), ((ap 23), .inl (eI E, 18, .inl (vp 23))), ((ap 24), .inl (eI E, 24, .inl (vp 24))), ((ap 30), .inr (0, [.int (vp 30 0), .int (vp 31 0), .int (vp 32 0), .ref (ap 33), .ref (ap 34)])), ((ap 33), .inl (eI E, 18, .inl (vp 33))), ((ap 34), .inl (eI E, 24, .inl (vp 34))), ((ap 40), .inr (0, [.int (vp 40 0), .int (vp 41 0), .int (vp 42 0), .ref (ap 43), .ref (ap 44)])), ((ap 43), .inl (eI E, 18, .inl (vp 43))), ((ap 44), .inl (eI E, 24, .inl (vp 44))), ((ap 7), .inr (5, [.int (vp 60 0), .ref (ap 61), .ref (ap 62), .ref (ap 63)])), ((ap 61), .inl (eI E, 6, .inl (vp 61))), ((ap 62), .inl (eI E, 6, .inl (vp 62))), ((ap 63), .inl (eI E, 6, .inl (vp 63))), ((ap 8), .inr (5, [.int (vp 70 0), .ref (ap 71), .ref (ap 72), .ref (ap 73)])), ((ap 71), .inl (eI E, 6, .inl (vp 71))), ((ap 72), .inl (eI E, 6, .inl (vp 72))), ((ap 73), .inl (eI E, 6, .inl (vp 73))), ((ap 9), .inr (5, [.int (vp 80 0), .ref (ap 81), .ref (ap 82), .ref (ap 83)])), ((ap 81), .inl (eI E, 6, .inl (vp 81))), ((ap 82), .inl (eI E, 6, .inl (vp 82))), ((ap 83), .inl (eI E, 6, .inl (vp 83))), ((ap 10), .inr (5, [.int (vp 90 0), .ref (ap 91), .ref (ap 92), .ref (ap 93)])), ((ap 91), .inl (eI E, 6, .inl (vp 91))), ((ap 92), .inl (eI E, 6, .inl (vp 92))), ((ap 93), .inl (eI E, 6, .inl (vp 93))), ((as_ 0), .inr (6, [.int (vs 0 0), .ref (as_ 1), .ref (as_ 2), .ref (as_ 3), .int (vs 4 0), .int (vs 5 0), .int (vs 6 0), .int (vs 7 0), .int (vs 8 0)])), ((as_ 1), .inl (eI E, 3, .inl (vs 1))), ((as_ 2), .inl (eI E, 24, .inl (vs 2))), ((as_ 3), .inl (eI E, 6, .inl (vs 3))), ((aq 0), .inr (1, [.int (o16_vp 0 0), .int (o16_vp 1 0), .int (o16_vp 2 0), .ref (aq 3), .ref (aq 4), .int (o16_vp 5 0), .ref (aq 6), .ref (aq 7), .ref (aq 8), .ref (aq 9), .ref (aq 10)])), ((aq 3), .inl (eI E, 24, .inl (o16_vp 3))), ((aq 4), .inl (eI E, 24, .inl (o16_vp 4))), ((aq 6), .inl (eM E, 3, .inr (.inr (.inr (.inr (fun i => some (aq (20 + 10 * i)))))))), ((aq 20), .inr (0, [.int (o16_vp 20 0), .int (o16_vp 21 0), .int (o16_vp 22 0), .ref (aq 23), .ref (aq 24)])), ((aq 23), .inl (eI E, 18, .inl (o16_vp 23))), ((aq 24), .inl (eI E, 24, .inl (o16_vp 24))), ((aq 30), .inr (0, [.int (o16_vp 30 0), .int (o16_vp 31 0), .int (o16_vp 32 0), .ref (aq 33), .ref (aq 34)])), ((aq 33), .inl (eI E, 18, .inl (o16_vp 33))), ((aq 34), .inl (eI E, 24, .inl (o16_vp 34))), ((aq 40), .inr (0, [.int (o16_vp 40 0), .int (o16_vp 41 0), .int (o16_vp 42 0), .ref (aq 43), .ref (aq 44)])), ((aq 43), .inl (eI E, 18, .inl (o16_vp 43))), ((aq 44), .inl (eI E, 24, .inl (o16_vp 44))), ((aq 7), .inr (5, [.int (o16_vp 60 0), .ref (aq 61), .ref (aq 62), .ref (aq 63)])), ((aq 61), .inl (eI E, 6, .inl (o16_vp 61))), ((aq 62), .inl (eI E, 6, .inl (o16_vp 62))), ((aq 63), .inl (eI E, 6, .inl (o16_vp 63))), ((aq 8), .inr (5, [.int (o16_vp 70 0), .ref (aq 71), .ref (aq 72), .ref (aq 73)])), ((aq 71), .inl (eI E, 6, .inl (o16_vp 71))), ((aq 72), .inl (eI E, 6, .inl (o16_vp 72))), ((aq 73), .inl (eI E, 6, .inl (o16_vp 73))), ((aq 9), .inr (5, [.int (o16_vp 80 0), .ref (aq 81), .ref (aq 82), .ref (aq 83)])), ((aq 81), .inl (eI E, 6, .inl (o16_vp 81))), ((aq 82), .inl (eI E, 6, .inl (o16_vp 82))), ((aq 83), .inl (eI E, 6, .inl (o16_vp 83))), ((aq 10), .inr (5, [.int (o16_vp 90 0), .ref (aq 91), .ref (aq 92), .ref (aq 93)])), ((aq 91), .inl (eI E, 6, .inl (o16_vp 91))), ((aq 92), .inl (eI E, 6, .inl (o16_vp 92))), ((aq 93), .inl (eI E, 6, .inl (o16_vp 93))), ((ai 0), .inr (6, [.int (vi 0 0), .ref (ai 1), .ref (ai 2), .ref (ai 3), .int (vi 4 0), .int (vi 5 0), .int (vi 6 0), .int (vi 7 0), .int (vi 8 0)])), ((ai 1), .inl (eI E, 3, .inl (vi 1))), ((ai 2), .inl (eI E, 24, .inl (vi 2))), ((ai 3), .inl (eI E, 6, .inl (vi 3))), ((bi 0), .inr (6, [.int (vj 0 0), .ref (bi 1), .ref (bi 2), .ref (bi 3), .int (vj 4 0), .int (vj 5 0), .int (vj 6 0), .int (vj 7 0), .int (vj 8 0)])), ((bi 1), .inl (eI E, 3, .inl (vj 1))), ((bi 2), .inl (eI E, 24, .inl (vj 2))), ((bi 3), .inl (eI E, 6, .inl (vj 3)))]) := hD
    replace hP : va_P (eD E) vwCl (tgL E a v_47 cz0 cz1 o16_rt o16_rp ap vp aq o16_vp as_ vs ai vi bi vj) H := hP.sub [0, 1, 2, 3, 4, 5, 6, 7, 8, 9, 10, 11, 12, 13, 14, 15, 16, 17, 18, 52, 53, 54, 55, 56, 57, 58, 59, 60, 61, 62, 63, 64, 65, 66, 67, 68, 69, 70, 71, 72, 73, 74, 75, 76, 77, 78, 79, 80, 48, 49, 50, 51, 19, 20, 21, 22, 23, 24, 25, 26, 27, 28, 29, 30, 31, 32, 33, 34, 35, 36, 37, 38, 39, 40, 41, 42, 43, 44, 45, 46, 47, 81, 82, 83, 84, 85, 86, 87, 88] rfl
    replace hD : va_D A (tgL E a v_47 cz0 cz1 o16_rt o16_rp ap vp aq o16_vp as_ vs ai vi bi vj) := hD.sub [0, 1, 2, 3, 4, 5, 6, 7, 8, 9, 10, 11, 12, 13, 14, 15, 16, 17, 18, 52, 53, 54, 55, 56, 57, 58, 59, 60, 61, 62, 63, 64, 65, 66, 67, 68, 69, 70, 71, 72, 73, 74, 75, 76, 77, 78, 79, 80, 48, 49, 50, 51, 19, 20, 21, 22, 23, 24, 25, 26, 27, 28, 29, 30, 31, 32, 33, 34, 35, 36, 37, 38, 39, 40, 41, 42, 43, 44, 45, 46, 47, 81, 82, 83, 84, 85, 86, 87, 88] (by decide) rfl
    refine lv_aload_n hx hb dX9_ground_74 rfl (lv_at hl 2 rfl) ?_
    refine mt_Vv (w1 := fun (u : Vf × Vf × Vf × Vf) => tgL E a u.1 cz0 cz1 o16_rt o16_rp ap vp aq o16_vp as_ u.2.1 ai u.2.2.1 bi u.2.2.2) (wf := fun (u : Vf × Vf × Vf × Vf) => tgL E a u.1 cz0 cz1 o16_rt o16_rp ap vp aq o16_vp as_ u.2.1 ai u.2.2.1 bi u.2.2.2) (wr := []) (As := []) (rest := []) (C := RX9) (ci := 9) ⟨hx, hb, hml, hown, hts⟩ (c_X9_startAnew l E H.size a v_47 cz0 cz1 o16_rt o16_rp ap vp aq o16_vp as_ vs ai vi bi vj ⟨hT, hG, hI2, hI, hJ, hJi, hJj⟩) (cwV 0 hts gX9_ground_X9_startAnew rfl rfl rfl (by decide +kernel) ⟨Nat.le_of_ble_eq_true rfl, Nat.le_of_ble_eq_true rfl⟩) hE hS hA hP hD [0, 1, 2, 3, 4, 5, 6, 7, 8, 9, 10, 11, 12, 13, 14, 15, 16, 17, 18, 19, 20, 21, 22, 23, 24, 25, 26, 27, 28, 29, 30, 31, 32, 33, 34, 35, 36, 37, 38, 39, 40, 41, 42, 43, 44, 45, 46, 47, 48, 49, 50, 51, 52, 53, 54, 55, 56, 57, 58, 59, 60, 61, 62, 63, 64, 65, 66, 67, 68, 69, 70, 71, 72, 73, 74, 75, 76, 77, 78, 79, 80, 81, 82, 83, 84, 85, 86, 87, 88] [] rfl rfl (by decide) (by decide) (by decide) [0, 1, 2, 3, 4, 5, 6, 7, 8, 9, 10, 11, 12, 13, 14, 15, 16, 17, 18, 19, 20, 21, 22, 23, 24, 25, 26, 27, 28, 29, 30, 31, 32, 33, 34, 35, 36, 37, 38, 39, 40, 41, 42, 43, 44, 45, 46, 47, 48, 49, 50, 51, 52, 53, 54, 55, 56, 57, 58, 59, 60, 61, 62, 63, 64, 65, 66, 67, 68, 69, 70, 71, 72, 73, 74, 75, 76, 77, 78, 79, 80, 81, 82, 83, 84, 85, 86, 87, 88] (by decide) (fun u => rfl) rfl rfl rfl rfl hl.1 rfl (Nat.le_of_ble_eq_true rfl) dX9_ground_75 ⟨Nat.zero_le _, Nat.zero_le _⟩ (fun u75 H locs h75 hP hD hS => ?_)
    obtain ⟨o75_v, o75_vs, o75_vi, o75_vj⟩ := u75
    try dsimp only at h75
    have hf75 := h75.2
    replace h75 := h75.1
    have hFn75 := h75.2
    replace h75 := h75.1
    replace hP : va_P (eD E) vwCl (tgL E a o75_v cz0 cz1 o16_rt o16_rp ap vp aq o16_vp as_ o75_vs ai o75_vi bi o75_vj) H := hP
    replace hD : va_D A (tgL E a o75_v cz0 cz1 o16_rt o16_rp ap vp aq o16_vp as_ o75_vs ai o75_vi bi o75_vj) := hD
    have hq75 : o75_v 2 0 = -1 ∧ o75_v 0 = v 0 := by rw [hFn75 2 (by decide), hFn75 0 (by decide), ← hv47]; exact ⟨rfl, hq22.2⟩
    have hpos : 0 ≤ (o16_vp 2 0).toInt := by rw [h16.1.1.2.2.1]; exact Int.mul_nonneg h16.1.1.1.1 h16.1.1.2.1.1
    refine lv_aload_n hx hb dX9_ground_78 rfl (lv_at hl 2 rfl) ?_
    refine va_get (D := eD E) (ci := 9) (v := .ref (a 5)) (C := RX9) (T := TX9) (N := 13) hx hb hts in_X9 hown hK hP 0 rfl rfl 5 (by decide) lk5 (fun _ h9 => h9) rfl dX9_ground_79 ?_
    refine va_get (D := eD E) (ci := 8) (v := .ref (aq 0)) (C := RX8) (T := TX8) (N := 2) hx hb hts in_X8 hown hK hP 18 rfl rfl 0 (by decide) lk6 (fun _ h9 => h9) rfl dX9_ground_82 ?_
    refine va_get (D := eD E) (ci := 1) (v := .int (o16_vp 2 0)) (C := RX1) (T := TX1) (N := 11) hx hb hts in_X1 hown hK hP 19 rfl rfl 2 (by decide) lk7 (fun _ h9 => h9) rfl dX9_ground_85 ?_
    subst hQ
    exact W.iret (v := (o16_vp 2 0)) hx hb hr (fun t ht hW => ⟨⟨(o16_vp 2 0), (o75_v, o16_rt, o16_rp, ap, vp, aq, o16_vp, o75_vs, o75_vi, o75_vj), rfl, (show (TgA o75_v o16_vp vp o75_vs o75_vi o75_vj ∧ (o75_v 1 0).toInt = 0) ∧ ((GrM (textF (v 0) (v 1 0).toInt 251 0 S0) (o16_vp 2 0).toInt (o75_v 2 0).toInt (fun S => ∃ cx ck, Rp S o16_vp cx ck) ∧ o75_v 0 = v 0) ∧ (GrC (o16_vp 2 0) v vp vs vi vj o75_v o16_vp o75_vs o75_vi o75_vj)) from ⟨⟨h75.1, by rw [h75.2, hz47]; decide⟩, ⟨⟨(by obtain ⟨z1, S, z2, z3⟩ := hgr.2 (by omega); exact Or.inr ⟨S, z2, (by rw [← z3.1.1, ← z3.1.2.1]; exact h16.1.1.2.2.1), (by rw [hq75.1]; decide), ⟨_, _, z3⟩⟩), hq75.2⟩, (Or.inr ⟨hpos, hf75.1, hf75.2.1, hf75.2.2.1, hf75.2.2.2, hfr47.tr hFn75 (by decide)⟩)⟩⟩), by rw [ht]; exact hP, hD⟩, hS.F ht⟩) hS.2.2 dX9_ground_88
  · have c26_ := i_ne c26
    have hne : o16_fn.toInt ≠ 0 := by omega
    have hgb := (hgr.1 hne).1
    refine lv_aload_n hx hb dX9_ground_29 rfl (lv_at hl 1 rfl) ?_
    refine lv_aload_n hx hb dX9_ground_30 rfl (lv_at hl 1 rfl) ?_
    refine va_get (D := eD E) (ci := 9) (v := .ref (a 3)) (C := RX9) (T := TX9) (N := 13) hx hb hts in_X9 hown hK hP 0 rfl rfl 3 (by decide) lk0 (fun _ h9 => h9) rfl dX9_ground_31 ?_
    refine va_get (D := eD E) (ci := 2) (v := .int (v_22 105 0)) (C := RX2) (T := TX2) (N := 9) hx hb hts in_X2 hown hK hP 3 rfl rfl 5 (by decide) lk8 (fun _ h9 => h9) rfl dX9_ground_34 ?_
    refine va_put (D := eD E) (ci := 9) (v := .int (v_22 105 0)) (ty := .int) (C := RX9) (T := TX9) (N := 13) hx hb hts in_X9 tyX9 tyX9_ok nmX9 hown hK hP hD hS 0 rfl rfl 2 (by decide) lk4 (fun _ h9 => h9) rfl (by decide +kernel) rfl rfl (Nat.le_of_ble_eq_true rfl) dX9_ground_37 (fun H locs hP hD hS => ?_)
    replace hP : va_P (eD E) vwCl (tgL E a (up2 v_22 2 0 (v_22 105 0)) cz0 cz1 o16_rt o16_rp aq o16_vp ap vp as_ vs ai vi bi vj) H := hP
    replace hD : va_D A (tgL E a (up2 v_22 2 0 (v_22 105 0)) cz0 cz1 o16_rt o16_rp aq o16_vp ap vp as_ vs ai vi bi vj) := hD
    generalize hv37 : up2 v_22 2 0 (v_22 105 0) = v_37 at hP hD
    have hT : TgI v_37 := by rw [← hv37]; exact hT
    have hG : SgI (v_37 401 0) (v_37 402) (v_37 403) (v_37 408 0) := by rw [← hv37]; exact hG
    have hz37 : v_37 1 0 = 0 := by rw [← hv37]; exact hz22
    have hq37 : v_37 2 0 = o16_fa ∧ v_37 0 = v 0 := by rw [← hv37]; exact hq22
    refine lv_bipush (v := (-10)) hx hb dX9_ground_40 (by decide) ?_
    refine lv_iload_n hx hb dX9_ground_42 rfl (lv_at hl 0 rfl) ?_
    refine lv_isub hx hb dX9_ground_43 ?_
    refine lv_topi (fun x43 e43 => ?_)
    have t43 := i_sub e43 (by omega)
    subst hQ
    exact W.iret (v := x43) hx hb hr (fun t ht hW => ⟨⟨x43, (v_37, o16_rt, o16_rp, aq, o16_vp, ap, vp, vs, vi, vj), rfl, (show (TgA v_37 vp o16_vp vs vi vj ∧ (v_37 1 0).toInt = 0) ∧ ((GrM (textF (v 0) (v 1 0).toInt 251 0 S0) x43.toInt (v_37 2 0).toInt (fun S => ∃ cx ck, Rp S vp cx ck) ∧ v_37 0 = v 0) ∧ (GrC x43 v vp vs vi vj v_37 vp vs vi vj)) from ⟨⟨⟨hT, hG, hI, hI2, hJ, hJi, hJj⟩, by rw [hz37]; decide⟩, ⟨⟨Or.inl ⟨o16_fn.toInt, o16_fa.toInt, (hgr.1 hne).2, by omega, by rw [hq37.1]⟩, hq37.2⟩, (Or.inl ⟨by omega, rfl, rfl, rfl, rfl, (by rw [← hv37, ← hv22, ← hv16]; repeat' (first | exact fr.rf | refine fr.up ?_ (by decide)))⟩)⟩⟩), by rw [ht]; exact hP, hD⟩, hS.F ht⟩) hS.2.2 dX9_ground_44
