section
def up1 (a : Nat → Nat) (t x : Nat) : Nat → Nat := fun t' => cond (Nat.beq t' t) x (a t')
theorem i_c2 {x : Int32} (h0 : 0 ≤ x.toInt) (h1 : x.toInt < 2) : x = 0 ∨ x = 1 := by
  rcases (show x.toInt = 0 ∨ x.toInt = 1 by omega) with h | h
  · exact Or.inl (i_eqr (by rw [h]; rfl))
  · exact Or.inr (i_eqr (by rw [h]; rfl))
def TgA (v vp vq vs vi vj : Vf) : Prop := TgI v ∧ SgI (v 401 0) (v 402) (v 403) (v 408 0) ∧ PlanI vp ∧ PlanI vq ∧ StateI vs ∧ StateI vi ∧ StateI vj
abbrev tgL (E : Ev) (a : Nat → Nat) (v : Vf) (cz0 : Nat) (cz1 : Nat) (rt : Value) (rp : Value) (aq : Nat → Nat) (vq : Vf) (ap : Nat → Nat) (vp : Vf) (as_ : Nat → Nat) (vs : Vf) (ai : Nat → Nat) (vi : Vf) (bi : Nat → Nat) (vj : Vf) : va_W := [((a 99), .inr (9, [.ref (a 0), .int (v 1 0), .int (v 2 0), .ref (a 3), .ref (aq 0), .ref (a 5), .ref (as_ 0), .ref (a 7), .ref (a 8), .ref (a 9), .ref (a 10), .ref (a 11), .int (v 12 0)])), ((a 0), .inl (eI E, 250, .inl (v 0))), ((a 11), .inl (eI E, 30, .inl (v 11))), ((a 3), .inr (2, [rt, .int (v 101 0), .int (v 102 0), rp, .int (v 104 0), .int (v 105 0), .int (v 106 0), .int (v 107 0), .int (v 108 0)])), ((a 7), .inl (eS E, 2, .inr (.inr (.inr (.inr (fun i => some (cond (Nat.beq i 0) (ai 0) (bi 0)))))))), ((a 8), .inr (3, [.ref (a 5), .ref cz0, .ref cz1, .ref (a 203)])), (cz0, .inl (eI E, 24, .inl (v 201))), (cz1, .inl (eI E, 24, .inl (v 202))), ((a 203), .inl (eI E, 960, .inl (v 203))), ((a 9), .inr (7, [.ref (a 5), .ref (a 301), .ref (a 302), .int (v 303 0), .int (v 304 0)])), ((a 301), .inl (eI E, 5, .inl (v 301))), ((a 302), .inl (eI E, 5, .inl (v 302))), ((a 10), .inr (4, [.ref (a 5), .int (v 401 0), .ref (a 402), .ref (a 403), .ref (a 404), .ref (a 405), .int (v 406 0), .ref (a 407), .int (v 408 0), .int (v 409 0), .int (v 410 0)])), ((a 402), .inl (eI E, 12, .inl (v 402))), ((a 403), .inl (eI E, 12, .inl (v 403))), ((a 404), .inl (eI E, 12, .inl (v 404))), ((a 405), .inl (eI E, 729, .inl (v 405))), ((a 407), .inl (eI E, 55, .inl (v 407))), ((a 5), .inr (8, [.ref (ap 0), .ref (as_ 0)])), ((ap 0), .inr (1, [.int (vp 0 0), .int (vp 1 0), .int (vp 2 0), .ref (ap 3), .ref (ap 4), .int (vp 5 0), .ref (ap 6), .ref (ap 7), .ref (ap 8), .ref (ap 9), .ref (ap 10)])), ((ap 3), .inl (eI E, 24, .inl (vp 3))), ((ap 4), .inl (eI E, 24, .inl (vp 4))), ((ap 6), .inl (eM E, 3, .inr (.inr (.inr (.inr (fun i => some (ap (20 + 10 * i)))))))), ((ap 20), .inr (0, [.int (vp 20 0), .int (vp 21 0), .int (vp 22 0), .ref (ap 23), .ref (ap 24)])), ((ap 23), .inl (eI E, 18, .inl (vp 23))), ((ap 24), .inl (eI E, 24, .inl (vp 24))), ((ap 30), .inr (0, [.int (vp 30 0), .int (vp 31 0), .int (vp 32 0), .ref (ap 33), .ref (ap 34)])), ((ap 33), .inl (eI E, 18, .inl (vp 33))), ((ap 34), .inl (eI E, 24, .inl (vp 34))), ((ap 40), .inr (0, [.int (vp 40 0), .int (vp 41 0), .int (vp 42 0), .ref (ap 43), .ref (ap 44)])), ((ap 43), .inl (eI E, 18, .inl (vp 43))), ((ap 44), .inl (eI E, 24, .inl (vp 44))), ((ap 7), .inr (5, [.int (vp 60 0), .ref (ap 61), .ref (ap 62), .ref (ap 63)])), ((ap 61), .inl (eI E, 6, .inl (vp 61))), ((ap 62), .inl (eI E, 6, .inl (vp 62))), ((ap 63), .inl (eI E, 6, .inl (vp 63))), ((ap 8), .inr (5, [.int (vp 70 0), .ref (ap 71), .ref (ap 72), .ref (ap 73)])), ((ap 71), .inl (eI E, 6, .inl (vp 71))), ((ap 72), .inl (eI E, 6, .inl (vp 72))), ((ap 73), .inl (eI E, 6, .inl (vp 73))), ((ap 9), .inr (5, [.int (vp 80 0), .ref (ap 81), .ref (ap 82), .ref (ap 83)])), ((ap 81), .inl (eI E, 6, .inl (vp 81))), ((ap 82), .inl (eI E, 6, .inl (vp 82))), ((ap 83), .inl (eI E, 6, .inl (vp 83))), ((ap 10), .inr (5, [.int (vp 90 0), .ref (ap 91), .ref (ap 92), .ref (ap 93)])), ((ap 91), .inl (eI E, 6, .inl (vp 91))), ((ap 92), .inl (eI E, 6, .inl (vp 92))), ((ap 93), .inl (eI E, 6, .inl (vp 93))), ((as_ 0), .inr (6, [.int (vs 0 0), .ref (as_ 1), .ref (as_ 2), .ref (as_ 3), .int (vs 4 0), .int (vs 5 0), .int (vs 6 0), .int (vs 7 0), .int (vs 8 0)])), ((as_ 1), .inl (eI E, 3, .inl (vs 1))), ((as_ 2), .inl (eI E, 24, .inl (vs 2))), ((as_ 3), .inl (eI E, 6, .inl (vs 3))), ((aq 0), .inr (1, [.int (vq 0 0), .int (vq 1 0), .int (vq 2 0), .ref (aq 3), .ref (aq 4), .int (vq 5 0), .ref (aq 6), .ref (aq 7), .ref (aq 8), .ref (aq 9), .ref (aq 10)])), ((aq 3), .inl (eI E, 24, .inl (vq 3))), ((aq 4), .inl (eI E, 24, .inl (vq 4))), ((aq 6), .inl (eM E, 3, .inr (.inr (.inr (.inr (fun i => some (aq (20 + 10 * i)))))))), ((aq 20), .inr (0, [.int (vq 20 0), .int (vq 21 0), .int (vq 22 0), .ref (aq 23), .ref (aq 24)])), ((aq 23), .inl (eI E, 18, .inl (vq 23))), ((aq 24), .inl (eI E, 24, .inl (vq 24))), ((aq 30), .inr (0, [.int (vq 30 0), .int (vq 31 0), .int (vq 32 0), .ref (aq 33), .ref (aq 34)])), ((aq 33), .inl (eI E, 18, .inl (vq 33))), ((aq 34), .inl (eI E, 24, .inl (vq 34))), ((aq 40), .inr (0, [.int (vq 40 0), .int (vq 41 0), .int (vq 42 0), .ref (aq 43), .ref (aq 44)])), ((aq 43), .inl (eI E, 18, .inl (vq 43))), ((aq 44), .inl (eI E, 24, .inl (vq 44))), ((aq 7), .inr (5, [.int (vq 60 0), .ref (aq 61), .ref (aq 62), .ref (aq 63)])), ((aq 61), .inl (eI E, 6, .inl (vq 61))), ((aq 62), .inl (eI E, 6, .inl (vq 62))), ((aq 63), .inl (eI E, 6, .inl (vq 63))), ((aq 8), .inr (5, [.int (vq 70 0), .ref (aq 71), .ref (aq 72), .ref (aq 73)])), ((aq 71), .inl (eI E, 6, .inl (vq 71))), ((aq 72), .inl (eI E, 6, .inl (vq 72))), ((aq 73), .inl (eI E, 6, .inl (vq 73))), ((aq 9), .inr (5, [.int (vq 80 0), .ref (aq 81), .ref (aq 82), .ref (aq 83)])), ((aq 81), .inl (eI E, 6, .inl (vq 81))), ((aq 82), .inl (eI E, 6, .inl (vq 82))), ((aq 83), .inl (eI E, 6, .inl (vq 83))), ((aq 10), .inr (5, [.int (vq 90 0), .ref (aq 91), .ref (aq 92), .ref (aq 93)])), ((aq 91), .inl (eI E, 6, .inl (vq 91))), ((aq 92), .inl (eI E, 6, .inl (vq 92))), ((aq 93), .inl (eI E, 6, .inl (vq 93))), ((ai 0), .inr (6, [.int (vi 0 0), .ref (ai 1), .ref (ai 2), .ref (ai 3), .int (vi 4 0), .int (vi 5 0), .int (vi 6 0), .int (vi 7 0), .int (vi 8 0)])), ((ai 1), .inl (eI E, 3, .inl (vi 1))), ((ai 2), .inl (eI E, 24, .inl (vi 2))), ((ai 3), .inl (eI E, 6, .inl (vi 3))), ((bi 0), .inr (6, [.int (vj 0 0), .ref (bi 1), .ref (bi 2), .ref (bi 3), .int (vj 4 0), .int (vj 5 0), .int (vj 6 0), .int (vj 7 0), .int (vj 8 0)])), ((bi 1), .inl (eI E, 3, .inl (vj 1))), ((bi 2), .inl (eI E, 24, .inl (vj 2))), ((bi 3), .inl (eI E, 6, .inl (vj 3)))]
end
section
def rm_X9_feed : Room := { frames := 1, cells := 0, slots := 0, locals := 22 }
set_option maxHeartbeats 4000000 in
set_option maxRecDepth 100000 in
theorem c_X9_feed (l : Launch) (E : Ev) (sz : Nat) (a : Nat → Nat) (v : Vf) (cz0 : Nat) (cz1 : Nat) (rt : Value) (rp : Value) (aq : Nat → Nat) (vq : Vf) (ap : Nat → Nat) (vp : Vf) (as_ : Nat → Nat) (vs : Vf) (ai : Nat → Nat) (vi : Vf) (bi : Nat → Nat) (vj : Vf) (x : Int32) (hTA : TgA v vp vq vs vi vj) : Met l yX9_feed wsX9_feed rm_X9_feed (MtP E sz [.ref (a 99), .int x] (tgL E a v cz0 cz1 rt rp aq vq ap vp as_ vs ai vi bi vj)) (va_Qi (fun (r : Int32) (u : Vf) => ((TgA u vp vq vs vi vj ∧ ((r.toInt = -1000000002 ∧ (x.toInt < 0 ∨ 255 < x.toInt) ∧ (u 1 0).toInt = (v 1 0).toInt) ∨ ((0 ≤ x.toInt ∧ x.toInt ≤ 255) ∧ ((r.toInt = -1000000004 ∧ 250 ≤ (v 1 0).toInt ∧ (u 1 0).toInt = (v 1 0).toInt) ∨ ((v 1 0).toInt < 250 ∧ r.toInt = (v 1 0).toInt + 1 ∧ (u 1 0).toInt = (v 1 0).toInt + 1))))) ∧ fr [0, 1] v u) ∧ (FeedR x (v 0) (v 1 0) (u 0) (u 1 0))) (MtB E (va_A (tgL E a v cz0 cz1 rt rp aq vq ap vp as_ vs ai vi bi vj) sz) (fun u => tgL E a u cz0 cz1 rt rp aq vq ap vp as_ vs ai vi bi vj)) (va_A (tgL E a v cz0 cz1 rt rp aq vq ap vp as_ vs ai vi bi vj) sz)) 0 0 (va_A (tgL E a v cz0 cz1 rt rp aq vq ap vp as_ vs ai vi bi vj) sz) := by
  refine Met.ofW (cc := cX9_feed) (maxL := 2) (ret := (some .int)) (by decide) rfl ?_
  intro p e s m args below meth c s₁ B hml hv
  obtain ⟨rfl, hsz, hE, hP, hD0⟩ := hv
  subst hsz
  have hD := hD0.self (sz := s.heap.size)
  generalize hAe : va_A (tgL E a v cz0 cz1 rt rp aq vq ap vp as_ vs ai vi bi vj) s.heap.size = A at hD hE ⊢
  have hA : ∀ q : Nat, s.heap.size ≤ q → A q := fun q h => by rw [← hAe]; exact Or.inr h
  have hS : va_S A s.heap s.heap [] := va_S.rf
  have hx := B.exec
  have hb := B.bytes
  have hr := B.returns
  have hts := atoms_spec (ws := wsX9_feed) B.pre
  have hown : s.vm.findClass RX9 = some m.cls := findClass_of_methodNamed B.named
  have hlocks := B.notSynchronized
  have hK := hE.1
  have in_X9 : ∀ w ∈ u_ws RX9 TX9 13, w ∈ wsX9_feed := fun w h => List.mem_cons_of_mem _ (List.mem_append_right _ h)
  have lk0 := hts (.fieldLink RX9 82 "TidedGround" "letterCount" "I") (List.mem_of_getElem? (i := 2) rfl)
  have lk1 := hts (.fieldLink RX9 9 "TidedGround" "letters" "[I") (List.mem_of_getElem? (i := 4) rfl)
  have lk2 := hts (.constant RX9 85 (-1000000004)) (List.mem_of_getElem? (i := 3) rfl)
  have lk3 := hts (.constant RX9 81 (-1000000002)) (List.mem_of_getElem? (i := 1) rfl)
  have n_m1000000004 : ((-1000000004) : Int32).toInt = -1000000004 := by decide
  have n_m1000000002 : ((-1000000002) : Int32).toInt = -1000000002 := by decide
  have n_0 : (0 : Int32).toInt = 0 := by decide
  have n_1 : (1 : Int32).toInt = 1 := by decide
  have n_250 : (250 : Int32).toInt = 250 := by decide
  have n_255 : (255 : Int32).toInt = 255 := by decide
  have hl := lv_entry ([.ref (a 99), .int x]) (n := 2) (Nat.le_of_ble_eq_true rfl)
  rw [lg_entry_eq]
  generalize (lg_sl ([.ref (a 99), .int x]) ++ List.replicate (2 - (lg_sl ([.ref (a 99), .int x])).length) Slot.unset).toArray = ls at hl ⊢
  have hl : lv_has ls 2 [(0, .ref (a 99)), (1, .int x)] := hl
  refine W_abs (fun Q hQ => ?_)
  obtain ⟨hT, hG, hI, hI2, hJ, hJi, hJj⟩ := id hTA
  obtain ⟨hT1, hT2⟩ := id hT
  have hJ_vs := hJ
  have hJ_vi := hJi
  have hJ_vj := hJj
  obtain ⟨hg, hmc, hm0, hm1, hm2, hs0, hs1, hs2, hs3⟩ := id hI
  obtain ⟨hg1, hg2, hg3, hg4⟩ := id hg
  have hz0 := hm0.1
  have hz1 := hm1.1
  have hz2 := hm2.1
  have hc0 := hs0.1
  have hc1 := hs1.1
  have hc2 := hs2.1
  have hc3 := hs3.1
  obtain ⟨hj0, hj1, hj2⟩ := id hJ
  have hg5 : 0 ≤ (vp 2 0).toInt := by rw [hg3]; exact Int.mul_nonneg hg1.1 hg2.1
  have hG1 := hG.1
  have hG4 := hG.2.2.2
  have hFz : fr [0, 1] v v := fr.rf
  refine lv_iload_n hx hb dX9_feed_0 rfl (lv_at hl 1 rfl) ?_
  refine lv_iconst (v := 0) hx hb dX9_feed_1 (by decide) ?_
  refine lv_sipush (v := 255) hx hb dX9_feed_2 (by decide) ?_
  refine rd_S (As := [.int x, .int 0, .int 255]) (rest := []) ⟨hx, hb, hml, hown, hts⟩ (c_X9_isOff l E A x 0 255) (va_cwS 3 hts gX9_feed_X9_isOff rfl rfl rfl (by decide +kernel) ⟨Nat.le_of_ble_eq_true rfl, Nat.le_of_ble_eq_true rfl⟩) (hE.kept hS.2.1) (hP.sub (ws' := []) [] rfl) rfl hl.1 rfl (Nat.le_of_ble_eq_true rfl) dX9_feed_5 ⟨Nat.zero_le _, Nat.zero_le _⟩ (fun r5 h5 => ?_)
  refine lv_if_eq (tgt := 14) hx hb dX9_feed_8 (by decide) (fun c8 => ?_) (fun c8 => ?_)
  · have c8_ := i_eq c8
    replace h5 := or_n h5 c8_
    refine lv_aload_n hx hb dX9_feed_14 rfl (lv_at hl 0 rfl) ?_
    refine va_get (D := eD E) (ci := 9) (v := .int (v 1 0)) (C := RX9) (T := TX9) (N := 13) hx hb hts in_X9 hown hK hP 0 rfl rfl 1 (by decide) lk0 (fun _ h9 => h9) rfl dX9_feed_15 ?_
    refine lv_sipush (v := 250) hx hb dX9_feed_18 (by decide) ?_
    refine lv_icmp_lt (tgt := 27) hx hb dX9_feed_21 (by decide) (fun c21 => ?_) (fun c21 => ?_)
    · have c21_ := i_lt c21
      refine lv_aload_n hx hb dX9_feed_27 rfl (lv_at hl 0 rfl) ?_
      refine va_get (D := eD E) (ci := 9) (v := .ref (a 0)) (C := RX9) (T := TX9) (N := 13) hx hb hts in_X9 hown hK hP 0 rfl rfl 0 (by decide) lk1 (fun _ h9 => h9) rfl dX9_feed_28 ?_
      refine lv_aload_n hx hb dX9_feed_31 rfl (lv_at hl 0 rfl) ?_
      refine va_get (D := eD E) (ci := 9) (v := .int (v 1 0)) (C := RX9) (T := TX9) (N := 13) hx hb hts in_X9 hown hK hP 0 rfl rfl 1 (by decide) lk0 (fun _ h9 => h9) rfl dX9_feed_32 ?_
      refine lv_iload_n hx hb dX9_feed_35 rfl (lv_at hl 1 rfl) ?_
      refine va_iast hx hb hK hP hD hS 1 0 rfl rfl (n := 250) (f := (v 0)) (i_in (by omega) (by omega)) dX9_feed_36 (fun H locs hP hD hS => ?_)
      replace hP : va_P (eD E) vwCl (tgL E a (up2 v 0 ((v 1 0).toNatClampNeg) x) cz0 cz1 rt rp aq vq ap vp as_ vs ai vi bi vj) H := hP
      replace hD : va_D A (tgL E a (up2 v 0 ((v 1 0).toNatClampNeg) x) cz0 cz1 rt rp aq vq ap vp as_ vs ai vi bi vj) := hD
      generalize hv36 : up2 v 0 ((v 1 0).toNatClampNeg) x = v_36 at hP hD
      have hFz : fr [0, 1] v v_36 := by first | exact hFz | (rw [← hv36]; exact hFz.up (by decide))
      have hq36 : v_36 1 0 = v 1 0 := by rw [← hv36]; rfl
      refine lv_aload_n hx hb dX9_feed_37 rfl (lv_at hl 0 rfl) ?_
      refine lv_dup hx hb dX9_feed_38 rfl ?_
      refine va_get (D := eD E) (ci := 9) (v := .int (v_36 1 0)) (C := RX9) (T := TX9) (N := 13) hx hb hts in_X9 hown hK hP 0 rfl rfl 1 (by decide) lk0 (fun _ h9 => h9) rfl dX9_feed_39 ?_
      refine lv_iconst (v := 1) hx hb dX9_feed_42 (by decide) ?_
      refine lv_iadd hx hb dX9_feed_43 ?_
      refine lv_topi (fun x43 e43 => ?_)
      have t43 := i_add e43 (by rw [hq36]; omega)
      rw [hq36] at t43
      refine va_put (D := eD E) (ci := 9) (v := .int x43) (ty := .int) (C := RX9) (T := TX9) (N := 13) hx hb hts in_X9 tyX9 tyX9_ok nmX9 hown hK hP hD hS 0 rfl rfl 1 (by decide) lk0 (fun _ h9 => h9) rfl (by decide +kernel) rfl rfl (Nat.le_of_ble_eq_true rfl) dX9_feed_44 (fun H locs hP hD hS => ?_)
      replace hP : va_P (eD E) vwCl (tgL E a (up2 v_36 1 0 x43) cz0 cz1 rt rp aq vq ap vp as_ vs ai vi bi vj) H := hP
      replace hD : va_D A (tgL E a (up2 v_36 1 0 x43) cz0 cz1 rt rp aq vq ap vp as_ vs ai vi bi vj) := hD
      generalize hv44 : up2 v_36 1 0 x43 = v_44 at hP hD
      have hFz : fr [0, 1] v v_44 := by first | exact hFz | (rw [← hv44]; exact hFz.up (by decide))
      have hq44 : v_44 1 0 = x43 := by rw [← hv44]; rfl
      have hTn : TgI v_44 := by rw [← hv44, ← hv36]; exact ⟨(show 0 ≤ x43.toInt ∧ x43.toInt ≤ 250 by omega), hT.2⟩
      have hGn : SgI (v_44 401 0) (v_44 402) (v_44 403) (v_44 408 0) := by rw [← hv44, ← hv36]; exact hG
      refine lv_aload_n hx hb dX9_feed_47 rfl (lv_at hl 0 rfl) ?_
      refine va_get (D := eD E) (ci := 9) (v := .int (v_44 1 0)) (C := RX9) (T := TX9) (N := 13) hx hb hts in_X9 hown hK hP 0 rfl rfl 1 (by decide) lk0 (fun _ h9 => h9) rfl dX9_feed_48 ?_
      subst hQ
      exact W.iret (v := (v_44 1 0)) hx hb hr (fun t ht hW => ⟨⟨(v_44 1 0), (v_44), rfl, (show ((TgA v_44 vp vq vs vi vj ∧ (((v_44 1 0).toInt = -1000000002 ∧ (x.toInt < 0 ∨ 255 < x.toInt) ∧ (v_44 1 0).toInt = (v 1 0).toInt) ∨ ((0 ≤ x.toInt ∧ x.toInt ≤ 255) ∧ (((v_44 1 0).toInt = -1000000004 ∧ 250 ≤ (v 1 0).toInt ∧ (v_44 1 0).toInt = (v 1 0).toInt) ∨ ((v 1 0).toInt < 250 ∧ (v_44 1 0).toInt = (v 1 0).toInt + 1 ∧ (v_44 1 0).toInt = (v 1 0).toInt + 1))))) ∧ fr [0, 1] v v_44) ∧ (FeedR x (v 0) (v 1 0) (v_44 0) (v_44 1 0)) from ⟨⟨⟨⟨hTn, hGn, hI, hI2, hJ, hJi, hJj⟩, by rw [hq44]; omega⟩, hFz⟩, (Or.inr ⟨by omega, by omega, (by rw [← hv44, ← hv36]; rfl), by rw [hq44]; omega⟩)⟩), by rw [ht]; exact hP, hD⟩, hS.F ht⟩) hS.2.2 dX9_feed_51
    · have c21_ := i_nlt c21
      refine lv_ldc hx hb hown lk2 dX9_feed_24 ?_
      subst hQ
      exact W.iret (v := (-1000000004)) hx hb hr (fun t ht hW => ⟨⟨(-1000000004), (v), rfl, (show ((TgA v vp vq vs vi vj ∧ ((((-1000000004) : Int32).toInt = -1000000002 ∧ (x.toInt < 0 ∨ 255 < x.toInt) ∧ (v 1 0).toInt = (v 1 0).toInt) ∨ ((0 ≤ x.toInt ∧ x.toInt ≤ 255) ∧ ((((-1000000004) : Int32).toInt = -1000000004 ∧ 250 ≤ (v 1 0).toInt ∧ (v 1 0).toInt = (v 1 0).toInt) ∨ ((v 1 0).toInt < 250 ∧ ((-1000000004) : Int32).toInt = (v 1 0).toInt + 1 ∧ (v 1 0).toInt = (v 1 0).toInt + 1))))) ∧ fr [0, 1] v v) ∧ (FeedR x (v 0) (v 1 0) (v 0) (v 1 0)) from ⟨⟨⟨hTA, by omega⟩, hFz⟩, (Or.inl ⟨rfl, rfl, by omega⟩)⟩), by rw [ht]; exact hP, hD⟩, hS.F ht⟩) hS.2.2 dX9_feed_26
  · have c8_ := i_ne c8
    replace h5 := or_y h5 c8_
    clear c8_
    refine lv_ldc hx hb hown lk3 dX9_feed_11 ?_
    subst hQ
    exact W.iret (v := (-1000000002)) hx hb hr (fun t ht hW => ⟨⟨(-1000000002), (v), rfl, (show ((TgA v vp vq vs vi vj ∧ ((((-1000000002) : Int32).toInt = -1000000002 ∧ (x.toInt < 0 ∨ 255 < x.toInt) ∧ (v 1 0).toInt = (v 1 0).toInt) ∨ ((0 ≤ x.toInt ∧ x.toInt ≤ 255) ∧ ((((-1000000002) : Int32).toInt = -1000000004 ∧ 250 ≤ (v 1 0).toInt ∧ (v 1 0).toInt = (v 1 0).toInt) ∨ ((v 1 0).toInt < 250 ∧ ((-1000000002) : Int32).toInt = (v 1 0).toInt + 1 ∧ (v 1 0).toInt = (v 1 0).toInt + 1))))) ∧ fr [0, 1] v v) ∧ (FeedR x (v 0) (v 1 0) (v 0) (v 1 0)) from ⟨⟨⟨hTA, by omega⟩, hFz⟩, (Or.inl ⟨rfl, rfl, by omega⟩)⟩), by rw [ht]; exact hP, hD⟩, hS.F ht⟩) hS.2.2 dX9_feed_13
def rm_X9_pass : Room := { frames := 1, cells := 0, slots := 0, locals := 22 }
set_option maxHeartbeats 4000000 in
set_option maxRecDepth 100000 in
theorem c_X9_pass (l : Launch) (E : Ev) (sz : Nat) (a : Nat → Nat) (v : Vf) (cz0 : Nat) (cz1 : Nat) (rt : Value) (rp : Value) (aq : Nat → Nat) (vq : Vf) (ap : Nat → Nat) (vp : Vf) (as_ : Nat → Nat) (vs : Vf) (ai : Nat → Nat) (vi : Vf) (bi : Nat → Nat) (vj : Vf) (n : Int32) (hTA : TgA v vp vq vs vi vj) : Met l yX9_pass wsX9_pass rm_X9_pass (MtP E sz [.ref (a 99), .int n] (tgL E a v cz0 cz1 rt rp aq vq ap vp as_ vs ai vi bi vj)) (va_Qi (fun (r : Int32) (u : Vf) => ((TgA v vp vq u vi vj) ∧ fr [0] vs u) ∧ (PassP n (vs 0 0) r (u 0 0))) (MtB E (va_A (tgL E a v cz0 cz1 rt rp aq vq ap vp as_ vs ai vi bi vj) sz) (fun u => tgL E a v cz0 cz1 rt rp aq vq ap vp as_ u ai vi bi vj)) (va_A (tgL E a v cz0 cz1 rt rp aq vq ap vp as_ vs ai vi bi vj) sz)) 0 0 (va_A (tgL E a v cz0 cz1 rt rp aq vq ap vp as_ vs ai vi bi vj) sz) := by
  refine Met.ofW (cc := cX9_pass) (maxL := 2) (ret := (some .int)) (by decide) rfl ?_
  intro p e s m args below meth c s₁ B hml hv
  obtain ⟨rfl, hsz, hE, hP, hD0⟩ := hv
  subst hsz
  have hD := hD0.self (sz := s.heap.size)
  generalize hAe : va_A (tgL E a v cz0 cz1 rt rp aq vq ap vp as_ vs ai vi bi vj) s.heap.size = A at hD hE ⊢
  have hA : ∀ q : Nat, s.heap.size ≤ q → A q := fun q h => by rw [← hAe]; exact Or.inr h
  have hS : va_S A s.heap s.heap [] := va_S.rf
  have hx := B.exec
  have hb := B.bytes
  have hr := B.returns
  have hts := atoms_spec (ws := wsX9_pass) B.pre
  have hown : s.vm.findClass RX9 = some m.cls := findClass_of_methodNamed B.named
  have hlocks := B.notSynchronized
  have hK := hE.1
  have in_X9 : ∀ w ∈ u_ws RX9 TX9 13, w ∈ wsX9_pass := fun w h => List.mem_cons_of_mem _ (List.mem_append_left _ (List.mem_append_right _ h))
  have in_X6 : ∀ w ∈ u_ws RX6 TX6 9, w ∈ wsX9_pass := fun w h => List.mem_cons_of_mem _ (List.mem_append_right _ h)
  have lk0 := hts (.fieldLink RX9 34 "TidedGround" "now" "LTidedGround$State;") (List.mem_of_getElem? (i := 2) rfl)
  have lk1 := hts (.fieldLink RX9 137 "TidedGround$State" "step" "I") (List.mem_of_getElem? (i := 3) rfl)
  have lk2 := hts (.constant RX9 232 900000) (List.mem_of_getElem? (i := 4) rfl)
  have lk3 := hts (.constant RX9 85 (-1000000004)) (List.mem_of_getElem? (i := 5) rfl)
  have lk4 := hts (.constant RX9 81 (-1000000002)) (List.mem_of_getElem? (i := 1) rfl)
  have n_m1000000004 : ((-1000000004) : Int32).toInt = -1000000004 := by decide
  have n_m1000000002 : ((-1000000002) : Int32).toInt = -1000000002 := by decide
  have n_0 : (0 : Int32).toInt = 0 := by decide
  have n_1 : (1 : Int32).toInt = 1 := by decide
  have n_9999 : (9999 : Int32).toInt = 9999 := by decide
  have n_900000 : (900000 : Int32).toInt = 900000 := by decide
  have hl := lv_entry ([.ref (a 99), .int n]) (n := 2) (Nat.le_of_ble_eq_true rfl)
  rw [lg_entry_eq]
  generalize (lg_sl ([.ref (a 99), .int n]) ++ List.replicate (2 - (lg_sl ([.ref (a 99), .int n])).length) Slot.unset).toArray = ls at hl ⊢
  have hl : lv_has ls 2 [(0, .ref (a 99)), (1, .int n)] := hl
  refine W_abs (fun Q hQ => ?_)
  obtain ⟨hT, hG, hI, hI2, hJ, hJi, hJj⟩ := id hTA
  obtain ⟨hT1, hT2⟩ := id hT
  have hJ_vs := hJ
  have hJ_vi := hJi
  have hJ_vj := hJj
  obtain ⟨hg, hmc, hm0, hm1, hm2, hs0, hs1, hs2, hs3⟩ := id hI
  obtain ⟨hg1, hg2, hg3, hg4⟩ := id hg
  have hz0 := hm0.1
  have hz1 := hm1.1
  have hz2 := hm2.1
  have hc0 := hs0.1
  have hc1 := hs1.1
  have hc2 := hs2.1
  have hc3 := hs3.1
  obtain ⟨hj0, hj1, hj2⟩ := id hJ
  have hg5 : 0 ≤ (vp 2 0).toInt := by rw [hg3]; exact Int.mul_nonneg hg1.1 hg2.1
  have hG1 := hG.1
  have hG4 := hG.2.2.2
  have hFz : fr [0] vs vs := fr.rf
  refine lv_iload_n hx hb dX9_pass_0 rfl (lv_at hl 1 rfl) ?_
  refine lv_iconst (v := 1) hx hb dX9_pass_1 (by decide) ?_
  refine lv_sipush (v := 9999) hx hb dX9_pass_2 (by decide) ?_
  refine rd_S (As := [.int n, .int 1, .int 9999]) (rest := []) ⟨hx, hb, hml, hown, hts⟩ (c_X9_isOff l E A n 1 9999) (va_cwS 3 hts gX9_pass_X9_isOff rfl rfl rfl (by decide +kernel) ⟨Nat.le_of_ble_eq_true rfl, Nat.le_of_ble_eq_true rfl⟩) (hE.kept hS.2.1) (hP.sub (ws' := []) [] rfl) rfl hl.1 rfl (Nat.le_of_ble_eq_true rfl) dX9_pass_5 ⟨Nat.zero_le _, Nat.zero_le _⟩ (fun r5 h5 => ?_)
  refine lv_if_eq (tgt := 14) hx hb dX9_pass_8 (by decide) (fun c8 => ?_) (fun c8 => ?_)
  · have c8_ := i_eq c8
    replace h5 := or_n h5 c8_
    have sv14_n : 1 ≤ n.toInt ∧ n.toInt ≤ 9999 := by omega
    refine lv_aload_n hx hb dX9_pass_14 rfl (lv_at hl 0 rfl) ?_
    refine va_get (D := eD E) (ci := 9) (v := .ref (as_ 0)) (C := RX9) (T := TX9) (N := 13) hx hb hts in_X9 hown hK hP 0 rfl rfl 6 (by decide) lk0 (fun _ h9 => h9) rfl dX9_pass_15 ?_
    refine va_get (D := eD E) (ci := 6) (v := .int (vs 0 0)) (C := RX6) (T := TX6) (N := 9) hx hb hts in_X6 hown hK hP 48 rfl rfl 0 (by decide) lk1 (fun _ h9 => h9) rfl dX9_pass_18 ?_
    refine lv_iload_n hx hb dX9_pass_21 rfl (lv_at hl 1 rfl) ?_
    refine lv_iadd hx hb dX9_pass_22 ?_
    refine lv_topi (fun x22 e22 => ?_)
    have t22 := i_add e22 (by omega)
    refine lv_ldc hx hb hown lk2 dX9_pass_23 ?_
    refine lv_icmp_le (tgt := 31) hx hb dX9_pass_25 (by decide) (fun c25 => ?_) (fun c25 => ?_)
    · have c25_ := i_le c25
      refine lv_aload_n hx hb dX9_pass_31 rfl (lv_at hl 0 rfl) ?_
      refine va_get (D := eD E) (ci := 9) (v := .ref (as_ 0)) (C := RX9) (T := TX9) (N := 13) hx hb hts in_X9 hown hK hP 0 rfl rfl 6 (by decide) lk0 (fun _ h9 => h9) rfl dX9_pass_32 ?_
      refine lv_dup hx hb dX9_pass_35 rfl ?_
      refine va_get (D := eD E) (ci := 6) (v := .int (vs 0 0)) (C := RX6) (T := TX6) (N := 9) hx hb hts in_X6 hown hK hP 48 rfl rfl 0 (by decide) lk1 (fun _ h9 => h9) rfl dX9_pass_36 ?_
      refine lv_iload_n hx hb dX9_pass_39 rfl (lv_at hl 1 rfl) ?_
      refine lv_iadd hx hb dX9_pass_40 ?_
      refine lv_topi (fun x40 e40 => ?_)
      have t40 := i_add e40 (by omega)
      refine va_put (D := eD E) (ci := 6) (v := .int x40) (ty := .int) (C := RX6) (T := TX6) (N := 9) hx hb hts in_X6 tyX6 tyX6_ok nmX6 hown hK hP hD hS 48 rfl rfl 0 (by decide) lk1 (fun _ h9 => h9) rfl (by decide +kernel) rfl rfl (Nat.le_of_ble_eq_true rfl) dX9_pass_41 (fun H locs hP hD hS => ?_)
      replace hP : va_P (eD E) vwCl (tgL E a v cz0 cz1 rt rp aq vq ap vp as_ (up2 vs 0 0 x40) ai vi bi vj) H := hP
      replace hD : va_D A (tgL E a v cz0 cz1 rt rp aq vq ap vp as_ (up2 vs 0 0 x40) ai vi bi vj) := hD
      generalize hv41 : up2 vs 0 0 x40 = vs_41 at hP hD
      have hFz : fr [0] vs vs_41 := by first | exact hFz | (rw [← hv41]; exact hFz.up (by decide))
      have hJn : StateI vs_41 := by rw [← hv41]; exact ⟨(show 0 ≤ x40.toInt ∧ x40.toInt ≤ 900100 by omega), hJ.2⟩
      refine lv_aload_n hx hb dX9_pass_44 rfl (lv_at hl 0 rfl) ?_
      refine va_get (D := eD E) (ci := 9) (v := .ref (as_ 0)) (C := RX9) (T := TX9) (N := 13) hx hb hts in_X9 hown hK hP 0 rfl rfl 6 (by decide) lk0 (fun _ h9 => h9) rfl dX9_pass_45 ?_
      refine va_get (D := eD E) (ci := 6) (v := .int (vs_41 0 0)) (C := RX6) (T := TX6) (N := 9) hx hb hts in_X6 hown hK hP 48 rfl rfl 0 (by decide) lk1 (fun _ h9 => h9) rfl dX9_pass_48 ?_
      subst hQ
      exact W.iret (v := (vs_41 0 0)) hx hb hr (fun t ht hW => ⟨⟨(vs_41 0 0), (vs_41), rfl, (show ((TgA v vp vq vs_41 vi vj) ∧ fr [0] vs vs_41) ∧ (PassP n (vs 0 0) (vs_41 0 0) (vs_41 0 0)) from ⟨⟨⟨hT, hG, hI, hI2, hJn, hJi, hJj⟩, hFz⟩, (Or.inr ⟨by omega, Or.inr ⟨by omega, rfl, by rw [← hv41]; show x40.toInt = _; omega⟩⟩)⟩), by rw [ht]; exact hP, hD⟩, hS.F ht⟩) hS.2.2 dX9_pass_51
    · have c25_ := i_nle c25
      refine lv_ldc hx hb hown lk3 dX9_pass_28 ?_
      subst hQ
      exact W.iret (v := (-1000000004)) hx hb hr (fun t ht hW => ⟨⟨(-1000000004), (vs), rfl, (show ((TgA v vp vq vs vi vj) ∧ fr [0] vs vs) ∧ (PassP n (vs 0 0) ((-1000000004) : Int32) (vs 0 0)) from ⟨⟨hTA, hFz⟩, (Or.inr ⟨by omega, Or.inl ⟨by omega, by omega, rfl⟩⟩)⟩), by rw [ht]; exact hP, hD⟩, hS.F ht⟩) hS.2.2 dX9_pass_30
  · have c8_ := i_ne c8
    replace h5 := or_y h5 c8_
    clear c8_
    refine lv_ldc hx hb hown lk4 dX9_pass_11 ?_
    subst hQ
    exact W.iret (v := (-1000000002)) hx hb hr (fun t ht hW => ⟨⟨(-1000000002), (vs), rfl, (show ((TgA v vp vq vs vi vj) ∧ fr [0] vs vs) ∧ (PassP n (vs 0 0) ((-1000000002) : Int32) (vs 0 0)) from ⟨⟨hTA, hFz⟩, (Or.inl ⟨by omega, by omega, rfl⟩)⟩), by rw [ht]; exact hP, hD⟩, hS.F ht⟩) hS.2.2 dX9_pass_13
def rm_X9_roll : Room := { frames := 4, cells := 0, slots := 0, locals := 96 }
set_option maxHeartbeats 4000000 in
set_option maxRecDepth 100000 in
theorem c_X9_roll (l : Launch) (E : Ev) (sz : Nat) (a : Nat → Nat) (v : Vf) (cz0 : Nat) (cz1 : Nat) (rt : Value) (rp : Value) (aq : Nat → Nat) (vq : Vf) (ap : Nat → Nat) (vp : Vf) (as_ : Nat → Nat) (vs : Vf) (ai : Nat → Nat) (vi : Vf) (bi : Nat → Nat) (vj : Vf) (way : Int32) (hTA : TgA v vp vq vs vi vj) : Met l yX9_roll wsX9_roll rm_X9_roll (MtP E sz [.ref (a 99), .int way] (tgL E a v cz0 cz1 rt rp aq vq ap vp as_ vs ai vi bi vj)) (va_Qi (fun (r : Int32) (u : Vf) => ((TgA v vp vq u vi vj) ∧ fr [0, 4, 5] vs u) ∧ (∀ vm : Vf, RW vm vp vs → (-1 : Int32) = vm 62 0 → RolP vm way r (vs 0 0) (vs 4 0) (vs 5 0) (u 0 0) (u 4 0) (u 5 0))) (MtB E (va_A (tgL E a v cz0 cz1 rt rp aq vq ap vp as_ vs ai vi bi vj) sz) (fun u => tgL E a v cz0 cz1 rt rp aq vq ap vp as_ u ai vi bi vj)) (va_A (tgL E a v cz0 cz1 rt rp aq vq ap vp as_ vs ai vi bi vj) sz)) 0 0 (va_A (tgL E a v cz0 cz1 rt rp aq vq ap vp as_ vs ai vi bi vj) sz) := by
  refine Met.ofW (cc := cX9_roll) (maxL := 4) (ret := (some .int)) (by decide) rfl ?_
  intro p e s m args below meth c s₁ B hml hv
  obtain ⟨rfl, hsz, hE, hP, hD0⟩ := hv
  subst hsz
  have hD := hD0.self (sz := s.heap.size)
  generalize hAe : va_A (tgL E a v cz0 cz1 rt rp aq vq ap vp as_ vs ai vi bi vj) s.heap.size = A at hD hE ⊢
  have hA : ∀ q : Nat, s.heap.size ≤ q → A q := fun q h => by rw [← hAe]; exact Or.inr h
  have hS : va_S A s.heap s.heap [] := va_S.rf
  have hx := B.exec
  have hb := B.bytes
  have hr := B.returns
  have hts := atoms_spec (ws := wsX9_roll) B.pre
  have hown : s.vm.findClass RX9 = some m.cls := findClass_of_methodNamed B.named
  have hlocks := B.notSynchronized
  have hK := hE.1
  have in_X9 : ∀ w ∈ u_ws RX9 TX9 13, w ∈ wsX9_roll := fun w h => List.mem_cons_of_mem _ (List.mem_append_left _ (List.mem_append_left _ (List.mem_append_left _ (List.mem_append_left _ (List.mem_append_left _ (List.mem_append_right _ h))))))
  have in_X8 : ∀ w ∈ u_ws RX8 TX8 2, w ∈ wsX9_roll := fun w h => List.mem_cons_of_mem _ (List.mem_append_left _ (List.mem_append_left _ (List.mem_append_left _ (List.mem_append_left _ (List.mem_append_right _ h)))))
  have in_X1 : ∀ w ∈ u_ws RX1 TX1 11, w ∈ wsX9_roll := fun w h => List.mem_cons_of_mem _ (List.mem_append_left _ (List.mem_append_left _ (List.mem_append_left _ (List.mem_append_right _ h))))
  have in_X6 : ∀ w ∈ u_ws RX6 TX6 9, w ∈ wsX9_roll := fun w h => List.mem_cons_of_mem _ (List.mem_append_left _ (List.mem_append_left _ (List.mem_append_right _ h)))
  have lk0 := hts (.fieldLink RX9 43 "TidedGround" "world" "LTidedGround$World;") (List.mem_of_getElem? (i := 2) rfl)
  have lk1 := hts (.fieldLink RX9 91 "TidedGround$World" "plan" "LTidedGround$Plan;") (List.mem_of_getElem? (i := 3) rfl)
  have lk2 := hts (.fieldLink RX9 97 "TidedGround$Plan" "cells" "I") (List.mem_of_getElem? (i := 4) rfl)
  have lk3 := hts (.fieldLink RX9 34 "TidedGround" "now" "LTidedGround$State;") (List.mem_of_getElem? (i := 6) rfl)
  have lk4 := hts (.fieldLink RX9 144 "TidedGround$State" "cart" "I") (List.mem_of_getElem? (i := 7) rfl)
  have lk5 := hts (.fieldLink RX9 137 "TidedGround$State" "step" "I") (List.mem_of_getElem? (i := 8) rfl)
  have lk6 := hts (.constant RX9 232 900000) (List.mem_of_getElem? (i := 9) rfl)
  have lk7 := hts (.constant RX9 85 (-1000000004)) (List.mem_of_getElem? (i := 10) rfl)
  have lk8 := hts (.constant RX9 236 (-1000000003)) (List.mem_of_getElem? (i := 5) rfl)
  have lk9 := hts (.constant RX9 81 (-1000000002)) (List.mem_of_getElem? (i := 1) rfl)
  have n_m1000000004 : ((-1000000004) : Int32).toInt = -1000000004 := by decide
  have n_m1000000003 : ((-1000000003) : Int32).toInt = -1000000003 := by decide
  have n_m1000000002 : ((-1000000002) : Int32).toInt = -1000000002 := by decide
  have n_m1 : ((-1) : Int32).toInt = -1 := by decide
  have n_0 : (0 : Int32).toInt = 0 := by decide
  have n_1 : (1 : Int32).toInt = 1 := by decide
  have n_900000 : (900000 : Int32).toInt = 900000 := by decide
  have hl := lv_entry ([.ref (a 99), .int way]) (n := 4) (Nat.le_of_ble_eq_true rfl)
  rw [lg_entry_eq]
  generalize (lg_sl ([.ref (a 99), .int way]) ++ List.replicate (4 - (lg_sl ([.ref (a 99), .int way])).length) Slot.unset).toArray = ls at hl ⊢
  have hl : lv_has ls 4 [(0, .ref (a 99)), (1, .int way)] := hl
  refine W_abs (fun Q hQ => ?_)
  obtain ⟨hT, hG, hI, hI2, hJ, hJi, hJj⟩ := id hTA
  obtain ⟨hT1, hT2⟩ := id hT
  have hJ_vs := hJ
  have hJ_vi := hJi
  have hJ_vj := hJj
  obtain ⟨hg, hmc, hm0, hm1, hm2, hs0, hs1, hs2, hs3⟩ := id hI
  obtain ⟨hg1, hg2, hg3, hg4⟩ := id hg
  have hz0 := hm0.1
  have hz1 := hm1.1
  have hz2 := hm2.1
  have hc0 := hs0.1
  have hc1 := hs1.1
  have hc2 := hs2.1
  have hc3 := hs3.1
  obtain ⟨hj0, hj1, hj2⟩ := id hJ
  have hg5 : 0 ≤ (vp 2 0).toInt := by rw [hg3]; exact Int.mul_nonneg hg1.1 hg2.1
  have hG1 := hG.1
  have hG4 := hG.2.2.2
  have hFz : fr [0, 4, 5] vs vs := fr.rf
  refine lv_iload_n hx hb dX9_roll_0 rfl (lv_at hl 1 rfl) ?_
  refine rd_S (As := [.int way]) (rest := []) ⟨hx, hb, hml, hown, hts⟩ (c_X9_isNoWay l E A way) (va_cwS 1 hts gX9_roll_X9_isNoWay rfl rfl rfl (by decide +kernel) ⟨Nat.le_of_ble_eq_true rfl, Nat.le_of_ble_eq_true rfl⟩) (hE.kept hS.2.1) (hP.sub (ws' := []) [] rfl) rfl hl.1 rfl (Nat.le_of_ble_eq_true rfl) dX9_roll_1 ⟨Nat.zero_le _, Nat.zero_le _⟩ (fun r1 h1 => ?_)
  refine lv_if_eq (tgt := 10) hx hb dX9_roll_4 (by decide) (fun c4 => ?_) (fun c4 => ?_)
  · have c4_ := i_eq c4
    replace h1 := or_n h1 c4_
    refine lv_aload_n hx hb dX9_roll_10 rfl (lv_at hl 0 rfl) ?_
    refine va_get (D := eD E) (ci := 9) (v := .ref (a 5)) (C := RX9) (T := TX9) (N := 13) hx hb hts in_X9 hown hK hP 0 rfl rfl 5 (by decide) lk0 (fun _ h9 => h9) rfl dX9_roll_11 ?_
    refine va_get (D := eD E) (ci := 8) (v := .ref (ap 0)) (C := RX8) (T := TX8) (N := 2) hx hb hts in_X8 hown hK hP 18 rfl rfl 0 (by decide) lk1 (fun _ h9 => h9) rfl dX9_roll_14 ?_
    refine va_get (D := eD E) (ci := 1) (v := .int (vp 2 0)) (C := RX1) (T := TX1) (N := 11) hx hb hts in_X1 hown hK hP 19 rfl rfl 2 (by decide) lk2 (fun _ h9 => h9) rfl dX9_roll_17 ?_
    refine lv_if_ne (tgt := 26) hx hb dX9_roll_20 (by decide) (fun c20 => ?_) (fun c20 => ?_)
    · have c20_ := i_ne c20
      refine lv_aload_n hx hb dX9_roll_26 rfl (lv_at hl 0 rfl) ?_
      refine va_get (D := eD E) (ci := 9) (v := .ref (a 5)) (C := RX9) (T := TX9) (N := 13) hx hb hts in_X9 hown hK hP 0 rfl rfl 5 (by decide) lk0 (fun _ h9 => h9) rfl dX9_roll_27 ?_
      refine va_get (D := eD E) (ci := 8) (v := .ref (ap 0)) (C := RX8) (T := TX8) (N := 2) hx hb hts in_X8 hown hK hP 18 rfl rfl 0 (by decide) lk1 (fun _ h9 => h9) rfl dX9_roll_30 ?_
      refine lv_aload_n hx hb dX9_roll_33 rfl (lv_at hl 0 rfl) ?_
      refine va_get (D := eD E) (ci := 9) (v := .ref (as_ 0)) (C := RX9) (T := TX9) (N := 13) hx hb hts in_X9 hown hK hP 0 rfl rfl 6 (by decide) lk3 (fun _ h9 => h9) rfl dX9_roll_34 ?_
      refine va_get (D := eD E) (ci := 6) (v := .int (vs 4 0)) (C := RX6) (T := TX6) (N := 9) hx hb hts in_X6 hown hK hP 48 rfl rfl 4 (by decide) lk4 (fun _ h9 => h9) rfl dX9_roll_37 ?_
      refine lv_iload_n hx hb dX9_roll_40 rfl (lv_at hl 1 rfl) ?_
      refine rd_V (As := [.int (vs 4 0), .int way]) (rest := []) (C := RX1) (ci := 1) ⟨hx, hb, hml, hown, hts⟩ (c_X1_beside l E A ap vp (vs 4 0) way hI (by omega)) (cwV 2 hts gX9_roll_X1_beside rfl rfl rfl (by decide +kernel) ⟨Nat.le_of_ble_eq_true rfl, Nat.le_of_ble_eq_true rfl⟩) (hE.kept hS.2.1) (hP.sub (ws' := planL E ap vp) [19, 20, 21, 22, 23, 24, 25, 26, 27, 28, 29, 30, 31, 32, 33, 34, 35, 36, 37, 38, 39, 40, 41, 42, 43, 44, 45, 46, 47] rfl) rfl rfl rfl rfl hl.1 rfl (Nat.le_of_ble_eq_true rfl) dX9_roll_41 ⟨Nat.zero_le _, Nat.zero_le _⟩ (fun r41 h41 => ?_)
      have hf41 := h41.2
      replace h41 := h41.1
      refine lv_istore_n (lv' := [(2, .int r41), (0, .ref (a 99)), (1, .int way)]) hx hb dX9_roll_44 rfl hl (by decide) rfl (fun ls hl => ?_)
      refine lv_aload_n hx hb dX9_roll_45 rfl (lv_at hl 1 rfl) ?_
      refine va_get (D := eD E) (ci := 9) (v := .ref (a 5)) (C := RX9) (T := TX9) (N := 13) hx hb hts in_X9 hown hK hP 0 rfl rfl 5 (by decide) lk0 (fun _ h9 => h9) rfl dX9_roll_46 ?_
      refine lv_aload_n hx hb dX9_roll_49 rfl (lv_at hl 1 rfl) ?_
      refine va_get (D := eD E) (ci := 9) (v := .ref (as_ 0)) (C := RX9) (T := TX9) (N := 13) hx hb hts in_X9 hown hK hP 0 rfl rfl 6 (by decide) lk3 (fun _ h9 => h9) rfl dX9_roll_50 ?_
      refine va_get (D := eD E) (ci := 6) (v := .int (vs 4 0)) (C := RX6) (T := TX6) (N := 9) hx hb hts in_X6 hown hK hP 48 rfl rfl 4 (by decide) lk4 (fun _ h9 => h9) rfl dX9_roll_53 ?_
      refine lv_iload_n hx hb dX9_roll_56 rfl (lv_at hl 0 rfl) ?_
      refine lv_aload_n hx hb dX9_roll_57 rfl (lv_at hl 1 rfl) ?_
      refine va_get (D := eD E) (ci := 9) (v := .ref (as_ 0)) (C := RX9) (T := TX9) (N := 13) hx hb hts in_X9 hown hK hP 0 rfl rfl 6 (by decide) lk3 (fun _ h9 => h9) rfl dX9_roll_58 ?_
      refine va_get (D := eD E) (ci := 6) (v := .int (vs 0 0)) (C := RX6) (T := TX6) (N := 9) hx hb hts in_X6 hown hK hP 48 rfl rfl 0 (by decide) lk5 (fun _ h9 => h9) rfl dX9_roll_61 ?_
      refine lv_iconst (v := 1) hx hb dX9_roll_64 (by decide) ?_
      refine lv_iadd hx hb dX9_roll_65 ?_
      refine lv_topi (fun x65 e65 => ?_)
      have t65 := i_add e65 (by omega)
      refine rd_V (As := [.int (vs 4 0), .int r41, .int x65]) (rest := []) (C := RX8) (ci := 8) ⟨hx, hb, hml, hown, hts⟩ (c_X8_pushTo l E A (a 5) ap vp as_ vs (vs 4 0) r41 x65 hI hJ (by omega) (by omega) (by omega)) (cwV 3 hts gX9_roll_X8_pushTo rfl rfl rfl (by decide +kernel) ⟨Nat.le_of_ble_eq_true rfl, Nat.le_of_ble_eq_true rfl⟩) (hE.kept hS.2.1) (hP.sub (ws' := wpsL E (a 5) ap vp as_ vs) [18, 19, 20, 21, 22, 23, 24, 25, 26, 27, 28, 29, 30, 31, 32, 33, 34, 35, 36, 37, 38, 39, 40, 41, 42, 43, 44, 45, 46, 47, 48, 49, 50, 51] rfl) rfl rfl rfl rfl hl.1 rfl (Nat.le_of_ble_eq_true rfl) dX9_roll_66 ⟨Nat.zero_le _, Nat.zero_le _⟩ (fun r66 h66 => ?_)
      have hf66 := h66.2
      replace h66 := h66.1
      refine lv_istore_n (lv' := [(3, .int r66), (2, .int r41), (0, .ref (a 99)), (1, .int way)]) hx hb dX9_roll_69 rfl hl (by decide) rfl (fun ls hl => ?_)
      refine lv_iload_n hx hb dX9_roll_70 rfl (lv_at hl 0 rfl) ?_
      refine lv_iconst (v := (-1)) hx hb dX9_roll_71 (by decide) ?_
      refine lv_icmp_ne (tgt := 78) hx hb dX9_roll_72 (by decide) (fun c72 => ?_) (fun c72 => ?_)
      · have c72_ := i_ne c72
        replace h66 := cm_n h66 c72_
        clear c72_
        refine lv_aload_n hx hb dX9_roll_78 rfl (lv_at hl 2 rfl) ?_
        refine va_get (D := eD E) (ci := 9) (v := .ref (as_ 0)) (C := RX9) (T := TX9) (N := 13) hx hb hts in_X9 hown hK hP 0 rfl rfl 6 (by decide) lk3 (fun _ h9 => h9) rfl dX9_roll_79 ?_
        refine va_get (D := eD E) (ci := 6) (v := .int (vs 0 0)) (C := RX6) (T := TX6) (N := 9) hx hb hts in_X6 hown hK hP 48 rfl rfl 0 (by decide) lk5 (fun _ h9 => h9) rfl dX9_roll_82 ?_
        refine lv_ldc hx hb hown lk6 dX9_roll_85 ?_
        refine lv_icmp_lt (tgt := 93) hx hb dX9_roll_87 (by decide) (fun c87 => ?_) (fun c87 => ?_)
        · have c87_ := i_lt c87
          refine lv_aload_n hx hb dX9_roll_93 rfl (lv_at hl 2 rfl) ?_
          refine va_get (D := eD E) (ci := 9) (v := .ref (a 5)) (C := RX9) (T := TX9) (N := 13) hx hb hts in_X9 hown hK hP 0 rfl rfl 5 (by decide) lk0 (fun _ h9 => h9) rfl dX9_roll_94 ?_
          refine lv_iload_n hx hb dX9_roll_97 rfl (lv_at hl 1 rfl) ?_
          refine lv_iload_n hx hb dX9_roll_98 rfl (lv_at hl 0 rfl) ?_
          refine mt_Vv (w1 := fun (u : Vf) => wpsL E (a 5) ap vp as_ u) (wf := fun (u : Vf) => tgL E a v cz0 cz1 rt rp aq vq ap vp as_ u ai vi bi vj) (wr := [((a 99), .inr (9, [.ref (a 0), .int (v 1 0), .int (v 2 0), .ref (a 3), .ref (aq 0), .ref (a 5), .ref (as_ 0), .ref (a 7), .ref (a 8), .ref (a 9), .ref (a 10), .ref (a 11), .int (v 12 0)])), ((a 0), .inl (eI E, 250, .inl (v 0))), ((a 11), .inl (eI E, 30, .inl (v 11))), ((a 3), .inr (2, [rt, .int (v 101 0), .int (v 102 0), rp, .int (v 104 0), .int (v 105 0), .int (v 106 0), .int (v 107 0), .int (v 108 0)])), ((a 7), .inl (eS E, 2, .inr (.inr (.inr (.inr (fun i => some (cond (Nat.beq i 0) (ai 0) (bi 0)))))))), ((a 8), .inr (3, [.ref (a 5), .ref cz0, .ref cz1, .ref (a 203)])), (cz0, .inl (eI E, 24, .inl (v 201))), (cz1, .inl (eI E, 24, .inl (v 202))), ((a 203), .inl (eI E, 960, .inl (v 203))), ((a 9), .inr (7, [.ref (a 5), .ref (a 301), .ref (a 302), .int (v 303 0), .int (v 304 0)])), ((a 301), .inl (eI E, 5, .inl (v 301))), ((a 302), .inl (eI E, 5, .inl (v 302))), ((a 10), .inr (4, [.ref (a 5), .int (v 401 0), .ref (a 402), .ref (a 403), .ref (a 404), .ref (a 405), .int (v 406 0), .ref (a 407), .int (v 408 0), .int (v 409 0), .int (v 410 0)])), ((a 402), .inl (eI E, 12, .inl (v 402))), ((a 403), .inl (eI E, 12, .inl (v 403))), ((a 404), .inl (eI E, 12, .inl (v 404))), ((a 405), .inl (eI E, 729, .inl (v 405))), ((a 407), .inl (eI E, 55, .inl (v 407))), ((aq 0), .inr (1, [.int (vq 0 0), .int (vq 1 0), .int (vq 2 0), .ref (aq 3), .ref (aq 4), .int (vq 5 0), .ref (aq 6), .ref (aq 7), .ref (aq 8), .ref (aq 9), .ref (aq 10)])), ((aq 3), .inl (eI E, 24, .inl (vq 3))), ((aq 4), .inl (eI E, 24, .inl (vq 4))), ((aq 6), .inl (eM E, 3, .inr (.inr (.inr (.inr (fun i => some (aq (20 + 10 * i)))))))), ((aq 20), .inr (0, [.int (vq 20 0), .int (vq 21 0), .int (vq 22 0), .ref (aq 23), .ref (aq 24)])), ((aq 23), .inl (eI E, 18, .inl (vq 23))), ((aq 24), .inl (eI E, 24, .inl (vq 24))), ((aq 30), .inr (0, [.int (vq 30 0), .int (vq 31 0), .int (vq 32 0), .ref (aq 33), .ref (aq 34)])), ((aq 33), .inl (eI E, 18, .inl (vq 33))), ((aq 34), .inl (eI E, 24, .inl (vq 34))), ((aq 40), .inr (0, [.int (vq 40 0), .int (vq 41 0), .int (vq 42 0), .ref (aq 43), .ref (aq 44)])), ((aq 43), .inl (eI E, 18, .inl (vq 43))), ((aq 44), .inl (eI E, 24, .inl (vq 44))), ((aq 7), .inr (5, [.int (vq 60 0), .ref (aq 61), .ref (aq 62), .ref (aq 63)])), ((aq 61), .inl (eI E, 6, .inl (vq 61))), ((aq 62), .inl (eI E, 6, .inl (vq 62))), ((aq 63), .inl (eI E, 6, .inl (vq 63))), ((aq 8), .inr (5, [.int (vq 70 0), .ref (aq 71), .ref (aq 72), .ref (aq 73)])), ((aq 71), .inl (eI E, 6, .inl (vq 71))), ((aq 72), .inl (eI E, 6, .inl (vq 72))), ((aq 73), .inl (eI E, 6, .inl (vq 73))), ((aq 9), .inr (5, [.int (vq 80 0), .ref (aq 81), .ref (aq 82), .ref (aq 83)])), ((aq 81), .inl (eI E, 6, .inl (vq 81))), ((aq 82), .inl (eI E, 6, .inl (vq 82))), ((aq 83), .inl (eI E, 6, .inl (vq 83))), ((aq 10), .inr (5, [.int (vq 90 0), .ref (aq 91), .ref (aq 92), .ref (aq 93)])), ((aq 91), .inl (eI E, 6, .inl (vq 91))), ((aq 92), .inl (eI E, 6, .inl (vq 92))), ((aq 93), .inl (eI E, 6, .inl (vq 93))), ((ai 0), .inr (6, [.int (vi 0 0), .ref (ai 1), .ref (ai 2), .ref (ai 3), .int (vi 4 0), .int (vi 5 0), .int (vi 6 0), .int (vi 7 0), .int (vi 8 0)])), ((ai 1), .inl (eI E, 3, .inl (vi 1))), ((ai 2), .inl (eI E, 24, .inl (vi 2))), ((ai 3), .inl (eI E, 6, .inl (vi 3))), ((bi 0), .inr (6, [.int (vj 0 0), .ref (bi 1), .ref (bi 2), .ref (bi 3), .int (vj 4 0), .int (vj 5 0), .int (vj 6 0), .int (vj 7 0), .int (vj 8 0)])), ((bi 1), .inl (eI E, 3, .inl (vj 1))), ((bi 2), .inl (eI E, 24, .inl (vj 2))), ((bi 3), .inl (eI E, 6, .inl (vj 3)))]) (As := [.int r41, .int r66]) (rest := []) (C := RX8) (ci := 8) ⟨hx, hb, hml, hown, hts⟩ (c_X8_takeStep l E s.heap.size (a 5) ap vp as_ vs r41 r66 hJ (by omega) (by omega)) (cwV 2 hts gX9_roll_X8_takeStep rfl rfl rfl (by decide +kernel) ⟨Nat.le_of_ble_eq_true rfl, Nat.le_of_ble_eq_true rfl⟩) hE hS hA hP hD [18, 19, 20, 21, 22, 23, 24, 25, 26, 27, 28, 29, 30, 31, 32, 33, 34, 35, 36, 37, 38, 39, 40, 41, 42, 43, 44, 45, 46, 47, 48, 49, 50, 51] [0, 1, 2, 3, 4, 5, 6, 7, 8, 9, 10, 11, 12, 13, 14, 15, 16, 17, 52, 53, 54, 55, 56, 57, 58, 59, 60, 61, 62, 63, 64, 65, 66, 67, 68, 69, 70, 71, 72, 73, 74, 75, 76, 77, 78, 79, 80, 81, 82, 83, 84, 85, 86, 87, 88] rfl rfl (by decide) (by decide) (by decide) [0, 1, 2, 3, 4, 5, 6, 7, 8, 9, 10, 11, 12, 13, 14, 15, 16, 17, 55, 56, 57, 58, 59, 60, 61, 62, 63, 64, 65, 66, 67, 68, 69, 70, 71, 72, 73, 74, 75, 76, 77, 78, 79, 80, 81, 82, 83, 84, 85, 86, 87, 88, 18, 19, 20, 21, 22, 23, 24, 25, 26, 27, 28, 29, 30, 31, 32, 33, 34, 35, 36, 37, 38, 39, 40, 41, 42, 43, 44, 45, 46, 47, 48, 49, 50, 51, 52, 53, 54] (by decide) (fun u => rfl) rfl rfl rfl rfl hl.1 rfl (Nat.le_of_ble_eq_true rfl) dX9_roll_99 ⟨Nat.zero_le _, Nat.zero_le _⟩ (fun u99 H locs h99 hP hD hS => ?_)
          generalize u99 = o99_vs at hP hD h99
          try dsimp only at h99
          have hf99 := h99.2
          replace h99 := h99.1
          have hFn99 := h99.2
          replace h99 := h99.1
          replace hP : va_P (eD E) vwCl (tgL E a v cz0 cz1 rt rp aq vq ap vp as_ o99_vs ai vi bi vj) H := hP
          replace hD : va_D A (tgL E a v cz0 cz1 rt rp aq vq ap vp as_ o99_vs ai vi bi vj) := hD
          have hFz : fr [0, 4, 5] vs o99_vs := by first | exact hFz | exact hFz.tr hFn99 (by decide) | (rw [← hv99]; repeat' (first | exact hFz | refine fr.up ?_ (by decide) | refine fr.up3 ?_ (by decide)))
          refine lv_iload_n hx hb dX9_roll_102 rfl (lv_at hl 0 rfl) ?_
          subst hQ
          exact W.iret (v := r66) hx hb hr (fun t ht hW => ⟨⟨r66, (o99_vs), rfl, (show ((TgA v vp vq o99_vs vi vj) ∧ fr [0, 4, 5] vs o99_vs) ∧ (∀ vm : Vf, RW vm vp vs → (-1 : Int32) = vm 62 0 → RolP vm way r66 (vs 0 0) (vs 4 0) (vs 5 0) (o99_vs 0 0) (o99_vs 4 0) (o99_vs 5 0)) from ⟨⟨⟨hT, hG, hI, hI2, h99.1, hJi, hJj⟩, hFz⟩, (fun vm hR hg => by have hG := hR.2.2.2.1.1; have hW : 1 ≤ (vm 0 0).toInt := rol_w hR (by omega); have hcc : cW vm (vs 4 0) := rol_c hR hW; have hb := hf41.2 vm hR.1.1.1 hR.1.1.2.1 hG (by rw [hR.1.1.1]; exact hW) (by omega); have hp := rol_pu hR hcc (hf66 vm hR hg way (by omega) hb hcc) e65; have hq := hp.2 (by omega); have e0 : vs 0 0 = vm 23 0 := hR.2.1.1; have e5 : vs 5 0 = vm 28 0 := hR.2.1.2.2.2.2.2.1; exact Or.inr ⟨by omega, Or.inr ⟨⟨by omega, by rw [hq.1]; exact hq.2.1⟩, Or.inr ⟨by rw [← e0]; omega, by rw [hq.1]; exact hq.2.2, by rw [← e0]; exact hf99.2.1, by rw [hq.1]; exact hf99.1, by rw [← e5]; exact hf99.2.2⟩⟩⟩)⟩), by rw [ht]; exact hP, hD⟩, hS.F ht⟩) hS.2.2 dX9_roll_103
        · have c87_ := i_nlt c87
          refine lv_ldc hx hb hown lk7 dX9_roll_90 ?_
          subst hQ
          exact W.iret (v := (-1000000004)) hx hb hr (fun t ht hW => ⟨⟨(-1000000004), (vs), rfl, (show ((TgA v vp vq vs vi vj) ∧ fr [0, 4, 5] vs vs) ∧ (∀ vm : Vf, RW vm vp vs → (-1 : Int32) = vm 62 0 → RolP vm way ((-1000000004) : Int32) (vs 0 0) (vs 4 0) (vs 5 0) (vs 0 0) (vs 4 0) (vs 5 0)) from ⟨⟨hTA, hFz⟩, (fun vm hR hg => by have hG := hR.2.2.2.1.1; have hW : 1 ≤ (vm 0 0).toInt := rol_w hR (by omega); have hcc : cW vm (vs 4 0) := rol_c hR hW; have hb := hf41.2 vm hR.1.1.1 hR.1.1.2.1 hG (by rw [hR.1.1.1]; exact hW) (by omega); have hp := rol_pu hR hcc (hf66 vm hR hg way (by omega) hb hcc) e65; have hq := hp.2 (by omega); have e0 : vs 0 0 = vm 23 0 := hR.2.1.1; exact Or.inr ⟨by omega, Or.inr ⟨⟨by omega, by rw [hq.1]; exact hq.2.1⟩, Or.inl ⟨by omega, by rw [← e0]; omega, rfl, rfl, rfl⟩⟩⟩)⟩), by rw [ht]; exact hP, hD⟩, hS.F ht⟩) hS.2.2 dX9_roll_92
      · have c72_ := i_eq c72
        clear h66
        refine lv_ldc hx hb hown lk8 dX9_roll_75 ?_
        subst hQ
        exact W.iret (v := (-1000000003)) hx hb hr (fun t ht hW => ⟨⟨(-1000000003), (vs), rfl, (show ((TgA v vp vq vs vi vj) ∧ fr [0, 4, 5] vs vs) ∧ (∀ vm : Vf, RW vm vp vs → (-1 : Int32) = vm 62 0 → RolP vm way ((-1000000003) : Int32) (vs 0 0) (vs 4 0) (vs 5 0) (vs 0 0) (vs 4 0) (vs 5 0)) from ⟨⟨hTA, hFz⟩, (fun vm hR hg => by have hG := hR.2.2.2.1.1; have hW : 1 ≤ (vm 0 0).toInt := rol_w hR (by omega); have hcc : cW vm (vs 4 0) := rol_c hR hW; have hb := hf41.2 vm hR.1.1.1 hR.1.1.2.1 hG (by rw [hR.1.1.1]; exact hW) (by omega); have hp := rol_pu hR hcc (hf66 vm hR hg way (by omega) hb hcc) e65; exact Or.inr ⟨by omega, Or.inl ⟨by omega, Or.inr (hp.1 (by omega)), rfl, rfl, rfl⟩⟩)⟩), by rw [ht]; exact hP, hD⟩, hS.F ht⟩) hS.2.2 dX9_roll_77
    · have c20_ := i_eq c20
      refine lv_ldc hx hb hown lk8 dX9_roll_23 ?_
      subst hQ
      exact W.iret (v := (-1000000003)) hx hb hr (fun t ht hW => ⟨⟨(-1000000003), (vs), rfl, (show ((TgA v vp vq vs vi vj) ∧ fr [0, 4, 5] vs vs) ∧ (∀ vm : Vf, RW vm vp vs → (-1 : Int32) = vm 62 0 → RolP vm way ((-1000000003) : Int32) (vs 0 0) (vs 4 0) (vs 5 0) (vs 0 0) (vs 4 0) (vs 5 0)) from ⟨⟨hTA, hFz⟩, (fun vm hR hg => Or.inr ⟨by omega, Or.inl ⟨by omega, Or.inl (rol_z hR (by omega)), rfl, rfl, rfl⟩⟩)⟩), by rw [ht]; exact hP, hD⟩, hS.F ht⟩) hS.2.2 dX9_roll_25
  · have c4_ := i_ne c4
    replace h1 := or_y h1 c4_
    clear c4_
    refine lv_ldc hx hb hown lk9 dX9_roll_7 ?_
    subst hQ
    exact W.iret (v := (-1000000002)) hx hb hr (fun t ht hW => ⟨⟨(-1000000002), (vs), rfl, (show ((TgA v vp vq vs vi vj) ∧ fr [0, 4, 5] vs vs) ∧ (∀ vm : Vf, RW vm vp vs → (-1 : Int32) = vm 62 0 → RolP vm way ((-1000000002) : Int32) (vs 0 0) (vs 4 0) (vs 5 0) (vs 0 0) (vs 4 0) (vs 5 0)) from ⟨⟨hTA, hFz⟩, (fun vm hR hg => Or.inl ⟨by omega, by omega, rfl, rfl, rfl⟩)⟩), by rw [ht]; exact hP, hD⟩, hS.F ht⟩) hS.2.2 dX9_roll_9
def rm_X9_steep : Room := { frames := 1, cells := 0, slots := 0, locals := 22 }
set_option maxHeartbeats 4000000 in
set_option maxRecDepth 100000 in
theorem c_X9_steep (l : Launch) (E : Ev) (sz : Nat) (a : Nat → Nat) (v : Vf) (cz0 : Nat) (cz1 : Nat) (rt : Value) (rp : Value) (aq : Nat → Nat) (vq : Vf) (ap : Nat → Nat) (vp : Vf) (as_ : Nat → Nat) (vs : Vf) (ai : Nat → Nat) (vi : Vf) (bi : Nat → Nat) (vj : Vf) (x : Int32) (hTA : TgA v vp vq vs vi vj) : Met l yX9_steep wsX9_steep rm_X9_steep (MtP E sz [.ref (a 99), .int x] (tgL E a v cz0 cz1 rt rp aq vq ap vp as_ vs ai vi bi vj)) (va_Qi (fun (r : Int32) (u : Vf) => ((TgA v vp vq u vi vj) ∧ fr [6] vs u) ∧ (SetP x 0 99 (vs 6 0) r (u 6 0))) (MtB E (va_A (tgL E a v cz0 cz1 rt rp aq vq ap vp as_ vs ai vi bi vj) sz) (fun u => tgL E a v cz0 cz1 rt rp aq vq ap vp as_ u ai vi bi vj)) (va_A (tgL E a v cz0 cz1 rt rp aq vq ap vp as_ vs ai vi bi vj) sz)) 0 0 (va_A (tgL E a v cz0 cz1 rt rp aq vq ap vp as_ vs ai vi bi vj) sz) := by
  refine Met.ofW (cc := cX9_steep) (maxL := 3) (ret := (some .int)) (by decide) rfl ?_
  intro p e s m args below meth c s₁ B hml hv
  obtain ⟨rfl, hsz, hE, hP, hD0⟩ := hv
  subst hsz
  have hD := hD0.self (sz := s.heap.size)
  generalize hAe : va_A (tgL E a v cz0 cz1 rt rp aq vq ap vp as_ vs ai vi bi vj) s.heap.size = A at hD hE ⊢
  have hA : ∀ q : Nat, s.heap.size ≤ q → A q := fun q h => by rw [← hAe]; exact Or.inr h
  have hS : va_S A s.heap s.heap [] := va_S.rf
  have hx := B.exec
  have hb := B.bytes
  have hr := B.returns
  have hts := atoms_spec (ws := wsX9_steep) B.pre
  have hown : s.vm.findClass RX9 = some m.cls := findClass_of_methodNamed B.named
  have hlocks := B.notSynchronized
  have hK := hE.1
  have in_X9 : ∀ w ∈ u_ws RX9 TX9 13, w ∈ wsX9_steep := fun w h => List.mem_cons_of_mem _ (List.mem_append_left _ (List.mem_append_right _ h))
  have in_X6 : ∀ w ∈ u_ws RX6 TX6 9, w ∈ wsX9_steep := fun w h => List.mem_cons_of_mem _ (List.mem_append_right _ h)
  have lk0 := hts (.fieldLink RX9 34 "TidedGround" "now" "LTidedGround$State;") (List.mem_of_getElem? (i := 2) rfl)
  have lk1 := hts (.fieldLink RX9 154 "TidedGround$State" "steep" "I") (List.mem_of_getElem? (i := 3) rfl)
  have lk2 := hts (.constant RX9 81 (-1000000002)) (List.mem_of_getElem? (i := 1) rfl)
  have n_m1000000002 : ((-1000000002) : Int32).toInt = -1000000002 := by decide
  have n_0 : (0 : Int32).toInt = 0 := by decide
  have n_99 : (99 : Int32).toInt = 99 := by decide
  have hl := lv_entry ([.ref (a 99), .int x]) (n := 3) (Nat.le_of_ble_eq_true rfl)
  rw [lg_entry_eq]
  generalize (lg_sl ([.ref (a 99), .int x]) ++ List.replicate (3 - (lg_sl ([.ref (a 99), .int x])).length) Slot.unset).toArray = ls at hl ⊢
  have hl : lv_has ls 3 [(0, .ref (a 99)), (1, .int x)] := hl
  refine W_abs (fun Q hQ => ?_)
  obtain ⟨hT, hG, hI, hI2, hJ, hJi, hJj⟩ := id hTA
  obtain ⟨hT1, hT2⟩ := id hT
  have hJ_vs := hJ
  have hJ_vi := hJi
  have hJ_vj := hJj
  obtain ⟨hg, hmc, hm0, hm1, hm2, hs0, hs1, hs2, hs3⟩ := id hI
  obtain ⟨hg1, hg2, hg3, hg4⟩ := id hg
  have hz0 := hm0.1
  have hz1 := hm1.1
  have hz2 := hm2.1
  have hc0 := hs0.1
  have hc1 := hs1.1
  have hc2 := hs2.1
  have hc3 := hs3.1
  obtain ⟨hj0, hj1, hj2⟩ := id hJ
  have hg5 : 0 ≤ (vp 2 0).toInt := by rw [hg3]; exact Int.mul_nonneg hg1.1 hg2.1
  have hG1 := hG.1
  have hG4 := hG.2.2.2
  have hFz : fr [6] vs vs := fr.rf
  refine lv_iload_n hx hb dX9_steep_0 rfl (lv_at hl 1 rfl) ?_
  refine lv_iconst (v := 0) hx hb dX9_steep_1 (by decide) ?_
  refine lv_bipush (v := 99) hx hb dX9_steep_2 (by decide) ?_
  refine rd_S (As := [.int x, .int 0, .int 99]) (rest := []) ⟨hx, hb, hml, hown, hts⟩ (c_X9_isOff l E A x 0 99) (va_cwS 3 hts gX9_steep_X9_isOff rfl rfl rfl (by decide +kernel) ⟨Nat.le_of_ble_eq_true rfl, Nat.le_of_ble_eq_true rfl⟩) (hE.kept hS.2.1) (hP.sub (ws' := []) [] rfl) rfl hl.1 rfl (Nat.le_of_ble_eq_true rfl) dX9_steep_4 ⟨Nat.zero_le _, Nat.zero_le _⟩ (fun r4 h4 => ?_)
  refine lv_if_eq (tgt := 13) hx hb dX9_steep_7 (by decide) (fun c7 => ?_) (fun c7 => ?_)
  · have c7_ := i_eq c7
    replace h4 := or_n h4 c7_
    refine lv_aload_n hx hb dX9_steep_13 rfl (lv_at hl 0 rfl) ?_
    refine va_get (D := eD E) (ci := 9) (v := .ref (as_ 0)) (C := RX9) (T := TX9) (N := 13) hx hb hts in_X9 hown hK hP 0 rfl rfl 6 (by decide) lk0 (fun _ h9 => h9) rfl dX9_steep_14 ?_
    refine va_get (D := eD E) (ci := 6) (v := .int (vs 6 0)) (C := RX6) (T := TX6) (N := 9) hx hb hts in_X6 hown hK hP 48 rfl rfl 6 (by decide) lk1 (fun _ h9 => h9) rfl dX9_steep_17 ?_
    refine lv_istore_n (lv' := [(2, .int (vs 6 0)), (0, .ref (a 99)), (1, .int x)]) hx hb dX9_steep_20 rfl hl (by decide) rfl (fun ls hl => ?_)
    refine lv_aload_n hx hb dX9_steep_21 rfl (lv_at hl 1 rfl) ?_
    refine va_get (D := eD E) (ci := 9) (v := .ref (as_ 0)) (C := RX9) (T := TX9) (N := 13) hx hb hts in_X9 hown hK hP 0 rfl rfl 6 (by decide) lk0 (fun _ h9 => h9) rfl dX9_steep_22 ?_
    refine lv_iload_n hx hb dX9_steep_25 rfl (lv_at hl 2 rfl) ?_
    refine va_put (D := eD E) (ci := 6) (v := .int x) (ty := .int) (C := RX6) (T := TX6) (N := 9) hx hb hts in_X6 tyX6 tyX6_ok nmX6 hown hK hP hD hS 48 rfl rfl 6 (by decide) lk1 (fun _ h9 => h9) rfl (by decide +kernel) rfl rfl (Nat.le_of_ble_eq_true rfl) dX9_steep_26 (fun H locs hP hD hS => ?_)
    replace hP : va_P (eD E) vwCl (tgL E a v cz0 cz1 rt rp aq vq ap vp as_ (up2 vs 6 0 x) ai vi bi vj) H := hP
    replace hD : va_D A (tgL E a v cz0 cz1 rt rp aq vq ap vp as_ (up2 vs 6 0 x) ai vi bi vj) := hD
    generalize hv26 : up2 vs 6 0 x = vs_26 at hP hD
    have hFz : fr [6] vs vs_26 := by first | exact hFz | (rw [← hv26]; exact hFz.up (by decide))
    refine lv_iload_n hx hb dX9_steep_29 rfl (lv_at hl 0 rfl) ?_
    subst hQ
    exact W.iret (v := (vs 6 0)) hx hb hr (fun t ht hW => ⟨⟨(vs 6 0), (vs_26), rfl, (show ((TgA v vp vq vs_26 vi vj) ∧ fr [6] vs vs_26) ∧ (SetP x 0 99 (vs 6 0) (vs 6 0) (vs_26 6 0)) from ⟨⟨⟨hT, hG, hI, hI2, (by rw [← hv26]; exact hJ), hJi, hJj⟩, hFz⟩, (Or.inr ⟨by omega, rfl, by rw [← hv26]; rfl⟩)⟩), by rw [ht]; exact hP, hD⟩, hS.F ht⟩) hS.2.2 dX9_steep_30
  · have c7_ := i_ne c7
    replace h4 := or_y h4 c7_
    clear c7_
    refine lv_ldc hx hb hown lk2 dX9_steep_10 ?_
    subst hQ
    exact W.iret (v := (-1000000002)) hx hb hr (fun t ht hW => ⟨⟨(-1000000002), (vs), rfl, (show ((TgA v vp vq vs vi vj) ∧ fr [6] vs vs) ∧ (SetP x 0 99 (vs 6 0) ((-1000000002) : Int32) (vs 6 0)) from ⟨⟨hTA, hFz⟩, (Or.inl ⟨by omega, by omega, rfl⟩)⟩), by rw [ht]; exact hP, hD⟩, hS.F ht⟩) hS.2.2 dX9_steep_12
def rm_X9_load : Room := { frames := 1, cells := 0, slots := 0, locals := 23 }
set_option maxHeartbeats 4000000 in
set_option maxRecDepth 100000 in
theorem c_X9_load (l : Launch) (E : Ev) (sz : Nat) (a : Nat → Nat) (v : Vf) (cz0 : Nat) (cz1 : Nat) (rt : Value) (rp : Value) (aq : Nat → Nat) (vq : Vf) (ap : Nat → Nat) (vp : Vf) (as_ : Nat → Nat) (vs : Vf) (ai : Nat → Nat) (vi : Vf) (bi : Nat → Nat) (vj : Vf) (x : Int32) (y : Int32) (z : Int32) (hTA : TgA v vp vq vs vi vj) : Met l yX9_load wsX9_load rm_X9_load (MtP E sz [.ref (a 99), .int x, .int y, .int z] (tgL E a v cz0 cz1 rt rp aq vq ap vp as_ vs ai vi bi vj)) (va_Qi (fun (r : Int32) (u : Vf) => ((TgA v vp vq u vi vj) ∧ fr [2] vs u) ∧ (LoadP x y z (vp 0 0) (vp 1 0) (vs 2) r (u 2))) (MtB E (va_A (tgL E a v cz0 cz1 rt rp aq vq ap vp as_ vs ai vi bi vj) sz) (fun u => tgL E a v cz0 cz1 rt rp aq vq ap vp as_ u ai vi bi vj)) (va_A (tgL E a v cz0 cz1 rt rp aq vq ap vp as_ vs ai vi bi vj) sz)) 0 0 (va_A (tgL E a v cz0 cz1 rt rp aq vq ap vp as_ vs ai vi bi vj) sz) := by
  refine Met.ofW (cc := cX9_load) (maxL := 6) (ret := (some .int)) (by decide) rfl ?_
  intro p e s m args below meth c s₁ B hml hv
  obtain ⟨rfl, hsz, hE, hP, hD0⟩ := hv
  subst hsz
  have hD := hD0.self (sz := s.heap.size)
  generalize hAe : va_A (tgL E a v cz0 cz1 rt rp aq vq ap vp as_ vs ai vi bi vj) s.heap.size = A at hD hE ⊢
  have hA : ∀ q : Nat, s.heap.size ≤ q → A q := fun q h => by rw [← hAe]; exact Or.inr h
  have hS : va_S A s.heap s.heap [] := va_S.rf
  have hx := B.exec
  have hb := B.bytes
  have hr := B.returns
  have hts := atoms_spec (ws := wsX9_load) B.pre
  have hown : s.vm.findClass RX9 = some m.cls := findClass_of_methodNamed B.named
  have hlocks := B.notSynchronized
  have hK := hE.1
  have in_X9 : ∀ w ∈ u_ws RX9 TX9 13, w ∈ wsX9_load := fun w h => List.mem_cons_of_mem _ (List.mem_append_left _ (List.mem_append_left _ (List.mem_append_left _ (List.mem_append_right _ h))))
  have in_X8 : ∀ w ∈ u_ws RX8 TX8 2, w ∈ wsX9_load := fun w h => List.mem_cons_of_mem _ (List.mem_append_left _ (List.mem_append_left _ (List.mem_append_right _ h)))
  have in_X6 : ∀ w ∈ u_ws RX6 TX6 9, w ∈ wsX9_load := fun w h => List.mem_cons_of_mem _ (List.mem_append_left _ (List.mem_append_right _ h))
  have lk0 := hts (.fieldLink RX9 43 "TidedGround" "world" "LTidedGround$World;") (List.mem_of_getElem? (i := 1) rfl)
  have lk1 := hts (.fieldLink RX9 91 "TidedGround$World" "plan" "LTidedGround$Plan;") (List.mem_of_getElem? (i := 2) rfl)
  have lk2 := hts (.fieldLink RX9 34 "TidedGround" "now" "LTidedGround$State;") (List.mem_of_getElem? (i := 5) rfl)
  have lk3 := hts (.fieldLink RX9 168 "TidedGround$State" "loads" "[I") (List.mem_of_getElem? (i := 6) rfl)
  have lk4 := hts (.constant RX9 81 (-1000000002)) (List.mem_of_getElem? (i := 4) rfl)
  have lk5 := hts (.constant RX9 161 (-1000000001)) (List.mem_of_getElem? (i := 3) rfl)
  have n_m1000000002 : ((-1000000002) : Int32).toInt = -1000000002 := by decide
  have n_m1000000001 : ((-1000000001) : Int32).toInt = -1000000001 := by decide
  have n_m1 : ((-1) : Int32).toInt = -1 := by decide
  have n_0 : (0 : Int32).toInt = 0 := by decide
  have n_90 : (90 : Int32).toInt = 90 := by decide
  have hl := lv_entry ([.ref (a 99), .int x, .int y, .int z]) (n := 6) (Nat.le_of_ble_eq_true rfl)
  rw [lg_entry_eq]
  generalize (lg_sl ([.ref (a 99), .int x, .int y, .int z]) ++ List.replicate (6 - (lg_sl ([.ref (a 99), .int x, .int y, .int z])).length) Slot.unset).toArray = ls at hl ⊢
  have hl : lv_has ls 6 [(0, .ref (a 99)), (1, .int x), (2, .int y), (3, .int z)] := hl
  refine W_abs (fun Q hQ => ?_)
  obtain ⟨hT, hG, hI, hI2, hJ, hJi, hJj⟩ := id hTA
  obtain ⟨hT1, hT2⟩ := id hT
  have hJ_vs := hJ
  have hJ_vi := hJi
  have hJ_vj := hJj
  obtain ⟨hg, hmc, hm0, hm1, hm2, hs0, hs1, hs2, hs3⟩ := id hI
  obtain ⟨hg1, hg2, hg3, hg4⟩ := id hg
  have hz0 := hm0.1
  have hz1 := hm1.1
  have hz2 := hm2.1
  have hc0 := hs0.1
  have hc1 := hs1.1
  have hc2 := hs2.1
  have hc3 := hs3.1
  obtain ⟨hj0, hj1, hj2⟩ := id hJ
  have hg5 : 0 ≤ (vp 2 0).toInt := by rw [hg3]; exact Int.mul_nonneg hg1.1 hg2.1
  have hG1 := hG.1
  have hG4 := hG.2.2.2
  have hFz : fr [2] vs vs := fr.rf
  refine lv_aload_n hx hb dX9_load_0 rfl (lv_at hl 0 rfl) ?_
  refine va_get (D := eD E) (ci := 9) (v := .ref (a 5)) (C := RX9) (T := TX9) (N := 13) hx hb hts in_X9 hown hK hP 0 rfl rfl 5 (by decide) lk0 (fun _ h9 => h9) rfl dX9_load_1 ?_
  refine va_get (D := eD E) (ci := 8) (v := .ref (ap 0)) (C := RX8) (T := TX8) (N := 2) hx hb hts in_X8 hown hK hP 18 rfl rfl 0 (by decide) lk1 (fun _ h9 => h9) rfl dX9_load_4 ?_
  refine lv_iload_n hx hb dX9_load_7 rfl (lv_at hl 1 rfl) ?_
  refine lv_iload_n hx hb dX9_load_8 rfl (lv_at hl 2 rfl) ?_
  refine rd_V (As := [.int x, .int y]) (rest := []) (C := RX1) (ci := 1) ⟨hx, hb, hml, hown, hts⟩ (c_X1_cellAt l E A ap vp x y hI) (cwV 2 hts gX9_load_X1_cellAt rfl rfl rfl (by decide +kernel) ⟨Nat.le_of_ble_eq_true rfl, Nat.le_of_ble_eq_true rfl⟩) (hE.kept hS.2.1) (hP.sub (ws' := planL E ap vp) [19, 20, 21, 22, 23, 24, 25, 26, 27, 28, 29, 30, 31, 32, 33, 34, 35, 36, 37, 38, 39, 40, 41, 42, 43, 44, 45, 46, 47] rfl) rfl rfl rfl rfl hl.1 rfl (Nat.le_of_ble_eq_true rfl) dX9_load_9 ⟨Nat.zero_le _, Nat.zero_le _⟩ (fun r9 h9 => ?_)
  have hf9 := h9.2
  replace h9 := h9.1
  have hm9 : y.toInt < 0 ∨ 0 ≤ (vp 0 0).toInt * y.toInt := (Int.lt_or_le y.toInt 0).imp id (fun q => Int.mul_nonneg (by omega) q)
  refine lv_istore (lv' := [(4, .int r9), (0, .ref (a 99)), (1, .int x), (2, .int y), (3, .int z)]) hx hb dX9_load_12 hl (by decide) rfl (fun ls hl => ?_)
  refine lv_iload hx hb dX9_load_14 (lv_at hl 0 rfl) ?_
  refine lv_iconst (v := (-1)) hx hb dX9_load_16 (by decide) ?_
  refine lv_icmp_ne (tgt := 23) hx hb dX9_load_17 (by decide) (fun c17 => ?_) (fun c17 => ?_)
  · have c17_ := i_ne c17
    replace h9 := cm_n h9 c17_
    clear c17_
    have sv23_r9 : 0 ≤ r9.toInt ∧ r9.toInt ≤ 23 := by omega
    have hcel : inG x y (vp 0 0) (vp 1 0) := (by unfold inG; omega)
    have hr9 : r9.toInt = (vp 0 0).toInt * y.toInt + x.toInt := by omega
    have hn9 : r9.toNatClampNeg = ((vp 0 0).toInt * y.toInt + x.toInt).toNat := (by show r9.toInt.toNat = _; rw [hr9])
    clear hf9 hm9
    refine lv_iload_n hx hb dX9_load_23 rfl (lv_at hl 4 rfl) ?_
    refine lv_iconst (v := 0) hx hb dX9_load_24 (by decide) ?_
    refine lv_bipush (v := 90) hx hb dX9_load_25 (by decide) ?_
    refine rd_S (As := [.int z, .int 0, .int 90]) (rest := []) ⟨hx, hb, hml, hown, hts⟩ (c_X9_isOff l E A z 0 90) (va_cwS 3 hts gX9_load_X9_isOff rfl rfl rfl (by decide +kernel) ⟨Nat.le_of_ble_eq_true rfl, Nat.le_of_ble_eq_true rfl⟩) (hE.kept hS.2.1) (hP.sub (ws' := []) [] rfl) rfl hl.1 rfl (Nat.le_of_ble_eq_true rfl) dX9_load_27 ⟨Nat.zero_le _, Nat.zero_le _⟩ (fun r27 h27 => ?_)
    refine lv_if_eq (tgt := 36) hx hb dX9_load_30 (by decide) (fun c30 => ?_) (fun c30 => ?_)
    · have c30_ := i_eq c30
      replace h27 := or_n h27 c30_
      refine lv_aload_n hx hb dX9_load_36 rfl (lv_at hl 1 rfl) ?_
      refine va_get (D := eD E) (ci := 9) (v := .ref (as_ 0)) (C := RX9) (T := TX9) (N := 13) hx hb hts in_X9 hown hK hP 0 rfl rfl 6 (by decide) lk2 (fun _ h9 => h9) rfl dX9_load_37 ?_
      refine va_get (D := eD E) (ci := 6) (v := .ref (as_ 2)) (C := RX6) (T := TX6) (N := 9) hx hb hts in_X6 hown hK hP 48 rfl rfl 2 (by decide) lk3 (fun _ h9 => h9) rfl dX9_load_40 ?_
      refine lv_iload hx hb dX9_load_43 (lv_at hl 0 rfl) ?_
      refine va_iald hx hb hK hP 50 0 rfl rfl (n := 24) (f := (vs 2)) (i_in (by omega) (by omega)) dX9_load_45 ?_
      refine lv_topi (fun x45 e45 => ?_)
      refine lv_istore (lv' := [(5, .int x45), (4, .int r9), (0, .ref (a 99)), (1, .int x), (2, .int y), (3, .int z)]) hx hb dX9_load_46 hl (by decide) rfl (fun ls hl => ?_)
      refine lv_aload_n hx hb dX9_load_48 rfl (lv_at hl 2 rfl) ?_
      refine va_get (D := eD E) (ci := 9) (v := .ref (as_ 0)) (C := RX9) (T := TX9) (N := 13) hx hb hts in_X9 hown hK hP 0 rfl rfl 6 (by decide) lk2 (fun _ h9 => h9) rfl dX9_load_49 ?_
      refine va_get (D := eD E) (ci := 6) (v := .ref (as_ 2)) (C := RX6) (T := TX6) (N := 9) hx hb hts in_X6 hown hK hP 48 rfl rfl 2 (by decide) lk3 (fun _ h9 => h9) rfl dX9_load_52 ?_
      refine lv_iload hx hb dX9_load_55 (lv_at hl 1 rfl) ?_
      refine lv_iload_n hx hb dX9_load_57 rfl (lv_at hl 5 rfl) ?_
      refine va_iast hx hb hK hP hD hS 50 0 rfl rfl (n := 24) (f := (vs 2)) (i_in (by omega) (by omega)) dX9_load_58 (fun H locs hP hD hS => ?_)
      replace hP : va_P (eD E) vwCl (tgL E a v cz0 cz1 rt rp aq vq ap vp as_ (up2 vs 2 r9.toNatClampNeg z) ai vi bi vj) H := hP
      replace hD : va_D A (tgL E a v cz0 cz1 rt rp aq vq ap vp as_ (up2 vs 2 r9.toNatClampNeg z) ai vi bi vj) := hD
      generalize hv58 : up2 vs 2 r9.toNatClampNeg z = vs_58 at hP hD
      have hFz : fr [2] vs vs_58 := by first | exact hFz | (rw [← hv58]; exact hFz.up (by decide))
      refine lv_iload hx hb dX9_load_59 (lv_at hl 0 rfl) ?_
      subst hQ
      exact W.iret (v := x45) hx hb hr (fun t ht hW => ⟨⟨x45, (vs_58), rfl, (show ((TgA v vp vq vs_58 vi vj) ∧ fr [2] vs vs_58) ∧ (LoadP x y z (vp 0 0) (vp 1 0) (vs 2) x45 (vs_58 2)) from ⟨⟨⟨hT, hG, hI, hI2, (by rw [← hv58]; exact hJ), hJi, hJj⟩, hFz⟩, (Or.inr ⟨hcel, Or.inr ⟨by omega, by rw [← hn9]; exact e45, by rw [← hn9, ← hv58]; rfl⟩⟩)⟩), by rw [ht]; exact hP, hD⟩, hS.F ht⟩) hS.2.2 dX9_load_61
    · have c30_ := i_ne c30
      replace h27 := or_y h27 c30_
      clear c30_
      refine lv_ldc hx hb hown lk4 dX9_load_33 ?_
      subst hQ
      exact W.iret (v := (-1000000002)) hx hb hr (fun t ht hW => ⟨⟨(-1000000002), (vs), rfl, (show ((TgA v vp vq vs vi vj) ∧ fr [2] vs vs) ∧ (LoadP x y z (vp 0 0) (vp 1 0) (vs 2) ((-1000000002) : Int32) (vs 2)) from ⟨⟨hTA, hFz⟩, (Or.inr ⟨hcel, Or.inl ⟨by omega, by omega, rfl⟩⟩)⟩), by rw [ht]; exact hP, hD⟩, hS.F ht⟩) hS.2.2 dX9_load_35
  · have c17_ := i_eq c17
    clear h9
    refine lv_ldc hx hb hown lk5 dX9_load_20 ?_
    subst hQ
    exact W.iret (v := (-1000000001)) hx hb hr (fun t ht hW => ⟨⟨(-1000000001), (vs), rfl, (show ((TgA v vp vq vs vi vj) ∧ fr [2] vs vs) ∧ (LoadP x y z (vp 0 0) (vp 1 0) (vs 2) ((-1000000001) : Int32) (vs 2)) from ⟨⟨hTA, hFz⟩, (Or.inl ⟨by omega, (by unfold inG; omega), rfl⟩)⟩), by rw [ht]; exact hP, hD⟩, hS.F ht⟩) hS.2.2 dX9_load_22
def rm_X9_prop : Room := { frames := 1, cells := 0, slots := 0, locals := 22 }
set_option maxHeartbeats 4000000 in
set_option maxRecDepth 100000 in
theorem c_X9_prop (l : Launch) (E : Ev) (sz : Nat) (a : Nat → Nat) (v : Vf) (cz0 : Nat) (cz1 : Nat) (rt : Value) (rp : Value) (aq : Nat → Nat) (vq : Vf) (ap : Nat → Nat) (vp : Vf) (as_ : Nat → Nat) (vs : Vf) (ai : Nat → Nat) (vi : Vf) (bi : Nat → Nat) (vj : Vf) (h : Int32) (z : Int32) (hTA : TgA v vp vq vs vi vj) : Met l yX9_prop wsX9_prop rm_X9_prop (MtP E sz [.ref (a 99), .int h, .int z] (tgL E a v cz0 cz1 rt rp aq vq ap vp as_ vs ai vi bi vj)) (va_Qi (fun (r : Int32) (u : Vf) => ((TgA v vp vq u vi vj) ∧ fr [3] vs u) ∧ (PropP h z (vp 60 0) (vs 3) r (u 3))) (MtB E (va_A (tgL E a v cz0 cz1 rt rp aq vq ap vp as_ vs ai vi bi vj) sz) (fun u => tgL E a v cz0 cz1 rt rp aq vq ap vp as_ u ai vi bi vj)) (va_A (tgL E a v cz0 cz1 rt rp aq vq ap vp as_ vs ai vi bi vj) sz)) 0 0 (va_A (tgL E a v cz0 cz1 rt rp aq vq ap vp as_ vs ai vi bi vj) sz) := by
  refine Met.ofW (cc := cX9_prop) (maxL := 4) (ret := (some .int)) (by decide) rfl ?_
  intro p e s m args below meth c s₁ B hml hv
  obtain ⟨rfl, hsz, hE, hP, hD0⟩ := hv
  subst hsz
  have hD := hD0.self (sz := s.heap.size)
  generalize hAe : va_A (tgL E a v cz0 cz1 rt rp aq vq ap vp as_ vs ai vi bi vj) s.heap.size = A at hD hE ⊢
  have hA : ∀ q : Nat, s.heap.size ≤ q → A q := fun q h => by rw [← hAe]; exact Or.inr h
  have hS : va_S A s.heap s.heap [] := va_S.rf
  have hx := B.exec
  have hb := B.bytes
  have hr := B.returns
  have hts := atoms_spec (ws := wsX9_prop) B.pre
  have hown : s.vm.findClass RX9 = some m.cls := findClass_of_methodNamed B.named
  have hlocks := B.notSynchronized
  have hK := hE.1
  have in_X9 : ∀ w ∈ u_ws RX9 TX9 13, w ∈ wsX9_prop := fun w h => List.mem_cons_of_mem _ (List.mem_append_left _ (List.mem_append_left _ (List.mem_append_left _ (List.mem_append_left _ (List.mem_append_right _ h)))))
  have in_X8 : ∀ w ∈ u_ws RX8 TX8 2, w ∈ wsX9_prop := fun w h => List.mem_cons_of_mem _ (List.mem_append_left _ (List.mem_append_left _ (List.mem_append_left _ (List.mem_append_right _ h))))
  have in_X1 : ∀ w ∈ u_ws RX1 TX1 11, w ∈ wsX9_prop := fun w h => List.mem_cons_of_mem _ (List.mem_append_left _ (List.mem_append_left _ (List.mem_append_right _ h)))
  have in_X6 : ∀ w ∈ u_ws RX6 TX6 9, w ∈ wsX9_prop := fun w h => List.mem_cons_of_mem _ (List.mem_append_left _ (List.mem_append_right _ h))
  have lk0 := hts (.fieldLink RX9 43 "TidedGround" "world" "LTidedGround$World;") (List.mem_of_getElem? (i := 1) rfl)
  have lk1 := hts (.fieldLink RX9 91 "TidedGround$World" "plan" "LTidedGround$Plan;") (List.mem_of_getElem? (i := 2) rfl)
  have lk2 := hts (.fieldLink RX9 122 "TidedGround$Plan" "houses" "LTidedGround$Sites;") (List.mem_of_getElem? (i := 3) rfl)
  have lk3 := hts (.fieldLink RX9 34 "TidedGround" "now" "LTidedGround$State;") (List.mem_of_getElem? (i := 6) rfl)
  have lk4 := hts (.fieldLink RX9 219 "TidedGround$State" "props" "[I") (List.mem_of_getElem? (i := 7) rfl)
  have lk5 := hts (.constant RX9 81 (-1000000002)) (List.mem_of_getElem? (i := 5) rfl)
  have lk6 := hts (.constant RX9 161 (-1000000001)) (List.mem_of_getElem? (i := 4) rfl)
  have n_m1000000002 : ((-1000000002) : Int32).toInt = -1000000002 := by decide
  have n_m1000000001 : ((-1000000001) : Int32).toInt = -1000000001 := by decide
  have n_0 : (0 : Int32).toInt = 0 := by decide
  have n_999 : (999 : Int32).toInt = 999 := by decide
  have hl := lv_entry ([.ref (a 99), .int h, .int z]) (n := 4) (Nat.le_of_ble_eq_true rfl)
  rw [lg_entry_eq]
  generalize (lg_sl ([.ref (a 99), .int h, .int z]) ++ List.replicate (4 - (lg_sl ([.ref (a 99), .int h, .int z])).length) Slot.unset).toArray = ls at hl ⊢
  have hl : lv_has ls 4 [(0, .ref (a 99)), (1, .int h), (2, .int z)] := hl
  refine W_abs (fun Q hQ => ?_)
  obtain ⟨hT, hG, hI, hI2, hJ, hJi, hJj⟩ := id hTA
  obtain ⟨hT1, hT2⟩ := id hT
  have hJ_vs := hJ
  have hJ_vi := hJi
  have hJ_vj := hJj
  obtain ⟨hg, hmc, hm0, hm1, hm2, hs0, hs1, hs2, hs3⟩ := id hI
  obtain ⟨hg1, hg2, hg3, hg4⟩ := id hg
  have hz0 := hm0.1
  have hz1 := hm1.1
  have hz2 := hm2.1
  have hc0 := hs0.1
  have hc1 := hs1.1
  have hc2 := hs2.1
  have hc3 := hs3.1
  obtain ⟨hj0, hj1, hj2⟩ := id hJ
  have hg5 : 0 ≤ (vp 2 0).toInt := by rw [hg3]; exact Int.mul_nonneg hg1.1 hg2.1
  have hG1 := hG.1
  have hG4 := hG.2.2.2
  have hFz : fr [3] vs vs := fr.rf
  refine lv_aload_n hx hb dX9_prop_0 rfl (lv_at hl 0 rfl) ?_
  refine va_get (D := eD E) (ci := 9) (v := .ref (a 5)) (C := RX9) (T := TX9) (N := 13) hx hb hts in_X9 hown hK hP 0 rfl rfl 5 (by decide) lk0 (fun _ h9 => h9) rfl dX9_prop_1 ?_
  refine va_get (D := eD E) (ci := 8) (v := .ref (ap 0)) (C := RX8) (T := TX8) (N := 2) hx hb hts in_X8 hown hK hP 18 rfl rfl 0 (by decide) lk1 (fun _ h9 => h9) rfl dX9_prop_4 ?_
  refine va_get (D := eD E) (ci := 1) (v := .ref (ap 7)) (C := RX1) (T := TX1) (N := 11) hx hb hts in_X1 hown hK hP 19 rfl rfl 7 (by decide) lk2 (fun _ h9 => h9) rfl dX9_prop_7 ?_
  refine lv_iload_n hx hb dX9_prop_10 rfl (lv_at hl 1 rfl) ?_
  refine rd_V (As := [.int h]) (rest := []) (C := RX5) (ci := 5) ⟨hx, hb, hml, hown, hts⟩ (c_X5_has l E A (ap 7) (ap 61) (ap 62) (ap 63) (vp 60 0) (vp 61) (vp 62) (vp 63) h) (cwV 1 hts gX9_prop_X5_has rfl rfl rfl (by decide +kernel) ⟨Nat.le_of_ble_eq_true rfl, Nat.le_of_ble_eq_true rfl⟩) (hE.kept hS.2.1) (hP.sub (ws' := sitesL E (ap 7) (ap 61) (ap 62) (ap 63) (vp 60 0) (vp 61) (vp 62) (vp 63)) [32, 33, 34, 35] rfl) rfl rfl rfl rfl hl.1 rfl (Nat.le_of_ble_eq_true rfl) dX9_prop_11 ⟨Nat.zero_le _, Nat.zero_le _⟩ (fun r11 h11 => ?_)
  refine lv_if_ne (tgt := 20) hx hb dX9_prop_14 (by decide) (fun c14 => ?_) (fun c14 => ?_)
  · have c14_ := i_ne c14
    replace h11 := or_y h11 c14_
    clear c14_
    have sv20_h : 0 ≤ h.toInt ∧ h.toInt ≤ 5 := by omega
    refine lv_iload_n hx hb dX9_prop_20 rfl (lv_at hl 2 rfl) ?_
    refine lv_iconst (v := 0) hx hb dX9_prop_21 (by decide) ?_
    refine lv_sipush (v := 999) hx hb dX9_prop_22 (by decide) ?_
    refine rd_S (As := [.int z, .int 0, .int 999]) (rest := []) ⟨hx, hb, hml, hown, hts⟩ (c_X9_isOff l E A z 0 999) (va_cwS 3 hts gX9_prop_X9_isOff rfl rfl rfl (by decide +kernel) ⟨Nat.le_of_ble_eq_true rfl, Nat.le_of_ble_eq_true rfl⟩) (hE.kept hS.2.1) (hP.sub (ws' := []) [] rfl) rfl hl.1 rfl (Nat.le_of_ble_eq_true rfl) dX9_prop_25 ⟨Nat.zero_le _, Nat.zero_le _⟩ (fun r25 h25 => ?_)
    refine lv_if_eq (tgt := 34) hx hb dX9_prop_28 (by decide) (fun c28 => ?_) (fun c28 => ?_)
    · have c28_ := i_eq c28
      replace h25 := or_n h25 c28_
      refine lv_aload_n hx hb dX9_prop_34 rfl (lv_at hl 0 rfl) ?_
      refine va_get (D := eD E) (ci := 9) (v := .ref (as_ 0)) (C := RX9) (T := TX9) (N := 13) hx hb hts in_X9 hown hK hP 0 rfl rfl 6 (by decide) lk3 (fun _ h9 => h9) rfl dX9_prop_35 ?_
      refine va_get (D := eD E) (ci := 6) (v := .ref (as_ 3)) (C := RX6) (T := TX6) (N := 9) hx hb hts in_X6 hown hK hP 48 rfl rfl 3 (by decide) lk4 (fun _ h9 => h9) rfl dX9_prop_38 ?_
      refine lv_iload_n hx hb dX9_prop_41 rfl (lv_at hl 1 rfl) ?_
      refine va_iald hx hb hK hP 51 0 rfl rfl (n := 6) (f := (vs 3)) (i_in (by omega) (by omega)) dX9_prop_42 ?_
      refine lv_topi (fun x42 e42 => ?_)
      refine lv_istore_n (lv' := [(3, .int x42), (0, .ref (a 99)), (1, .int h), (2, .int z)]) hx hb dX9_prop_43 rfl hl (by decide) rfl (fun ls hl => ?_)
      refine lv_aload_n hx hb dX9_prop_44 rfl (lv_at hl 1 rfl) ?_
      refine va_get (D := eD E) (ci := 9) (v := .ref (as_ 0)) (C := RX9) (T := TX9) (N := 13) hx hb hts in_X9 hown hK hP 0 rfl rfl 6 (by decide) lk3 (fun _ h9 => h9) rfl dX9_prop_45 ?_
      refine va_get (D := eD E) (ci := 6) (v := .ref (as_ 3)) (C := RX6) (T := TX6) (N := 9) hx hb hts in_X6 hown hK hP 48 rfl rfl 3 (by decide) lk4 (fun _ h9 => h9) rfl dX9_prop_48 ?_
      refine lv_iload_n hx hb dX9_prop_51 rfl (lv_at hl 2 rfl) ?_
      refine lv_iload_n hx hb dX9_prop_52 rfl (lv_at hl 3 rfl) ?_
      refine va_iast hx hb hK hP hD hS 51 0 rfl rfl (n := 6) (f := (vs 3)) (i_in (by omega) (by omega)) dX9_prop_53 (fun H locs hP hD hS => ?_)
      replace hP : va_P (eD E) vwCl (tgL E a v cz0 cz1 rt rp aq vq ap vp as_ (up2 vs 3 h.toNatClampNeg z) ai vi bi vj) H := hP
      replace hD : va_D A (tgL E a v cz0 cz1 rt rp aq vq ap vp as_ (up2 vs 3 h.toNatClampNeg z) ai vi bi vj) := hD
      generalize hv53 : up2 vs 3 h.toNatClampNeg z = vs_53 at hP hD
      have hFz : fr [3] vs vs_53 := by first | exact hFz | (rw [← hv53]; exact hFz.up (by decide))
      refine lv_iload_n hx hb dX9_prop_54 rfl (lv_at hl 0 rfl) ?_
      subst hQ
      exact W.iret (v := x42) hx hb hr (fun t ht hW => ⟨⟨x42, (vs_53), rfl, (show ((TgA v vp vq vs_53 vi vj) ∧ fr [3] vs vs_53) ∧ (PropP h z (vp 60 0) (vs 3) x42 (vs_53 3)) from ⟨⟨⟨hT, hG, hI, hI2, (by rw [← hv53]; exact hJ), hJi, hJj⟩, hFz⟩, (Or.inr ⟨by omega, Or.inr ⟨by omega, e42, by rw [← hv53]; rfl⟩⟩)⟩), by rw [ht]; exact hP, hD⟩, hS.F ht⟩) hS.2.2 dX9_prop_55
    · have c28_ := i_ne c28
      replace h25 := or_y h25 c28_
      clear c28_
      refine lv_ldc hx hb hown lk5 dX9_prop_31 ?_
      subst hQ
      exact W.iret (v := (-1000000002)) hx hb hr (fun t ht hW => ⟨⟨(-1000000002), (vs), rfl, (show ((TgA v vp vq vs vi vj) ∧ fr [3] vs vs) ∧ (PropP h z (vp 60 0) (vs 3) ((-1000000002) : Int32) (vs 3)) from ⟨⟨hTA, hFz⟩, (Or.inr ⟨by omega, Or.inl ⟨by omega, by omega, rfl⟩⟩)⟩), by rw [ht]; exact hP, hD⟩, hS.F ht⟩) hS.2.2 dX9_prop_33
  · have c14_ := i_eq c14
    replace h11 := or_n h11 c14_
    refine lv_ldc hx hb hown lk6 dX9_prop_17 ?_
    subst hQ
    exact W.iret (v := (-1000000001)) hx hb hr (fun t ht hW => ⟨⟨(-1000000001), (vs), rfl, (show ((TgA v vp vq vs vi vj) ∧ fr [3] vs vs) ∧ (PropP h z (vp 60 0) (vs 3) ((-1000000001) : Int32) (vs 3)) from ⟨⟨hTA, hFz⟩, (Or.inl ⟨by omega, by omega, rfl⟩)⟩), by rw [ht]; exact hP, hD⟩, hS.F ht⟩) hS.2.2 dX9_prop_19
def rm_X9_shift : Room := { frames := 2, cells := 0, slots := 0, locals := 43 }
set_option maxHeartbeats 4000000 in
set_option maxRecDepth 100000 in
theorem c_X9_shift (l : Launch) (E : Ev) (sz : Nat) (a : Nat → Nat) (v : Vf) (cz0 : Nat) (cz1 : Nat) (rt : Value) (rp : Value) (aq : Nat → Nat) (vq : Vf) (ap : Nat → Nat) (vp : Vf) (as_ : Nat → Nat) (vs : Vf) (ai : Nat → Nat) (vi : Vf) (bi : Nat → Nat) (vj : Vf) (i : Int32) (z : Int32) (hTA : TgA v vp vq vs vi vj) : Met l yX9_shift wsX9_shift rm_X9_shift (MtP E sz [.ref (a 99), .int i, .int z] (tgL E a v cz0 cz1 rt rp aq vq ap vp as_ vs ai vi bi vj)) (va_Qi (fun (r : Int32) (u : Vf) => ((TgA v vp vq u vi vj) ∧ fr [1] vs u) ∧ (ShiftP i z (vp 5 0) (fun j => vp (20 + 10 * j) 0) (vs 1) r (u 1))) (MtB E (va_A (tgL E a v cz0 cz1 rt rp aq vq ap vp as_ vs ai vi bi vj) sz) (fun u => tgL E a v cz0 cz1 rt rp aq vq ap vp as_ u ai vi bi vj)) (va_A (tgL E a v cz0 cz1 rt rp aq vq ap vp as_ vs ai vi bi vj) sz)) 0 0 (va_A (tgL E a v cz0 cz1 rt rp aq vq ap vp as_ vs ai vi bi vj) sz) := by
  refine Met.ofW (cc := cX9_shift) (maxL := 4) (ret := (some .int)) (by decide) rfl ?_
  intro p e s m args below meth c s₁ B hml hv
  obtain ⟨rfl, hsz, hE, hP, hD0⟩ := hv
  subst hsz
  have hD := hD0.self (sz := s.heap.size)
  generalize hAe : va_A (tgL E a v cz0 cz1 rt rp aq vq ap vp as_ vs ai vi bi vj) s.heap.size = A at hD hE ⊢
  have hA : ∀ q : Nat, s.heap.size ≤ q → A q := fun q h => by rw [← hAe]; exact Or.inr h
  have hS : va_S A s.heap s.heap [] := va_S.rf
  have hx := B.exec
  have hb := B.bytes
  have hr := B.returns
  have hts := atoms_spec (ws := wsX9_shift) B.pre
  have hown : s.vm.findClass RX9 = some m.cls := findClass_of_methodNamed B.named
  have hlocks := B.notSynchronized
  have hK := hE.1
  have in_X9 : ∀ w ∈ u_ws RX9 TX9 13, w ∈ wsX9_shift := fun w h => List.mem_cons_of_mem _ (List.mem_append_left _ (List.mem_append_left _ (List.mem_append_left _ (List.mem_append_left _ (List.mem_append_right _ h)))))
  have in_X6 : ∀ w ∈ u_ws RX6 TX6 9, w ∈ wsX9_shift := fun w h => List.mem_cons_of_mem _ (List.mem_append_left _ (List.mem_append_left _ (List.mem_append_left _ (List.mem_append_right _ h))))
  have in_X8 : ∀ w ∈ u_ws RX8 TX8 2, w ∈ wsX9_shift := fun w h => List.mem_cons_of_mem _ (List.mem_append_left _ (List.mem_append_left _ (List.mem_append_right _ h)))
  have in_X1 : ∀ w ∈ u_ws RX1 TX1 11, w ∈ wsX9_shift := fun w h => List.mem_cons_of_mem _ (List.mem_append_left _ (List.mem_append_right _ h))
  have in_X0 : ∀ w ∈ u_ws RX0 TX0 5, w ∈ wsX9_shift := fun w h => List.mem_cons_of_mem _ (List.mem_append_right _ h)
  have lk0 := hts (.fieldLink RX9 34 "TidedGround" "now" "LTidedGround$State;") (List.mem_of_getElem? (i := 3) rfl)
  have lk1 := hts (.fieldLink RX9 204 "TidedGround$State" "shifts" "[I") (List.mem_of_getElem? (i := 4) rfl)
  have lk2 := hts (.fieldLink RX9 43 "TidedGround" "world" "LTidedGround$World;") (List.mem_of_getElem? (i := 5) rfl)
  have lk3 := hts (.fieldLink RX9 91 "TidedGround$World" "plan" "LTidedGround$Plan;") (List.mem_of_getElem? (i := 6) rfl)
  have lk4 := hts (.fieldLink RX9 189 "TidedGround$Plan" "moons" "[LTidedGround$Moon;") (List.mem_of_getElem? (i := 7) rfl)
  have lk5 := hts (.fieldLink RX9 193 "TidedGround$Moon" "size" "I") (List.mem_of_getElem? (i := 8) rfl)
  have lk6 := hts (.constant RX9 81 (-1000000002)) (List.mem_of_getElem? (i := 2) rfl)
  have lk7 := hts (.constant RX9 161 (-1000000001)) (List.mem_of_getElem? (i := 1) rfl)
  have n_m1000000002 : ((-1000000002) : Int32).toInt = -1000000002 := by decide
  have n_m1000000001 : ((-1000000001) : Int32).toInt = -1000000001 := by decide
  have n_0 : (0 : Int32).toInt = 0 := by decide
  have n_1 : (1 : Int32).toInt = 1 := by decide
  have n_2 : (2 : Int32).toInt = 2 := by decide
  have n_999 : (999 : Int32).toInt = 999 := by decide
  have hl := lv_entry ([.ref (a 99), .int i, .int z]) (n := 4) (Nat.le_of_ble_eq_true rfl)
  rw [lg_entry_eq]
  generalize (lg_sl ([.ref (a 99), .int i, .int z]) ++ List.replicate (4 - (lg_sl ([.ref (a 99), .int i, .int z])).length) Slot.unset).toArray = ls at hl ⊢
  have hl : lv_has ls 4 [(0, .ref (a 99)), (1, .int i), (2, .int z)] := hl
  refine W_abs (fun Q hQ => ?_)
  obtain ⟨hT, hG, hI, hI2, hJ, hJi, hJj⟩ := id hTA
  obtain ⟨hT1, hT2⟩ := id hT
  have hJ_vs := hJ
  have hJ_vi := hJi
  have hJ_vj := hJj
  obtain ⟨hg, hmc, hm0, hm1, hm2, hs0, hs1, hs2, hs3⟩ := id hI
  obtain ⟨hg1, hg2, hg3, hg4⟩ := id hg
  have hz0 := hm0.1
  have hz1 := hm1.1
  have hz2 := hm2.1
  have hc0 := hs0.1
  have hc1 := hs1.1
  have hc2 := hs2.1
  have hc3 := hs3.1
  obtain ⟨hj0, hj1, hj2⟩ := id hJ
  have hg5 : 0 ≤ (vp 2 0).toInt := by rw [hg3]; exact Int.mul_nonneg hg1.1 hg2.1
  have hG1 := hG.1
  have hG4 := hG.2.2.2
  have hFz : fr [1] vs vs := fr.rf
  refine lv_aload_n hx hb dX9_shift_0 rfl (lv_at hl 0 rfl) ?_
  refine lv_iload_n hx hb dX9_shift_1 rfl (lv_at hl 1 rfl) ?_
  refine rd_V (As := [.int i]) (rest := []) (C := RX9) (ci := 9) ⟨hx, hb, hml, hown, hts⟩ (c_X9_isNoMoon l E A (up1 (up1 a 201 cz0) 202 cz1) v aq ap vp as_ vs i hI hJ hT) (cwV 1 hts gX9_shift_X9_isNoMoon rfl rfl rfl (by decide +kernel) ⟨Nat.le_of_ble_eq_true rfl, Nat.le_of_ble_eq_true rfl⟩) (hE.kept hS.2.1) (hP.sub (ws' := tgsL E (up1 (up1 a 201 cz0) 202 cz1) v aq ap vp as_ vs) [0, 2, 5, 8, 12, 18, 19, 20, 21, 22, 23, 24, 25, 26, 27, 28, 29, 30, 31, 32, 33, 34, 35, 36, 37, 38, 39, 40, 41, 42, 43, 44, 45, 46, 47, 48, 49, 50, 51] rfl) rfl rfl rfl rfl hl.1 rfl (Nat.le_of_ble_eq_true rfl) dX9_shift_2 ⟨Nat.zero_le _, Nat.zero_le _⟩ (fun r2 h2 => ?_)
  refine lv_if_eq (tgt := 11) hx hb dX9_shift_5 (by decide) (fun c5 => ?_) (fun c5 => ?_)
  · have c5_ := i_eq c5
    replace h2 := or_n h2 c5_
    refine lv_iload_n hx hb dX9_shift_11 rfl (lv_at hl 2 rfl) ?_
    refine lv_iconst (v := 0) hx hb dX9_shift_12 (by decide) ?_
    refine lv_sipush (v := 999) hx hb dX9_shift_13 (by decide) ?_
    refine rd_S (As := [.int z, .int 0, .int 999]) (rest := []) ⟨hx, hb, hml, hown, hts⟩ (c_X9_isOff l E A z 0 999) (va_cwS 3 hts gX9_shift_X9_isOff rfl rfl rfl (by decide +kernel) ⟨Nat.le_of_ble_eq_true rfl, Nat.le_of_ble_eq_true rfl⟩) (hE.kept hS.2.1) (hP.sub (ws' := []) [] rfl) rfl hl.1 rfl (Nat.le_of_ble_eq_true rfl) dX9_shift_16 ⟨Nat.zero_le _, Nat.zero_le _⟩ (fun r16 h16 => ?_)
    refine lv_if_eq (tgt := 25) hx hb dX9_shift_19 (by decide) (fun c19 => ?_) (fun c19 => ?_)
    · have c19_ := i_eq c19
      replace h16 := or_n h16 c19_
      rcases (show i = 0 ∨ i = 1 ∨ i = 2 from i_c3 (by omega) (by omega)) with rfl | rfl | rfl
      · have sv25_z : 0 ≤ z.toInt ∧ z.toInt ≤ 999 := by omega
        refine lv_aload_n hx hb dX9_shift_25 rfl (lv_at hl 0 rfl) ?_
        refine va_get (D := eD E) (ci := 9) (v := .ref (as_ 0)) (C := RX9) (T := TX9) (N := 13) hx hb hts in_X9 hown hK hP 0 rfl rfl 6 (by decide) lk0 (fun _ h9 => h9) rfl dX9_shift_26 ?_
        refine va_get (D := eD E) (ci := 6) (v := .ref (as_ 1)) (C := RX6) (T := TX6) (N := 9) hx hb hts in_X6 hown hK hP 48 rfl rfl 1 (by decide) lk1 (fun _ h9 => h9) rfl dX9_shift_29 ?_
        refine lv_iload_n hx hb dX9_shift_32 rfl (lv_at hl 1 rfl) ?_
        refine va_iald hx hb hK hP 49 0 rfl rfl (n := 3) (f := (vs 1)) (i_in (by omega) (by omega)) dX9_shift_33 ?_
        refine lv_topi (fun x33 e33 => ?_)
        have e33 : x33 = (vs 1) 0 := e33
        have b33 := hj1 0 (by decide)
        rw [← e33] at b33
        refine lv_istore_n (lv' := [(3, .int x33), (0, .ref (a 99)), (1, .int 0), (2, .int z)]) hx hb dX9_shift_34 rfl hl (by decide) rfl (fun ls hl => ?_)
        refine lv_aload_n hx hb dX9_shift_35 rfl (lv_at hl 1 rfl) ?_
        refine va_get (D := eD E) (ci := 9) (v := .ref (as_ 0)) (C := RX9) (T := TX9) (N := 13) hx hb hts in_X9 hown hK hP 0 rfl rfl 6 (by decide) lk0 (fun _ h9 => h9) rfl dX9_shift_36 ?_
        refine va_get (D := eD E) (ci := 6) (v := .ref (as_ 1)) (C := RX6) (T := TX6) (N := 9) hx hb hts in_X6 hown hK hP 48 rfl rfl 1 (by decide) lk1 (fun _ h9 => h9) rfl dX9_shift_39 ?_
        refine lv_iload_n hx hb dX9_shift_42 rfl (lv_at hl 2 rfl) ?_
        refine lv_iload_n hx hb dX9_shift_43 rfl (lv_at hl 3 rfl) ?_
        refine lv_aload_n hx hb dX9_shift_44 rfl (lv_at hl 1 rfl) ?_
        refine va_get (D := eD E) (ci := 9) (v := .ref (a 5)) (C := RX9) (T := TX9) (N := 13) hx hb hts in_X9 hown hK hP 0 rfl rfl 5 (by decide) lk2 (fun _ h9 => h9) rfl dX9_shift_45 ?_
        refine va_get (D := eD E) (ci := 8) (v := .ref (ap 0)) (C := RX8) (T := TX8) (N := 2) hx hb hts in_X8 hown hK hP 18 rfl rfl 0 (by decide) lk3 (fun _ h9 => h9) rfl dX9_shift_48 ?_
        refine va_get (D := eD E) (ci := 1) (v := .ref (ap 6)) (C := RX1) (T := TX1) (N := 11) hx hb hts in_X1 hown hK hP 19 rfl rfl 6 (by decide) lk4 (fun _ h9 => h9) rfl dX9_shift_51 ?_
        refine lv_iload_n hx hb dX9_shift_54 rfl (lv_at hl 2 rfl) ?_
        refine va_aldq hx hb hK hP 22 2 rfl rfl (i_in (by decide) (by decide)) dX9_shift_55 ?_
        refine W.eq (g2 := F0 m 56 ls [.ref (ap 20), .int z, .int 0, .ref (as_ 1)]) rfl ?_
        refine va_get (D := eD E) (ci := 0) (v := .int (vp 20 0)) (C := RX0) (T := TX0) (N := 5) hx hb hts in_X0 hown hK hP 23 rfl rfl 0 (by decide) lk5 (fun _ h9 => h9) rfl dX9_shift_56 ?_
        refine rd_S (As := [.int z, .int (vp 20 0)]) (rest := [.int 0, .ref (as_ 1)]) ⟨hx, hb, hml, hown, hts⟩ (c_X9_leftOver l E A z (vp 20 0) (by omega)) (va_cwS 2 hts gX9_shift_X9_leftOver rfl rfl rfl (by decide +kernel) ⟨Nat.le_of_ble_eq_true rfl, Nat.le_of_ble_eq_true rfl⟩) (hE.kept hS.2.1) (hP.sub (ws' := []) [] rfl) rfl hl.1 rfl (Nat.le_of_ble_eq_true rfl) dX9_shift_59 ⟨Nat.zero_le _, Nat.zero_le _⟩ (fun r59 h59 => ?_)
        have hf59 := h59.2
        replace h59 := h59.1
        refine va_iast hx hb hK hP hD hS 49 0 rfl rfl (n := 3) (f := (vs 1)) (i_in (by omega) (by omega)) dX9_shift_62 (fun H locs hP hD hS => ?_)
        replace hP : va_P (eD E) vwCl (tgL E a v cz0 cz1 rt rp aq vq ap vp as_ (up2 vs 1 0 r59) ai vi bi vj) H := hP
        replace hD : va_D A (tgL E a v cz0 cz1 rt rp aq vq ap vp as_ (up2 vs 1 0 r59) ai vi bi vj) := hD
        generalize hv62 : up2 vs 1 0 r59 = vs_62 at hP hD
        have hFz : fr [1] vs vs_62 := by first | exact hFz | (rw [← hv62]; exact hFz.up (by decide))
        refine lv_iload_n hx hb dX9_shift_63 rfl (lv_at hl 0 rfl) ?_
        subst hQ
        exact W.iret (v := x33) hx hb hr (fun t ht hW => ⟨⟨x33, (vs_62), rfl, (show ((TgA v vp vq vs_62 vi vj) ∧ fr [1] vs vs_62) ∧ (ShiftP (0 : Int32) z (vp 5 0) (fun j => vp (20 + 10 * j) 0) (vs 1) x33 (vs_62 1)) from ⟨⟨⟨hT, hG, hI, hI2, (by rw [← hv62]; exact ⟨hJ.1, upd_b (lo := 0) (hi := 8) hJ.2.1 (by omega) (by omega), hJ.2.2⟩), hJi, hJj⟩, hFz⟩, (Or.inr ⟨by omega, Or.inr ⟨by omega, e33, r59, hf59 (by omega), by rw [← hv62]; rfl⟩⟩)⟩), by rw [ht]; exact hP, hD⟩, hS.F ht⟩) hS.2.2 dX9_shift_64
      · have sv25_z : 0 ≤ z.toInt ∧ z.toInt ≤ 999 := by omega
        refine lv_aload_n hx hb dX9_shift_25 rfl (lv_at hl 0 rfl) ?_
        refine va_get (D := eD E) (ci := 9) (v := .ref (as_ 0)) (C := RX9) (T := TX9) (N := 13) hx hb hts in_X9 hown hK hP 0 rfl rfl 6 (by decide) lk0 (fun _ h9 => h9) rfl dX9_shift_26 ?_
        refine va_get (D := eD E) (ci := 6) (v := .ref (as_ 1)) (C := RX6) (T := TX6) (N := 9) hx hb hts in_X6 hown hK hP 48 rfl rfl 1 (by decide) lk1 (fun _ h9 => h9) rfl dX9_shift_29 ?_
        refine lv_iload_n hx hb dX9_shift_32 rfl (lv_at hl 1 rfl) ?_
        refine va_iald hx hb hK hP 49 0 rfl rfl (n := 3) (f := (vs 1)) (i_in (by omega) (by omega)) dX9_shift_33 ?_
        refine lv_topi (fun x33 e33 => ?_)
        have e33 : x33 = (vs 1) 1 := e33
        have b33 := hj1 1 (by decide)
        rw [← e33] at b33
        refine lv_istore_n (lv' := [(3, .int x33), (0, .ref (a 99)), (1, .int 1), (2, .int z)]) hx hb dX9_shift_34 rfl hl (by decide) rfl (fun ls hl => ?_)
        refine lv_aload_n hx hb dX9_shift_35 rfl (lv_at hl 1 rfl) ?_
        refine va_get (D := eD E) (ci := 9) (v := .ref (as_ 0)) (C := RX9) (T := TX9) (N := 13) hx hb hts in_X9 hown hK hP 0 rfl rfl 6 (by decide) lk0 (fun _ h9 => h9) rfl dX9_shift_36 ?_
        refine va_get (D := eD E) (ci := 6) (v := .ref (as_ 1)) (C := RX6) (T := TX6) (N := 9) hx hb hts in_X6 hown hK hP 48 rfl rfl 1 (by decide) lk1 (fun _ h9 => h9) rfl dX9_shift_39 ?_
        refine lv_iload_n hx hb dX9_shift_42 rfl (lv_at hl 2 rfl) ?_
        refine lv_iload_n hx hb dX9_shift_43 rfl (lv_at hl 3 rfl) ?_
        refine lv_aload_n hx hb dX9_shift_44 rfl (lv_at hl 1 rfl) ?_
        refine va_get (D := eD E) (ci := 9) (v := .ref (a 5)) (C := RX9) (T := TX9) (N := 13) hx hb hts in_X9 hown hK hP 0 rfl rfl 5 (by decide) lk2 (fun _ h9 => h9) rfl dX9_shift_45 ?_
        refine va_get (D := eD E) (ci := 8) (v := .ref (ap 0)) (C := RX8) (T := TX8) (N := 2) hx hb hts in_X8 hown hK hP 18 rfl rfl 0 (by decide) lk3 (fun _ h9 => h9) rfl dX9_shift_48 ?_
        refine va_get (D := eD E) (ci := 1) (v := .ref (ap 6)) (C := RX1) (T := TX1) (N := 11) hx hb hts in_X1 hown hK hP 19 rfl rfl 6 (by decide) lk4 (fun _ h9 => h9) rfl dX9_shift_51 ?_
        refine lv_iload_n hx hb dX9_shift_54 rfl (lv_at hl 2 rfl) ?_
        refine va_aldq hx hb hK hP 22 2 rfl rfl (i_in (by decide) (by decide)) dX9_shift_55 ?_
        refine W.eq (g2 := F0 m 56 ls [.ref (ap 30), .int z, .int 1, .ref (as_ 1)]) rfl ?_
        refine va_get (D := eD E) (ci := 0) (v := .int (vp 30 0)) (C := RX0) (T := TX0) (N := 5) hx hb hts in_X0 hown hK hP 26 rfl rfl 0 (by decide) lk5 (fun _ h9 => h9) rfl dX9_shift_56 ?_
        refine rd_S (As := [.int z, .int (vp 30 0)]) (rest := [.int 1, .ref (as_ 1)]) ⟨hx, hb, hml, hown, hts⟩ (c_X9_leftOver l E A z (vp 30 0) (by omega)) (va_cwS 2 hts gX9_shift_X9_leftOver rfl rfl rfl (by decide +kernel) ⟨Nat.le_of_ble_eq_true rfl, Nat.le_of_ble_eq_true rfl⟩) (hE.kept hS.2.1) (hP.sub (ws' := []) [] rfl) rfl hl.1 rfl (Nat.le_of_ble_eq_true rfl) dX9_shift_59 ⟨Nat.zero_le _, Nat.zero_le _⟩ (fun r59 h59 => ?_)
        have hf59 := h59.2
        replace h59 := h59.1
        refine va_iast hx hb hK hP hD hS 49 0 rfl rfl (n := 3) (f := (vs 1)) (i_in (by omega) (by omega)) dX9_shift_62 (fun H locs hP hD hS => ?_)
        replace hP : va_P (eD E) vwCl (tgL E a v cz0 cz1 rt rp aq vq ap vp as_ (up2 vs 1 1 r59) ai vi bi vj) H := hP
        replace hD : va_D A (tgL E a v cz0 cz1 rt rp aq vq ap vp as_ (up2 vs 1 1 r59) ai vi bi vj) := hD
        generalize hv62 : up2 vs 1 1 r59 = vs_62 at hP hD
        have hFz : fr [1] vs vs_62 := by first | exact hFz | (rw [← hv62]; exact hFz.up (by decide))
        refine lv_iload_n hx hb dX9_shift_63 rfl (lv_at hl 0 rfl) ?_
        subst hQ
        exact W.iret (v := x33) hx hb hr (fun t ht hW => ⟨⟨x33, (vs_62), rfl, (show ((TgA v vp vq vs_62 vi vj) ∧ fr [1] vs vs_62) ∧ (ShiftP (1 : Int32) z (vp 5 0) (fun j => vp (20 + 10 * j) 0) (vs 1) x33 (vs_62 1)) from ⟨⟨⟨hT, hG, hI, hI2, (by rw [← hv62]; exact ⟨hJ.1, upd_b (lo := 0) (hi := 8) hJ.2.1 (by omega) (by omega), hJ.2.2⟩), hJi, hJj⟩, hFz⟩, (Or.inr ⟨by omega, Or.inr ⟨by omega, e33, r59, hf59 (by omega), by rw [← hv62]; rfl⟩⟩)⟩), by rw [ht]; exact hP, hD⟩, hS.F ht⟩) hS.2.2 dX9_shift_64
      · have sv25_z : 0 ≤ z.toInt ∧ z.toInt ≤ 999 := by omega
        refine lv_aload_n hx hb dX9_shift_25 rfl (lv_at hl 0 rfl) ?_
        refine va_get (D := eD E) (ci := 9) (v := .ref (as_ 0)) (C := RX9) (T := TX9) (N := 13) hx hb hts in_X9 hown hK hP 0 rfl rfl 6 (by decide) lk0 (fun _ h9 => h9) rfl dX9_shift_26 ?_
        refine va_get (D := eD E) (ci := 6) (v := .ref (as_ 1)) (C := RX6) (T := TX6) (N := 9) hx hb hts in_X6 hown hK hP 48 rfl rfl 1 (by decide) lk1 (fun _ h9 => h9) rfl dX9_shift_29 ?_
        refine lv_iload_n hx hb dX9_shift_32 rfl (lv_at hl 1 rfl) ?_
        refine va_iald hx hb hK hP 49 0 rfl rfl (n := 3) (f := (vs 1)) (i_in (by omega) (by omega)) dX9_shift_33 ?_
        refine lv_topi (fun x33 e33 => ?_)
        have e33 : x33 = (vs 1) 2 := e33
        have b33 := hj1 2 (by decide)
        rw [← e33] at b33
        refine lv_istore_n (lv' := [(3, .int x33), (0, .ref (a 99)), (1, .int 2), (2, .int z)]) hx hb dX9_shift_34 rfl hl (by decide) rfl (fun ls hl => ?_)
        refine lv_aload_n hx hb dX9_shift_35 rfl (lv_at hl 1 rfl) ?_
        refine va_get (D := eD E) (ci := 9) (v := .ref (as_ 0)) (C := RX9) (T := TX9) (N := 13) hx hb hts in_X9 hown hK hP 0 rfl rfl 6 (by decide) lk0 (fun _ h9 => h9) rfl dX9_shift_36 ?_
        refine va_get (D := eD E) (ci := 6) (v := .ref (as_ 1)) (C := RX6) (T := TX6) (N := 9) hx hb hts in_X6 hown hK hP 48 rfl rfl 1 (by decide) lk1 (fun _ h9 => h9) rfl dX9_shift_39 ?_
        refine lv_iload_n hx hb dX9_shift_42 rfl (lv_at hl 2 rfl) ?_
        refine lv_iload_n hx hb dX9_shift_43 rfl (lv_at hl 3 rfl) ?_
        refine lv_aload_n hx hb dX9_shift_44 rfl (lv_at hl 1 rfl) ?_
        refine va_get (D := eD E) (ci := 9) (v := .ref (a 5)) (C := RX9) (T := TX9) (N := 13) hx hb hts in_X9 hown hK hP 0 rfl rfl 5 (by decide) lk2 (fun _ h9 => h9) rfl dX9_shift_45 ?_
        refine va_get (D := eD E) (ci := 8) (v := .ref (ap 0)) (C := RX8) (T := TX8) (N := 2) hx hb hts in_X8 hown hK hP 18 rfl rfl 0 (by decide) lk3 (fun _ h9 => h9) rfl dX9_shift_48 ?_
        refine va_get (D := eD E) (ci := 1) (v := .ref (ap 6)) (C := RX1) (T := TX1) (N := 11) hx hb hts in_X1 hown hK hP 19 rfl rfl 6 (by decide) lk4 (fun _ h9 => h9) rfl dX9_shift_51 ?_
        refine lv_iload_n hx hb dX9_shift_54 rfl (lv_at hl 2 rfl) ?_
        refine va_aldq hx hb hK hP 22 2 rfl rfl (i_in (by decide) (by decide)) dX9_shift_55 ?_
        refine W.eq (g2 := F0 m 56 ls [.ref (ap 40), .int z, .int 2, .ref (as_ 1)]) rfl ?_
        refine va_get (D := eD E) (ci := 0) (v := .int (vp 40 0)) (C := RX0) (T := TX0) (N := 5) hx hb hts in_X0 hown hK hP 29 rfl rfl 0 (by decide) lk5 (fun _ h9 => h9) rfl dX9_shift_56 ?_
        refine rd_S (As := [.int z, .int (vp 40 0)]) (rest := [.int 2, .ref (as_ 1)]) ⟨hx, hb, hml, hown, hts⟩ (c_X9_leftOver l E A z (vp 40 0) (by omega)) (va_cwS 2 hts gX9_shift_X9_leftOver rfl rfl rfl (by decide +kernel) ⟨Nat.le_of_ble_eq_true rfl, Nat.le_of_ble_eq_true rfl⟩) (hE.kept hS.2.1) (hP.sub (ws' := []) [] rfl) rfl hl.1 rfl (Nat.le_of_ble_eq_true rfl) dX9_shift_59 ⟨Nat.zero_le _, Nat.zero_le _⟩ (fun r59 h59 => ?_)
        have hf59 := h59.2
        replace h59 := h59.1
        refine va_iast hx hb hK hP hD hS 49 0 rfl rfl (n := 3) (f := (vs 1)) (i_in (by omega) (by omega)) dX9_shift_62 (fun H locs hP hD hS => ?_)
        replace hP : va_P (eD E) vwCl (tgL E a v cz0 cz1 rt rp aq vq ap vp as_ (up2 vs 1 2 r59) ai vi bi vj) H := hP
        replace hD : va_D A (tgL E a v cz0 cz1 rt rp aq vq ap vp as_ (up2 vs 1 2 r59) ai vi bi vj) := hD
        generalize hv62 : up2 vs 1 2 r59 = vs_62 at hP hD
        have hFz : fr [1] vs vs_62 := by first | exact hFz | (rw [← hv62]; exact hFz.up (by decide))
        refine lv_iload_n hx hb dX9_shift_63 rfl (lv_at hl 0 rfl) ?_
        subst hQ
        exact W.iret (v := x33) hx hb hr (fun t ht hW => ⟨⟨x33, (vs_62), rfl, (show ((TgA v vp vq vs_62 vi vj) ∧ fr [1] vs vs_62) ∧ (ShiftP (2 : Int32) z (vp 5 0) (fun j => vp (20 + 10 * j) 0) (vs 1) x33 (vs_62 1)) from ⟨⟨⟨hT, hG, hI, hI2, (by rw [← hv62]; exact ⟨hJ.1, upd_b (lo := 0) (hi := 8) hJ.2.1 (by omega) (by omega), hJ.2.2⟩), hJi, hJj⟩, hFz⟩, (Or.inr ⟨by omega, Or.inr ⟨by omega, e33, r59, hf59 (by omega), by rw [← hv62]; rfl⟩⟩)⟩), by rw [ht]; exact hP, hD⟩, hS.F ht⟩) hS.2.2 dX9_shift_64
    · have c19_ := i_ne c19
      replace h16 := or_y h16 c19_
      clear c19_
      refine lv_ldc hx hb hown lk6 dX9_shift_22 ?_
      subst hQ
      exact W.iret (v := (-1000000002)) hx hb hr (fun t ht hW => ⟨⟨(-1000000002), (vs), rfl, (show ((TgA v vp vq vs vi vj) ∧ fr [1] vs vs) ∧ (ShiftP i z (vp 5 0) (fun j => vp (20 + 10 * j) 0) (vs 1) ((-1000000002) : Int32) (vs 1)) from ⟨⟨hTA, hFz⟩, (Or.inr ⟨by omega, Or.inl ⟨by omega, by omega, rfl⟩⟩)⟩), by rw [ht]; exact hP, hD⟩, hS.F ht⟩) hS.2.2 dX9_shift_24
  · have c5_ := i_ne c5
    replace h2 := or_y h2 c5_
    clear c5_
    refine lv_ldc hx hb hown lk7 dX9_shift_8 ?_
    subst hQ
    exact W.iret (v := (-1000000001)) hx hb hr (fun t ht hW => ⟨⟨(-1000000001), (vs), rfl, (show ((TgA v vp vq vs vi vj) ∧ fr [1] vs vs) ∧ (ShiftP i z (vp 5 0) (fun j => vp (20 + 10 * j) 0) (vs 1) ((-1000000001) : Int32) (vs 1)) from ⟨⟨hTA, hFz⟩, (Or.inl ⟨by omega, by omega, rfl⟩)⟩), by rw [ht]; exact hP, hD⟩, hS.F ht⟩) hS.2.2 dX9_shift_10
def rm_X9_drift : Room := { frames := 5, cells := 0, slots := 0, locals := 119 }
set_option maxHeartbeats 4000000 in
set_option maxRecDepth 100000 in
theorem c_X9_drift (l : Launch) (E : Ev) (sz : Nat) (a : Nat → Nat) (v : Vf) (cz0 : Nat) (cz1 : Nat) (rt : Value) (rp : Value) (aq : Nat → Nat) (vq : Vf) (ap : Nat → Nat) (vp : Vf) (as_ : Nat → Nat) (vs : Vf) (ai : Nat → Nat) (vi : Vf) (bi : Nat → Nat) (vj : Vf) (n : Int32) (hTA : TgA v vp vq vs vi vj) : Met l yX9_drift wsX9_drift rm_X9_drift (MtP E sz [.ref (a 99), .int n] (tgL E a v cz0 cz1 rt rp aq vq ap vp as_ vs ai vi bi vj)) (va_Qi (fun (r : Int32) (u : Vf) => ((TgA v vp vq u vi vj) ∧ fr [0, 2, 4, 5, 7] vs u) ∧ (∀ vm : Vf, RW vm vp vs → (-1 : Int32) = vm 62 0 → DriP vm n r (u = vs) (RW (drN vm n.toNatClampNeg) vp u))) (MtB E (va_A (tgL E a v cz0 cz1 rt rp aq vq ap vp as_ vs ai vi bi vj) sz) (fun u => tgL E a v cz0 cz1 rt rp aq vq ap vp as_ u ai vi bi vj)) (va_A (tgL E a v cz0 cz1 rt rp aq vq ap vp as_ vs ai vi bi vj) sz)) 0 0 (va_A (tgL E a v cz0 cz1 rt rp aq vq ap vp as_ vs ai vi bi vj) sz) := by
  refine Met.ofW (cc := cX9_drift) (maxL := 3) (ret := (some .int)) (by decide) rfl ?_
  intro p e s m args below meth c s₁ B hml hv
  obtain ⟨rfl, hsz, hE, hP, hD0⟩ := hv
  subst hsz
  have hD := hD0.self (sz := s.heap.size)
  generalize hAe : va_A (tgL E a v cz0 cz1 rt rp aq vq ap vp as_ vs ai vi bi vj) s.heap.size = A at hD hE ⊢
  have hA : ∀ q : Nat, s.heap.size ≤ q → A q := fun q h => by rw [← hAe]; exact Or.inr h
  have hS : va_S A s.heap s.heap [] := va_S.rf
  have hx := B.exec
  have hb := B.bytes
  have hr := B.returns
  have hts := atoms_spec (ws := wsX9_drift) B.pre
  have hown : s.vm.findClass RX9 = some m.cls := findClass_of_methodNamed B.named
  have hlocks := B.notSynchronized
  have hK := hE.1
  have in_X9 : ∀ w ∈ u_ws RX9 TX9 13, w ∈ wsX9_drift := fun w h => List.mem_cons_of_mem _ (List.mem_append_left _ (List.mem_append_left _ (List.mem_append_left _ (List.mem_append_left _ (List.mem_append_left _ (List.mem_append_right _ h))))))
  have in_X8 : ∀ w ∈ u_ws RX8 TX8 2, w ∈ wsX9_drift := fun w h => List.mem_cons_of_mem _ (List.mem_append_left _ (List.mem_append_left _ (List.mem_append_left _ (List.mem_append_left _ (List.mem_append_right _ h)))))
  have in_X1 : ∀ w ∈ u_ws RX1 TX1 11, w ∈ wsX9_drift := fun w h => List.mem_cons_of_mem _ (List.mem_append_left _ (List.mem_append_left _ (List.mem_append_left _ (List.mem_append_right _ h))))
  have in_X6 : ∀ w ∈ u_ws RX6 TX6 9, w ∈ wsX9_drift := fun w h => List.mem_cons_of_mem _ (List.mem_append_left _ (List.mem_append_left _ (List.mem_append_right _ h)))
  have lk0 := hts (.fieldLink RX9 43 "TidedGround" "world" "LTidedGround$World;") (List.mem_of_getElem? (i := 2) rfl)
  have lk1 := hts (.fieldLink RX9 91 "TidedGround$World" "plan" "LTidedGround$Plan;") (List.mem_of_getElem? (i := 3) rfl)
  have lk2 := hts (.fieldLink RX9 97 "TidedGround$Plan" "cells" "I") (List.mem_of_getElem? (i := 4) rfl)
  have lk3 := hts (.fieldLink RX9 34 "TidedGround" "now" "LTidedGround$State;") (List.mem_of_getElem? (i := 6) rfl)
  have lk4 := hts (.fieldLink RX9 137 "TidedGround$State" "step" "I") (List.mem_of_getElem? (i := 7) rfl)
  have lk5 := hts (.constant RX9 250 899000) (List.mem_of_getElem? (i := 8) rfl)
  have lk6 := hts (.fieldLink RX9 144 "TidedGround$State" "cart" "I") (List.mem_of_getElem? (i := 10) rfl)
  have lk7 := hts (.constant RX9 85 (-1000000004)) (List.mem_of_getElem? (i := 9) rfl)
  have lk8 := hts (.constant RX9 236 (-1000000003)) (List.mem_of_getElem? (i := 5) rfl)
  have lk9 := hts (.constant RX9 81 (-1000000002)) (List.mem_of_getElem? (i := 1) rfl)
  have n_m1000000004 : ((-1000000004) : Int32).toInt = -1000000004 := by decide
  have n_m1000000003 : ((-1000000003) : Int32).toInt = -1000000003 := by decide
  have n_m1000000002 : ((-1000000002) : Int32).toInt = -1000000002 := by decide
  have n_0 : (0 : Int32).toInt = 0 := by decide
  have n_1 : (1 : Int32).toInt = 1 := by decide
  have n_99 : (99 : Int32).toInt = 99 := by decide
  have n_899000 : (899000 : Int32).toInt = 899000 := by decide
  have hl := lv_entry ([.ref (a 99), .int n]) (n := 3) (Nat.le_of_ble_eq_true rfl)
  rw [lg_entry_eq]
  generalize (lg_sl ([.ref (a 99), .int n]) ++ List.replicate (3 - (lg_sl ([.ref (a 99), .int n])).length) Slot.unset).toArray = ls at hl ⊢
  have hl : lv_has ls 3 [(0, .ref (a 99)), (1, .int n)] := hl
  refine W_abs (fun Q hQ => ?_)
  obtain ⟨hT, hG, hI, hI2, hJ, hJi, hJj⟩ := id hTA
  obtain ⟨hT1, hT2⟩ := id hT
  have hJ_vs := hJ
  have hJ_vi := hJi
  have hJ_vj := hJj
  obtain ⟨hg, hmc, hm0, hm1, hm2, hs0, hs1, hs2, hs3⟩ := id hI
  obtain ⟨hg1, hg2, hg3, hg4⟩ := id hg
  have hz0 := hm0.1
  have hz1 := hm1.1
  have hz2 := hm2.1
  have hc0 := hs0.1
  have hc1 := hs1.1
  have hc2 := hs2.1
  have hc3 := hs3.1
  obtain ⟨hj0, hj1, hj2⟩ := id hJ
  have hg5 : 0 ≤ (vp 2 0).toInt := by rw [hg3]; exact Int.mul_nonneg hg1.1 hg2.1
  have hG1 := hG.1
  have hG4 := hG.2.2.2
  have hFz : fr [0, 2, 4, 5, 7] vs vs := fr.rf
  refine lv_iload_n hx hb dX9_drift_0 rfl (lv_at hl 1 rfl) ?_
  refine lv_iconst (v := 1) hx hb dX9_drift_1 (by decide) ?_
  refine lv_bipush (v := 99) hx hb dX9_drift_2 (by decide) ?_
  refine rd_S (As := [.int n, .int 1, .int 99]) (rest := []) ⟨hx, hb, hml, hown, hts⟩ (c_X9_isOff l E A n 1 99) (va_cwS 3 hts gX9_drift_X9_isOff rfl rfl rfl (by decide +kernel) ⟨Nat.le_of_ble_eq_true rfl, Nat.le_of_ble_eq_true rfl⟩) (hE.kept hS.2.1) (hP.sub (ws' := []) [] rfl) rfl hl.1 rfl (Nat.le_of_ble_eq_true rfl) dX9_drift_4 ⟨Nat.zero_le _, Nat.zero_le _⟩ (fun r4 h4 => ?_)
  refine lv_if_eq (tgt := 13) hx hb dX9_drift_7 (by decide) (fun c7 => ?_) (fun c7 => ?_)
  · have c7_ := i_eq c7
    replace h4 := or_n h4 c7_
    have sv13_n : 1 ≤ n.toInt ∧ n.toInt ≤ 99 := by omega
    refine lv_aload_n hx hb dX9_drift_13 rfl (lv_at hl 0 rfl) ?_
    refine va_get (D := eD E) (ci := 9) (v := .ref (a 5)) (C := RX9) (T := TX9) (N := 13) hx hb hts in_X9 hown hK hP 0 rfl rfl 5 (by decide) lk0 (fun _ h9 => h9) rfl dX9_drift_14 ?_
    refine va_get (D := eD E) (ci := 8) (v := .ref (ap 0)) (C := RX8) (T := TX8) (N := 2) hx hb hts in_X8 hown hK hP 18 rfl rfl 0 (by decide) lk1 (fun _ h9 => h9) rfl dX9_drift_17 ?_
    refine va_get (D := eD E) (ci := 1) (v := .int (vp 2 0)) (C := RX1) (T := TX1) (N := 11) hx hb hts in_X1 hown hK hP 19 rfl rfl 2 (by decide) lk2 (fun _ h9 => h9) rfl dX9_drift_20 ?_
    refine lv_if_ne (tgt := 29) hx hb dX9_drift_23 (by decide) (fun c23 => ?_) (fun c23 => ?_)
    · have c23_ := i_ne c23
      refine lv_aload_n hx hb dX9_drift_29 rfl (lv_at hl 0 rfl) ?_
      refine va_get (D := eD E) (ci := 9) (v := .ref (as_ 0)) (C := RX9) (T := TX9) (N := 13) hx hb hts in_X9 hown hK hP 0 rfl rfl 6 (by decide) lk3 (fun _ h9 => h9) rfl dX9_drift_30 ?_
      refine va_get (D := eD E) (ci := 6) (v := .int (vs 0 0)) (C := RX6) (T := TX6) (N := 9) hx hb hts in_X6 hown hK hP 48 rfl rfl 0 (by decide) lk4 (fun _ h9 => h9) rfl dX9_drift_33 ?_
      refine lv_ldc hx hb hown lk5 dX9_drift_36 ?_
      refine lv_icmp_le (tgt := 44) hx hb dX9_drift_38 (by decide) (fun c38 => ?_) (fun c38 => ?_)
      · have c38_ := i_le c38
        refine lv_iconst (v := 0) hx hb dX9_drift_44 (by decide) ?_
        refine lv_istore_n (lv' := [(2, .int 0), (0, .ref (a 99)), (1, .int n)]) hx hb dX9_drift_45 rfl hl (by decide) rfl (fun ls hl => ?_)
        have K46 : ∀ (μ : Nat) (i : Int32) (vsk : Vf) (H : Heap) (locs : List Loc) (ls : Array Slot), (99 - i.toInt).toNat < μ → va_P (eD E) vwCl (tgL E a v cz0 cz1 rt rp aq vq ap vp as_ vsk ai vi bi vj) H → va_D A (tgL E a v cz0 cz1 rt rp aq vq ap vp as_ vsk ai vi bi vj) → va_S A s.heap H locs → (0 ≤ i.toInt ∧ i.toInt ≤ 99) → (StateI vsk) → ((vsk 0 0).toInt ≤ 899000 + i.toInt) → (fr [0, 2, 4, 5, 7] vs vsk) → (∀ vm : Vf, RW vm vp vs → (-1 : Int32) = vm 62 0 → RW (drN vm i.toNatClampNeg) vp vsk ∧ (-1 : Int32) = drN vm i.toNatClampNeg 62 0) → (i.toInt ≤ n.toInt) → lv_has ls 3 [(0, .ref (a 99)), (1, .int n), (2, .int i)] → W p l e (headSpec wsX9_drift rm_X9_drift).room s m ([.ref (a 99), .int n] : List Value).toArray below meth c H locs 0 0 Q (F0 m 46 ls []) := by
          intro μ
          induction μ with
          | zero =>
            intro i vsk H locs ls hμ46
            exact absurd hμ46 (Nat.not_lt_zero _)
          | succ μ ih46 =>
            intro i vsk H locs ls hμ46 hP hD hS h46_0 h46_1 h46_2 h46_3 h46_4 h46_5 hl
            have hx46_0 := h46_4
            clear h46_4
            have hx46_1 := h46_5
            clear h46_5
            have hJ := h46_1
            have hj2 := hJ.2.2
            have hFz := h46_3
            refine lv_iload_n hx hb dX9_drift_46 rfl (lv_at hl 2 rfl) ?_
            refine lv_iload_n hx hb dX9_drift_47 rfl (lv_at hl 1 rfl) ?_
            refine lv_icmp_ge (tgt := 64) hx hb dX9_drift_48 (by decide) (fun c48 => ?_) (fun c48 => ?_)
            · have c48_ := i_le c48
              refine lv_aload_n hx hb dX9_drift_64 rfl (lv_at hl 0 rfl) ?_
              refine va_get (D := eD E) (ci := 9) (v := .ref (a 5)) (C := RX9) (T := TX9) (N := 13) hx hb hts in_X9 hown hK hP 0 rfl rfl 5 (by decide) lk0 (fun _ h9 => h9) rfl dX9_drift_65 ?_
              refine va_get (D := eD E) (ci := 8) (v := .ref (ap 0)) (C := RX8) (T := TX8) (N := 2) hx hb hts in_X8 hown hK hP 18 rfl rfl 0 (by decide) lk1 (fun _ h9 => h9) rfl dX9_drift_68 ?_
              refine lv_aload_n hx hb dX9_drift_71 rfl (lv_at hl 0 rfl) ?_
              refine va_get (D := eD E) (ci := 9) (v := .ref (as_ 0)) (C := RX9) (T := TX9) (N := 13) hx hb hts in_X9 hown hK hP 0 rfl rfl 6 (by decide) lk3 (fun _ h9 => h9) rfl dX9_drift_72 ?_
              refine va_get (D := eD E) (ci := 6) (v := .int (vsk 4 0)) (C := RX6) (T := TX6) (N := 9) hx hb hts in_X6 hown hK hP 48 rfl rfl 4 (by decide) lk6 (fun _ h9 => h9) rfl dX9_drift_75 ?_
              refine rd_V (As := [.int (vsk 4 0)]) (rest := []) (C := RX1) (ci := 1) ⟨hx, hb, hml, hown, hts⟩ (c_X1_pairOf l E A ap vp (vsk 4 0) hI (by omega)) (cwV 1 hts gX9_drift_X1_pairOf rfl rfl rfl (by decide +kernel) ⟨Nat.le_of_ble_eq_true rfl, Nat.le_of_ble_eq_true rfl⟩) (hE.kept hS.2.1) (hP.sub (ws' := planL E ap vp) [19, 20, 21, 22, 23, 24, 25, 26, 27, 28, 29, 30, 31, 32, 33, 34, 35, 36, 37, 38, 39, 40, 41, 42, 43, 44, 45, 46, 47] rfl) rfl rfl rfl rfl hl.1 rfl (Nat.le_of_ble_eq_true rfl) dX9_drift_78 ⟨Nat.zero_le _, Nat.zero_le _⟩ (fun r78 h78 => ?_)
              have hf78 := h78.2
              replace h78 := h78.1
              subst hQ
              exact W.iret (v := r78) hx hb hr (fun t ht hW => ⟨⟨r78, (vsk), rfl, (show ((TgA v vp vq vsk vi vj) ∧ fr [0, 2, 4, 5, 7] vs vsk) ∧ (∀ vm : Vf, RW vm vp vs → (-1 : Int32) = vm 62 0 → DriP vm n r78 (vsk = vs) (RW (drN vm n.toNatClampNeg) vp vsk)) from ⟨⟨⟨hT, hG, hI, hI2, hJ, hJi, hJj⟩, hFz⟩, (fun vm hR hg => by have hW := rol_w hR (by omega); have e0 : vs 0 0 = vm 23 0 := hR.2.1.1; have q := dri_end (n := n) hR (hx46_0 vm hR hg).1 (i_eqr (by omega)) hf78.2 hW; exact Or.inr ⟨by omega, Or.inr ⟨by omega, Or.inr ⟨by rw [← e0]; omega, q.1, q.2⟩⟩⟩)⟩), by rw [ht]; exact hP, hD⟩, hS.F ht⟩) hS.2.2 dX9_drift_81
            · have c48_ := i_nle c48
              refine lv_aload_n hx hb dX9_drift_51 rfl (lv_at hl 0 rfl) ?_
              refine va_get (D := eD E) (ci := 9) (v := .ref (a 5)) (C := RX9) (T := TX9) (N := 13) hx hb hts in_X9 hown hK hP 0 rfl rfl 5 (by decide) lk0 (fun _ h9 => h9) rfl dX9_drift_52 ?_
              refine mt_Vv (w1 := fun (u : Vf) => wpsL E (a 5) ap vp as_ u) (wf := fun (u : Vf) => tgL E a v cz0 cz1 rt rp aq vq ap vp as_ u ai vi bi vj) (wr := [((a 99), .inr (9, [.ref (a 0), .int (v 1 0), .int (v 2 0), .ref (a 3), .ref (aq 0), .ref (a 5), .ref (as_ 0), .ref (a 7), .ref (a 8), .ref (a 9), .ref (a 10), .ref (a 11), .int (v 12 0)])), ((a 0), .inl (eI E, 250, .inl (v 0))), ((a 11), .inl (eI E, 30, .inl (v 11))), ((a 3), .inr (2, [rt, .int (v 101 0), .int (v 102 0), rp, .int (v 104 0), .int (v 105 0), .int (v 106 0), .int (v 107 0), .int (v 108 0)])), ((a 7), .inl (eS E, 2, .inr (.inr (.inr (.inr (fun i => some (cond (Nat.beq i 0) (ai 0) (bi 0)))))))), ((a 8), .inr (3, [.ref (a 5), .ref cz0, .ref cz1, .ref (a 203)])), (cz0, .inl (eI E, 24, .inl (v 201))), (cz1, .inl (eI E, 24, .inl (v 202))), ((a 203), .inl (eI E, 960, .inl (v 203))), ((a 9), .inr (7, [.ref (a 5), .ref (a 301), .ref (a 302), .int (v 303 0), .int (v 304 0)])), ((a 301), .inl (eI E, 5, .inl (v 301))), ((a 302), .inl (eI E, 5, .inl (v 302))), ((a 10), .inr (4, [.ref (a 5), .int (v 401 0), .ref (a 402), .ref (a 403), .ref (a 404), .ref (a 405), .int (v 406 0), .ref (a 407), .int (v 408 0), .int (v 409 0), .int (v 410 0)])), ((a 402), .inl (eI E, 12, .inl (v 402))), ((a 403), .inl (eI E, 12, .inl (v 403))), ((a 404), .inl (eI E, 12, .inl (v 404))), ((a 405), .inl (eI E, 729, .inl (v 405))), ((a 407), .inl (eI E, 55, .inl (v 407))), ((aq 0), .inr (1, [.int (vq 0 0), .int (vq 1 0), .int (vq 2 0), .ref (aq 3), .ref (aq 4), .int (vq 5 0), .ref (aq 6), .ref (aq 7), .ref (aq 8), .ref (aq 9), .ref (aq 10)])), ((aq 3), .inl (eI E, 24, .inl (vq 3))), ((aq 4), .inl (eI E, 24, .inl (vq 4))), ((aq 6), .inl (eM E, 3, .inr (.inr (.inr (.inr (fun i => some (aq (20 + 10 * i)))))))), ((aq 20), .inr (0, [.int (vq 20 0), .int (vq 21 0), .int (vq 22 0), .ref (aq 23), .ref (aq 24)])), ((aq 23), .inl (eI E, 18, .inl (vq 23))), ((aq 24), .inl (eI E, 24, .inl (vq 24))), ((aq 30), .inr (0, [.int (vq 30 0), .int (vq 31 0), .int (vq 32 0), .ref (aq 33), .ref (aq 34)])), ((aq 33), .inl (eI E, 18, .inl (vq 33))), ((aq 34), .inl (eI E, 24, .inl (vq 34))), ((aq 40), .inr (0, [.int (vq 40 0), .int (vq 41 0), .int (vq 42 0), .ref (aq 43), .ref (aq 44)])), ((aq 43), .inl (eI E, 18, .inl (vq 43))), ((aq 44), .inl (eI E, 24, .inl (vq 44))), ((aq 7), .inr (5, [.int (vq 60 0), .ref (aq 61), .ref (aq 62), .ref (aq 63)])), ((aq 61), .inl (eI E, 6, .inl (vq 61))), ((aq 62), .inl (eI E, 6, .inl (vq 62))), ((aq 63), .inl (eI E, 6, .inl (vq 63))), ((aq 8), .inr (5, [.int (vq 70 0), .ref (aq 71), .ref (aq 72), .ref (aq 73)])), ((aq 71), .inl (eI E, 6, .inl (vq 71))), ((aq 72), .inl (eI E, 6, .inl (vq 72))), ((aq 73), .inl (eI E, 6, .inl (vq 73))), ((aq 9), .inr (5, [.int (vq 80 0), .ref (aq 81), .ref (aq 82), .ref (aq 83)])), ((aq 81), .inl (eI E, 6, .inl (vq 81))), ((aq 82), .inl (eI E, 6, .inl (vq 82))), ((aq 83), .inl (eI E, 6, .inl (vq 83))), ((aq 10), .inr (5, [.int (vq 90 0), .ref (aq 91), .ref (aq 92), .ref (aq 93)])), ((aq 91), .inl (eI E, 6, .inl (vq 91))), ((aq 92), .inl (eI E, 6, .inl (vq 92))), ((aq 93), .inl (eI E, 6, .inl (vq 93))), ((ai 0), .inr (6, [.int (vi 0 0), .ref (ai 1), .ref (ai 2), .ref (ai 3), .int (vi 4 0), .int (vi 5 0), .int (vi 6 0), .int (vi 7 0), .int (vi 8 0)])), ((ai 1), .inl (eI E, 3, .inl (vi 1))), ((ai 2), .inl (eI E, 24, .inl (vi 2))), ((ai 3), .inl (eI E, 6, .inl (vi 3))), ((bi 0), .inr (6, [.int (vj 0 0), .ref (bi 1), .ref (bi 2), .ref (bi 3), .int (vj 4 0), .int (vj 5 0), .int (vj 6 0), .int (vj 7 0), .int (vj 8 0)])), ((bi 1), .inl (eI E, 3, .inl (vj 1))), ((bi 2), .inl (eI E, 24, .inl (vj 2))), ((bi 3), .inl (eI E, 6, .inl (vj 3)))]) (As := []) (rest := []) (C := RX8) (ci := 8) ⟨hx, hb, hml, hown, hts⟩ (c_X8_stepByDraws l E H.size (a 5) ap vp as_ vsk hI hJ (by omega) (by omega)) (cwV 0 hts gX9_drift_X8_stepByDraws rfl rfl rfl (by decide +kernel) ⟨Nat.le_of_ble_eq_true rfl, Nat.le_of_ble_eq_true rfl⟩) hE hS hA hP hD [18, 19, 20, 21, 22, 23, 24, 25, 26, 27, 28, 29, 30, 31, 32, 33, 34, 35, 36, 37, 38, 39, 40, 41, 42, 43, 44, 45, 46, 47, 48, 49, 50, 51] [0, 1, 2, 3, 4, 5, 6, 7, 8, 9, 10, 11, 12, 13, 14, 15, 16, 17, 52, 53, 54, 55, 56, 57, 58, 59, 60, 61, 62, 63, 64, 65, 66, 67, 68, 69, 70, 71, 72, 73, 74, 75, 76, 77, 78, 79, 80, 81, 82, 83, 84, 85, 86, 87, 88] rfl rfl (by decide) (by decide) (by decide) [0, 1, 2, 3, 4, 5, 6, 7, 8, 9, 10, 11, 12, 13, 14, 15, 16, 17, 55, 56, 57, 58, 59, 60, 61, 62, 63, 64, 65, 66, 67, 68, 69, 70, 71, 72, 73, 74, 75, 76, 77, 78, 79, 80, 81, 82, 83, 84, 85, 86, 87, 88, 18, 19, 20, 21, 22, 23, 24, 25, 26, 27, 28, 29, 30, 31, 32, 33, 34, 35, 36, 37, 38, 39, 40, 41, 42, 43, 44, 45, 46, 47, 48, 49, 50, 51, 52, 53, 54] (by decide) (fun u => rfl) rfl rfl rfl rfl hl.1 rfl (Nat.le_of_ble_eq_true rfl) dX9_drift_55 ⟨Nat.zero_le _, Nat.zero_le _⟩ (fun u55 H locs h55 hP hD hS => ?_)
              generalize u55 = o55_vs at hP hD h55
              try dsimp only at h55
              have hf55 := h55.2
              replace h55 := h55.1
              have hFn55 := h55.2
              replace h55 := h55.1
              replace hP : va_P (eD E) vwCl (tgL E a v cz0 cz1 rt rp aq vq ap vp as_ o55_vs ai vi bi vj) H := hP
              replace hD : va_D A (tgL E a v cz0 cz1 rt rp aq vq ap vp as_ o55_vs ai vi bi vj) := hD
              have hFz : fr [0, 2, 4, 5, 7] vs o55_vs := by first | exact hFz | exact hFz.tr hFn55 (by decide) | (rw [← hv55]; repeat' (first | exact hFz | refine fr.up ?_ (by decide) | refine fr.up3 ?_ (by decide)))
              obtain ⟨x58, e58⟩ : ∃ y : Int32, y = i + 1 := ⟨_, rfl⟩
              refine lv_iinc (v := x58) (lv' := [(2, .int x58), (0, .ref (a 99)), (1, .int n)]) hx hb dX9_drift_58 hl (k := 2) rfl (by rw [e58]; rfl) (by decide) rfl (fun ls hl => ?_)
              have t58 := i_add e58 (by omega)
              refine lv_goto (tgt := 46) hx hb dX9_drift_61 (by decide) ?_
              exact ih46 x58 o55_vs _ _ ls (by omega) hP hD hS (by omega) h55.1 (by omega) hFz (fun vm hR hg => dr_loop (hx46_0 vm hR hg) hf55 (by omega) (i_nat1 (by omega) (by omega))) (by omega) (lv_sub hl [1, 2, 0] rfl)
        exact K46 _ 0 vs _ _ ls (Nat.lt_succ_self _) hP hD hS (by omega) hJ (by omega) hFz (fun vm hR hg => ⟨hR, hg⟩) (by omega) (lv_sub hl [1, 2, 0] rfl)
      · have c38_ := i_nle c38
        refine lv_ldc hx hb hown lk7 dX9_drift_41 ?_
        subst hQ
        exact W.iret (v := (-1000000004)) hx hb hr (fun t ht hW => ⟨⟨(-1000000004), (vs), rfl, (show ((TgA v vp vq vs vi vj) ∧ fr [0, 2, 4, 5, 7] vs vs) ∧ (∀ vm : Vf, RW vm vp vs → (-1 : Int32) = vm 62 0 → DriP vm n ((-1000000004) : Int32) (vs = vs) (RW (drN vm n.toNatClampNeg) vp vs)) from ⟨⟨hTA, hFz⟩, (fun vm hR hg => by have hW := rol_w hR (by omega); have e0 : vs 0 0 = vm 23 0 := hR.2.1.1; exact Or.inr ⟨by omega, Or.inr ⟨by omega, Or.inl ⟨by omega, by rw [← e0]; omega, rfl⟩⟩⟩)⟩), by rw [ht]; exact hP, hD⟩, hS.F ht⟩) hS.2.2 dX9_drift_43
    · have c23_ := i_eq c23
      refine lv_ldc hx hb hown lk8 dX9_drift_26 ?_
      subst hQ
      exact W.iret (v := (-1000000003)) hx hb hr (fun t ht hW => ⟨⟨(-1000000003), (vs), rfl, (show ((TgA v vp vq vs vi vj) ∧ fr [0, 2, 4, 5, 7] vs vs) ∧ (∀ vm : Vf, RW vm vp vs → (-1 : Int32) = vm 62 0 → DriP vm n ((-1000000003) : Int32) (vs = vs) (RW (drN vm n.toNatClampNeg) vp vs)) from ⟨⟨hTA, hFz⟩, (fun vm hR hg => Or.inr ⟨by omega, Or.inl ⟨by omega, rol_z hR (by omega), rfl⟩⟩)⟩), by rw [ht]; exact hP, hD⟩, hS.F ht⟩) hS.2.2 dX9_drift_28
  · have c7_ := i_ne c7
    replace h4 := or_y h4 c7_
    clear c7_
    refine lv_ldc hx hb hown lk9 dX9_drift_10 ?_
    subst hQ
    exact W.iret (v := (-1000000002)) hx hb hr (fun t ht hW => ⟨⟨(-1000000002), (vs), rfl, (show ((TgA v vp vq vs vi vj) ∧ fr [0, 2, 4, 5, 7] vs vs) ∧ (∀ vm : Vf, RW vm vp vs → (-1 : Int32) = vm 62 0 → DriP vm n ((-1000000002) : Int32) (vs = vs) (RW (drN vm n.toNatClampNeg) vp vs)) from ⟨⟨hTA, hFz⟩, (fun vm hR hg => Or.inl ⟨by omega, by omega, rfl⟩)⟩), by rw [ht]; exact hP, hD⟩, hS.F ht⟩) hS.2.2 dX9_drift_12
end
