def rm_X2_isFigure : Room := { frames := 0, cells := 0, slots := 0, locals := 0 }
set_option maxHeartbeats 4000000 in
set_option maxRecDepth 100000 in
theorem c_X2_isFigure (l : Launch) (E : Ev) (A : Nat → Prop) (x : Int32) : Met l yX2_isFigure wsX2_isFigure rm_X2_isFigure (RdP E A [.int x] ([])) (vp_Si (fun r => ((r.toInt = 0 ∨ r.toInt = 1)) ∧ ((r.toInt = 1 ∧ 48 ≤ x.toInt ∧ x.toInt ≤ 57) ∨ (r.toInt = 0 ∧ (x.toInt < 48 ∨ 57 < x.toInt))))) 0 0 (fun _ => False) := by
  refine Met.ofW (cc := cX2_isFigure) (maxL := 1) (ret := (some .boolean)) (by decide) rfl ?_
  intro p e s m args below meth c s₁ B hml hv
  obtain ⟨rfl, hE, hP⟩ := hv
  have hx := B.exec
  have hb := B.bytes
  have hr := B.returns
  have hts := atoms_spec (ws := wsX2_isFigure) B.pre
  have hown : s.vm.findClass RX2 = some m.cls := findClass_of_methodNamed B.named
  have hlocks := B.notSynchronized
  have hK := hE.1
  have n_0 : (0 : Int32).toInt = 0 := by decide
  have n_1 : (1 : Int32).toInt = 1 := by decide
  have n_48 : (48 : Int32).toInt = 48 := by decide
  have n_57 : (57 : Int32).toInt = 57 := by decide
  have hl := lv_entry ([.int x]) (n := 1) (Nat.le_of_ble_eq_true rfl)
  rw [lg_entry_eq]
  generalize (lg_sl ([.int x]) ++ List.replicate (1 - (lg_sl ([.int x])).length) Slot.unset).toArray = ls at hl ⊢
  have hl : lv_has ls 1 [(0, .int x)] := hl
  refine W_abs (fun Q hQ => ?_)
  refine lv_iload_n hx hb dX2_isFigure_0 rfl (lv_at hl 0 rfl) ?_
  refine lv_bipush (v := 48) hx hb dX2_isFigure_1 (by decide) ?_
  refine lv_icmp_lt (tgt := 16) hx hb dX2_isFigure_3 (by decide) (fun c3 => ?_) (fun c3 => ?_)
  · have c3_ := i_lt c3
    refine lv_iconst (v := 0) hx hb dX2_isFigure_16 (by decide) ?_
    subst hQ
    exact W.zret (v := 0) hx hb hr rfl (fun t ht hW => ⟨0, rfl, ⟨(by omega), (by omega)⟩, ht⟩) (fun q h => absurd h List.not_mem_nil) dX2_isFigure_17
  · have c3_ := i_nlt c3
    refine lv_iload_n hx hb dX2_isFigure_6 rfl (lv_at hl 0 rfl) ?_
    refine lv_bipush (v := 57) hx hb dX2_isFigure_7 (by decide) ?_
    refine lv_icmp_gt (tgt := 16) hx hb dX2_isFigure_9 (by decide) (fun c9 => ?_) (fun c9 => ?_)
    · have c9_ := i_lt c9
      refine lv_iconst (v := 0) hx hb dX2_isFigure_16 (by decide) ?_
      subst hQ
      exact W.zret (v := 0) hx hb hr rfl (fun t ht hW => ⟨0, rfl, ⟨(by omega), (by omega)⟩, ht⟩) (fun q h => absurd h List.not_mem_nil) dX2_isFigure_17
    · have c9_ := i_nlt c9
      refine lv_iconst (v := 1) hx hb dX2_isFigure_12 (by decide) ?_
      refine lv_goto (tgt := 17) hx hb dX2_isFigure_13 (by decide) ?_
      subst hQ
      exact W.zret (v := 1) hx hb hr rfl (fun t ht hW => ⟨1, rfl, ⟨(by omega), (by omega)⟩, ht⟩) (fun q h => absurd h List.not_mem_nil) dX2_isFigure_17
def rm_X2_skipBlanks : Room := { frames := 0, cells := 0, slots := 0, locals := 0 }
set_option maxHeartbeats 4000000 in
set_option maxRecDepth 100000 in
theorem c_X2_skipBlanks (l : Launch) (E : Ev) (sz : Nat) (qr : Nat) (qx : Nat) (fx : Nat → Int32) (ln : Int32) (ps : Int32) (fn : Int32) (fa : Int32) (na : Int32) (cx : Int32) (ck : Int32) (ap : Nat → Nat) (hln : 0 ≤ ln.toInt ∧ ln.toInt ≤ 250) (hps : 0 ≤ ps.toInt ∧ ps.toInt ≤ ln.toInt) : Met l yX2_skipBlanks wsX2_skipBlanks rm_X2_skipBlanks (MtP E sz [.ref qr] (rbL E qr qx fx ln ps fn fa na cx ck ap)) (va_Qv (fun (u : Int32) => (ps.toInt ≤ u.toInt ∧ u.toInt ≤ ln.toInt) ∧ (u.toInt = skp fx ln.toInt ps.toInt)) (MtB E (va_A (rbL E qr qx fx ln ps fn fa na cx ck ap) sz) (fun u => rbL E qr qx fx ln u fn fa na cx ck ap)) (va_A (rbL E qr qx fx ln ps fn fa na cx ck ap) sz)) 0 0 (va_A (rbL E qr qx fx ln ps fn fa na cx ck ap) sz) := by
  refine Met.ofW (cc := cX2_skipBlanks) (maxL := 1) (ret := none) (by decide) rfl ?_
  intro p e s m args below meth c s₁ B hml hv
  obtain ⟨rfl, hsz, hE, hP, hD0⟩ := hv
  subst hsz
  have hD := hD0.self (sz := s.heap.size)
  generalize hAe : va_A (rbL E qr qx fx ln ps fn fa na cx ck ap) s.heap.size = A at hD hE ⊢
  have hA : ∀ q : Nat, s.heap.size ≤ q → A q := fun q h => by rw [← hAe]; exact Or.inr h
  have hS : va_S A s.heap s.heap [] := va_S.rf
  have hx := B.exec
  have hb := B.bytes
  have hr := B.returns
  have hts := atoms_spec (ws := wsX2_skipBlanks) B.pre
  have hown : s.vm.findClass RX2 = some m.cls := findClass_of_methodNamed B.named
  have hlocks := B.notSynchronized
  have hK := hE.1
  have in_X2 : ∀ w ∈ u_ws RX2 TX2 9, w ∈ wsX2_skipBlanks := fun w h => List.mem_cons_of_mem _ (List.mem_append_right _ h)
  have lk0 := hts (.fieldLink RX2 25 "TidedGround$Reader" "at" "I") (List.mem_of_getElem? (i := 1) rfl)
  have lk1 := hts (.fieldLink RX2 21 "TidedGround$Reader" "length" "I") (List.mem_of_getElem? (i := 2) rfl)
  have lk2 := hts (.fieldLink RX2 9 "TidedGround$Reader" "text" "[I") (List.mem_of_getElem? (i := 3) rfl)
  have n_0 : (0 : Int32).toInt = 0 := by decide
  have n_1 : (1 : Int32).toInt = 1 := by decide
  have n_32 : (32 : Int32).toInt = 32 := by decide
  have hl := lv_entry ([.ref qr]) (n := 1) (Nat.le_of_ble_eq_true rfl)
  rw [lg_entry_eq]
  generalize (lg_sl ([.ref qr]) ++ List.replicate (1 - (lg_sl ([.ref qr])).length) Slot.unset).toArray = ls at hl ⊢
  have hl : lv_has ls 1 [(0, .ref qr)] := hl
  refine W_abs (fun Q hQ => ?_)
  have K0 : ∀ (μ : Nat) (ps1 : Int32) (H : Heap) (locs : List Loc) (ls : Array Slot), (ln.toInt - ps1.toInt).toNat < μ → va_P (eD E) vwCl (rbL E qr qx fx ln ps1 fn fa na cx ck ap) H → va_D A (rbL E qr qx fx ln ps1 fn fa na cx ck ap) → va_S A s.heap H locs → (ps.toInt ≤ ps1.toInt ∧ ps1.toInt ≤ ln.toInt) → (skp fx ln.toInt ps1.toInt = skp fx ln.toInt ps.toInt) → lv_has ls 1 [(0, .ref qr)] → W p l e (headSpec wsX2_skipBlanks rm_X2_skipBlanks).room s m ([.ref qr] : List Value).toArray below meth c H locs 0 0 Q (F0 m 0 ls []) := by
    intro μ
    induction μ with
    | zero =>
      intro ps1 H locs ls hμ0
      exact absurd hμ0 (Nat.not_lt_zero _)
    | succ μ ih0 =>
      intro ps1 H locs ls hμ0 hP hD hS h0_0 h0_1 hl
      have hx0_0 := h0_1
      clear h0_1
      refine lv_aload_n hx hb dX2_skipBlanks_0 rfl (lv_at hl 0 rfl) ?_
      refine va_get (D := eD E) (ci := 2) (v := .int ps1) (C := RX2) (T := TX2) (N := 9) hx hb hts in_X2 hown hK hP 0 rfl rfl 2 (by decide) lk0 (fun _ h9 => h9) rfl dX2_skipBlanks_1 ?_
      refine lv_aload_n hx hb dX2_skipBlanks_4 rfl (lv_at hl 0 rfl) ?_
      refine va_get (D := eD E) (ci := 2) (v := .int ln) (C := RX2) (T := TX2) (N := 9) hx hb hts in_X2 hown hK hP 0 rfl rfl 1 (by decide) lk1 (fun _ h9 => h9) rfl dX2_skipBlanks_5 ?_
      refine lv_icmp_ge (tgt := 38) hx hb dX2_skipBlanks_8 (by decide) (fun c8 => ?_) (fun c8 => ?_)
      · have c8_ := i_le c8
        subst hQ
        exact W.vret hx hb hr (fun t ht hW => ⟨⟨(ps1), rfl, (show (ps.toInt ≤ ps1.toInt ∧ ps1.toInt ≤ ln.toInt) ∧ (ps1.toInt = skp fx ln.toInt ps.toInt) from ⟨(by omega), (sk_out hx0_0 (by omega))⟩), by rw [ht]; exact hP, hD⟩, hS.F ht⟩) hS.2.2 dX2_skipBlanks_38
      · have c8_ := i_nle c8
        refine lv_aload_n hx hb dX2_skipBlanks_11 rfl (lv_at hl 0 rfl) ?_
        refine va_get (D := eD E) (ci := 2) (v := .ref qx) (C := RX2) (T := TX2) (N := 9) hx hb hts in_X2 hown hK hP 0 rfl rfl 0 (by decide) lk2 (fun _ h9 => h9) rfl dX2_skipBlanks_12 ?_
        refine lv_aload_n hx hb dX2_skipBlanks_15 rfl (lv_at hl 0 rfl) ?_
        refine va_get (D := eD E) (ci := 2) (v := .int ps1) (C := RX2) (T := TX2) (N := 9) hx hb hts in_X2 hown hK hP 0 rfl rfl 2 (by decide) lk0 (fun _ h9 => h9) rfl dX2_skipBlanks_16 ?_
        refine va_iald hx hb hK hP 1 0 rfl rfl (n := 250) (f := fx) (i_in (by omega) (by omega)) dX2_skipBlanks_19 ?_
        refine lv_topi (fun x19 e19 => ?_)
        have tx19 : x19.toInt = tc fx ps1.toInt := by rw [e19]; rfl
        refine lv_bipush (v := 32) hx hb dX2_skipBlanks_20 (by decide) ?_
        refine lv_icmp_ne (tgt := 38) hx hb dX2_skipBlanks_22 (by decide) (fun c22 => ?_) (fun c22 => ?_)
        · have c22_ := i_ne c22
          subst hQ
          exact W.vret hx hb hr (fun t ht hW => ⟨⟨(ps1), rfl, (show (ps.toInt ≤ ps1.toInt ∧ ps1.toInt ≤ ln.toInt) ∧ (ps1.toInt = skp fx ln.toInt ps.toInt) from ⟨(by omega), (sk_out hx0_0 (by omega))⟩), by rw [ht]; exact hP, hD⟩, hS.F ht⟩) hS.2.2 dX2_skipBlanks_38
        · have c22_ := i_eq c22
          refine lv_aload_n hx hb dX2_skipBlanks_25 rfl (lv_at hl 0 rfl) ?_
          refine lv_dup hx hb dX2_skipBlanks_26 rfl ?_
          refine va_get (D := eD E) (ci := 2) (v := .int ps1) (C := RX2) (T := TX2) (N := 9) hx hb hts in_X2 hown hK hP 0 rfl rfl 2 (by decide) lk0 (fun _ h9 => h9) rfl dX2_skipBlanks_27 ?_
          refine lv_iconst (v := 1) hx hb dX2_skipBlanks_30 (by decide) ?_
          refine lv_iadd hx hb dX2_skipBlanks_31 ?_
          refine lv_topi (fun x31 e31 => ?_)
          have t31 := i_add e31 (by omega)
          refine va_put (D := eD E) (ci := 2) (v := .int x31) (ty := .int) (C := RX2) (T := TX2) (N := 9) hx hb hts in_X2 tyX2 tyX2_ok nmX2 hown hK hP hD hS 0 rfl rfl 2 (by decide) lk0 (fun _ h9 => h9) rfl (by decide +kernel) rfl rfl (Nat.le_of_ble_eq_true rfl) dX2_skipBlanks_32 (fun H locs hP hD hS => ?_)
          replace hP : va_P (eD E) vwCl (rbL E qr qx fx ln x31 fn fa na cx ck ap) H := hP
          replace hD : va_D A (rbL E qr qx fx ln x31 fn fa na cx ck ap) := hD
          refine lv_goto (tgt := 0) hx hb dX2_skipBlanks_35 (by decide) ?_
          exact ih0  x31 _ _ ls (by omega) hP hD hS (by omega) (by rw [show x31.toInt = ps1.toInt + 1 by omega]; exact (skp_step (by omega) (by omega)).trans hx0_0) (lv_sub hl [0] rfl)
  exact K0 _  ps _ _ ls (Nat.lt_succ_self _) hP hD hS (by omega) rfl (lv_sub hl [0] rfl)
def rm_X2_refuseIf : Room := { frames := 0, cells := 0, slots := 0, locals := 0 }
set_option maxHeartbeats 4000000 in
set_option maxRecDepth 100000 in
theorem c_X2_refuseIf (l : Launch) (E : Ev) (sz : Nat) (qr : Nat) (qx : Nat) (fx : Nat → Int32) (ln : Int32) (ps : Int32) (fn : Int32) (fa : Int32) (na : Int32) (cx : Int32) (ck : Int32) (ap : Nat → Nat) (w : Int32) (num : Int32) (wh : Int32) (hnum : 1 ≤ num.toInt ∧ num.toInt ≤ 9) : Met l yX2_refuseIf wsX2_refuseIf rm_X2_refuseIf (MtP E sz [.ref qr, .int w, .int num, .int wh] (rbL E qr qx fx ln ps fn fa na cx ck ap)) (va_Qv (fun (u : Int32 × Int32) => (((w.toInt = 0 ∧ u.1.toInt = fn.toInt) ∨ (w.toInt ≠ 0 ∧ u.1.toInt ≠ 0)) ∧ (fn.toInt = 0 ∨ u.1.toInt = fn.toInt)) ∧ ((w.toInt ≠ 0 ∧ fn.toInt = 0 ∧ u.1.toInt = num.toInt ∧ u.2.toInt = wh.toInt) ∨ ((w.toInt = 0 ∨ fn.toInt ≠ 0) ∧ u.1.toInt = fn.toInt ∧ u.2.toInt = fa.toInt))) (MtB E (va_A (rbL E qr qx fx ln ps fn fa na cx ck ap) sz) (fun u => rbL E qr qx fx ln ps u.1 u.2 na cx ck ap)) (va_A (rbL E qr qx fx ln ps fn fa na cx ck ap) sz)) 0 0 (va_A (rbL E qr qx fx ln ps fn fa na cx ck ap) sz) := by
  refine Met.ofW (cc := cX2_refuseIf) (maxL := 4) (ret := none) (by decide) rfl ?_
  intro p e s m args below meth c s₁ B hml hv
  obtain ⟨rfl, hsz, hE, hP, hD0⟩ := hv
  subst hsz
  have hD := hD0.self (sz := s.heap.size)
  generalize hAe : va_A (rbL E qr qx fx ln ps fn fa na cx ck ap) s.heap.size = A at hD hE ⊢
  have hA : ∀ q : Nat, s.heap.size ≤ q → A q := fun q h => by rw [← hAe]; exact Or.inr h
  have hS : va_S A s.heap s.heap [] := va_S.rf
  have hx := B.exec
  have hb := B.bytes
  have hr := B.returns
  have hts := atoms_spec (ws := wsX2_refuseIf) B.pre
  have hown : s.vm.findClass RX2 = some m.cls := findClass_of_methodNamed B.named
  have hlocks := B.notSynchronized
  have hK := hE.1
  have in_X2 : ∀ w ∈ u_ws RX2 TX2 9, w ∈ wsX2_refuseIf := fun w h => List.mem_cons_of_mem _ (List.mem_append_right _ h)
  have lk0 := hts (.fieldLink RX2 37 "TidedGround$Reader" "faultNumber" "I") (List.mem_of_getElem? (i := 1) rfl)
  have lk1 := hts (.fieldLink RX2 40 "TidedGround$Reader" "faultAt" "I") (List.mem_of_getElem? (i := 2) rfl)
  have n_0 : (0 : Int32).toInt = 0 := by decide
  have hl := lv_entry ([.ref qr, .int w, .int num, .int wh]) (n := 4) (Nat.le_of_ble_eq_true rfl)
  rw [lg_entry_eq]
  generalize (lg_sl ([.ref qr, .int w, .int num, .int wh]) ++ List.replicate (4 - (lg_sl ([.ref qr, .int w, .int num, .int wh])).length) Slot.unset).toArray = ls at hl ⊢
  have hl : lv_has ls 4 [(0, .ref qr), (1, .int w), (2, .int num), (3, .int wh)] := hl
  refine W_abs (fun Q hQ => ?_)
  refine lv_iload_n hx hb dX2_refuseIf_0 rfl (lv_at hl 1 rfl) ?_
  refine lv_if_eq (tgt := 21) hx hb dX2_refuseIf_1 (by decide) (fun c1 => ?_) (fun c1 => ?_)
  · have c1_ := i_eq c1
    subst hQ
    exact W.vret hx hb hr (fun t ht hW => ⟨⟨(fn, fa), rfl, (show (((w.toInt = 0 ∧ fn.toInt = fn.toInt) ∨ (w.toInt ≠ 0 ∧ fn.toInt ≠ 0)) ∧ (fn.toInt = 0 ∨ fn.toInt = fn.toInt)) ∧ ((w.toInt ≠ 0 ∧ fn.toInt = 0 ∧ fn.toInt = num.toInt ∧ fa.toInt = wh.toInt) ∨ ((w.toInt = 0 ∨ fn.toInt ≠ 0) ∧ fn.toInt = fn.toInt ∧ fa.toInt = fa.toInt)) from ⟨(by omega), (by omega)⟩), by rw [ht]; exact hP, hD⟩, hS.F ht⟩) hS.2.2 dX2_refuseIf_21
  · have c1_ := i_ne c1
    refine lv_aload_n hx hb dX2_refuseIf_4 rfl (lv_at hl 0 rfl) ?_
    refine va_get (D := eD E) (ci := 2) (v := .int fn) (C := RX2) (T := TX2) (N := 9) hx hb hts in_X2 hown hK hP 0 rfl rfl 4 (by decide) lk0 (fun _ h9 => h9) rfl dX2_refuseIf_5 ?_
    refine lv_if_ne (tgt := 21) hx hb dX2_refuseIf_8 (by decide) (fun c8 => ?_) (fun c8 => ?_)
    · have c8_ := i_ne c8
      subst hQ
      exact W.vret hx hb hr (fun t ht hW => ⟨⟨(fn, fa), rfl, (show (((w.toInt = 0 ∧ fn.toInt = fn.toInt) ∨ (w.toInt ≠ 0 ∧ fn.toInt ≠ 0)) ∧ (fn.toInt = 0 ∨ fn.toInt = fn.toInt)) ∧ ((w.toInt ≠ 0 ∧ fn.toInt = 0 ∧ fn.toInt = num.toInt ∧ fa.toInt = wh.toInt) ∨ ((w.toInt = 0 ∨ fn.toInt ≠ 0) ∧ fn.toInt = fn.toInt ∧ fa.toInt = fa.toInt)) from ⟨(by omega), (by omega)⟩), by rw [ht]; exact hP, hD⟩, hS.F ht⟩) hS.2.2 dX2_refuseIf_21
    · have c8_ := i_eq c8
      refine lv_aload_n hx hb dX2_refuseIf_11 rfl (lv_at hl 0 rfl) ?_
      refine lv_iload_n hx hb dX2_refuseIf_12 rfl (lv_at hl 2 rfl) ?_
      refine va_put (D := eD E) (ci := 2) (v := .int num) (ty := .int) (C := RX2) (T := TX2) (N := 9) hx hb hts in_X2 tyX2 tyX2_ok nmX2 hown hK hP hD hS 0 rfl rfl 4 (by decide) lk0 (fun _ h9 => h9) rfl (by decide +kernel) rfl rfl (Nat.le_of_ble_eq_true rfl) dX2_refuseIf_13 (fun H locs hP hD hS => ?_)
      replace hP : va_P (eD E) vwCl (rbL E qr qx fx ln ps num fa na cx ck ap) H := hP
      replace hD : va_D A (rbL E qr qx fx ln ps num fa na cx ck ap) := hD
      refine lv_aload_n hx hb dX2_refuseIf_16 rfl (lv_at hl 0 rfl) ?_
      refine lv_iload_n hx hb dX2_refuseIf_17 rfl (lv_at hl 3 rfl) ?_
      refine va_put (D := eD E) (ci := 2) (v := .int wh) (ty := .int) (C := RX2) (T := TX2) (N := 9) hx hb hts in_X2 tyX2 tyX2_ok nmX2 hown hK hP hD hS 0 rfl rfl 5 (by decide) lk1 (fun _ h9 => h9) rfl (by decide +kernel) rfl rfl (Nat.le_of_ble_eq_true rfl) dX2_refuseIf_18 (fun H locs hP hD hS => ?_)
      replace hP : va_P (eD E) vwCl (rbL E qr qx fx ln ps num wh na cx ck ap) H := hP
      replace hD : va_D A (rbL E qr qx fx ln ps num wh na cx ck ap) := hD
      subst hQ
      exact W.vret hx hb hr (fun t ht hW => ⟨⟨(num, wh), rfl, (show (((w.toInt = 0 ∧ num.toInt = fn.toInt) ∨ (w.toInt ≠ 0 ∧ num.toInt ≠ 0)) ∧ (fn.toInt = 0 ∨ num.toInt = fn.toInt)) ∧ ((w.toInt ≠ 0 ∧ fn.toInt = 0 ∧ num.toInt = num.toInt ∧ wh.toInt = wh.toInt) ∨ ((w.toInt = 0 ∨ fn.toInt ≠ 0) ∧ num.toInt = fn.toInt ∧ wh.toInt = fa.toInt)) from ⟨(by omega), (by omega)⟩), by rw [ht]; exact hP, hD⟩, hS.F ht⟩) hS.2.2 dX2_refuseIf_21
def rm_X2_readNumber : Room := { frames := 1, cells := 0, slots := 0, locals := 23 }
set_option maxHeartbeats 4000000 in
set_option maxRecDepth 100000 in
theorem c_X2_readNumber (l : Launch) (E : Ev) (sz : Nat) (qr : Nat) (qx : Nat) (fx : Nat → Int32) (ln : Int32) (ps : Int32) (fn : Int32) (fa : Int32) (na : Int32) (cx : Int32) (ck : Int32) (ap : Nat → Nat) (lo : Int32) (hi : Int32) (hln : 0 ≤ ln.toInt ∧ ln.toInt ≤ 250) (hps : 0 ≤ ps.toInt ∧ ps.toInt ≤ ln.toInt) : Met l yX2_readNumber wsX2_readNumber rm_X2_readNumber (MtP E sz [.ref qr, .int lo, .int hi] (rbL E qr qx fx ln ps fn fa na cx ck ap)) (va_Qi (fun (r : Int32) (u : Int32 × Int32 × Int32 × Int32) => (((u.2.1.toInt = 0 ∧ fn.toInt = 0 ∧ lo.toInt ≤ r.toInt ∧ r.toInt ≤ hi.toInt) ∨ (u.2.1.toInt ≠ 0 ∧ r.toInt = 0)) ∧ ps.toInt ≤ u.1.toInt ∧ u.1.toInt ≤ ln.toInt ∧ (fn.toInt = 0 ∨ u.2.1.toInt = fn.toInt)) ∧ (CF (numF fx ln.toInt lo.toInt hi.toInt ps.toInt) fn.toInt fa.toInt u.2.1.toInt u.2.2.1.toInt (fun x => r.toInt = x.1 ∧ u.1.toInt = x.2.1 ∧ u.2.2.2.toInt = x.2.2))) (MtB E (va_A (rbL E qr qx fx ln ps fn fa na cx ck ap) sz) (fun u => rbL E qr qx fx ln u.1 u.2.1 u.2.2.1 u.2.2.2 cx ck ap)) (va_A (rbL E qr qx fx ln ps fn fa na cx ck ap) sz)) 0 0 (va_A (rbL E qr qx fx ln ps fn fa na cx ck ap) sz) := by
  refine Met.ofW (cc := cX2_readNumber) (maxL := 4) (ret := (some .int)) (by decide) rfl ?_
  intro p e s m args below meth c s₁ B hml hv
  obtain ⟨rfl, hsz, hE, hP, hD0⟩ := hv
  subst hsz
  have hD := hD0.self (sz := s.heap.size)
  generalize hAe : va_A (rbL E qr qx fx ln ps fn fa na cx ck ap) s.heap.size = A at hD hE ⊢
  have hA : ∀ q : Nat, s.heap.size ≤ q → A q := fun q h => by rw [← hAe]; exact Or.inr h
  have hS : va_S A s.heap s.heap [] := va_S.rf
  have hx := B.exec
  have hb := B.bytes
  have hr := B.returns
  have hts := atoms_spec (ws := wsX2_readNumber) B.pre
  have hown : s.vm.findClass RX2 = some m.cls := findClass_of_methodNamed B.named
  have hlocks := B.notSynchronized
  have hK := hE.1
  have in_X2 : ∀ w ∈ u_ws RX2 TX2 9, w ∈ wsX2_readNumber := fun w h => List.mem_cons_of_mem _ (List.mem_append_right _ h)
  have lk0 := hts (.fieldLink RX2 25 "TidedGround$Reader" "at" "I") (List.mem_of_getElem? (i := 1) rfl)
  have lk1 := hts (.fieldLink RX2 21 "TidedGround$Reader" "length" "I") (List.mem_of_getElem? (i := 2) rfl)
  have lk2 := hts (.fieldLink RX2 37 "TidedGround$Reader" "faultNumber" "I") (List.mem_of_getElem? (i := 4) rfl)
  have lk3 := hts (.fieldLink RX2 87 "TidedGround$Reader" "numberAt" "I") (List.mem_of_getElem? (i := 5) rfl)
  have lk4 := hts (.static yX9_isOff) (List.mem_of_getElem? (i := 19) rfl)
  have lk5 := hts (.initialized RX9) (List.mem_of_getElem? (i := 20) rfl)
  have lk6 := hts (.fieldLink RX2 9 "TidedGround$Reader" "text" "[I") (List.mem_of_getElem? (i := 3) rfl)
  have n_0 : (0 : Int32).toInt = 0 := by decide
  have n_1 : (1 : Int32).toInt = 1 := by decide
  have n_2 : (2 : Int32).toInt = 2 := by decide
  have n_3 : (3 : Int32).toInt = 3 := by decide
  have n_10 : (10 : Int32).toInt = 10 := by decide
  have n_48 : (48 : Int32).toInt = 48 := by decide
  have hl := lv_entry ([.ref qr, .int lo, .int hi]) (n := 4) (Nat.le_of_ble_eq_true rfl)
  rw [lg_entry_eq]
  generalize (lg_sl ([.ref qr, .int lo, .int hi]) ++ List.replicate (4 - (lg_sl ([.ref qr, .int lo, .int hi])).length) Slot.unset).toArray = ls at hl ⊢
  have hl : lv_has ls 4 [(0, .ref qr), (1, .int lo), (2, .int hi)] := hl
  refine W_abs (fun Q hQ => ?_)
  refine lv_aload_n hx hb dX2_readNumber_0 rfl (lv_at hl 0 rfl) ?_
  refine mt_Vv (w1 := fun (u : Int32) => rbL E qr qx fx ln u fn fa na cx ck ap) (wf := fun (u : Int32) => rbL E qr qx fx ln u fn fa na cx ck ap) (wr := []) (As := []) (rest := []) (C := RX2) (ci := 2) ⟨hx, hb, hml, hown, hts⟩ (c_X2_skipBlanks l E s.heap.size qr qx fx ln ps fn fa na cx ck ap (by omega) (by omega)) (cwV 0 hts gX2_readNumber_X2_skipBlanks rfl rfl rfl (by decide +kernel) ⟨Nat.le_of_ble_eq_true rfl, Nat.le_of_ble_eq_true rfl⟩) hE hS hA hP hD [0, 1] [] rfl rfl (by decide) (by decide) (by decide) [0, 1] (by decide) (fun u => rfl) rfl rfl rfl rfl hl.1 rfl (Nat.le_of_ble_eq_true rfl) dX2_readNumber_1 ⟨Nat.zero_le _, Nat.zero_le _⟩ (fun u1 H locs h1 hP hD hS => ?_)
  generalize u1 = o1_ps at hP hD h1
  try dsimp only at h1
  have hf1 := h1.2
  replace h1 := h1.1
  replace hP : va_P (eD E) vwCl (rbL E qr qx fx ln o1_ps fn fa na cx ck ap) H := hP
  replace hD : va_D A (rbL E qr qx fx ln o1_ps fn fa na cx ck ap) := hD
  refine lv_aload_n hx hb dX2_readNumber_4 rfl (lv_at hl 0 rfl) ?_
  refine lv_aload_n hx hb dX2_readNumber_5 rfl (lv_at hl 0 rfl) ?_
  refine va_get (D := eD E) (ci := 2) (v := .int o1_ps) (C := RX2) (T := TX2) (N := 9) hx hb hts in_X2 hown hK hP 0 rfl rfl 2 (by decide) lk0 (fun _ h9 => h9) rfl dX2_readNumber_6 ?_
  refine lv_aload_n hx hb dX2_readNumber_9 rfl (lv_at hl 0 rfl) ?_
  refine va_get (D := eD E) (ci := 2) (v := .int ln) (C := RX2) (T := TX2) (N := 9) hx hb hts in_X2 hown hK hP 0 rfl rfl 1 (by decide) lk1 (fun _ h9 => h9) rfl dX2_readNumber_10 ?_
  have K36 : ∀  (w : Int32) (H : Heap) (locs : List Loc) (ls : Array Slot), va_P (eD E) vwCl (rbL E qr qx fx ln o1_ps fn fa na cx ck ap) H → va_D A (rbL E qr qx fx ln o1_ps fn fa na cx ck ap) → va_S A s.heap H locs → ((w.toInt = 0 ∨ w.toInt = 1)) → ((w.toInt = 0 ∧ o1_ps.toInt < ln.toInt ∧ 48 ≤ tc fx o1_ps.toInt ∧ tc fx o1_ps.toInt ≤ 57) ∨ (w.toInt = 1 ∧ (ln.toInt ≤ o1_ps.toInt ∨ tc fx o1_ps.toInt < 48 ∨ 57 < tc fx o1_ps.toInt))) → lv_has ls 4 [(0, .ref qr), (1, .int lo), (2, .int hi)] → W p l e (headSpec wsX2_readNumber rm_X2_readNumber).room s m ([.ref qr, .int lo, .int hi] : List Value).toArray below meth c H locs 0 0 Q (F0 m 36 ls [.int w, .ref qr]) := by
    intro w H locs ls hP hD hS h36_0 h36_1 hl
    have hx36_0 := h36_1
    clear h36_1
    refine lv_iconst (v := 1) hx hb dX2_readNumber_36 (by decide) ?_
    refine lv_aload_n hx hb dX2_readNumber_37 rfl (lv_at hl 0 rfl) ?_
    refine va_get (D := eD E) (ci := 2) (v := .int o1_ps) (C := RX2) (T := TX2) (N := 9) hx hb hts in_X2 hown hK hP 0 rfl rfl 2 (by decide) lk0 (fun _ h9 => h9) rfl dX2_readNumber_38 ?_
    refine mt_Vv (w1 := fun (u : Int32 × Int32) => rbL E qr qx fx ln o1_ps u.1 u.2 na cx ck ap) (wf := fun (u : Int32 × Int32) => rbL E qr qx fx ln o1_ps u.1 u.2 na cx ck ap) (wr := []) (As := [.int w, .int 1, .int o1_ps]) (rest := []) (C := RX2) (ci := 2) ⟨hx, hb, hml, hown, hts⟩ (c_X2_refuseIf l E H.size qr qx fx ln o1_ps fn fa na cx ck ap w 1 o1_ps (by omega)) (cwV 3 hts gX2_readNumber_X2_refuseIf rfl rfl rfl (by decide +kernel) ⟨Nat.le_of_ble_eq_true rfl, Nat.le_of_ble_eq_true rfl⟩) hE hS hA hP hD [0, 1] [] rfl rfl (by decide) (by decide) (by decide) [0, 1] (by decide) (fun u => rfl) rfl rfl rfl rfl hl.1 rfl (Nat.le_of_ble_eq_true rfl) dX2_readNumber_41 ⟨Nat.zero_le _, Nat.zero_le _⟩ (fun u41 H locs h41 hP hD hS => ?_)
    obtain ⟨o41_fn, o41_fa⟩ := u41
    try dsimp only at h41
    have hf41 := h41.2
    replace h41 := h41.1
    replace hP : va_P (eD E) vwCl (rbL E qr qx fx ln o1_ps o41_fn o41_fa na cx ck ap) H := hP
    replace hD : va_D A (rbL E qr qx fx ln o1_ps o41_fn o41_fa na cx ck ap) := hD
    refine lv_aload_n hx hb dX2_readNumber_44 rfl (lv_at hl 0 rfl) ?_
    refine va_get (D := eD E) (ci := 2) (v := .int o41_fn) (C := RX2) (T := TX2) (N := 9) hx hb hts in_X2 hown hK hP 0 rfl rfl 4 (by decide) lk2 (fun _ h9 => h9) rfl dX2_readNumber_45 ?_
    refine lv_if_eq (tgt := 53) hx hb dX2_readNumber_48 (by decide) (fun c48 => ?_) (fun c48 => ?_)
    · have c48_ := i_eq c48
      have hz0 : fn.toInt = 0 ∧ (o1_ps.toInt < ln.toInt ∧ 48 ≤ tc fx o1_ps.toInt ∧ tc fx o1_ps.toInt ≤ 57) ∧ o41_fa.toInt = fa.toInt := by omega
      refine lv_aload_n hx hb dX2_readNumber_53 rfl (lv_at hl 0 rfl) ?_
      refine lv_aload_n hx hb dX2_readNumber_54 rfl (lv_at hl 0 rfl) ?_
      refine va_get (D := eD E) (ci := 2) (v := .int o1_ps) (C := RX2) (T := TX2) (N := 9) hx hb hts in_X2 hown hK hP 0 rfl rfl 2 (by decide) lk0 (fun _ h9 => h9) rfl dX2_readNumber_55 ?_
      refine va_put (D := eD E) (ci := 2) (v := .int o1_ps) (ty := .int) (C := RX2) (T := TX2) (N := 9) hx hb hts in_X2 tyX2 tyX2_ok nmX2 hown hK hP hD hS 0 rfl rfl 6 (by decide) lk3 (fun _ h9 => h9) rfl (by decide +kernel) rfl rfl (Nat.le_of_ble_eq_true rfl) dX2_readNumber_58 (fun H locs hP hD hS => ?_)
      replace hP : va_P (eD E) vwCl (rbL E qr qx fx ln o1_ps o41_fn o41_fa o1_ps cx ck ap) H := hP
      replace hD : va_D A (rbL E qr qx fx ln o1_ps o41_fn o41_fa o1_ps cx ck ap) := hD
      refine lv_iconst (v := 0) hx hb dX2_readNumber_61 (by decide) ?_
      refine lv_istore_n (lv' := [(3, .int 0), (0, .ref qr), (1, .int lo), (2, .int hi)]) hx hb dX2_readNumber_62 rfl hl (by decide) rfl (fun ls hl => ?_)
      have K63 : ∀ (μ : Nat) (vv : Int32) (ps1 : Int32) (H : Heap) (locs : List Loc) (ls : Array Slot), (ln.toInt - ps1.toInt).toNat < μ → va_P (eD E) vwCl (rbL E qr qx fx ln ps1 o41_fn o41_fa o1_ps cx ck ap) H → va_D A (rbL E qr qx fx ln ps1 o41_fn o41_fa o1_ps cx ck ap) → va_S A s.heap H locs → (o1_ps.toInt ≤ ps1.toInt ∧ ps1.toInt ≤ ln.toInt) → (dep fx ln.toInt ps1.toInt = dep fx ln.toInt o1_ps.toInt) → (vv.toInt = vv3 fx o1_ps.toInt (ps1.toInt - o1_ps.toInt).toNat) → (0 ≤ vv.toInt ∧ vv.toInt ≤ 999 ∧ (ps1.toInt - o1_ps.toInt < 3 → vv.toInt ≤ 99) ∧ (ps1.toInt - o1_ps.toInt < 2 → vv.toInt ≤ 9) ∧ (ps1.toInt - o1_ps.toInt < 1 → vv.toInt = 0)) → lv_has ls 4 [(0, .ref qr), (1, .int lo), (2, .int hi), (3, .int vv)] → W p l e (headSpec wsX2_readNumber rm_X2_readNumber).room s m ([.ref qr, .int lo, .int hi] : List Value).toArray below meth c H locs 0 0 Q (F0 m 63 ls []) := by
        intro μ
        induction μ with
        | zero =>
          intro vv ps1 H locs ls hμ63
          exact absurd hμ63 (Nat.not_lt_zero _)
        | succ μ ih63 =>
          intro vv ps1 H locs ls hμ63 hP hD hS h63_0 h63_1 h63_2 h63_3 hl
          have hx63_0 := h63_1
          clear h63_1
          have hx63_1 := h63_2
          clear h63_2
          have hx63_2 := h63_3
          clear h63_3
          refine lv_aload_n hx hb dX2_readNumber_63 rfl (lv_at hl 0 rfl) ?_
          refine va_get (D := eD E) (ci := 2) (v := .int ps1) (C := RX2) (T := TX2) (N := 9) hx hb hts in_X2 hown hK hP 0 rfl rfl 2 (by decide) lk0 (fun _ h9 => h9) rfl dX2_readNumber_64 ?_
          refine lv_aload_n hx hb dX2_readNumber_67 rfl (lv_at hl 0 rfl) ?_
          refine va_get (D := eD E) (ci := 2) (v := .int ln) (C := RX2) (T := TX2) (N := 9) hx hb hts in_X2 hown hK hP 0 rfl rfl 1 (by decide) lk1 (fun _ h9 => h9) rfl dX2_readNumber_68 ?_
          refine lv_icmp_ge (tgt := 137) hx hb dX2_readNumber_71 (by decide) (fun c71 => ?_) (fun c71 => ?_)
          · have c71_ := i_le c71
            refine lv_aload_n hx hb dX2_readNumber_137 rfl (lv_at hl 0 rfl) ?_
            refine lv_aload_n hx hb dX2_readNumber_138 rfl (lv_at hl 0 rfl) ?_
            refine va_get (D := eD E) (ci := 2) (v := .int ps1) (C := RX2) (T := TX2) (N := 9) hx hb hts in_X2 hown hK hP 0 rfl rfl 2 (by decide) lk0 (fun _ h9 => h9) rfl dX2_readNumber_139 ?_
            refine lv_aload_n hx hb dX2_readNumber_142 rfl (lv_at hl 0 rfl) ?_
            refine va_get (D := eD E) (ci := 2) (v := .int o1_ps) (C := RX2) (T := TX2) (N := 9) hx hb hts in_X2 hown hK hP 0 rfl rfl 6 (by decide) lk3 (fun _ h9 => h9) rfl dX2_readNumber_143 ?_
            refine lv_isub hx hb dX2_readNumber_146 ?_
            refine lv_topi (fun x146 e146 => ?_)
            have t146 := i_sub e146 (by omega)
            refine lv_iconst (v := 3) hx hb dX2_readNumber_147 (by decide) ?_
            have K165 : ∀  (w2 : Int32) (H : Heap) (locs : List Loc) (ls : Array Slot), va_P (eD E) vwCl (rbL E qr qx fx ln ps1 o41_fn o41_fa o1_ps cx ck ap) H → va_D A (rbL E qr qx fx ln ps1 o41_fn o41_fa o1_ps cx ck ap) → va_S A s.heap H locs → ((w2.toInt = 0 ∧ lo.toInt ≤ vv.toInt ∧ vv.toInt ≤ hi.toInt) ∨ w2.toInt = 1) → ((w2.toInt = 0 ∧ ps1.toInt - o1_ps.toInt ≤ 3 ∧ lo.toInt ≤ vv.toInt ∧ vv.toInt ≤ hi.toInt) ∨ (w2.toInt = 1 ∧ (3 < ps1.toInt - o1_ps.toInt ∨ vv.toInt < lo.toInt ∨ hi.toInt < vv.toInt))) → (ln.toInt ≤ ps1.toInt ∨ tc fx ps1.toInt < 48 ∨ 57 < tc fx ps1.toInt) → lv_has ls 4 [(0, .ref qr), (1, .int lo), (2, .int hi), (3, .int vv)] → W p l e (headSpec wsX2_readNumber rm_X2_readNumber).room s m ([.ref qr, .int lo, .int hi] : List Value).toArray below meth c H locs 0 0 Q (F0 m 165 ls [.int w2, .ref qr]) := by
              intro w2 H locs ls hP hD hS h165_0 h165_1 h165_2 hl
              have hx165_0 := h165_1
              clear h165_1
              have hx165_1 := h165_2
              clear h165_2
              refine lv_iconst (v := 2) hx hb dX2_readNumber_165 (by decide) ?_
              refine lv_aload_n hx hb dX2_readNumber_166 rfl (lv_at hl 0 rfl) ?_
              refine va_get (D := eD E) (ci := 2) (v := .int o1_ps) (C := RX2) (T := TX2) (N := 9) hx hb hts in_X2 hown hK hP 0 rfl rfl 6 (by decide) lk3 (fun _ h9 => h9) rfl dX2_readNumber_167 ?_
              refine mt_Vv (w1 := fun (u : Int32 × Int32) => rbL E qr qx fx ln ps1 u.1 u.2 o1_ps cx ck ap) (wf := fun (u : Int32 × Int32) => rbL E qr qx fx ln ps1 u.1 u.2 o1_ps cx ck ap) (wr := []) (As := [.int w2, .int 2, .int o1_ps]) (rest := []) (C := RX2) (ci := 2) ⟨hx, hb, hml, hown, hts⟩ (c_X2_refuseIf l E H.size qr qx fx ln ps1 o41_fn o41_fa o1_ps cx ck ap w2 2 o1_ps (by omega)) (cwV 3 hts gX2_readNumber_X2_refuseIf rfl rfl rfl (by decide +kernel) ⟨Nat.le_of_ble_eq_true rfl, Nat.le_of_ble_eq_true rfl⟩) hE hS hA hP hD [0, 1] [] rfl rfl (by decide) (by decide) (by decide) [0, 1] (by decide) (fun u => rfl) rfl rfl rfl rfl hl.1 rfl (Nat.le_of_ble_eq_true rfl) dX2_readNumber_170 ⟨Nat.zero_le _, Nat.zero_le _⟩ (fun u170 H locs h170 hP hD hS => ?_)
              obtain ⟨o170_fn, o170_fa⟩ := u170
              try dsimp only at h170
              have hf170 := h170.2
              replace h170 := h170.1
              replace hP : va_P (eD E) vwCl (rbL E qr qx fx ln ps1 o170_fn o170_fa o1_ps cx ck ap) H := hP
              replace hD : va_D A (rbL E qr qx fx ln ps1 o170_fn o170_fa o1_ps cx ck ap) := hD
              refine lv_aload_n hx hb dX2_readNumber_173 rfl (lv_at hl 0 rfl) ?_
              refine va_get (D := eD E) (ci := 2) (v := .int o170_fn) (C := RX2) (T := TX2) (N := 9) hx hb hts in_X2 hown hK hP 0 rfl rfl 4 (by decide) lk2 (fun _ h9 => h9) rfl dX2_readNumber_174 ?_
              refine lv_if_ne (tgt := 184) hx hb dX2_readNumber_177 (by decide) (fun c177 => ?_) (fun c177 => ?_)
              · have c177_ := i_ne c177
                refine lv_iconst (v := 0) hx hb dX2_readNumber_184 (by decide) ?_
                subst hQ
                exact W.iret (v := 0) hx hb hr (fun t ht hW => ⟨⟨0, (ps1, o170_fn, o170_fa, o1_ps), rfl, (show (((o170_fn.toInt = 0 ∧ fn.toInt = 0 ∧ lo.toInt ≤ (0 : Int32).toInt ∧ (0 : Int32).toInt ≤ hi.toInt) ∨ (o170_fn.toInt ≠ 0 ∧ (0 : Int32).toInt = 0)) ∧ ps.toInt ≤ ps1.toInt ∧ ps1.toInt ≤ ln.toInt ∧ (fn.toInt = 0 ∨ o170_fn.toInt = fn.toInt)) ∧ (CF (numF fx ln.toInt lo.toInt hi.toInt ps.toInt) fn.toInt fa.toInt o170_fn.toInt o170_fa.toInt (fun x => (0 : Int32).toInt = x.1 ∧ ps1.toInt = x.2.1 ∧ o1_ps.toInt = x.2.2)) from ⟨(by omega), (hf170.elim (fun q => CF.no hz0.1 (num_no2 hf1 hz0.2.1 (de_out hx63_0 hx165_1) hx63_1 (by omega)) (by omega) (by omega)) (fun q => CF.ok hz0.1 (num_ok hf1 hz0.2.1 (de_out hx63_0 hx165_1) hx63_1 (by omega)) (by omega) (by omega) ⟨by omega, rfl, rfl⟩))⟩), by rw [ht]; exact hP, hD⟩, hS.F ht⟩) hS.2.2 dX2_readNumber_185
              · have c177_ := i_eq c177
                refine lv_iload_n hx hb dX2_readNumber_180 rfl (lv_at hl 3 rfl) ?_
                refine lv_goto (tgt := 185) hx hb dX2_readNumber_181 (by decide) ?_
                subst hQ
                exact W.iret (v := vv) hx hb hr (fun t ht hW => ⟨⟨vv, (ps1, o170_fn, o170_fa, o1_ps), rfl, (show (((o170_fn.toInt = 0 ∧ fn.toInt = 0 ∧ lo.toInt ≤ vv.toInt ∧ vv.toInt ≤ hi.toInt) ∨ (o170_fn.toInt ≠ 0 ∧ vv.toInt = 0)) ∧ ps.toInt ≤ ps1.toInt ∧ ps1.toInt ≤ ln.toInt ∧ (fn.toInt = 0 ∨ o170_fn.toInt = fn.toInt)) ∧ (CF (numF fx ln.toInt lo.toInt hi.toInt ps.toInt) fn.toInt fa.toInt o170_fn.toInt o170_fa.toInt (fun x => vv.toInt = x.1 ∧ ps1.toInt = x.2.1 ∧ o1_ps.toInt = x.2.2)) from ⟨(by omega), (hf170.elim (fun q => CF.no hz0.1 (num_no2 hf1 hz0.2.1 (de_out hx63_0 hx165_1) hx63_1 (by omega)) (by omega) (by omega)) (fun q => CF.ok hz0.1 (num_ok hf1 hz0.2.1 (de_out hx63_0 hx165_1) hx63_1 (by omega)) (by omega) (by omega) ⟨by omega, rfl, rfl⟩))⟩), by rw [ht]; exact hP, hD⟩, hS.F ht⟩) hS.2.2 dX2_readNumber_185
            refine lv_icmp_gt (tgt := 160) hx hb dX2_readNumber_148 (by decide) (fun c148 => ?_) (fun c148 => ?_)
            · have c148_ := i_lt c148
              refine lv_iconst (v := 1) hx hb dX2_readNumber_160 (by decide) ?_
              refine lv_goto (tgt := 165) hx hb dX2_readNumber_161 (by decide) ?_
              exact K165 1 _ _ ls hP hD hS (by omega) (Or.inr ⟨by decide, by omega⟩) (by omega) (lv_sub hl [0, 1, 2, 3] rfl)
            · have c148_ := i_nlt c148
              refine lv_iload_n hx hb dX2_readNumber_151 rfl (lv_at hl 3 rfl) ?_
              refine lv_iload_n hx hb dX2_readNumber_152 rfl (lv_at hl 1 rfl) ?_
              refine lv_iload_n hx hb dX2_readNumber_153 rfl (lv_at hl 2 rfl) ?_
              refine rd_SN (As := [.int vv, .int lo, .int hi]) (rest := [.ref qr]) ⟨hx, hb, hml, hown, hts⟩ (c_X9_isOff l E A vv lo hi) ⟨va_cnB 3 hts gX2_readNumber_X9_isOff_n176 rfl rfl rfl (hE.2.2.2.2.2.2.2 _ (List.mem_of_getElem? (i := 5) rfl)) lk5 (by decide +kernel) ⟨Nat.le_of_ble_eq_true rfl, Nat.le_of_ble_eq_true rfl⟩, lk4, trivial⟩ (hE.kept hS.2.1) (hP.sub (ws' := []) [] rfl) rfl hl.1 rfl (Nat.le_of_ble_eq_true rfl) dX2_readNumber_154 ⟨Nat.zero_le _, Nat.zero_le _⟩ (fun r154 h154 => ?_)
              refine lv_if_eq (tgt := 164) hx hb dX2_readNumber_157 (by decide) (fun c157 => ?_) (fun c157 => ?_)
              · have c157_ := i_eq c157
                replace h154 := or_n h154 c157_
                refine lv_iconst (v := 0) hx hb dX2_readNumber_164 (by decide) ?_
                exact K165 0 _ _ ls hP hD hS (by omega) (Or.inl ⟨by decide, by omega⟩) (by omega) (lv_sub hl [0, 1, 2, 3] rfl)
              · have c157_ := i_ne c157
                replace h154 := or_y h154 c157_
                clear c157_
                refine lv_iconst (v := 1) hx hb dX2_readNumber_160 (by decide) ?_
                refine lv_goto (tgt := 165) hx hb dX2_readNumber_161 (by decide) ?_
                exact K165 1 _ _ ls hP hD hS (by omega) (Or.inr ⟨by decide, by omega⟩) (by omega) (lv_sub hl [0, 1, 2, 3] rfl)
          · have c71_ := i_nle c71
            refine lv_aload_n hx hb dX2_readNumber_74 rfl (lv_at hl 0 rfl) ?_
            refine va_get (D := eD E) (ci := 2) (v := .ref qx) (C := RX2) (T := TX2) (N := 9) hx hb hts in_X2 hown hK hP 0 rfl rfl 0 (by decide) lk6 (fun _ h9 => h9) rfl dX2_readNumber_75 ?_
            refine lv_aload_n hx hb dX2_readNumber_78 rfl (lv_at hl 0 rfl) ?_
            refine va_get (D := eD E) (ci := 2) (v := .int ps1) (C := RX2) (T := TX2) (N := 9) hx hb hts in_X2 hown hK hP 0 rfl rfl 2 (by decide) lk0 (fun _ h9 => h9) rfl dX2_readNumber_79 ?_
            refine va_iald hx hb hK hP 1 0 rfl rfl (n := 250) (f := fx) (i_in (by omega) (by omega)) dX2_readNumber_82 ?_
            refine lv_topi (fun x82 e82 => ?_)
            have tx82 : x82.toInt = tc fx ps1.toInt := by rw [e82]; rfl
            refine rd_S (As := [.int x82]) (rest := []) ⟨hx, hb, hml, hown, hts⟩ (c_X2_isFigure l E A x82) (va_cwS 1 hts gX2_readNumber_X2_isFigure rfl rfl rfl (by decide +kernel) ⟨Nat.le_of_ble_eq_true rfl, Nat.le_of_ble_eq_true rfl⟩) (hE.kept hS.2.1) (hP.sub (ws' := []) [] rfl) rfl hl.1 rfl (Nat.le_of_ble_eq_true rfl) dX2_readNumber_83 ⟨Nat.zero_le _, Nat.zero_le _⟩ (fun r83 h83 => ?_)
            have hf83 := h83.2
            replace h83 := h83.1
            refine lv_if_eq (tgt := 137) hx hb dX2_readNumber_86 (by decide) (fun c86 => ?_) (fun c86 => ?_)
            · have c86_ := i_eq c86
              clear h83
              refine lv_aload_n hx hb dX2_readNumber_137 rfl (lv_at hl 0 rfl) ?_
              refine lv_aload_n hx hb dX2_readNumber_138 rfl (lv_at hl 0 rfl) ?_
              refine va_get (D := eD E) (ci := 2) (v := .int ps1) (C := RX2) (T := TX2) (N := 9) hx hb hts in_X2 hown hK hP 0 rfl rfl 2 (by decide) lk0 (fun _ h9 => h9) rfl dX2_readNumber_139 ?_
              refine lv_aload_n hx hb dX2_readNumber_142 rfl (lv_at hl 0 rfl) ?_
              refine va_get (D := eD E) (ci := 2) (v := .int o1_ps) (C := RX2) (T := TX2) (N := 9) hx hb hts in_X2 hown hK hP 0 rfl rfl 6 (by decide) lk3 (fun _ h9 => h9) rfl dX2_readNumber_143 ?_
              refine lv_isub hx hb dX2_readNumber_146 ?_
              refine lv_topi (fun x146 e146 => ?_)
              have t146 := i_sub e146 (by omega)
              refine lv_iconst (v := 3) hx hb dX2_readNumber_147 (by decide) ?_
              have K165 : ∀  (w2 : Int32) (H : Heap) (locs : List Loc) (ls : Array Slot), va_P (eD E) vwCl (rbL E qr qx fx ln ps1 o41_fn o41_fa o1_ps cx ck ap) H → va_D A (rbL E qr qx fx ln ps1 o41_fn o41_fa o1_ps cx ck ap) → va_S A s.heap H locs → ((w2.toInt = 0 ∧ lo.toInt ≤ vv.toInt ∧ vv.toInt ≤ hi.toInt) ∨ w2.toInt = 1) → ((w2.toInt = 0 ∧ ps1.toInt - o1_ps.toInt ≤ 3 ∧ lo.toInt ≤ vv.toInt ∧ vv.toInt ≤ hi.toInt) ∨ (w2.toInt = 1 ∧ (3 < ps1.toInt - o1_ps.toInt ∨ vv.toInt < lo.toInt ∨ hi.toInt < vv.toInt))) → (ln.toInt ≤ ps1.toInt ∨ tc fx ps1.toInt < 48 ∨ 57 < tc fx ps1.toInt) → lv_has ls 4 [(0, .ref qr), (1, .int lo), (2, .int hi), (3, .int vv)] → W p l e (headSpec wsX2_readNumber rm_X2_readNumber).room s m ([.ref qr, .int lo, .int hi] : List Value).toArray below meth c H locs 0 0 Q (F0 m 165 ls [.int w2, .ref qr]) := by
                intro w2 H locs ls hP hD hS h165_0 h165_1 h165_2 hl
                have hx165_0 := h165_1
                clear h165_1
                have hx165_1 := h165_2
                clear h165_2
                refine lv_iconst (v := 2) hx hb dX2_readNumber_165 (by decide) ?_
                refine lv_aload_n hx hb dX2_readNumber_166 rfl (lv_at hl 0 rfl) ?_
                refine va_get (D := eD E) (ci := 2) (v := .int o1_ps) (C := RX2) (T := TX2) (N := 9) hx hb hts in_X2 hown hK hP 0 rfl rfl 6 (by decide) lk3 (fun _ h9 => h9) rfl dX2_readNumber_167 ?_
                refine mt_Vv (w1 := fun (u : Int32 × Int32) => rbL E qr qx fx ln ps1 u.1 u.2 o1_ps cx ck ap) (wf := fun (u : Int32 × Int32) => rbL E qr qx fx ln ps1 u.1 u.2 o1_ps cx ck ap) (wr := []) (As := [.int w2, .int 2, .int o1_ps]) (rest := []) (C := RX2) (ci := 2) ⟨hx, hb, hml, hown, hts⟩ (c_X2_refuseIf l E H.size qr qx fx ln ps1 o41_fn o41_fa o1_ps cx ck ap w2 2 o1_ps (by omega)) (cwV 3 hts gX2_readNumber_X2_refuseIf rfl rfl rfl (by decide +kernel) ⟨Nat.le_of_ble_eq_true rfl, Nat.le_of_ble_eq_true rfl⟩) hE hS hA hP hD [0, 1] [] rfl rfl (by decide) (by decide) (by decide) [0, 1] (by decide) (fun u => rfl) rfl rfl rfl rfl hl.1 rfl (Nat.le_of_ble_eq_true rfl) dX2_readNumber_170 ⟨Nat.zero_le _, Nat.zero_le _⟩ (fun u170 H locs h170 hP hD hS => ?_)
                obtain ⟨o170_fn, o170_fa⟩ := u170
                try dsimp only at h170
                have hf170 := h170.2
                replace h170 := h170.1
                replace hP : va_P (eD E) vwCl (rbL E qr qx fx ln ps1 o170_fn o170_fa o1_ps cx ck ap) H := hP
                replace hD : va_D A (rbL E qr qx fx ln ps1 o170_fn o170_fa o1_ps cx ck ap) := hD
                refine lv_aload_n hx hb dX2_readNumber_173 rfl (lv_at hl 0 rfl) ?_
                refine va_get (D := eD E) (ci := 2) (v := .int o170_fn) (C := RX2) (T := TX2) (N := 9) hx hb hts in_X2 hown hK hP 0 rfl rfl 4 (by decide) lk2 (fun _ h9 => h9) rfl dX2_readNumber_174 ?_
                refine lv_if_ne (tgt := 184) hx hb dX2_readNumber_177 (by decide) (fun c177 => ?_) (fun c177 => ?_)
                · have c177_ := i_ne c177
                  refine lv_iconst (v := 0) hx hb dX2_readNumber_184 (by decide) ?_
                  subst hQ
                  exact W.iret (v := 0) hx hb hr (fun t ht hW => ⟨⟨0, (ps1, o170_fn, o170_fa, o1_ps), rfl, (show (((o170_fn.toInt = 0 ∧ fn.toInt = 0 ∧ lo.toInt ≤ (0 : Int32).toInt ∧ (0 : Int32).toInt ≤ hi.toInt) ∨ (o170_fn.toInt ≠ 0 ∧ (0 : Int32).toInt = 0)) ∧ ps.toInt ≤ ps1.toInt ∧ ps1.toInt ≤ ln.toInt ∧ (fn.toInt = 0 ∨ o170_fn.toInt = fn.toInt)) ∧ (CF (numF fx ln.toInt lo.toInt hi.toInt ps.toInt) fn.toInt fa.toInt o170_fn.toInt o170_fa.toInt (fun x => (0 : Int32).toInt = x.1 ∧ ps1.toInt = x.2.1 ∧ o1_ps.toInt = x.2.2)) from ⟨(by omega), (hf170.elim (fun q => CF.no hz0.1 (num_no2 hf1 hz0.2.1 (de_out hx63_0 hx165_1) hx63_1 (by omega)) (by omega) (by omega)) (fun q => CF.ok hz0.1 (num_ok hf1 hz0.2.1 (de_out hx63_0 hx165_1) hx63_1 (by omega)) (by omega) (by omega) ⟨by omega, rfl, rfl⟩))⟩), by rw [ht]; exact hP, hD⟩, hS.F ht⟩) hS.2.2 dX2_readNumber_185
                · have c177_ := i_eq c177
                  refine lv_iload_n hx hb dX2_readNumber_180 rfl (lv_at hl 3 rfl) ?_
                  refine lv_goto (tgt := 185) hx hb dX2_readNumber_181 (by decide) ?_
                  subst hQ
                  exact W.iret (v := vv) hx hb hr (fun t ht hW => ⟨⟨vv, (ps1, o170_fn, o170_fa, o1_ps), rfl, (show (((o170_fn.toInt = 0 ∧ fn.toInt = 0 ∧ lo.toInt ≤ vv.toInt ∧ vv.toInt ≤ hi.toInt) ∨ (o170_fn.toInt ≠ 0 ∧ vv.toInt = 0)) ∧ ps.toInt ≤ ps1.toInt ∧ ps1.toInt ≤ ln.toInt ∧ (fn.toInt = 0 ∨ o170_fn.toInt = fn.toInt)) ∧ (CF (numF fx ln.toInt lo.toInt hi.toInt ps.toInt) fn.toInt fa.toInt o170_fn.toInt o170_fa.toInt (fun x => vv.toInt = x.1 ∧ ps1.toInt = x.2.1 ∧ o1_ps.toInt = x.2.2)) from ⟨(by omega), (hf170.elim (fun q => CF.no hz0.1 (num_no2 hf1 hz0.2.1 (de_out hx63_0 hx165_1) hx63_1 (by omega)) (by omega) (by omega)) (fun q => CF.ok hz0.1 (num_ok hf1 hz0.2.1 (de_out hx63_0 hx165_1) hx63_1 (by omega)) (by omega) (by omega) ⟨by omega, rfl, rfl⟩))⟩), by rw [ht]; exact hP, hD⟩, hS.F ht⟩) hS.2.2 dX2_readNumber_185
              refine lv_icmp_gt (tgt := 160) hx hb dX2_readNumber_148 (by decide) (fun c148 => ?_) (fun c148 => ?_)
              · have c148_ := i_lt c148
                refine lv_iconst (v := 1) hx hb dX2_readNumber_160 (by decide) ?_
                refine lv_goto (tgt := 165) hx hb dX2_readNumber_161 (by decide) ?_
                exact K165 1 _ _ ls hP hD hS (by omega) (Or.inr ⟨by decide, by omega⟩) (by omega) (lv_sub hl [0, 1, 2, 3] rfl)
              · have c148_ := i_nlt c148
                refine lv_iload_n hx hb dX2_readNumber_151 rfl (lv_at hl 3 rfl) ?_
                refine lv_iload_n hx hb dX2_readNumber_152 rfl (lv_at hl 1 rfl) ?_
                refine lv_iload_n hx hb dX2_readNumber_153 rfl (lv_at hl 2 rfl) ?_
                refine rd_SN (As := [.int vv, .int lo, .int hi]) (rest := [.ref qr]) ⟨hx, hb, hml, hown, hts⟩ (c_X9_isOff l E A vv lo hi) ⟨va_cnB 3 hts gX2_readNumber_X9_isOff_n176 rfl rfl rfl (hE.2.2.2.2.2.2.2 _ (List.mem_of_getElem? (i := 5) rfl)) lk5 (by decide +kernel) ⟨Nat.le_of_ble_eq_true rfl, Nat.le_of_ble_eq_true rfl⟩, lk4, trivial⟩ (hE.kept hS.2.1) (hP.sub (ws' := []) [] rfl) rfl hl.1 rfl (Nat.le_of_ble_eq_true rfl) dX2_readNumber_154 ⟨Nat.zero_le _, Nat.zero_le _⟩ (fun r154 h154 => ?_)
                refine lv_if_eq (tgt := 164) hx hb dX2_readNumber_157 (by decide) (fun c157 => ?_) (fun c157 => ?_)
                · have c157_ := i_eq c157
                  replace h154 := or_n h154 c157_
                  refine lv_iconst (v := 0) hx hb dX2_readNumber_164 (by decide) ?_
                  exact K165 0 _ _ ls hP hD hS (by omega) (Or.inl ⟨by decide, by omega⟩) (by omega) (lv_sub hl [0, 1, 2, 3] rfl)
                · have c157_ := i_ne c157
                  replace h154 := or_y h154 c157_
                  clear c157_
                  refine lv_iconst (v := 1) hx hb dX2_readNumber_160 (by decide) ?_
                  refine lv_goto (tgt := 165) hx hb dX2_readNumber_161 (by decide) ?_
                  exact K165 1 _ _ ls hP hD hS (by omega) (Or.inr ⟨by decide, by omega⟩) (by omega) (lv_sub hl [0, 1, 2, 3] rfl)
            · have c86_ := i_ne c86
              replace h83 := b_y h83 c86_
              clear c86_
              have hdg : 48 ≤ tc fx ps1.toInt ∧ tc fx ps1.toInt ≤ 57 := by omega
              refine lv_aload_n hx hb dX2_readNumber_89 rfl (lv_at hl 0 rfl) ?_
              refine va_get (D := eD E) (ci := 2) (v := .int ps1) (C := RX2) (T := TX2) (N := 9) hx hb hts in_X2 hown hK hP 0 rfl rfl 2 (by decide) lk0 (fun _ h9 => h9) rfl dX2_readNumber_90 ?_
              refine lv_aload_n hx hb dX2_readNumber_93 rfl (lv_at hl 0 rfl) ?_
              refine va_get (D := eD E) (ci := 2) (v := .int o1_ps) (C := RX2) (T := TX2) (N := 9) hx hb hts in_X2 hown hK hP 0 rfl rfl 6 (by decide) lk3 (fun _ h9 => h9) rfl dX2_readNumber_94 ?_
              refine lv_isub hx hb dX2_readNumber_97 ?_
              refine lv_topi (fun x97 e97 => ?_)
              have t97 := i_sub e97 (by omega)
              refine lv_iconst (v := 3) hx hb dX2_readNumber_98 (by decide) ?_
              have K123 : ∀  (nv : Int32) (H : Heap) (locs : List Loc) (ls : Array Slot), va_P (eD E) vwCl (rbL E qr qx fx ln ps1 o41_fn o41_fa o1_ps cx ck ap) H → va_D A (rbL E qr qx fx ln ps1 o41_fn o41_fa o1_ps cx ck ap) → va_S A s.heap H locs → (nv.toInt = vv3 fx o1_ps.toInt (ps1.toInt + 1 - o1_ps.toInt).toNat) → (0 ≤ nv.toInt ∧ nv.toInt ≤ 999 ∧ (ps1.toInt + 1 - o1_ps.toInt < 3 → nv.toInt ≤ 99) ∧ (ps1.toInt + 1 - o1_ps.toInt < 2 → nv.toInt ≤ 9)) → lv_has ls 4 [(0, .ref qr), (1, .int lo), (2, .int hi), (3, .int vv)] → W p l e (headSpec wsX2_readNumber rm_X2_readNumber).room s m ([.ref qr, .int lo, .int hi] : List Value).toArray below meth c H locs 0 0 Q (F0 m 123 ls [.int nv]) := by
                intro nv H locs ls hP hD hS h123_0 h123_1 hl
                have hx123_0 := h123_0
                clear h123_0
                have hx123_1 := h123_1
                clear h123_1
                refine lv_istore_n (lv' := [(3, .int nv), (0, .ref qr), (1, .int lo), (2, .int hi)]) hx hb dX2_readNumber_123 rfl hl (by decide) rfl (fun ls hl => ?_)
                refine lv_aload_n hx hb dX2_readNumber_124 rfl (lv_at hl 1 rfl) ?_
                refine lv_dup hx hb dX2_readNumber_125 rfl ?_
                refine va_get (D := eD E) (ci := 2) (v := .int ps1) (C := RX2) (T := TX2) (N := 9) hx hb hts in_X2 hown hK hP 0 rfl rfl 2 (by decide) lk0 (fun _ h9 => h9) rfl dX2_readNumber_126 ?_
                refine lv_iconst (v := 1) hx hb dX2_readNumber_129 (by decide) ?_
                refine lv_iadd hx hb dX2_readNumber_130 ?_
                refine lv_topi (fun x130 e130 => ?_)
                have t130 := i_add e130 (by omega)
                refine va_put (D := eD E) (ci := 2) (v := .int x130) (ty := .int) (C := RX2) (T := TX2) (N := 9) hx hb hts in_X2 tyX2 tyX2_ok nmX2 hown hK hP hD hS 0 rfl rfl 2 (by decide) lk0 (fun _ h9 => h9) rfl (by decide +kernel) rfl rfl (Nat.le_of_ble_eq_true rfl) dX2_readNumber_131 (fun H locs hP hD hS => ?_)
                replace hP : va_P (eD E) vwCl (rbL E qr qx fx ln x130 o41_fn o41_fa o1_ps cx ck ap) H := hP
                replace hD : va_D A (rbL E qr qx fx ln x130 o41_fn o41_fa o1_ps cx ck ap) := hD
                refine lv_goto (tgt := 63) hx hb dX2_readNumber_134 (by decide) ?_
                exact ih63 nv x130 _ _ ls (by omega) hP hD hS (by omega) (by rw [show x130.toInt = ps1.toInt + 1 by omega]; exact (dep_step (by omega) hdg).trans hx63_0) (by rw [show x130.toInt = ps1.toInt + 1 by omega]; exact hx123_0) (by omega) (lv_sub hl [1, 2, 3, 0] rfl)
              refine lv_icmp_ge (tgt := 122) hx hb dX2_readNumber_99 (by decide) (fun c99 => ?_) (fun c99 => ?_)
              · have c99_ := i_le c99
                refine lv_iload_n hx hb dX2_readNumber_122 rfl (lv_at hl 3 rfl) ?_
                exact K123 vv _ _ ls hP hD hS (by first | exact vv_in (by omega) (by omega) (by rw [← hx63_1]; omega) | exact hx63_1.trans (vv_out (by omega) (by omega))) (by omega) (lv_sub hl [0, 1, 2, 3] rfl)
              · have c99_ := i_nle c99
                refine lv_iload_n hx hb dX2_readNumber_102 rfl (lv_at hl 3 rfl) ?_
                refine lv_bipush (v := 10) hx hb dX2_readNumber_103 (by decide) ?_
                refine lv_imul hx hb dX2_readNumber_105 ?_
                refine lv_topi (fun x105 e105 => ?_)
                have t105 := i_mul e105 (by rw [n_10]; omega)
                rw [n_10] at t105
                refine lv_aload_n hx hb dX2_readNumber_106 rfl (lv_at hl 0 rfl) ?_
                refine va_get (D := eD E) (ci := 2) (v := .ref qx) (C := RX2) (T := TX2) (N := 9) hx hb hts in_X2 hown hK hP 0 rfl rfl 0 (by decide) lk6 (fun _ h9 => h9) rfl dX2_readNumber_107 ?_
                refine lv_aload_n hx hb dX2_readNumber_110 rfl (lv_at hl 0 rfl) ?_
                refine va_get (D := eD E) (ci := 2) (v := .int ps1) (C := RX2) (T := TX2) (N := 9) hx hb hts in_X2 hown hK hP 0 rfl rfl 2 (by decide) lk0 (fun _ h9 => h9) rfl dX2_readNumber_111 ?_
                refine va_iald hx hb hK hP 1 0 rfl rfl (n := 250) (f := fx) (i_in (by omega) (by omega)) dX2_readNumber_114 ?_
                refine lv_topi (fun x114 e114 => ?_)
                have tx114 : x114.toInt = tc fx ps1.toInt := by rw [e114]; rfl
                refine lv_iadd hx hb dX2_readNumber_115 ?_
                refine lv_topi (fun x115 e115 => ?_)
                have t115 := i_add e115 (by omega)
                refine lv_bipush (v := 48) hx hb dX2_readNumber_116 (by decide) ?_
                refine lv_isub hx hb dX2_readNumber_118 ?_
                refine lv_topi (fun x118 e118 => ?_)
                have t118 := i_sub e118 (by omega)
                refine lv_goto (tgt := 123) hx hb dX2_readNumber_119 (by decide) ?_
                exact K123 x118 _ _ ls hP hD hS (by first | exact vv_in (by omega) (by omega) (by rw [← hx63_1]; omega) | exact hx63_1.trans (vv_out (by omega) (by omega))) (by omega) (lv_sub hl [0, 1, 2, 3] rfl)
      exact K63 _ 0 o1_ps _ _ ls (Nat.lt_succ_self _) hP hD hS (by omega) rfl (by rw [show (o1_ps.toInt - o1_ps.toInt).toNat = 0 by omega]; exact n_0) (by omega) (lv_sub hl [1, 2, 3, 0] rfl)
    · have c48_ := i_ne c48
      refine lv_iconst (v := 0) hx hb dX2_readNumber_51 (by decide) ?_
      subst hQ
      exact W.iret (v := 0) hx hb hr (fun t ht hW => ⟨⟨0, (o1_ps, o41_fn, o41_fa, na), rfl, (show (((o41_fn.toInt = 0 ∧ fn.toInt = 0 ∧ lo.toInt ≤ (0 : Int32).toInt ∧ (0 : Int32).toInt ≤ hi.toInt) ∨ (o41_fn.toInt ≠ 0 ∧ (0 : Int32).toInt = 0)) ∧ ps.toInt ≤ o1_ps.toInt ∧ o1_ps.toInt ≤ ln.toInt ∧ (fn.toInt = 0 ∨ o41_fn.toInt = fn.toInt)) ∧ (CF (numF fx ln.toInt lo.toInt hi.toInt ps.toInt) fn.toInt fa.toInt o41_fn.toInt o41_fa.toInt (fun x => (0 : Int32).toInt = x.1 ∧ o1_ps.toInt = x.2.1 ∧ na.toInt = x.2.2)) from ⟨(by omega), (hf41.elim (fun q => CF.no q.2.1 (num_no1 hf1 (by omega)) (q.2.2.1.trans n_1) q.2.2.2) (fun q => CF.old (by omega) q.2.1 q.2.2))⟩), by rw [ht]; exact hP, hD⟩, hS.F ht⟩) hS.2.2 dX2_readNumber_52
  refine lv_icmp_ge (tgt := 31) hx hb dX2_readNumber_13 (by decide) (fun c13 => ?_) (fun c13 => ?_)
  · have c13_ := i_le c13
    refine lv_iconst (v := 1) hx hb dX2_readNumber_31 (by decide) ?_
    refine lv_goto (tgt := 36) hx hb dX2_readNumber_32 (by decide) ?_
    exact K36 1 _ _ ls hP hD hS (by omega) (Or.inr ⟨by decide, by omega⟩) (lv_sub hl [0, 1, 2] rfl)
  · have c13_ := i_nle c13
    refine lv_aload_n hx hb dX2_readNumber_16 rfl (lv_at hl 0 rfl) ?_
    refine va_get (D := eD E) (ci := 2) (v := .ref qx) (C := RX2) (T := TX2) (N := 9) hx hb hts in_X2 hown hK hP 0 rfl rfl 0 (by decide) lk6 (fun _ h9 => h9) rfl dX2_readNumber_17 ?_
    refine lv_aload_n hx hb dX2_readNumber_20 rfl (lv_at hl 0 rfl) ?_
    refine va_get (D := eD E) (ci := 2) (v := .int o1_ps) (C := RX2) (T := TX2) (N := 9) hx hb hts in_X2 hown hK hP 0 rfl rfl 2 (by decide) lk0 (fun _ h9 => h9) rfl dX2_readNumber_21 ?_
    refine va_iald hx hb hK hP 1 0 rfl rfl (n := 250) (f := fx) (i_in (by omega) (by omega)) dX2_readNumber_24 ?_
    refine lv_topi (fun x24 e24 => ?_)
    have tx24 : x24.toInt = tc fx o1_ps.toInt := by rw [e24]; rfl
    refine rd_S (As := [.int x24]) (rest := [.ref qr]) ⟨hx, hb, hml, hown, hts⟩ (c_X2_isFigure l E A x24) (va_cwS 1 hts gX2_readNumber_X2_isFigure rfl rfl rfl (by decide +kernel) ⟨Nat.le_of_ble_eq_true rfl, Nat.le_of_ble_eq_true rfl⟩) (hE.kept hS.2.1) (hP.sub (ws' := []) [] rfl) rfl hl.1 rfl (Nat.le_of_ble_eq_true rfl) dX2_readNumber_25 ⟨Nat.zero_le _, Nat.zero_le _⟩ (fun r25 h25 => ?_)
    have hf25 := h25.2
    replace h25 := h25.1
    refine lv_if_ne (tgt := 35) hx hb dX2_readNumber_28 (by decide) (fun c28 => ?_) (fun c28 => ?_)
    · have c28_ := i_ne c28
      replace h25 := b_y h25 c28_
      clear c28_
      refine lv_iconst (v := 0) hx hb dX2_readNumber_35 (by decide) ?_
      exact K36 0 _ _ ls hP hD hS (by omega) (Or.inl ⟨by decide, by omega⟩) (lv_sub hl [0, 1, 2] rfl)
    · have c28_ := i_eq c28
      clear h25
      refine lv_iconst (v := 1) hx hb dX2_readNumber_31 (by decide) ?_
      refine lv_goto (tgt := 36) hx hb dX2_readNumber_32 (by decide) ?_
      exact K36 1 _ _ ls hP hD hS (by omega) (Or.inr ⟨by decide, by omega⟩) (lv_sub hl [0, 1, 2] rfl)
def rm_X2_readSign : Room := { frames := 1, cells := 0, slots := 0, locals := 23 }
set_option maxHeartbeats 4000000 in
set_option maxRecDepth 100000 in
theorem c_X2_readSign (l : Launch) (E : Ev) (sz : Nat) (qr : Nat) (qx : Nat) (fx : Nat → Int32) (ln : Int32) (ps : Int32) (fn : Int32) (fa : Int32) (na : Int32) (cx : Int32) (ck : Int32) (ap : Nat → Nat) (sg : Int32) (hln : 0 ≤ ln.toInt ∧ ln.toInt ≤ 250) (hps : 0 ≤ ps.toInt ∧ ps.toInt ≤ ln.toInt) : Met l yX2_readSign wsX2_readSign rm_X2_readSign (MtP E sz [.ref qr, .int sg] (rbL E qr qx fx ln ps fn fa na cx ck ap)) (va_Qv (fun (u : Int32 × Int32 × Int32) => (ps.toInt ≤ u.1.toInt ∧ u.1.toInt ≤ ln.toInt + 1 ∧ (u.2.1.toInt ≠ 0 ∨ u.1.toInt ≤ ln.toInt) ∧ (fn.toInt = 0 ∨ u.2.1.toInt = fn.toInt)) ∧ (CF (sgnF fx ln.toInt sg.toInt ps.toInt) fn.toInt fa.toInt u.2.1.toInt u.2.2.toInt (fun x => u.1.toInt = x))) (MtB E (va_A (rbL E qr qx fx ln ps fn fa na cx ck ap) sz) (fun u => rbL E qr qx fx ln u.1 u.2.1 u.2.2 na cx ck ap)) (va_A (rbL E qr qx fx ln ps fn fa na cx ck ap) sz)) 0 0 (va_A (rbL E qr qx fx ln ps fn fa na cx ck ap) sz) := by
  refine Met.ofW (cc := cX2_readSign) (maxL := 2) (ret := none) (by decide) rfl ?_
  intro p e s m args below meth c s₁ B hml hv
  obtain ⟨rfl, hsz, hE, hP, hD0⟩ := hv
  subst hsz
  have hD := hD0.self (sz := s.heap.size)
  generalize hAe : va_A (rbL E qr qx fx ln ps fn fa na cx ck ap) s.heap.size = A at hD hE ⊢
  have hA : ∀ q : Nat, s.heap.size ≤ q → A q := fun q h => by rw [← hAe]; exact Or.inr h
  have hS : va_S A s.heap s.heap [] := va_S.rf
  have hx := B.exec
  have hb := B.bytes
  have hr := B.returns
  have hts := atoms_spec (ws := wsX2_readSign) B.pre
  have hown : s.vm.findClass RX2 = some m.cls := findClass_of_methodNamed B.named
  have hlocks := B.notSynchronized
  have hK := hE.1
  have in_X2 : ∀ w ∈ u_ws RX2 TX2 9, w ∈ wsX2_readSign := fun w h => List.mem_cons_of_mem _ (List.mem_append_right _ h)
  have lk0 := hts (.fieldLink RX2 25 "TidedGround$Reader" "at" "I") (List.mem_of_getElem? (i := 1) rfl)
  have lk1 := hts (.fieldLink RX2 21 "TidedGround$Reader" "length" "I") (List.mem_of_getElem? (i := 2) rfl)
  have lk2 := hts (.fieldLink RX2 9 "TidedGround$Reader" "text" "[I") (List.mem_of_getElem? (i := 3) rfl)
  have n_0 : (0 : Int32).toInt = 0 := by decide
  have n_1 : (1 : Int32).toInt = 1 := by decide
  have hl := lv_entry ([.ref qr, .int sg]) (n := 2) (Nat.le_of_ble_eq_true rfl)
  rw [lg_entry_eq]
  generalize (lg_sl ([.ref qr, .int sg]) ++ List.replicate (2 - (lg_sl ([.ref qr, .int sg])).length) Slot.unset).toArray = ls at hl ⊢
  have hl : lv_has ls 2 [(0, .ref qr), (1, .int sg)] := hl
  refine W_abs (fun Q hQ => ?_)
  refine lv_aload_n hx hb dX2_readSign_0 rfl (lv_at hl 0 rfl) ?_
  refine mt_Vv (w1 := fun (u : Int32) => rbL E qr qx fx ln u fn fa na cx ck ap) (wf := fun (u : Int32) => rbL E qr qx fx ln u fn fa na cx ck ap) (wr := []) (As := []) (rest := []) (C := RX2) (ci := 2) ⟨hx, hb, hml, hown, hts⟩ (c_X2_skipBlanks l E s.heap.size qr qx fx ln ps fn fa na cx ck ap (by omega) (by omega)) (cwV 0 hts gX2_readSign_X2_skipBlanks rfl rfl rfl (by decide +kernel) ⟨Nat.le_of_ble_eq_true rfl, Nat.le_of_ble_eq_true rfl⟩) hE hS hA hP hD [0, 1] [] rfl rfl (by decide) (by decide) (by decide) [0, 1] (by decide) (fun u => rfl) rfl rfl rfl rfl hl.1 rfl (Nat.le_of_ble_eq_true rfl) dX2_readSign_1 ⟨Nat.zero_le _, Nat.zero_le _⟩ (fun u1 H locs h1 hP hD hS => ?_)
  generalize u1 = o1_ps at hP hD h1
  try dsimp only at h1
  have hf1 := h1.2
  replace h1 := h1.1
  replace hP : va_P (eD E) vwCl (rbL E qr qx fx ln o1_ps fn fa na cx ck ap) H := hP
  replace hD : va_D A (rbL E qr qx fx ln o1_ps fn fa na cx ck ap) := hD
  refine lv_aload_n hx hb dX2_readSign_4 rfl (lv_at hl 0 rfl) ?_
  refine lv_aload_n hx hb dX2_readSign_5 rfl (lv_at hl 0 rfl) ?_
  refine va_get (D := eD E) (ci := 2) (v := .int o1_ps) (C := RX2) (T := TX2) (N := 9) hx hb hts in_X2 hown hK hP 0 rfl rfl 2 (by decide) lk0 (fun _ h9 => h9) rfl dX2_readSign_6 ?_
  refine lv_aload_n hx hb dX2_readSign_9 rfl (lv_at hl 0 rfl) ?_
  refine va_get (D := eD E) (ci := 2) (v := .int ln) (C := RX2) (T := TX2) (N := 9) hx hb hts in_X2 hown hK hP 0 rfl rfl 1 (by decide) lk1 (fun _ h9 => h9) rfl dX2_readSign_10 ?_
  have K34 : ∀  (w : Int32) (H : Heap) (locs : List Loc) (ls : Array Slot), va_P (eD E) vwCl (rbL E qr qx fx ln o1_ps fn fa na cx ck ap) H → va_D A (rbL E qr qx fx ln o1_ps fn fa na cx ck ap) → va_S A s.heap H locs → ((w.toInt = 0 ∧ o1_ps.toInt < ln.toInt) ∨ w.toInt = 1) → ((w.toInt = 0 ∧ o1_ps.toInt < ln.toInt ∧ tc fx o1_ps.toInt = sg.toInt) ∨ (w.toInt = 1 ∧ (ln.toInt ≤ o1_ps.toInt ∨ tc fx o1_ps.toInt ≠ sg.toInt))) → lv_has ls 2 [(0, .ref qr), (1, .int sg)] → W p l e (headSpec wsX2_readSign rm_X2_readSign).room s m ([.ref qr, .int sg] : List Value).toArray below meth c H locs 0 0 Q (F0 m 34 ls [.int w, .ref qr]) := by
    intro w H locs ls hP hD hS h34_0 h34_1 hl
    have hx34_0 := h34_1
    clear h34_1
    refine lv_iconst (v := 1) hx hb dX2_readSign_34 (by decide) ?_
    refine lv_aload_n hx hb dX2_readSign_35 rfl (lv_at hl 0 rfl) ?_
    refine va_get (D := eD E) (ci := 2) (v := .int o1_ps) (C := RX2) (T := TX2) (N := 9) hx hb hts in_X2 hown hK hP 0 rfl rfl 2 (by decide) lk0 (fun _ h9 => h9) rfl dX2_readSign_36 ?_
    refine mt_Vv (w1 := fun (u : Int32 × Int32) => rbL E qr qx fx ln o1_ps u.1 u.2 na cx ck ap) (wf := fun (u : Int32 × Int32) => rbL E qr qx fx ln o1_ps u.1 u.2 na cx ck ap) (wr := []) (As := [.int w, .int 1, .int o1_ps]) (rest := []) (C := RX2) (ci := 2) ⟨hx, hb, hml, hown, hts⟩ (c_X2_refuseIf l E H.size qr qx fx ln o1_ps fn fa na cx ck ap w 1 o1_ps (by omega)) (cwV 3 hts gX2_readSign_X2_refuseIf rfl rfl rfl (by decide +kernel) ⟨Nat.le_of_ble_eq_true rfl, Nat.le_of_ble_eq_true rfl⟩) hE hS hA hP hD [0, 1] [] rfl rfl (by decide) (by decide) (by decide) [0, 1] (by decide) (fun u => rfl) rfl rfl rfl rfl hl.1 rfl (Nat.le_of_ble_eq_true rfl) dX2_readSign_39 ⟨Nat.zero_le _, Nat.zero_le _⟩ (fun u39 H locs h39 hP hD hS => ?_)
    obtain ⟨o39_fn, o39_fa⟩ := u39
    try dsimp only at h39
    have hf39 := h39.2
    replace h39 := h39.1
    replace hP : va_P (eD E) vwCl (rbL E qr qx fx ln o1_ps o39_fn o39_fa na cx ck ap) H := hP
    replace hD : va_D A (rbL E qr qx fx ln o1_ps o39_fn o39_fa na cx ck ap) := hD
    refine lv_aload_n hx hb dX2_readSign_42 rfl (lv_at hl 0 rfl) ?_
    refine lv_dup hx hb dX2_readSign_43 rfl ?_
    refine va_get (D := eD E) (ci := 2) (v := .int o1_ps) (C := RX2) (T := TX2) (N := 9) hx hb hts in_X2 hown hK hP 0 rfl rfl 2 (by decide) lk0 (fun _ h9 => h9) rfl dX2_readSign_44 ?_
    refine lv_iconst (v := 1) hx hb dX2_readSign_47 (by decide) ?_
    refine lv_iadd hx hb dX2_readSign_48 ?_
    refine lv_topi (fun x48 e48 => ?_)
    have t48 := i_add e48 (by omega)
    refine va_put (D := eD E) (ci := 2) (v := .int x48) (ty := .int) (C := RX2) (T := TX2) (N := 9) hx hb hts in_X2 tyX2 tyX2_ok nmX2 hown hK hP hD hS 0 rfl rfl 2 (by decide) lk0 (fun _ h9 => h9) rfl (by decide +kernel) rfl rfl (Nat.le_of_ble_eq_true rfl) dX2_readSign_49 (fun H locs hP hD hS => ?_)
    replace hP : va_P (eD E) vwCl (rbL E qr qx fx ln x48 o39_fn o39_fa na cx ck ap) H := hP
    replace hD : va_D A (rbL E qr qx fx ln x48 o39_fn o39_fa na cx ck ap) := hD
    subst hQ
    exact W.vret hx hb hr (fun t ht hW => ⟨⟨(x48, o39_fn, o39_fa), rfl, (show (ps.toInt ≤ x48.toInt ∧ x48.toInt ≤ ln.toInt + 1 ∧ (o39_fn.toInt ≠ 0 ∨ x48.toInt ≤ ln.toInt) ∧ (fn.toInt = 0 ∨ o39_fn.toInt = fn.toInt)) ∧ (CF (sgnF fx ln.toInt sg.toInt ps.toInt) fn.toInt fa.toInt o39_fn.toInt o39_fa.toInt (fun x => x48.toInt = x)) from ⟨(by omega), (hf39.elim (fun q => CF.no q.2.1 (sgn_no hf1 (by omega)) (q.2.2.1.trans n_1) q.2.2.2) (fun q => (Decidable.em (fn.toInt = 0)).elim (fun z => CF.ok z (sgn_ok hf1 (by omega)) (by omega) (by omega) (by omega)) (fun z => CF.old z q.2.1 q.2.2)))⟩), by rw [ht]; exact hP, hD⟩, hS.F ht⟩) hS.2.2 dX2_readSign_52
  refine lv_icmp_ge (tgt := 29) hx hb dX2_readSign_13 (by decide) (fun c13 => ?_) (fun c13 => ?_)
  · have c13_ := i_le c13
    refine lv_iconst (v := 1) hx hb dX2_readSign_29 (by decide) ?_
    refine lv_goto (tgt := 34) hx hb dX2_readSign_30 (by decide) ?_
    exact K34 1 _ _ ls hP hD hS (by omega) (Or.inr ⟨by decide, by omega⟩) (lv_sub hl [0, 1] rfl)
  · have c13_ := i_nle c13
    refine lv_aload_n hx hb dX2_readSign_16 rfl (lv_at hl 0 rfl) ?_
    refine va_get (D := eD E) (ci := 2) (v := .ref qx) (C := RX2) (T := TX2) (N := 9) hx hb hts in_X2 hown hK hP 0 rfl rfl 0 (by decide) lk2 (fun _ h9 => h9) rfl dX2_readSign_17 ?_
    refine lv_aload_n hx hb dX2_readSign_20 rfl (lv_at hl 0 rfl) ?_
    refine va_get (D := eD E) (ci := 2) (v := .int o1_ps) (C := RX2) (T := TX2) (N := 9) hx hb hts in_X2 hown hK hP 0 rfl rfl 2 (by decide) lk0 (fun _ h9 => h9) rfl dX2_readSign_21 ?_
    refine va_iald hx hb hK hP 1 0 rfl rfl (n := 250) (f := fx) (i_in (by omega) (by omega)) dX2_readSign_24 ?_
    refine lv_topi (fun x24 e24 => ?_)
    have tx24 : x24.toInt = tc fx o1_ps.toInt := by rw [e24]; rfl
    refine lv_iload_n hx hb dX2_readSign_25 rfl (lv_at hl 1 rfl) ?_
    refine lv_icmp_eq (tgt := 33) hx hb dX2_readSign_26 (by decide) (fun c26 => ?_) (fun c26 => ?_)
    · have c26_ := i_eq c26
      refine lv_iconst (v := 0) hx hb dX2_readSign_33 (by decide) ?_
      exact K34 0 _ _ ls hP hD hS (by omega) (Or.inl ⟨by decide, by omega⟩) (lv_sub hl [0, 1] rfl)
    · have c26_ := i_ne c26
      refine lv_iconst (v := 1) hx hb dX2_readSign_29 (by decide) ?_
      refine lv_goto (tgt := 34) hx hb dX2_readSign_30 (by decide) ?_
      exact K34 1 _ _ ls hP hD hS (by omega) (Or.inr ⟨by decide, by omega⟩) (lv_sub hl [0, 1] rfl)
def rm_X2_readPlace : Room := { frames := 2, cells := 0, slots := 0, locals := 46 }
set_option maxHeartbeats 4000000 in
set_option maxRecDepth 100000 in
theorem c_X2_readPlace (l : Launch) (E : Ev) (sz : Nat) (qr : Nat) (qx : Nat) (fx : Nat → Int32) (ln : Int32) (ps : Int32) (fn : Int32) (fa : Int32) (na : Int32) (cx : Int32) (ck : Int32) (ap : Nat → Nat) (vp : Vf) (hln : 0 ≤ ln.toInt ∧ ln.toInt ≤ 250) (hps : 0 ≤ ps.toInt ∧ ps.toInt ≤ ln.toInt) (hI : PlanI vp) : Met l yX2_readPlace wsX2_readPlace rm_X2_readPlace (MtP E sz [.ref qr] (rdL E qr qx fx ln ps fn fa na cx ck ap vp)) (va_Qi (fun (r : Int32) (u : Int32 × Int32 × Int32 × Int32) => ((0 ≤ r.toInt ∧ r.toInt ≤ 23) ∧ ps.toInt ≤ u.1.toInt ∧ u.1.toInt ≤ ln.toInt ∧ (fn.toInt = 0 ∨ u.2.1.toInt = fn.toInt)) ∧ (CF (placeF fx ln.toInt (vp 0 0).toInt (vp 1 0).toInt ps.toInt) fn.toInt fa.toInt u.2.1.toInt u.2.2.1.toInt (fun z => r.toInt = plc (vp 0 0).toInt z ∧ u.1.toInt = z.2.2.1 ∧ u.2.2.2.toInt = z.2.2.2))) (MtB E (va_A (rdL E qr qx fx ln ps fn fa na cx ck ap vp) sz) (fun u => rdL E qr qx fx ln u.1 u.2.1 u.2.2.1 u.2.2.2 cx ck ap vp)) (va_A (rdL E qr qx fx ln ps fn fa na cx ck ap vp) sz)) 0 0 (va_A (rdL E qr qx fx ln ps fn fa na cx ck ap vp) sz) := by
  refine Met.ofW (cc := cX2_readPlace) (maxL := 4) (ret := (some .int)) (by decide) rfl ?_
  intro p e s m args below meth c s₁ B hml hv
  obtain ⟨rfl, hsz, hE, hP, hD0⟩ := hv
  subst hsz
  have hD := hD0.self (sz := s.heap.size)
  generalize hAe : va_A (rdL E qr qx fx ln ps fn fa na cx ck ap vp) s.heap.size = A at hD hE ⊢
  have hA : ∀ q : Nat, s.heap.size ≤ q → A q := fun q h => by rw [← hAe]; exact Or.inr h
  have hS : va_S A s.heap s.heap [] := va_S.rf
  have hx := B.exec
  have hb := B.bytes
  have hr := B.returns
  have hts := atoms_spec (ws := wsX2_readPlace) B.pre
  have hown : s.vm.findClass RX2 = some m.cls := findClass_of_methodNamed B.named
  have hlocks := B.notSynchronized
  have hK := hE.1
  have in_X2 : ∀ w ∈ u_ws RX2 TX2 9, w ∈ wsX2_readPlace := fun w h => List.mem_cons_of_mem _ (List.mem_append_left _ (List.mem_append_right _ h))
  have in_X1 : ∀ w ∈ u_ws RX1 TX1 11, w ∈ wsX2_readPlace := fun w h => List.mem_cons_of_mem _ (List.mem_append_right _ h)
  have lk0 := hts (.fieldLink RX2 28 "TidedGround$Reader" "plan" "LTidedGround$Plan;") (List.mem_of_getElem? (i := 1) rfl)
  have lk1 := hts (.fieldLink RX2 93 "TidedGround$Plan" "width" "I") (List.mem_of_getElem? (i := 2) rfl)
  have lk2 := hts (.fieldLink RX2 96 "TidedGround$Plan" "depth" "I") (List.mem_of_getElem? (i := 3) rfl)
  have lk3 := hts (.fieldLink RX2 37 "TidedGround$Reader" "faultNumber" "I") (List.mem_of_getElem? (i := 4) rfl)
  have n_m1 : ((-1) : Int32).toInt = -1 := by decide
  have n_0 : (0 : Int32).toInt = 0 := by decide
  have n_1 : (1 : Int32).toInt = 1 := by decide
  have hl := lv_entry ([.ref qr]) (n := 4) (Nat.le_of_ble_eq_true rfl)
  rw [lg_entry_eq]
  generalize (lg_sl ([.ref qr]) ++ List.replicate (4 - (lg_sl ([.ref qr])).length) Slot.unset).toArray = ls at hl ⊢
  have hl : lv_has ls 4 [(0, .ref qr)] := hl
  refine W_abs (fun Q hQ => ?_)
  obtain ⟨hg, hmc, hm0, hm1, hm2, hs0, hs1, hs2, hs3⟩ := id hI
  obtain ⟨hg1, hg2, hg3, hg4⟩ := id hg
  have hz0 := hm0.1
  have hz1 := hm1.1
  have hz2 := hm2.1
  have hc0 := hs0.1
  have hc1 := hs1.1
  have hc2 := hs2.1
  have hc3 := hs3.1
  refine lv_aload_n hx hb dX2_readPlace_0 rfl (lv_at hl 0 rfl) ?_
  refine lv_iconst (v := 0) hx hb dX2_readPlace_1 (by decide) ?_
  refine lv_aload_n hx hb dX2_readPlace_2 rfl (lv_at hl 0 rfl) ?_
  refine va_get (D := eD E) (ci := 2) (v := .ref (ap 0)) (C := RX2) (T := TX2) (N := 9) hx hb hts in_X2 hown hK hP 0 rfl rfl 3 (by decide) lk0 (fun _ h9 => h9) rfl dX2_readPlace_3 ?_
  refine va_get (D := eD E) (ci := 1) (v := .int (vp 0 0)) (C := RX1) (T := TX1) (N := 11) hx hb hts in_X1 hown hK hP 2 rfl rfl 0 (by decide) lk1 (fun _ h9 => h9) rfl dX2_readPlace_6 ?_
  refine lv_iconst (v := 1) hx hb dX2_readPlace_9 (by decide) ?_
  refine lv_isub hx hb dX2_readPlace_10 ?_
  refine lv_topi (fun x10 e10 => ?_)
  have t10 := i_sub e10 (by omega)
  refine mt_Vi (w1 := fun (u : Int32 × Int32 × Int32 × Int32) => rbL E qr qx fx ln u.1 u.2.1 u.2.2.1 u.2.2.2 cx ck ap) (wf := fun (u : Int32 × Int32 × Int32 × Int32) => rdL E qr qx fx ln u.1 u.2.1 u.2.2.1 u.2.2.2 cx ck ap vp) (wr := [((ap 0), .inr (1, [.int (vp 0 0), .int (vp 1 0), .int (vp 2 0), .ref (ap 3), .ref (ap 4), .int (vp 5 0), .ref (ap 6), .ref (ap 7), .ref (ap 8), .ref (ap 9), .ref (ap 10)])), ((ap 3), .inl (eI E, 24, .inl (vp 3))), ((ap 4), .inl (eI E, 24, .inl (vp 4))), ((ap 6), .inl (eM E, 3, .inr (.inr (.inr (.inr (fun i => some (ap (20 + 10 * i)))))))), ((ap 20), .inr (0, [.int (vp 20 0), .int (vp 21 0), .int (vp 22 0), .ref (ap 23), .ref (ap 24)])), ((ap 23), .inl (eI E, 18, .inl (vp 23))), ((ap 24), .inl (eI E, 24, .inl (vp 24))), ((ap 30), .inr (0, [.int (vp 30 0), .int (vp 31 0), .int (vp 32 0), .ref (ap 33), .ref (ap 34)])), ((ap 33), .inl (eI E, 18, .inl (vp 33))), ((ap 34), .inl (eI E, 24, .inl (vp 34))), ((ap 40), .inr (0, [.int (vp 40 0), .int (vp 41 0), .int (vp 42 0), .ref (ap 43), .ref (ap 44)])), ((ap 43), .inl (eI E, 18, .inl (vp 43))), ((ap 44), .inl (eI E, 24, .inl (vp 44))), ((ap 7), .inr (5, [.int (vp 60 0), .ref (ap 61), .ref (ap 62), .ref (ap 63)])), ((ap 61), .inl (eI E, 6, .inl (vp 61))), ((ap 62), .inl (eI E, 6, .inl (vp 62))), ((ap 63), .inl (eI E, 6, .inl (vp 63))), ((ap 8), .inr (5, [.int (vp 70 0), .ref (ap 71), .ref (ap 72), .ref (ap 73)])), ((ap 71), .inl (eI E, 6, .inl (vp 71))), ((ap 72), .inl (eI E, 6, .inl (vp 72))), ((ap 73), .inl (eI E, 6, .inl (vp 73))), ((ap 9), .inr (5, [.int (vp 80 0), .ref (ap 81), .ref (ap 82), .ref (ap 83)])), ((ap 81), .inl (eI E, 6, .inl (vp 81))), ((ap 82), .inl (eI E, 6, .inl (vp 82))), ((ap 83), .inl (eI E, 6, .inl (vp 83))), ((ap 10), .inr (5, [.int (vp 90 0), .ref (ap 91), .ref (ap 92), .ref (ap 93)])), ((ap 91), .inl (eI E, 6, .inl (vp 91))), ((ap 92), .inl (eI E, 6, .inl (vp 92))), ((ap 93), .inl (eI E, 6, .inl (vp 93)))]) (As := [.int 0, .int x10]) (rest := []) (C := RX2) (ci := 2) ⟨hx, hb, hml, hown, hts⟩ (c_X2_readNumber l E s.heap.size qr qx fx ln ps fn fa na cx ck ap 0 x10 (by omega) (by omega)) (cwV 2 hts gX2_readPlace_X2_readNumber rfl rfl rfl (by decide +kernel) ⟨Nat.le_of_ble_eq_true rfl, Nat.le_of_ble_eq_true rfl⟩) hE hS hA hP hD [0, 1] [2, 3, 4, 5, 6, 7, 8, 9, 10, 11, 12, 13, 14, 15, 16, 17, 18, 19, 20, 21, 22, 23, 24, 25, 26, 27, 28, 29, 30] rfl rfl (by decide) (by decide) (by decide) [29, 30, 0, 1, 2, 3, 4, 5, 6, 7, 8, 9, 10, 11, 12, 13, 14, 15, 16, 17, 18, 19, 20, 21, 22, 23, 24, 25, 26, 27, 28] (by decide) (fun u => rfl) rfl rfl rfl rfl hl.1 rfl (Nat.le_of_ble_eq_true rfl) dX2_readPlace_11 ⟨Nat.zero_le _, Nat.zero_le _⟩ (fun r11 u11 H locs h11 hP hD hS => ?_)
  obtain ⟨o11_ps, o11_fn, o11_fa, o11_na⟩ := u11
  try dsimp only at h11
  have hf11 := h11.2
  replace h11 := h11.1
  replace hP : va_P (eD E) vwCl (rdL E qr qx fx ln o11_ps o11_fn o11_fa o11_na cx ck ap vp) H := hP
  replace hD : va_D A (rdL E qr qx fx ln o11_ps o11_fn o11_fa o11_na cx ck ap vp) := hD
  have pb11 : 0 ≤ r11.toInt ∧ r11.toInt ≤ 5 := by omega
  rw [n_0, show x10.toInt = (vp 0 0).toInt - 1 by omega] at hf11
  refine lv_istore_n (lv' := [(1, .int r11), (0, .ref qr)]) hx hb dX2_readPlace_14 rfl hl (by decide) rfl (fun ls hl => ?_)
  refine lv_aload_n hx hb dX2_readPlace_15 rfl (lv_at hl 1 rfl) ?_
  refine lv_iconst (v := 0) hx hb dX2_readPlace_16 (by decide) ?_
  refine lv_aload_n hx hb dX2_readPlace_17 rfl (lv_at hl 1 rfl) ?_
  refine va_get (D := eD E) (ci := 2) (v := .ref (ap 0)) (C := RX2) (T := TX2) (N := 9) hx hb hts in_X2 hown hK hP 0 rfl rfl 3 (by decide) lk0 (fun _ h9 => h9) rfl dX2_readPlace_18 ?_
  refine va_get (D := eD E) (ci := 1) (v := .int (vp 1 0)) (C := RX1) (T := TX1) (N := 11) hx hb hts in_X1 hown hK hP 2 rfl rfl 1 (by decide) lk2 (fun _ h9 => h9) rfl dX2_readPlace_21 ?_
  refine lv_iconst (v := 1) hx hb dX2_readPlace_24 (by decide) ?_
  refine lv_isub hx hb dX2_readPlace_25 ?_
  refine lv_topi (fun x25 e25 => ?_)
  have t25 := i_sub e25 (by omega)
  refine mt_Vi (w1 := fun (u : Int32 × Int32 × Int32 × Int32) => rbL E qr qx fx ln u.1 u.2.1 u.2.2.1 u.2.2.2 cx ck ap) (wf := fun (u : Int32 × Int32 × Int32 × Int32) => rdL E qr qx fx ln u.1 u.2.1 u.2.2.1 u.2.2.2 cx ck ap vp) (wr := [((ap 0), .inr (1, [.int (vp 0 0), .int (vp 1 0), .int (vp 2 0), .ref (ap 3), .ref (ap 4), .int (vp 5 0), .ref (ap 6), .ref (ap 7), .ref (ap 8), .ref (ap 9), .ref (ap 10)])), ((ap 3), .inl (eI E, 24, .inl (vp 3))), ((ap 4), .inl (eI E, 24, .inl (vp 4))), ((ap 6), .inl (eM E, 3, .inr (.inr (.inr (.inr (fun i => some (ap (20 + 10 * i)))))))), ((ap 20), .inr (0, [.int (vp 20 0), .int (vp 21 0), .int (vp 22 0), .ref (ap 23), .ref (ap 24)])), ((ap 23), .inl (eI E, 18, .inl (vp 23))), ((ap 24), .inl (eI E, 24, .inl (vp 24))), ((ap 30), .inr (0, [.int (vp 30 0), .int (vp 31 0), .int (vp 32 0), .ref (ap 33), .ref (ap 34)])), ((ap 33), .inl (eI E, 18, .inl (vp 33))), ((ap 34), .inl (eI E, 24, .inl (vp 34))), ((ap 40), .inr (0, [.int (vp 40 0), .int (vp 41 0), .int (vp 42 0), .ref (ap 43), .ref (ap 44)])), ((ap 43), .inl (eI E, 18, .inl (vp 43))), ((ap 44), .inl (eI E, 24, .inl (vp 44))), ((ap 7), .inr (5, [.int (vp 60 0), .ref (ap 61), .ref (ap 62), .ref (ap 63)])), ((ap 61), .inl (eI E, 6, .inl (vp 61))), ((ap 62), .inl (eI E, 6, .inl (vp 62))), ((ap 63), .inl (eI E, 6, .inl (vp 63))), ((ap 8), .inr (5, [.int (vp 70 0), .ref (ap 71), .ref (ap 72), .ref (ap 73)])), ((ap 71), .inl (eI E, 6, .inl (vp 71))), ((ap 72), .inl (eI E, 6, .inl (vp 72))), ((ap 73), .inl (eI E, 6, .inl (vp 73))), ((ap 9), .inr (5, [.int (vp 80 0), .ref (ap 81), .ref (ap 82), .ref (ap 83)])), ((ap 81), .inl (eI E, 6, .inl (vp 81))), ((ap 82), .inl (eI E, 6, .inl (vp 82))), ((ap 83), .inl (eI E, 6, .inl (vp 83))), ((ap 10), .inr (5, [.int (vp 90 0), .ref (ap 91), .ref (ap 92), .ref (ap 93)])), ((ap 91), .inl (eI E, 6, .inl (vp 91))), ((ap 92), .inl (eI E, 6, .inl (vp 92))), ((ap 93), .inl (eI E, 6, .inl (vp 93)))]) (As := [.int 0, .int x25]) (rest := []) (C := RX2) (ci := 2) ⟨hx, hb, hml, hown, hts⟩ (c_X2_readNumber l E H.size qr qx fx ln o11_ps o11_fn o11_fa o11_na cx ck ap 0 x25 (by omega) (by omega)) (cwV 2 hts gX2_readPlace_X2_readNumber rfl rfl rfl (by decide +kernel) ⟨Nat.le_of_ble_eq_true rfl, Nat.le_of_ble_eq_true rfl⟩) hE hS hA hP hD [0, 1] [2, 3, 4, 5, 6, 7, 8, 9, 10, 11, 12, 13, 14, 15, 16, 17, 18, 19, 20, 21, 22, 23, 24, 25, 26, 27, 28, 29, 30] rfl rfl (by decide) (by decide) (by decide) [29, 30, 0, 1, 2, 3, 4, 5, 6, 7, 8, 9, 10, 11, 12, 13, 14, 15, 16, 17, 18, 19, 20, 21, 22, 23, 24, 25, 26, 27, 28] (by decide) (fun u => rfl) rfl rfl rfl rfl hl.1 rfl (Nat.le_of_ble_eq_true rfl) dX2_readPlace_26 ⟨Nat.zero_le _, Nat.zero_le _⟩ (fun r26 u26 H locs h26 hP hD hS => ?_)
  obtain ⟨o26_ps, o26_fn, o26_fa, o26_na⟩ := u26
  try dsimp only at h26
  have hf26 := h26.2
  replace h26 := h26.1
  replace hP : va_P (eD E) vwCl (rdL E qr qx fx ln o26_ps o26_fn o26_fa o26_na cx ck ap vp) H := hP
  replace hD : va_D A (rdL E qr qx fx ln o26_ps o26_fn o26_fa o26_na cx ck ap vp) := hD
  have pb26 : 0 ≤ r26.toInt ∧ r26.toInt ≤ 5 := by omega
  rw [n_0, show x25.toInt = (vp 1 0).toInt - 1 by omega] at hf26
  have hc26 := CF.then (s := fun a : Int × Int × Int => numF fx ln.toInt 0 ((vp 1 0).toInt - 1) a.2.1) hf11 hf26 okF.num (fun z hz => by rw [hz.2.1])
  refine lv_istore_n (lv' := [(2, .int r26), (1, .int r11), (0, .ref qr)]) hx hb dX2_readPlace_29 rfl hl (by decide) rfl (fun ls hl => ?_)
  refine lv_aload_n hx hb dX2_readPlace_30 rfl (lv_at hl 2 rfl) ?_
  refine va_get (D := eD E) (ci := 2) (v := .ref (ap 0)) (C := RX2) (T := TX2) (N := 9) hx hb hts in_X2 hown hK hP 0 rfl rfl 3 (by decide) lk0 (fun _ h9 => h9) rfl dX2_readPlace_31 ?_
  refine lv_iload_n hx hb dX2_readPlace_34 rfl (lv_at hl 1 rfl) ?_
  refine lv_iload_n hx hb dX2_readPlace_35 rfl (lv_at hl 0 rfl) ?_
  refine rd_V (As := [.int r11, .int r26]) (rest := []) (C := RX1) (ci := 1) ⟨hx, hb, hml, hown, hts⟩ (c_X1_cellAt l E A ap vp r11 r26 hI) (cwV 2 hts gX2_readPlace_X1_cellAt rfl rfl rfl (by decide +kernel) ⟨Nat.le_of_ble_eq_true rfl, Nat.le_of_ble_eq_true rfl⟩) (hE.kept hS.2.1) (hP.sub (ws' := planL E ap vp) [2, 3, 4, 5, 6, 7, 8, 9, 10, 11, 12, 13, 14, 15, 16, 17, 18, 19, 20, 21, 22, 23, 24, 25, 26, 27, 28, 29, 30] rfl) rfl rfl rfl rfl hl.1 rfl (Nat.le_of_ble_eq_true rfl) dX2_readPlace_36 ⟨Nat.zero_le _, Nat.zero_le _⟩ (fun r36 h36 => ?_)
  have hf36 := h36.2
  replace h36 := h36.1
  have hm36 : r26.toInt < 0 ∨ 0 ≤ (vp 0 0).toInt * r26.toInt := (Int.lt_or_le r26.toInt 0).imp id (fun q => Int.mul_nonneg (by omega) q)
  refine lv_istore_n (lv' := [(3, .int r36), (2, .int r26), (1, .int r11), (0, .ref qr)]) hx hb dX2_readPlace_39 rfl hl (by decide) rfl (fun ls hl => ?_)
  refine lv_aload_n hx hb dX2_readPlace_40 rfl (lv_at hl 3 rfl) ?_
  refine va_get (D := eD E) (ci := 2) (v := .int o26_fn) (C := RX2) (T := TX2) (N := 9) hx hb hts in_X2 hown hK hP 0 rfl rfl 4 (by decide) lk3 (fun _ h9 => h9) rfl dX2_readPlace_41 ?_
  refine lv_if_ne (tgt := 52) hx hb dX2_readPlace_44 (by decide) (fun c44 => ?_) (fun c44 => ?_)
  · have c44_ := i_ne c44
    refine lv_iconst (v := 0) hx hb dX2_readPlace_52 (by decide) ?_
    refine lv_goto (tgt := 57) hx hb dX2_readPlace_53 (by decide) ?_
    subst hQ
    exact W.iret (v := 0) hx hb hr (fun t ht hW => ⟨⟨0, (o26_ps, o26_fn, o26_fa, o26_na), rfl, (show ((0 ≤ (0 : Int32).toInt ∧ (0 : Int32).toInt ≤ 23) ∧ ps.toInt ≤ o26_ps.toInt ∧ o26_ps.toInt ≤ ln.toInt ∧ (fn.toInt = 0 ∨ o26_fn.toInt = fn.toInt)) ∧ (CF (placeF fx ln.toInt (vp 0 0).toInt (vp 1 0).toInt ps.toInt) fn.toInt fa.toInt o26_fn.toInt o26_fa.toInt (fun z => (0 : Int32).toInt = plc (vp 0 0).toInt z ∧ o26_ps.toInt = z.2.2.1 ∧ o26_na.toInt = z.2.2.2)) from ⟨(by omega), (hc26.mono (fun q1 q2 z hz => ⟨by unfold plc; rw [← hz.1.1, ← hz.2.1]; omega, hz.2.2.1, hz.2.2.2⟩))⟩), by rw [ht]; exact hP, hD⟩, hS.F ht⟩) hS.2.2 dX2_readPlace_57
  · have c44_ := i_eq c44
    refine lv_iload_n hx hb dX2_readPlace_47 rfl (lv_at hl 0 rfl) ?_
    refine lv_iconst (v := (-1)) hx hb dX2_readPlace_48 (by decide) ?_
    refine lv_icmp_ne (tgt := 56) hx hb dX2_readPlace_49 (by decide) (fun c49 => ?_) (fun c49 => ?_)
    · have c49_ := i_ne c49
      replace h36 := cm_n h36 c49_
      clear c49_
      refine lv_iload_n hx hb dX2_readPlace_56 rfl (lv_at hl 0 rfl) ?_
      subst hQ
      exact W.iret (v := r36) hx hb hr (fun t ht hW => ⟨⟨r36, (o26_ps, o26_fn, o26_fa, o26_na), rfl, (show ((0 ≤ r36.toInt ∧ r36.toInt ≤ 23) ∧ ps.toInt ≤ o26_ps.toInt ∧ o26_ps.toInt ≤ ln.toInt ∧ (fn.toInt = 0 ∨ o26_fn.toInt = fn.toInt)) ∧ (CF (placeF fx ln.toInt (vp 0 0).toInt (vp 1 0).toInt ps.toInt) fn.toInt fa.toInt o26_fn.toInt o26_fa.toInt (fun z => r36.toInt = plc (vp 0 0).toInt z ∧ o26_ps.toInt = z.2.2.1 ∧ o26_na.toInt = z.2.2.2)) from ⟨(by omega), (hc26.mono (fun q1 q2 z hz => ⟨by unfold plc; rw [← hz.1.1, ← hz.2.1]; omega, hz.2.2.1, hz.2.2.2⟩))⟩), by rw [ht]; exact hP, hD⟩, hS.F ht⟩) hS.2.2 dX2_readPlace_57
    · have c49_ := i_eq c49
      clear h36
      refine lv_iconst (v := 0) hx hb dX2_readPlace_52 (by decide) ?_
      refine lv_goto (tgt := 57) hx hb dX2_readPlace_53 (by decide) ?_
      subst hQ
      exact W.iret (v := 0) hx hb hr (fun t ht hW => ⟨⟨0, (o26_ps, o26_fn, o26_fa, o26_na), rfl, (show ((0 ≤ (0 : Int32).toInt ∧ (0 : Int32).toInt ≤ 23) ∧ ps.toInt ≤ o26_ps.toInt ∧ o26_ps.toInt ≤ ln.toInt ∧ (fn.toInt = 0 ∨ o26_fn.toInt = fn.toInt)) ∧ (CF (placeF fx ln.toInt (vp 0 0).toInt (vp 1 0).toInt ps.toInt) fn.toInt fa.toInt o26_fn.toInt o26_fa.toInt (fun z => (0 : Int32).toInt = plc (vp 0 0).toInt z ∧ o26_ps.toInt = z.2.2.1 ∧ o26_na.toInt = z.2.2.2)) from ⟨(by omega), (hc26.mono (fun q1 q2 z hz => ⟨by unfold plc; rw [← hz.1.1, ← hz.2.1]; omega, hz.2.2.1, hz.2.2.2⟩))⟩), by rw [ht]; exact hP, hD⟩, hS.F ht⟩) hS.2.2 dX2_readPlace_57
def rm_X2_addTo : Room := { frames := 1, cells := 0, slots := 0, locals := 23 }
set_option maxHeartbeats 4000000 in
set_option maxRecDepth 100000 in
theorem c_X2_addTo (l : Launch) (E : Ev) (sz : Nat) (qr : Nat) (qx : Nat) (ln : Int32) (ps : Int32) (fn : Int32) (fa : Int32) (na : Int32) (cx : Int32) (ck : Int32) (ap : Nat → Nat) (q : Nat) (q1 : Nat) (q2 : Nat) (q3 : Nat) (n : Int32) (f1 : Nat → Int32) (f2 : Nat → Int32) (f3 : Nat → Int32) (x : Int32) (y : Int32) (z : Int32) (hs : sitesI 6 n f1) (hx : 0 ≤ x.toInt ∧ x.toInt ≤ 23) : Met l yX2_addTo wsX2_addTo rm_X2_addTo (MtP E sz [.ref qr, .ref q, .int x, .int y, .int z] (adL E qr qx ln ps fn fa na cx ck ap q q1 q2 q3 n f1 f2 f3)) (va_Qv (fun (u : Int32 × (Nat → Int32) × (Nat → Int32) × (Nat → Int32)) => (sitesI 6 u.1 u.2.1 ∧ u.1.toInt ≤ n.toInt + 1 ∧ (fn.toInt = 0 ∨ u.1.toInt = n.toInt)) ∧ ((fn.toInt = 0 → n.toInt < 6 → u.1.toInt = n.toInt + 1 ∧ u.2.1 = upd f1 n.toNatClampNeg x ∧ u.2.2.1 = upd f2 n.toNatClampNeg y ∧ u.2.2.2 = upd f3 n.toNatClampNeg z) ∧ (fn.toInt ≠ 0 → u.1.toInt = n.toInt ∧ u.2.1 = f1 ∧ u.2.2.1 = f2 ∧ u.2.2.2 = f3))) (MtB E (va_A (adL E qr qx ln ps fn fa na cx ck ap q q1 q2 q3 n f1 f2 f3) sz) (fun u => adL E qr qx ln ps fn fa na cx ck ap q q1 q2 q3 u.1 u.2.1 u.2.2.1 u.2.2.2)) (va_A (adL E qr qx ln ps fn fa na cx ck ap q q1 q2 q3 n f1 f2 f3) sz)) 0 0 (va_A (adL E qr qx ln ps fn fa na cx ck ap q q1 q2 q3 n f1 f2 f3) sz) := by
  refine Met.ofW (cc := cX2_addTo) (maxL := 5) (ret := none) (by decide) rfl ?_
  intro p e s m args below meth c s₁ B hml hv
  obtain ⟨rfl, hsz, hE, hP, hD0⟩ := hv
  subst hsz
  have hD := hD0.self (sz := s.heap.size)
  generalize hAe : va_A (adL E qr qx ln ps fn fa na cx ck ap q q1 q2 q3 n f1 f2 f3) s.heap.size = A at hD hE ⊢
  have hA : ∀ q : Nat, s.heap.size ≤ q → A q := fun q h => by rw [← hAe]; exact Or.inr h
  have hS : va_S A s.heap s.heap [] := va_S.rf
  have hx := B.exec
  have hb := B.bytes
  have hr := B.returns
  have hts := atoms_spec (ws := wsX2_addTo) B.pre
  have hown : s.vm.findClass RX2 = some m.cls := findClass_of_methodNamed B.named
  have hlocks := B.notSynchronized
  have hK := hE.1
  have in_X2 : ∀ w ∈ u_ws RX2 TX2 9, w ∈ wsX2_addTo := fun w h => List.mem_cons_of_mem _ (List.mem_append_left _ (List.mem_append_right _ h))
  have lk0 := hts (.fieldLink RX2 37 "TidedGround$Reader" "faultNumber" "I") (List.mem_of_getElem? (i := 1) rfl)
  have n_0 : (0 : Int32).toInt = 0 := by decide
  have hl := lv_entry ([.ref qr, .ref q, .int x, .int y, .int z]) (n := 5) (Nat.le_of_ble_eq_true rfl)
  rw [lg_entry_eq]
  generalize (lg_sl ([.ref qr, .ref q, .int x, .int y, .int z]) ++ List.replicate (5 - (lg_sl ([.ref qr, .ref q, .int x, .int y, .int z])).length) Slot.unset).toArray = ls at hl ⊢
  have hl : lv_has ls 5 [(0, .ref qr), (1, .ref q), (2, .int x), (3, .int y), (4, .int z)] := hl
  refine W_abs (fun Q hQ => ?_)
  refine lv_aload_n hx hb dX2_addTo_0 rfl (lv_at hl 0 rfl) ?_
  refine va_get (D := eD E) (ci := 2) (v := .int fn) (C := RX2) (T := TX2) (N := 9) hx hb hts in_X2 hown hK hP 0 rfl rfl 4 (by decide) lk0 (fun _ h9 => h9) rfl dX2_addTo_1 ?_
  refine lv_if_ne (tgt := 15) hx hb dX2_addTo_4 (by decide) (fun c4 => ?_) (fun c4 => ?_)
  · have c4_ := i_ne c4
    subst hQ
    exact W.vret hx hb hr (fun t ht hW => ⟨⟨(n, f1, f2, f3), rfl, (show (sitesI 6 n f1 ∧ n.toInt ≤ n.toInt + 1 ∧ (fn.toInt = 0 ∨ n.toInt = n.toInt)) ∧ ((fn.toInt = 0 → n.toInt < 6 → n.toInt = n.toInt + 1 ∧ f1 = upd f1 n.toNatClampNeg x ∧ f2 = upd f2 n.toNatClampNeg y ∧ f3 = upd f3 n.toNatClampNeg z) ∧ (fn.toInt ≠ 0 → n.toInt = n.toInt ∧ f1 = f1 ∧ f2 = f2 ∧ f3 = f3)) from ⟨⟨hs, by omega, Or.inr rfl⟩, ⟨fun q => absurd q (by omega), fun _ => ⟨rfl, rfl, rfl, rfl⟩⟩⟩), by rw [ht]; exact hP, hD⟩, hS.F ht⟩) hS.2.2 dX2_addTo_15
  · have c4_ := i_eq c4
    refine lv_aload_n hx hb dX2_addTo_7 rfl (lv_at hl 1 rfl) ?_
    refine lv_iload_n hx hb dX2_addTo_8 rfl (lv_at hl 2 rfl) ?_
    refine lv_iload_n hx hb dX2_addTo_9 rfl (lv_at hl 3 rfl) ?_
    refine lv_iload hx hb dX2_addTo_10 (lv_at hl 4 rfl) ?_
    refine mt_Vv (w1 := fun (u : Int32 × (Nat → Int32) × (Nat → Int32) × (Nat → Int32)) => sitesL E q q1 q2 q3 u.1 u.2.1 u.2.2.1 u.2.2.2) (wf := fun (u : Int32 × (Nat → Int32) × (Nat → Int32) × (Nat → Int32)) => adL E qr qx ln ps fn fa na cx ck ap q q1 q2 q3 u.1 u.2.1 u.2.2.1 u.2.2.2) (wr := [(qr, .inr (2, [.ref qx, .int ln, .int ps, .ref (ap 0), .int fn, .int fa, .int na, .int cx, .int ck]))]) (As := [.int x, .int y, .int z]) (rest := []) (C := RX5) (ci := 5) ⟨hx, hb, hml, hown, hts⟩ (c_X5_add l E s.heap.size q q1 q2 q3 n f1 f2 f3 x y z hs (by omega)) (cwV 3 hts gX2_addTo_X5_add rfl rfl rfl (by decide +kernel) ⟨Nat.le_of_ble_eq_true rfl, Nat.le_of_ble_eq_true rfl⟩) hE hS hA hP hD [1, 2, 3, 4] [0] rfl rfl (by decide) (by decide) (by decide) [0, 1, 2, 3, 4] (by decide) (fun u => rfl) rfl rfl rfl rfl hl.1 rfl (Nat.le_of_ble_eq_true rfl) dX2_addTo_12 ⟨Nat.zero_le _, Nat.zero_le _⟩ (fun u12 H locs h12 hP hD hS => ?_)
    obtain ⟨o12_n, o12_f1, o12_f2, o12_f3⟩ := u12
    try dsimp only at h12
    have hf12 := h12.2
    replace h12 := h12.1
    replace hP : va_P (eD E) vwCl (adL E qr qx ln ps fn fa na cx ck ap q q1 q2 q3 o12_n o12_f1 o12_f2 o12_f3) H := hP
    replace hD : va_D A (adL E qr qx ln ps fn fa na cx ck ap q q1 q2 q3 o12_n o12_f1 o12_f2 o12_f3) := hD
    subst hQ
    exact W.vret hx hb hr (fun t ht hW => ⟨⟨(o12_n, o12_f1, o12_f2, o12_f3), rfl, (show (sitesI 6 o12_n o12_f1 ∧ o12_n.toInt ≤ n.toInt + 1 ∧ (fn.toInt = 0 ∨ o12_n.toInt = n.toInt)) ∧ ((fn.toInt = 0 → n.toInt < 6 → o12_n.toInt = n.toInt + 1 ∧ o12_f1 = upd f1 n.toNatClampNeg x ∧ o12_f2 = upd f2 n.toNatClampNeg y ∧ o12_f3 = upd f3 n.toNatClampNeg z) ∧ (fn.toInt ≠ 0 → o12_n.toInt = n.toInt ∧ o12_f1 = f1 ∧ o12_f2 = f2 ∧ o12_f3 = f3)) from ⟨⟨h12.1, h12.2, by omega⟩, ⟨fun _ q => hf12 q, fun q => absurd q (by omega)⟩⟩), by rw [ht]; exact hP, hD⟩, hS.F ht⟩) hS.2.2 dX2_addTo_15
def rm_X2_readRow : Room := { frames := 2, cells := 0, slots := 0, locals := 46 }
set_option maxHeartbeats 4000000 in
set_option maxRecDepth 100000 in
theorem c_X2_readRow (l : Launch) (E : Ev) (sz : Nat) (qr : Nat) (qx : Nat) (fx : Nat → Int32) (ln : Int32) (ps : Int32) (fn : Int32) (fa : Int32) (na : Int32) (cx : Int32) (ck : Int32) (ap : Nat → Nat) (qm : Nat) (mr : Nat → Int32) (hln : 0 ≤ ln.toInt ∧ ln.toInt ≤ 250) (hps : 0 ≤ ps.toInt ∧ ps.toInt ≤ ln.toInt) (hrow : rowB mr) : Met l yX2_readRow wsX2_readRow rm_X2_readRow (MtP E sz [.ref qr, .ref qm] (rrL E qr qx fx ln ps fn fa na cx ck ap qm mr)) (va_Qi (fun (r : Int32) (u : Int32 × Int32 × Int32 × Int32 × (Nat → Int32)) => ((0 ≤ r.toInt ∧ r.toInt ≤ 9) ∧ (u.2.1.toInt ≠ 0 ∨ 2 ≤ r.toInt) ∧ (ps.toInt ≤ u.1.toInt ∧ u.1.toInt ≤ ln.toInt) ∧ (fn.toInt = 0 ∨ u.2.1.toInt = fn.toInt) ∧ rowB u.2.2.2.2) ∧ (∀ (b : Nat) (s0 : Nat → Int), CF (rowF fx ln.toInt b 9 0 ps.toInt s0) fn.toInt fa.toInt u.2.1.toInt u.2.2.1.toInt (fun z => r.toInt = z.1 ∧ u.1.toInt = z.2.1 ∧ ∀ j, j < z.1 → (u.2.2.2.2 j).toInt = z.2.2 (b + j)))) (MtB E (va_A (rrL E qr qx fx ln ps fn fa na cx ck ap qm mr) sz) (fun u => rrL E qr qx fx ln u.1 u.2.1 u.2.2.1 u.2.2.2.1 cx ck ap qm u.2.2.2.2)) (va_A (rrL E qr qx fx ln ps fn fa na cx ck ap qm mr) sz)) 0 0 (va_A (rrL E qr qx fx ln ps fn fa na cx ck ap qm mr) sz) := by
  refine Met.ofW (cc := cX2_readRow) (maxL := 3) (ret := (some .int)) (by decide) rfl ?_
  intro p e s m args below meth c s₁ B hml hv
  obtain ⟨rfl, hsz, hE, hP, hD0⟩ := hv
  subst hsz
  have hD := hD0.self (sz := s.heap.size)
  generalize hAe : va_A (rrL E qr qx fx ln ps fn fa na cx ck ap qm mr) s.heap.size = A at hD hE ⊢
  have hA : ∀ q : Nat, s.heap.size ≤ q → A q := fun q h => by rw [← hAe]; exact Or.inr h
  have hS : va_S A s.heap s.heap [] := va_S.rf
  have hx := B.exec
  have hb := B.bytes
  have hr := B.returns
  have hts := atoms_spec (ws := wsX2_readRow) B.pre
  have hown : s.vm.findClass RX2 = some m.cls := findClass_of_methodNamed B.named
  have hlocks := B.notSynchronized
  have hK := hE.1
  have in_X2 : ∀ w ∈ u_ws RX2 TX2 9, w ∈ wsX2_readRow := fun w h => List.mem_cons_of_mem _ (List.mem_append_right _ h)
  have lk0 := hts (.fieldLink RX2 25 "TidedGround$Reader" "at" "I") (List.mem_of_getElem? (i := 2) rfl)
  have lk1 := hts (.fieldLink RX2 37 "TidedGround$Reader" "faultNumber" "I") (List.mem_of_getElem? (i := 1) rfl)
  have lk2 := hts (.fieldLink RX2 21 "TidedGround$Reader" "length" "I") (List.mem_of_getElem? (i := 3) rfl)
  have lk3 := hts (.fieldLink RX2 9 "TidedGround$Reader" "text" "[I") (List.mem_of_getElem? (i := 4) rfl)
  have n_0 : (0 : Int32).toInt = 0 := by decide
  have n_1 : (1 : Int32).toInt = 1 := by decide
  have n_2 : (2 : Int32).toInt = 2 := by decide
  have n_9 : (9 : Int32).toInt = 9 := by decide
  have n_18 : (18 : Int32).toInt = 18 := by decide
  have n_44 : (44 : Int32).toInt = 44 := by decide
  have hl := lv_entry ([.ref qr, .ref qm]) (n := 3) (Nat.le_of_ble_eq_true rfl)
  rw [lg_entry_eq]
  generalize (lg_sl ([.ref qr, .ref qm]) ++ List.replicate (3 - (lg_sl ([.ref qr, .ref qm])).length) Slot.unset).toArray = ls at hl ⊢
  have hl : lv_has ls 3 [(0, .ref qr), (1, .ref qm)] := hl
  refine W_abs (fun Q hQ => ?_)
  refine lv_iconst (v := 0) hx hb dX2_readRow_0 (by decide) ?_
  refine lv_istore_n (lv' := [(2, .int 0), (0, .ref qr), (1, .ref qm)]) hx hb dX2_readRow_1 rfl hl (by decide) rfl (fun ls hl => ?_)
  have K2 : ∀ (μ : Nat) (sz : Int32) (ps1 : Int32) (fn1 : Int32) (fa1 : Int32) (na1 : Int32) (mr1 : Nat → Int32) (H : Heap) (locs : List Loc) (ls : Array Slot), (9 - sz.toInt).toNat < μ → va_P (eD E) vwCl (rrL E qr qx fx ln ps1 fn1 fa1 na1 cx ck ap qm mr1) H → va_D A (rrL E qr qx fx ln ps1 fn1 fa1 na1 cx ck ap qm mr1) → va_S A s.heap H locs → (0 ≤ sz.toInt ∧ sz.toInt ≤ 9) → (ps.toInt ≤ ps1.toInt ∧ ps1.toInt ≤ ln.toInt) → (fn.toInt = 0 ∨ fn1.toInt = fn.toInt) → (rowB mr1) → (∀ (b : Nat) (s0 : Nat → Int), RowI fx ln.toInt b ps.toInt s0 fn.toInt fa.toInt sz.toInt.toNat ps1.toInt fn1.toInt fa1.toInt mr1) → (fn1.toInt ≠ 0 ∨ sz.toInt ≤ 8) → lv_has ls 3 [(0, .ref qr), (1, .ref qm), (2, .int sz)] → W p l e (headSpec wsX2_readRow rm_X2_readRow).room s m ([.ref qr, .ref qm] : List Value).toArray below meth c H locs 0 0 Q (F0 m 2 ls []) := by
    intro μ
    induction μ with
    | zero =>
      intro sz ps1 fn1 fa1 na1 mr1 H locs ls hμ2
      exact absurd hμ2 (Nat.not_lt_zero _)
    | succ μ ih2 =>
      intro sz ps1 fn1 fa1 na1 mr1 H locs ls hμ2 hP hD hS h2_0 h2_1 h2_2 h2_3 h2_4 h2_5 hl
      have hx2_0 := h2_4
      clear h2_4
      have hx2_1 := h2_5
      clear h2_5
      refine lv_iload_n hx hb dX2_readRow_2 rfl (lv_at hl 2 rfl) ?_
      refine lv_bipush (v := 9) hx hb dX2_readRow_3 (by decide) ?_
      have K82 : ∀  (s2 : Int32) (ps2 : Int32) (fn2 : Int32) (fa2 : Int32) (na2 : Int32) (mr2 : Nat → Int32) (H : Heap) (locs : List Loc) (ls : Array Slot), va_P (eD E) vwCl (rrL E qr qx fx ln ps2 fn2 fa2 na2 cx ck ap qm mr2) H → va_D A (rrL E qr qx fx ln ps2 fn2 fa2 na2 cx ck ap qm mr2) → va_S A s.heap H locs → (0 ≤ s2.toInt ∧ s2.toInt ≤ 9) → (ps.toInt ≤ ps2.toInt ∧ ps2.toInt ≤ ln.toInt) → (fn.toInt = 0 ∨ fn2.toInt = fn.toInt) → (rowB mr2) → (∀ (b : Nat) (s0 : Nat → Int), RowE fx ln.toInt b ps.toInt s0 fn.toInt fa.toInt s2.toInt.toNat ps2.toInt fn2.toInt fa2.toInt mr2) → lv_has ls 3 [(0, .ref qr), (1, .ref qm), (2, .int s2)] → W p l e (headSpec wsX2_readRow rm_X2_readRow).room s m ([.ref qr, .ref qm] : List Value).toArray below meth c H locs 0 0 Q (F0 m 82 ls []) := by
        intro s2 ps2 fn2 fa2 na2 mr2 H locs ls hP hD hS h82_0 h82_1 h82_2 h82_3 h82_4 hl
        have hx82_0 := h82_4
        clear h82_4
        refine lv_aload_n hx hb dX2_readRow_82 rfl (lv_at hl 0 rfl) ?_
        refine lv_iload_n hx hb dX2_readRow_83 rfl (lv_at hl 2 rfl) ?_
        refine lv_iconst (v := 2) hx hb dX2_readRow_84 (by decide) ?_
        have K93 : ∀  (w : Int32) (H : Heap) (locs : List Loc) (ls : Array Slot), va_P (eD E) vwCl (rrL E qr qx fx ln ps2 fn2 fa2 na2 cx ck ap qm mr2) H → va_D A (rrL E qr qx fx ln ps2 fn2 fa2 na2 cx ck ap qm mr2) → va_S A s.heap H locs → ((w.toInt = 0 ∧ 2 ≤ s2.toInt) ∨ w.toInt = 1) → ((w.toInt = 0 ∧ 2 ≤ s2.toInt) ∨ (w.toInt = 1 ∧ s2.toInt < 2)) → lv_has ls 3 [(0, .ref qr), (1, .ref qm), (2, .int s2)] → W p l e (headSpec wsX2_readRow rm_X2_readRow).room s m ([.ref qr, .ref qm] : List Value).toArray below meth c H locs 0 0 Q (F0 m 93 ls [.int w, .ref qr]) := by
          intro w H locs ls hP hD hS h93_0 h93_1 hl
          have hx93_0 := h93_1
          clear h93_1
          refine lv_iconst (v := 1) hx hb dX2_readRow_93 (by decide) ?_
          refine lv_aload_n hx hb dX2_readRow_94 rfl (lv_at hl 0 rfl) ?_
          refine va_get (D := eD E) (ci := 2) (v := .int ps2) (C := RX2) (T := TX2) (N := 9) hx hb hts in_X2 hown hK hP 0 rfl rfl 2 (by decide) lk0 (fun _ h9 => h9) rfl dX2_readRow_95 ?_
          refine mt_Vv (w1 := fun (u : Int32 × Int32) => rbL E qr qx fx ln ps2 u.1 u.2 na2 cx ck ap) (wf := fun (u : Int32 × Int32) => rrL E qr qx fx ln ps2 u.1 u.2 na2 cx ck ap qm mr2) (wr := [(qm, .inl (eI E, 18, .inl mr2))]) (As := [.int w, .int 1, .int ps2]) (rest := []) (C := RX2) (ci := 2) ⟨hx, hb, hml, hown, hts⟩ (c_X2_refuseIf l E H.size qr qx fx ln ps2 fn2 fa2 na2 cx ck ap w 1 ps2 (by omega)) (cwV 3 hts gX2_readRow_X2_refuseIf rfl rfl rfl (by decide +kernel) ⟨Nat.le_of_ble_eq_true rfl, Nat.le_of_ble_eq_true rfl⟩) hE hS hA hP hD [0, 1] [2] rfl rfl (by decide) (by decide) (by decide) [1, 2, 0] (by decide) (fun u => rfl) rfl rfl rfl rfl hl.1 rfl (Nat.le_of_ble_eq_true rfl) dX2_readRow_98 ⟨Nat.zero_le _, Nat.zero_le _⟩ (fun u98 H locs h98 hP hD hS => ?_)
          obtain ⟨o98_fn, o98_fa⟩ := u98
          try dsimp only at h98
          have hf98 := h98.2
          replace h98 := h98.1
          replace hP : va_P (eD E) vwCl (rrL E qr qx fx ln ps2 o98_fn o98_fa na2 cx ck ap qm mr2) H := hP
          replace hD : va_D A (rrL E qr qx fx ln ps2 o98_fn o98_fa na2 cx ck ap qm mr2) := hD
          refine lv_iload_n hx hb dX2_readRow_101 rfl (lv_at hl 2 rfl) ?_
          subst hQ
          exact W.iret (v := s2) hx hb hr (fun t ht hW => ⟨⟨s2, (ps2, o98_fn, o98_fa, na2, mr2), rfl, (show ((0 ≤ s2.toInt ∧ s2.toInt ≤ 9) ∧ (o98_fn.toInt ≠ 0 ∨ 2 ≤ s2.toInt) ∧ (ps.toInt ≤ ps2.toInt ∧ ps2.toInt ≤ ln.toInt) ∧ (fn.toInt = 0 ∨ o98_fn.toInt = fn.toInt) ∧ rowB mr2) ∧ (∀ (b : Nat) (s0 : Nat → Int), CF (rowF fx ln.toInt b 9 0 ps.toInt s0) fn.toInt fa.toInt o98_fn.toInt o98_fa.toInt (fun z => s2.toInt = z.1 ∧ ps2.toInt = z.2.1 ∧ ∀ j, j < z.1 → (mr2 j).toInt = z.2.2 (b + j))) from ⟨⟨by omega, by omega, by omega, by omega, h82_3⟩, (fun b s0 => ((hx82_0 b s0).fin (c := w.toInt) (by omega) (by rw [n_1] at hf98; exact hf98)).mono (fun q1 q2 z hz => ⟨by omega, hz.2.1, hz.2.2⟩))⟩), by rw [ht]; exact hP, hD⟩, hS.F ht⟩) hS.2.2 dX2_readRow_102
        refine lv_icmp_ge (tgt := 92) hx hb dX2_readRow_85 (by decide) (fun c85 => ?_) (fun c85 => ?_)
        · have c85_ := i_le c85
          refine lv_iconst (v := 0) hx hb dX2_readRow_92 (by decide) ?_
          exact K93 0 _ _ ls hP hD hS (by omega) (Or.inl ⟨by decide, by omega⟩) (lv_sub hl [0, 1, 2] rfl)
        · have c85_ := i_nle c85
          refine lv_iconst (v := 1) hx hb dX2_readRow_88 (by decide) ?_
          refine lv_goto (tgt := 93) hx hb dX2_readRow_89 (by decide) ?_
          exact K93 1 _ _ ls hP hD hS (by omega) (Or.inr ⟨by decide, by omega⟩) (lv_sub hl [0, 1, 2] rfl)
      refine lv_icmp_ge (tgt := 82) hx hb dX2_readRow_5 (by decide) (fun c5 => ?_) (fun c5 => ?_)
      · have c5_ := i_le c5
        exact K82 sz ps1 fn1 fa1 na1 mr1 _ _ ls hP hD hS (by omega) (by omega) (by omega) (by first | exact h2_3 | (rw [← hv27]; exact row_up h2_3 (by omega) (by omega))) (fun b s0 => by first | exact (hx2_0 b s0).out (by omega) | (rw [← hv27, show x28.toInt.toNat = sz.toInt.toNat + 1 by omega]; exact (hx2_0 b s0).exit (by omega) (by omega) hf21 hf32 (by omega) (by omega))) (lv_sub hl [0, 1, 2] rfl)
      · have c5_ := i_nle c5
        refine lv_aload_n hx hb dX2_readRow_8 rfl (lv_at hl 0 rfl) ?_
        refine va_get (D := eD E) (ci := 2) (v := .int fn1) (C := RX2) (T := TX2) (N := 9) hx hb hts in_X2 hown hK hP 0 rfl rfl 4 (by decide) lk1 (fun _ h9 => h9) rfl dX2_readRow_9 ?_
        refine lv_if_ne (tgt := 82) hx hb dX2_readRow_12 (by decide) (fun c12 => ?_) (fun c12 => ?_)
        · have c12_ := i_ne c12
          exact K82 sz ps1 fn1 fa1 na1 mr1 _ _ ls hP hD hS (by omega) (by omega) (by omega) (by first | exact h2_3 | (rw [← hv27]; exact row_up h2_3 (by omega) (by omega))) (fun b s0 => by first | exact (hx2_0 b s0).out (by omega) | (rw [← hv27, show x28.toInt.toNat = sz.toInt.toNat + 1 by omega]; exact (hx2_0 b s0).exit (by omega) (by omega) hf21 hf32 (by omega) (by omega))) (lv_sub hl [0, 1, 2] rfl)
        · have c12_ := i_eq c12
          refine lv_aload_n hx hb dX2_readRow_15 rfl (lv_at hl 1 rfl) ?_
          refine lv_iload_n hx hb dX2_readRow_16 rfl (lv_at hl 2 rfl) ?_
          refine lv_aload_n hx hb dX2_readRow_17 rfl (lv_at hl 0 rfl) ?_
          refine lv_iconst (v := 0) hx hb dX2_readRow_18 (by decide) ?_
          refine lv_bipush (v := 18) hx hb dX2_readRow_19 (by decide) ?_
          refine mt_Vi (w1 := fun (u : Int32 × Int32 × Int32 × Int32) => rbL E qr qx fx ln u.1 u.2.1 u.2.2.1 u.2.2.2 cx ck ap) (wf := fun (u : Int32 × Int32 × Int32 × Int32) => rrL E qr qx fx ln u.1 u.2.1 u.2.2.1 u.2.2.2 cx ck ap qm mr1) (wr := [(qm, .inl (eI E, 18, .inl mr1))]) (As := [.int 0, .int 18]) (rest := [.int sz, .ref qm]) (C := RX2) (ci := 2) ⟨hx, hb, hml, hown, hts⟩ (c_X2_readNumber l E H.size qr qx fx ln ps1 fn1 fa1 na1 cx ck ap 0 18 (by omega) (by omega)) (cwV 2 hts gX2_readRow_X2_readNumber rfl rfl rfl (by decide +kernel) ⟨Nat.le_of_ble_eq_true rfl, Nat.le_of_ble_eq_true rfl⟩) hE hS hA hP hD [0, 1] [2] rfl rfl (by decide) (by decide) (by decide) [1, 2, 0] (by decide) (fun u => rfl) rfl rfl rfl rfl hl.1 rfl (Nat.le_of_ble_eq_true rfl) dX2_readRow_21 ⟨Nat.zero_le _, Nat.zero_le _⟩ (fun r21 u21 H locs h21 hP hD hS => ?_)
          obtain ⟨o21_ps, o21_fn, o21_fa, o21_na⟩ := u21
          try dsimp only at h21
          have hf21 := h21.2
          replace h21 := h21.1
          replace hP : va_P (eD E) vwCl (rrL E qr qx fx ln o21_ps o21_fn o21_fa o21_na cx ck ap qm mr1) H := hP
          replace hD : va_D A (rrL E qr qx fx ln o21_ps o21_fn o21_fa o21_na cx ck ap qm mr1) := hD
          have pb21 : 0 ≤ r21.toInt ∧ r21.toInt ≤ 18 := pb_rn h21.1 (by decide) (by decide)
          rw [n_0, n_18] at hf21
          have sv24_r21 : 0 ≤ r21.toInt ∧ r21.toInt ≤ 18 := by omega
          refine lv_bipush (v := 9) hx hb dX2_readRow_24 (by decide) ?_
          refine lv_isub hx hb dX2_readRow_26 ?_
          refine lv_topi (fun x26 e26 => ?_)
          have t26 := i_sub e26 (by omega)
          refine va_iast hx hb hK hP hD hS 2 0 rfl rfl (n := 18) (f := mr1) (i_in (by omega) (by omega)) dX2_readRow_27 (fun H locs hP hD hS => ?_)
          replace hP : va_P (eD E) vwCl (rrL E qr qx fx ln o21_ps o21_fn o21_fa o21_na cx ck ap qm (upd mr1 sz.toNatClampNeg x26)) H := hP
          replace hD : va_D A (rrL E qr qx fx ln o21_ps o21_fn o21_fa o21_na cx ck ap qm (upd mr1 sz.toNatClampNeg x26)) := hD
          generalize hv27 : upd mr1 sz.toNatClampNeg x26 = mr_27 at hP hD
          obtain ⟨x28, e28⟩ : ∃ y : Int32, y = sz + 1 := ⟨_, rfl⟩
          refine lv_iinc (v := x28) (lv' := [(2, .int x28), (0, .ref qr), (1, .ref qm)]) hx hb dX2_readRow_28 hl (k := 2) rfl (by rw [e28]; rfl) (by decide) rfl (fun ls hl => ?_)
          have t28 := i_add e28 (by omega)
          refine lv_aload_n hx hb dX2_readRow_31 rfl (lv_at hl 1 rfl) ?_
          refine mt_Vv (w1 := fun (u : Int32) => rbL E qr qx fx ln u o21_fn o21_fa o21_na cx ck ap) (wf := fun (u : Int32) => rrL E qr qx fx ln u o21_fn o21_fa o21_na cx ck ap qm mr_27) (wr := [(qm, .inl (eI E, 18, .inl mr_27))]) (As := []) (rest := []) (C := RX2) (ci := 2) ⟨hx, hb, hml, hown, hts⟩ (c_X2_skipBlanks l E H.size qr qx fx ln o21_ps o21_fn o21_fa o21_na cx ck ap (by omega) (by omega)) (cwV 0 hts gX2_readRow_X2_skipBlanks rfl rfl rfl (by decide +kernel) ⟨Nat.le_of_ble_eq_true rfl, Nat.le_of_ble_eq_true rfl⟩) hE hS hA hP hD [0, 1] [2] rfl rfl (by decide) (by decide) (by decide) [1, 2, 0] (by decide) (fun u => rfl) rfl rfl rfl rfl hl.1 rfl (Nat.le_of_ble_eq_true rfl) dX2_readRow_32 ⟨Nat.zero_le _, Nat.zero_le _⟩ (fun u32 H locs h32 hP hD hS => ?_)
          generalize u32 = o32_ps at hP hD h32
          try dsimp only at h32
          have hf32 := h32.2
          replace h32 := h32.1
          replace hP : va_P (eD E) vwCl (rrL E qr qx fx ln o32_ps o21_fn o21_fa o21_na cx ck ap qm mr_27) H := hP
          replace hD : va_D A (rrL E qr qx fx ln o32_ps o21_fn o21_fa o21_na cx ck ap qm mr_27) := hD
          refine lv_iload_n hx hb dX2_readRow_35 rfl (lv_at hl 0 rfl) ?_
          refine lv_bipush (v := 9) hx hb dX2_readRow_36 (by decide) ?_
          refine lv_icmp_eq (tgt := 82) hx hb dX2_readRow_38 (by decide) (fun c38 => ?_) (fun c38 => ?_)
          · have c38_ := i_eq c38
            exact K82 x28 o32_ps o21_fn o21_fa o21_na mr_27 _ _ ls hP hD hS (by omega) (by omega) (by omega) (by first | exact h2_3 | (rw [← hv27]; exact row_up h2_3 (by omega) (by omega))) (fun b s0 => by first | exact (hx2_0 b s0).out (by omega) | (rw [← hv27, show x28.toInt.toNat = sz.toInt.toNat + 1 by omega]; exact (hx2_0 b s0).exit (by omega) (by omega) hf21 hf32 (by omega) (by omega))) (lv_sub hl [1, 2, 0] rfl)
          · have c38_ := i_ne c38
            refine lv_aload_n hx hb dX2_readRow_41 rfl (lv_at hl 1 rfl) ?_
            refine va_get (D := eD E) (ci := 2) (v := .int o32_ps) (C := RX2) (T := TX2) (N := 9) hx hb hts in_X2 hown hK hP 0 rfl rfl 2 (by decide) lk0 (fun _ h9 => h9) rfl dX2_readRow_42 ?_
            refine lv_aload_n hx hb dX2_readRow_45 rfl (lv_at hl 1 rfl) ?_
            refine va_get (D := eD E) (ci := 2) (v := .int ln) (C := RX2) (T := TX2) (N := 9) hx hb hts in_X2 hown hK hP 0 rfl rfl 1 (by decide) lk2 (fun _ h9 => h9) rfl dX2_readRow_46 ?_
            refine lv_icmp_ge (tgt := 82) hx hb dX2_readRow_49 (by decide) (fun c49 => ?_) (fun c49 => ?_)
            · have c49_ := i_le c49
              exact K82 x28 o32_ps o21_fn o21_fa o21_na mr_27 _ _ ls hP hD hS (by omega) (by omega) (by omega) (by first | exact h2_3 | (rw [← hv27]; exact row_up h2_3 (by omega) (by omega))) (fun b s0 => by first | exact (hx2_0 b s0).out (by omega) | (rw [← hv27, show x28.toInt.toNat = sz.toInt.toNat + 1 by omega]; exact (hx2_0 b s0).exit (by omega) (by omega) hf21 hf32 (by omega) (by omega))) (lv_sub hl [1, 2, 0] rfl)
            · have c49_ := i_nle c49
              refine lv_aload_n hx hb dX2_readRow_52 rfl (lv_at hl 1 rfl) ?_
              refine va_get (D := eD E) (ci := 2) (v := .ref qx) (C := RX2) (T := TX2) (N := 9) hx hb hts in_X2 hown hK hP 0 rfl rfl 0 (by decide) lk3 (fun _ h9 => h9) rfl dX2_readRow_53 ?_
              refine lv_aload_n hx hb dX2_readRow_56 rfl (lv_at hl 1 rfl) ?_
              refine va_get (D := eD E) (ci := 2) (v := .int o32_ps) (C := RX2) (T := TX2) (N := 9) hx hb hts in_X2 hown hK hP 0 rfl rfl 2 (by decide) lk0 (fun _ h9 => h9) rfl dX2_readRow_57 ?_
              refine va_iald hx hb hK hP 1 0 rfl rfl (n := 250) (f := fx) (i_in (by omega) (by omega)) dX2_readRow_60 ?_
              refine lv_topi (fun x60 e60 => ?_)
              have tx60 : x60.toInt = tc fx o32_ps.toInt := by rw [e60]; rfl
              refine lv_bipush (v := 44) hx hb dX2_readRow_61 (by decide) ?_
              refine lv_icmp_eq (tgt := 69) hx hb dX2_readRow_63 (by decide) (fun c63 => ?_) (fun c63 => ?_)
              · have c63_ := i_eq c63
                refine lv_aload_n hx hb dX2_readRow_69 rfl (lv_at hl 1 rfl) ?_
                refine lv_dup hx hb dX2_readRow_70 rfl ?_
                refine va_get (D := eD E) (ci := 2) (v := .int o32_ps) (C := RX2) (T := TX2) (N := 9) hx hb hts in_X2 hown hK hP 0 rfl rfl 2 (by decide) lk0 (fun _ h9 => h9) rfl dX2_readRow_71 ?_
                refine lv_iconst (v := 1) hx hb dX2_readRow_74 (by decide) ?_
                refine lv_iadd hx hb dX2_readRow_75 ?_
                refine lv_topi (fun x75 e75 => ?_)
                have t75 := i_add e75 (by omega)
                refine va_put (D := eD E) (ci := 2) (v := .int x75) (ty := .int) (C := RX2) (T := TX2) (N := 9) hx hb hts in_X2 tyX2 tyX2_ok nmX2 hown hK hP hD hS 0 rfl rfl 2 (by decide) lk0 (fun _ h9 => h9) rfl (by decide +kernel) rfl rfl (Nat.le_of_ble_eq_true rfl) dX2_readRow_76 (fun H locs hP hD hS => ?_)
                replace hP : va_P (eD E) vwCl (rrL E qr qx fx ln x75 o21_fn o21_fa o21_na cx ck ap qm mr_27) H := hP
                replace hD : va_D A (rrL E qr qx fx ln x75 o21_fn o21_fa o21_na cx ck ap qm mr_27) := hD
                refine lv_goto (tgt := 2) hx hb dX2_readRow_79 (by decide) ?_
                exact ih2 x28 x75 o21_fn o21_fa o21_na mr_27 _ _ ls (by omega) hP hD hS (by omega) (by omega) (by omega) (by rw [← hv27]; exact row_up h2_3 (by omega) (by omega)) (fun b s0 => by rw [← hv27, show x28.toInt.toNat = sz.toInt.toNat + 1 by omega, show x75.toInt = o32_ps.toInt + 1 by omega]; exact (hx2_0 b s0).back (by omega) (by omega) hf21 hf32 (by omega) (by omega)) (by omega) (lv_sub hl [1, 2, 0] rfl)
              · have c63_ := i_ne c63
                refine lv_goto (tgt := 82) hx hb dX2_readRow_66 (by decide) ?_
                exact K82 x28 o32_ps o21_fn o21_fa o21_na mr_27 _ _ ls hP hD hS (by omega) (by omega) (by omega) (by first | exact h2_3 | (rw [← hv27]; exact row_up h2_3 (by omega) (by omega))) (fun b s0 => by first | exact (hx2_0 b s0).out (by omega) | (rw [← hv27, show x28.toInt.toNat = sz.toInt.toNat + 1 by omega]; exact (hx2_0 b s0).exit (by omega) (by omega) hf21 hf32 (by omega) (by omega))) (lv_sub hl [1, 2, 0] rfl)
  exact K2 _ 0 ps fn fa na mr _ _ ls (Nat.lt_succ_self _) hP hD hS (by omega) (by omega) (by omega) hrow (fun b s0 => by rw [n_0]; exact RowI.start) (by omega) (lv_sub hl [1, 2, 0] rfl)
