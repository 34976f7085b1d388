def rm_X0_clear : Room := { frames := 0, cells := 0, slots := 0, locals := 0 }
set_option maxHeartbeats 4000000 in
set_option maxRecDepth 100000 in
theorem c_X0_clear (l : Launch) (E : Ev) (sz : Nat) (q : Nat) (qr : Nat) (qa : Nat) (m0 : Int32) (m1 : Int32) (m2 : Int32) (mr : Nat → Int32) (ma : Nat → Int32) (hrow : ∀ j, j < 18 → -9 ≤ (mr j).toInt ∧ (mr j).toInt ≤ 9) (hahe : ∀ j, j < 24 → 0 ≤ (ma j).toInt ∧ (ma j).toInt ≤ 1000) : Met l yX0_clear wsX0_clear rm_X0_clear (MtP E sz [.ref q] (moonL E q qr qa m0 m1 m2 mr ma)) (va_Qv (fun (u : Int32 × Int32 × Int32 × (Nat → Int32) × (Nat → Int32)) => (moonI u.1 u.2.2.2.1 u.2.2.2.2) ∧ (((u.1 : Int32) = 1) ∧ u.2.2.2.1 0 = 0 ∧ u.2.2.2.1 1 = 0)) (MtB E (va_A (moonL E q qr qa m0 m1 m2 mr ma) sz) (fun u => moonL E q qr qa u.1 u.2.1 u.2.2.1 u.2.2.2.1 u.2.2.2.2)) (va_A (moonL E q qr qa m0 m1 m2 mr ma) sz)) 0 0 (va_A (moonL E q qr qa m0 m1 m2 mr ma) sz) := by
  refine Met.ofW (cc := cX0_clear) (maxL := 2) (ret := none) (by decide) rfl ?_
  intro p e s m args below meth c s₁ B hml hv
  obtain ⟨rfl, hsz, hE, hP, hD0⟩ := hv
  subst hsz
  have hD := hD0.self (sz := s.heap.size)
  generalize hAe : va_A (moonL E q qr qa m0 m1 m2 mr ma) s.heap.size = A at hD hE ⊢
  have hA : ∀ q : Nat, s.heap.size ≤ q → A q := fun q h => by rw [← hAe]; exact Or.inr h
  have hS : va_S A s.heap s.heap [] := va_S.rf
  have hx := B.exec
  have hb := B.bytes
  have hr := B.returns
  have hts := atoms_spec (ws := wsX0_clear) B.pre
  have hown : s.vm.findClass RX0 = some m.cls := findClass_of_methodNamed B.named
  have hlocks := B.notSynchronized
  have hK := hE.1
  have in_X0 : ∀ w ∈ u_ws RX0 TX0 5, w ∈ wsX0_clear := fun w h => List.mem_cons_of_mem _ (List.mem_append_right _ h)
  have lk0 := hts (.fieldLink RX0 18 "TidedGround$Moon" "size" "I") (List.mem_of_getElem? (i := 1) rfl)
  have lk1 := hts (.fieldLink RX0 22 "TidedGround$Moon" "perX" "I") (List.mem_of_getElem? (i := 2) rfl)
  have lk2 := hts (.fieldLink RX0 25 "TidedGround$Moon" "perY" "I") (List.mem_of_getElem? (i := 3) rfl)
  have lk3 := hts (.fieldLink RX0 9 "TidedGround$Moon" "row" "[I") (List.mem_of_getElem? (i := 4) rfl)
  have lk4 := hts (.fieldLink RX0 15 "TidedGround$Moon" "ahead" "[I") (List.mem_of_getElem? (i := 5) rfl)
  have n_0 : (0 : Int32).toInt = 0 := by decide
  have n_1 : (1 : Int32).toInt = 1 := by decide
  have n_18 : (18 : Int32).toInt = 18 := by decide
  have n_24 : (24 : Int32).toInt = 24 := by decide
  have hl := lv_entry ([.ref q]) (n := 2) (Nat.le_of_ble_eq_true rfl)
  rw [lg_entry_eq]
  generalize (lg_sl ([.ref q]) ++ List.replicate (2 - (lg_sl ([.ref q])).length) Slot.unset).toArray = ls at hl ⊢
  have hl : lv_has ls 2 [(0, .ref q)] := hl
  refine W_abs (fun Q hQ => ?_)
  refine lv_aload_n hx hb dX0_clear_0 rfl (lv_at hl 0 rfl) ?_
  refine lv_iconst (v := 1) hx hb dX0_clear_1 (by decide) ?_
  refine va_put (D := eD E) (ci := 0) (v := .int 1) (ty := .int) (C := RX0) (T := TX0) (N := 5) hx hb hts in_X0 tyX0 tyX0_ok nmX0 hown hK hP hD hS 0 rfl rfl 0 (by decide) lk0 (fun _ h9 => h9) rfl (by decide +kernel) rfl rfl (Nat.le_of_ble_eq_true rfl) dX0_clear_2 (fun H locs hP hD hS => ?_)
  replace hP : va_P (eD E) vwCl (moonL E q qr qa 1 m1 m2 mr ma) H := hP
  replace hD : va_D A (moonL E q qr qa 1 m1 m2 mr ma) := hD
  refine lv_aload_n hx hb dX0_clear_5 rfl (lv_at hl 0 rfl) ?_
  refine lv_iconst (v := 0) hx hb dX0_clear_6 (by decide) ?_
  refine va_put (D := eD E) (ci := 0) (v := .int 0) (ty := .int) (C := RX0) (T := TX0) (N := 5) hx hb hts in_X0 tyX0 tyX0_ok nmX0 hown hK hP hD hS 0 rfl rfl 1 (by decide) lk1 (fun _ h9 => h9) rfl (by decide +kernel) rfl rfl (Nat.le_of_ble_eq_true rfl) dX0_clear_7 (fun H locs hP hD hS => ?_)
  replace hP : va_P (eD E) vwCl (moonL E q qr qa 1 0 m2 mr ma) H := hP
  replace hD : va_D A (moonL E q qr qa 1 0 m2 mr ma) := hD
  refine lv_aload_n hx hb dX0_clear_10 rfl (lv_at hl 0 rfl) ?_
  refine lv_iconst (v := 0) hx hb dX0_clear_11 (by decide) ?_
  refine va_put (D := eD E) (ci := 0) (v := .int 0) (ty := .int) (C := RX0) (T := TX0) (N := 5) hx hb hts in_X0 tyX0 tyX0_ok nmX0 hown hK hP hD hS 0 rfl rfl 2 (by decide) lk2 (fun _ h9 => h9) rfl (by decide +kernel) rfl rfl (Nat.le_of_ble_eq_true rfl) dX0_clear_12 (fun H locs hP hD hS => ?_)
  replace hP : va_P (eD E) vwCl (moonL E q qr qa 1 0 0 mr ma) H := hP
  replace hD : va_D A (moonL E q qr qa 1 0 0 mr ma) := hD
  refine lv_iconst (v := 0) hx hb dX0_clear_15 (by decide) ?_
  refine lv_istore_n (lv' := [(1, .int 0), (0, .ref q)]) hx hb dX0_clear_16 rfl hl (by decide) rfl (fun ls hl => ?_)
  have K17 : ∀ (μ : Nat) (i : Int32) (mr1 : Nat → Int32) (H : Heap) (locs : List Loc) (ls : Array Slot), (18 - i.toInt).toNat < μ → va_P (eD E) vwCl (moonL E q qr qa 1 0 0 mr1 ma) H → va_D A (moonL E q qr qa 1 0 0 mr1 ma) → va_S A s.heap H locs → (0 ≤ i.toInt ∧ i.toInt ≤ 18) → (∀ j, j < 18 → -9 ≤ (mr1 j).toInt ∧ (mr1 j).toInt ≤ 9) → (∀ j : Nat, (j : Int) < i.toInt → mr1 j = 0) → lv_has ls 2 [(0, .ref q), (1, .int i)] → W p l e (headSpec wsX0_clear rm_X0_clear).room s m ([.ref q] : List Value).toArray below meth c H locs 0 0 Q (F0 m 17 ls []) := by
    intro μ
    induction μ with
    | zero =>
      intro i mr1 H locs ls hμ17
      exact absurd hμ17 (Nat.not_lt_zero _)
    | succ μ ih17 =>
      intro i mr1 H locs ls hμ17 hP hD hS h17_0 h17_1 h17_2 hl
      have hx17_0 := h17_2
      clear h17_2
      refine lv_iload_n hx hb dX0_clear_17 rfl (lv_at hl 1 rfl) ?_
      refine lv_aload_n hx hb dX0_clear_18 rfl (lv_at hl 0 rfl) ?_
      refine va_get (D := eD E) (ci := 0) (v := .ref qr) (C := RX0) (T := TX0) (N := 5) hx hb hts in_X0 hown hK hP 0 rfl rfl 3 (by decide) lk3 (fun _ h9 => h9) rfl dX0_clear_19 ?_
      refine va_alen (v := 18) hx hb hK hP 1 0 rfl rfl rfl dX0_clear_22 ?_
      refine lv_icmp_ge (tgt := 39) hx hb dX0_clear_23 (by decide) (fun c23 => ?_) (fun c23 => ?_)
      · have c23_ := i_le c23
        refine lv_iconst (v := 0) hx hb dX0_clear_39 (by decide) ?_
        refine lv_istore_n (lv' := [(1, .int 0), (0, .ref q)]) hx hb dX0_clear_40 rfl hl (by decide) rfl (fun ls hl => ?_)
        have K41 : ∀ (μ : Nat) (k : Int32) (ma1 : Nat → Int32) (H : Heap) (locs : List Loc) (ls : Array Slot), (24 - k.toInt).toNat < μ → va_P (eD E) vwCl (moonL E q qr qa 1 0 0 mr1 ma1) H → va_D A (moonL E q qr qa 1 0 0 mr1 ma1) → va_S A s.heap H locs → (0 ≤ k.toInt ∧ k.toInt ≤ 24) → (∀ j, j < 24 → 0 ≤ (ma1 j).toInt ∧ (ma1 j).toInt ≤ 1000) → lv_has ls 2 [(0, .ref q), (1, .int k)] → W p l e (headSpec wsX0_clear rm_X0_clear).room s m ([.ref q] : List Value).toArray below meth c H locs 0 0 Q (F0 m 41 ls []) := by
          intro μ
          induction μ with
          | zero =>
            intro k ma1 H locs ls hμ41
            exact absurd hμ41 (Nat.not_lt_zero _)
          | succ μ ih41 =>
            intro k ma1 H locs ls hμ41 hP hD hS h41_0 h41_1 hl
            refine lv_iload_n hx hb dX0_clear_41 rfl (lv_at hl 1 rfl) ?_
            refine lv_bipush (v := 24) hx hb dX0_clear_42 (by decide) ?_
            refine lv_icmp_ge (tgt := 60) hx hb dX0_clear_44 (by decide) (fun c44 => ?_) (fun c44 => ?_)
            · have c44_ := i_le c44
              subst hQ
              exact W.vret hx hb hr (fun t ht hW => ⟨⟨(1, 0, 0, mr1, ma1), rfl, (show (moonI 1 mr1 ma1) ∧ (((1 : Int32) = 1) ∧ mr1 0 = 0 ∧ mr1 1 = 0) from ⟨⟨by decide, h17_1, h41_1⟩, ⟨rfl, hx17_0 0 (by omega), hx17_0 1 (by omega)⟩⟩), by rw [ht]; exact hP, hD⟩, hS.F ht⟩) hS.2.2 dX0_clear_60
            · have c44_ := i_nle c44
              refine lv_aload_n hx hb dX0_clear_47 rfl (lv_at hl 0 rfl) ?_
              refine va_get (D := eD E) (ci := 0) (v := .ref qa) (C := RX0) (T := TX0) (N := 5) hx hb hts in_X0 hown hK hP 0 rfl rfl 4 (by decide) lk4 (fun _ h9 => h9) rfl dX0_clear_48 ?_
              refine lv_iload_n hx hb dX0_clear_51 rfl (lv_at hl 1 rfl) ?_
              refine lv_iconst (v := 0) hx hb dX0_clear_52 (by decide) ?_
              refine va_iast hx hb hK hP hD hS 2 0 rfl rfl (n := 24) (f := ma1) (i_in (by omega) (by omega)) dX0_clear_53 (fun H locs hP hD hS => ?_)
              replace hP : va_P (eD E) vwCl (moonL E q qr qa 1 0 0 mr1 (upd ma1 k.toNatClampNeg 0)) H := hP
              replace hD : va_D A (moonL E q qr qa 1 0 0 mr1 (upd ma1 k.toNatClampNeg 0)) := hD
              generalize hv53 : upd ma1 k.toNatClampNeg 0 = ma_53 at hP hD
              obtain ⟨x54, e54⟩ : ∃ y : Int32, y = k + 1 := ⟨_, rfl⟩
              refine lv_iinc (v := x54) (lv' := [(1, .int x54), (0, .ref q)]) hx hb dX0_clear_54 hl (k := 1) rfl (by rw [e54]; rfl) (by decide) rfl (fun ls hl => ?_)
              have t54 := i_add e54 (by omega)
              refine lv_goto (tgt := 41) hx hb dX0_clear_57 (by decide) ?_
              exact ih41 x54 ma_53 _ _ ls (by omega) hP hD hS (by omega) (by rw [← hv53]; exact ahe_up h41_1 (by decide) (by decide)) (lv_sub hl [1, 0] rfl)
        exact K41 _ 0 ma _ _ ls (Nat.lt_succ_self _) hP hD hS (by omega) hahe (lv_sub hl [1, 0] rfl)
      · have c23_ := i_nle c23
        refine lv_aload_n hx hb dX0_clear_26 rfl (lv_at hl 0 rfl) ?_
        refine va_get (D := eD E) (ci := 0) (v := .ref qr) (C := RX0) (T := TX0) (N := 5) hx hb hts in_X0 hown hK hP 0 rfl rfl 3 (by decide) lk3 (fun _ h9 => h9) rfl dX0_clear_27 ?_
        refine lv_iload_n hx hb dX0_clear_30 rfl (lv_at hl 1 rfl) ?_
        refine lv_iconst (v := 0) hx hb dX0_clear_31 (by decide) ?_
        refine va_iast hx hb hK hP hD hS 1 0 rfl rfl (n := 18) (f := mr1) (i_in (by omega) (by omega)) dX0_clear_32 (fun H locs hP hD hS => ?_)
        replace hP : va_P (eD E) vwCl (moonL E q qr qa 1 0 0 (upd mr1 i.toNatClampNeg 0) ma) H := hP
        replace hD : va_D A (moonL E q qr qa 1 0 0 (upd mr1 i.toNatClampNeg 0) ma) := hD
        generalize hv32 : upd mr1 i.toNatClampNeg 0 = mr_32 at hP hD
        obtain ⟨x33, e33⟩ : ∃ y : Int32, y = i + 1 := ⟨_, rfl⟩
        refine lv_iinc (v := x33) (lv' := [(1, .int x33), (0, .ref q)]) hx hb dX0_clear_33 hl (k := 1) rfl (by rw [e33]; rfl) (by decide) rfl (fun ls hl => ?_)
        have t33 := i_add e33 (by omega)
        refine lv_goto (tgt := 17) hx hb dX0_clear_36 (by decide) ?_
        exact ih17 x33 mr_32 _ _ ls (by omega) hP hD hS (by omega) (by rw [← hv32]; exact row_up h17_1 (by decide) (by decide)) (by rw [← hv32]; exact u0_next hx17_0 (by omega) (by omega)) (lv_sub hl [1, 0] rfl)
  exact K17 _ 0 mr _ _ ls (Nat.lt_succ_self _) hP hD hS (by omega) hrow (fun j h => absurd h (by omega)) (lv_sub hl [1, 0] rfl)
def rm_X5_add : Room := { frames := 0, cells := 0, slots := 0, locals := 0 }
set_option maxHeartbeats 4000000 in
set_option maxRecDepth 100000 in
theorem c_X5_add (l : Launch) (E : Ev) (sz : Nat) (q : Nat) (q1 : Nat) (q2 : Nat) (q3 : Nat) (n : Int32) (f1 : Nat → Int32) (f2 : Nat → Int32) (f3 : Nat → Int32) (x : Int32) (y : Int32) (z : Int32) (hs : sitesI 6 n f1) (hx : 0 ≤ x.toInt ∧ x.toInt ≤ 23) : Met l yX5_add wsX5_add rm_X5_add (MtP E sz [.ref q, .int x, .int y, .int z] (sitesL E q q1 q2 q3 n f1 f2 f3)) (va_Qv (fun (u : Int32 × (Nat → Int32) × (Nat → Int32) × (Nat → Int32)) => (sitesI 6 u.1 u.2.1 ∧ u.1.toInt ≤ n.toInt + 1) ∧ (n.toInt < 6 → u.1.toInt = n.toInt + 1 ∧ u.2.1 = upd f1 n.toNatClampNeg x ∧ u.2.2.1 = upd f2 n.toNatClampNeg y ∧ u.2.2.2 = upd f3 n.toNatClampNeg z)) (MtB E (va_A (sitesL E q q1 q2 q3 n f1 f2 f3) sz) (fun u => sitesL E q q1 q2 q3 u.1 u.2.1 u.2.2.1 u.2.2.2)) (va_A (sitesL E q q1 q2 q3 n f1 f2 f3) sz)) 0 0 (va_A (sitesL E q q1 q2 q3 n f1 f2 f3) sz) := by
  refine Met.ofW (cc := cX5_add) (maxL := 4) (ret := none) (by decide) rfl ?_
  intro p e s m args below meth c s₁ B hml hv
  obtain ⟨rfl, hsz, hE, hP, hD0⟩ := hv
  subst hsz
  have hD := hD0.self (sz := s.heap.size)
  generalize hAe : va_A (sitesL E q q1 q2 q3 n f1 f2 f3) s.heap.size = A at hD hE ⊢
  have hA : ∀ q : Nat, s.heap.size ≤ q → A q := fun q h => by rw [← hAe]; exact Or.inr h
  have hS : va_S A s.heap s.heap [] := va_S.rf
  have hx := B.exec
  have hb := B.bytes
  have hr := B.returns
  have hts := atoms_spec (ws := wsX5_add) B.pre
  have hown : s.vm.findClass RX5 = some m.cls := findClass_of_methodNamed B.named
  have hlocks := B.notSynchronized
  have hK := hE.1
  have in_X5 : ∀ w ∈ u_ws RX5 TX5 4, w ∈ wsX5_add := fun w h => List.mem_cons_of_mem _ (List.mem_append_right _ h)
  have lk0 := hts (.fieldLink RX5 21 "TidedGround$Sites" "count" "I") (List.mem_of_getElem? (i := 1) rfl)
  have lk1 := hts (.fieldLink RX5 9 "TidedGround$Sites" "cell" "[I") (List.mem_of_getElem? (i := 2) rfl)
  have lk2 := hts (.fieldLink RX5 15 "TidedGround$Sites" "first" "[I") (List.mem_of_getElem? (i := 3) rfl)
  have lk3 := hts (.fieldLink RX5 18 "TidedGround$Sites" "second" "[I") (List.mem_of_getElem? (i := 4) rfl)
  have n_0 : (0 : Int32).toInt = 0 := by decide
  have n_1 : (1 : Int32).toInt = 1 := by decide
  have n_6 : (6 : Int32).toInt = 6 := by decide
  have hl := lv_entry ([.ref q, .int x, .int y, .int z]) (n := 4) (Nat.le_of_ble_eq_true rfl)
  rw [lg_entry_eq]
  generalize (lg_sl ([.ref q, .int x, .int y, .int z]) ++ List.replicate (4 - (lg_sl ([.ref q, .int x, .int y, .int z])).length) Slot.unset).toArray = ls at hl ⊢
  have hl : lv_has ls 4 [(0, .ref q), (1, .int x), (2, .int y), (3, .int z)] := hl
  refine W_abs (fun Q hQ => ?_)
  obtain ⟨hn, hf⟩ := id hs
  refine lv_aload_n hx hb dX5_add_0 rfl (lv_at hl 0 rfl) ?_
  refine va_get (D := eD E) (ci := 5) (v := .int n) (C := RX5) (T := TX5) (N := 4) hx hb hts in_X5 hown hK hP 0 rfl rfl 0 (by decide) lk0 (fun _ h9 => h9) rfl dX5_add_1 ?_
  refine lv_bipush (v := 6) hx hb dX5_add_4 (by decide) ?_
  refine lv_icmp_ge (tgt := 49) hx hb dX5_add_6 (by decide) (fun c6 => ?_) (fun c6 => ?_)
  · have c6_ := i_le c6
    subst hQ
    exact W.vret hx hb hr (fun t ht hW => ⟨⟨(n, f1, f2, f3), rfl, (show (sitesI 6 n f1 ∧ n.toInt ≤ n.toInt + 1) ∧ (n.toInt < 6 → n.toInt = n.toInt + 1 ∧ f1 = upd f1 n.toNatClampNeg x ∧ f2 = upd f2 n.toNatClampNeg y ∧ f3 = upd f3 n.toNatClampNeg z) from ⟨⟨hs, by omega⟩, (fun q => absurd q (by omega))⟩), by rw [ht]; exact hP, hD⟩, hS.F ht⟩) hS.2.2 dX5_add_49
  · have c6_ := i_nle c6
    refine lv_aload_n hx hb dX5_add_9 rfl (lv_at hl 0 rfl) ?_
    refine va_get (D := eD E) (ci := 5) (v := .ref q1) (C := RX5) (T := TX5) (N := 4) hx hb hts in_X5 hown hK hP 0 rfl rfl 1 (by decide) lk1 (fun _ h9 => h9) rfl dX5_add_10 ?_
    refine lv_aload_n hx hb dX5_add_13 rfl (lv_at hl 0 rfl) ?_
    refine va_get (D := eD E) (ci := 5) (v := .int n) (C := RX5) (T := TX5) (N := 4) hx hb hts in_X5 hown hK hP 0 rfl rfl 0 (by decide) lk0 (fun _ h9 => h9) rfl dX5_add_14 ?_
    refine lv_iload_n hx hb dX5_add_17 rfl (lv_at hl 1 rfl) ?_
    refine va_iast hx hb hK hP hD hS 1 0 rfl rfl (n := 6) (f := f1) (i_in (by omega) (by omega)) dX5_add_18 (fun H locs hP hD hS => ?_)
    replace hP : va_P (eD E) vwCl (sitesL E q q1 q2 q3 n (upd f1 n.toNatClampNeg x) f2 f3) H := hP
    replace hD : va_D A (sitesL E q q1 q2 q3 n (upd f1 n.toNatClampNeg x) f2 f3) := hD
    generalize hv18 : upd f1 n.toNatClampNeg x = f1_18 at hP hD
    refine lv_aload_n hx hb dX5_add_19 rfl (lv_at hl 0 rfl) ?_
    refine va_get (D := eD E) (ci := 5) (v := .ref q2) (C := RX5) (T := TX5) (N := 4) hx hb hts in_X5 hown hK hP 0 rfl rfl 2 (by decide) lk2 (fun _ h9 => h9) rfl dX5_add_20 ?_
    refine lv_aload_n hx hb dX5_add_23 rfl (lv_at hl 0 rfl) ?_
    refine va_get (D := eD E) (ci := 5) (v := .int n) (C := RX5) (T := TX5) (N := 4) hx hb hts in_X5 hown hK hP 0 rfl rfl 0 (by decide) lk0 (fun _ h9 => h9) rfl dX5_add_24 ?_
    refine lv_iload_n hx hb dX5_add_27 rfl (lv_at hl 2 rfl) ?_
    refine va_iast hx hb hK hP hD hS 2 0 rfl rfl (n := 6) (f := f2) (i_in (by omega) (by omega)) dX5_add_28 (fun H locs hP hD hS => ?_)
    replace hP : va_P (eD E) vwCl (sitesL E q q1 q2 q3 n f1_18 (upd f2 n.toNatClampNeg y) f3) H := hP
    replace hD : va_D A (sitesL E q q1 q2 q3 n f1_18 (upd f2 n.toNatClampNeg y) f3) := hD
    generalize hv28 : upd f2 n.toNatClampNeg y = f2_28 at hP hD
    refine lv_aload_n hx hb dX5_add_29 rfl (lv_at hl 0 rfl) ?_
    refine va_get (D := eD E) (ci := 5) (v := .ref q3) (C := RX5) (T := TX5) (N := 4) hx hb hts in_X5 hown hK hP 0 rfl rfl 3 (by decide) lk3 (fun _ h9 => h9) rfl dX5_add_30 ?_
    refine lv_aload_n hx hb dX5_add_33 rfl (lv_at hl 0 rfl) ?_
    refine va_get (D := eD E) (ci := 5) (v := .int n) (C := RX5) (T := TX5) (N := 4) hx hb hts in_X5 hown hK hP 0 rfl rfl 0 (by decide) lk0 (fun _ h9 => h9) rfl dX5_add_34 ?_
    refine lv_iload_n hx hb dX5_add_37 rfl (lv_at hl 3 rfl) ?_
    refine va_iast hx hb hK hP hD hS 3 0 rfl rfl (n := 6) (f := f3) (i_in (by omega) (by omega)) dX5_add_38 (fun H locs hP hD hS => ?_)
    replace hP : va_P (eD E) vwCl (sitesL E q q1 q2 q3 n f1_18 f2_28 (upd f3 n.toNatClampNeg z)) H := hP
    replace hD : va_D A (sitesL E q q1 q2 q3 n f1_18 f2_28 (upd f3 n.toNatClampNeg z)) := hD
    generalize hv38 : upd f3 n.toNatClampNeg z = f3_38 at hP hD
    refine lv_aload_n hx hb dX5_add_39 rfl (lv_at hl 0 rfl) ?_
    refine lv_dup hx hb dX5_add_40 rfl ?_
    refine va_get (D := eD E) (ci := 5) (v := .int n) (C := RX5) (T := TX5) (N := 4) hx hb hts in_X5 hown hK hP 0 rfl rfl 0 (by decide) lk0 (fun _ h9 => h9) rfl dX5_add_41 ?_
    refine lv_iconst (v := 1) hx hb dX5_add_44 (by decide) ?_
    refine lv_iadd hx hb dX5_add_45 ?_
    refine lv_topi (fun x45 e45 => ?_)
    have t45 := i_add e45 (by omega)
    refine va_put (D := eD E) (ci := 5) (v := .int x45) (ty := .int) (C := RX5) (T := TX5) (N := 4) hx hb hts in_X5 tyX5 tyX5_ok nmX5 hown hK hP hD hS 0 rfl rfl 0 (by decide) lk0 (fun _ h9 => h9) rfl (by decide +kernel) rfl rfl (Nat.le_of_ble_eq_true rfl) dX5_add_46 (fun H locs hP hD hS => ?_)
    replace hP : va_P (eD E) vwCl (sitesL E q q1 q2 q3 x45 f1_18 f2_28 f3_38) H := hP
    replace hD : va_D A (sitesL E q q1 q2 q3 x45 f1_18 f2_28 f3_38) := hD
    subst hQ
    exact W.vret hx hb hr (fun t ht hW => ⟨⟨(x45, f1_18, f2_28, f3_38), rfl, (show (sitesI 6 x45 f1_18 ∧ x45.toInt ≤ n.toInt + 1) ∧ (n.toInt < 6 → x45.toInt = n.toInt + 1 ∧ f1_18 = upd f1 n.toNatClampNeg x ∧ f2_28 = upd f2 n.toNatClampNeg y ∧ f3_38 = upd f3 n.toNatClampNeg z) from ⟨⟨⟨by omega, by rw [← hv18]; exact cel_up hf (by omega) (by omega)⟩, by omega⟩, (fun _ => ⟨by omega, hv18.symm, hv28.symm, hv38.symm⟩)⟩), by rw [ht]; exact hP, hD⟩, hS.F ht⟩) hS.2.2 dX5_add_49
def rm_X6_restart : Room := { frames := 0, cells := 0, slots := 0, locals := 0 }
set_option maxHeartbeats 4000000 in
set_option maxRecDepth 100000 in
theorem c_X6_restart (l : Launch) (E : Ev) (sz : Nat) (as_ : Nat → Nat) (vs : Vf) : Met l yX6_restart wsX6_restart rm_X6_restart (MtP E sz [.ref (as_ 0)] (stateL E as_ vs)) (va_Qv (fun (u : Vf) => (StateI u) ∧ (stZ vs u)) (MtB E (va_A (stateL E as_ vs) sz) (fun u => stateL E as_ u)) (va_A (stateL E as_ vs) sz)) 0 0 (va_A (stateL E as_ vs) sz) := by
  refine Met.ofW (cc := cX6_restart) (maxL := 2) (ret := none) (by decide) rfl ?_
  intro p e s m args below meth c s₁ B hml hv
  obtain ⟨rfl, hsz, hE, hP, hD0⟩ := hv
  subst hsz
  have hD := hD0.self (sz := s.heap.size)
  generalize hAe : va_A (stateL E as_ vs) s.heap.size = A at hD hE ⊢
  have hA : ∀ q : Nat, s.heap.size ≤ q → A q := fun q h => by rw [← hAe]; exact Or.inr h
  have hS : va_S A s.heap s.heap [] := va_S.rf
  have hx := B.exec
  have hb := B.bytes
  have hr := B.returns
  have hts := atoms_spec (ws := wsX6_restart) B.pre
  have hown : s.vm.findClass RX6 = some m.cls := findClass_of_methodNamed B.named
  have hlocks := B.notSynchronized
  have hK := hE.1
  have in_X6 : ∀ w ∈ u_ws RX6 TX6 9, w ∈ wsX6_restart := fun w h => List.mem_cons_of_mem _ (List.mem_append_right _ h)
  have lk0 := hts (.fieldLink RX6 25 "TidedGround$State" "step" "I") (List.mem_of_getElem? (i := 1) rfl)
  have lk1 := hts (.fieldLink RX6 28 "TidedGround$State" "cart" "I") (List.mem_of_getElem? (i := 5) rfl)
  have lk2 := hts (.fieldLink RX6 31 "TidedGround$State" "pushed" "I") (List.mem_of_getElem? (i := 6) rfl)
  have lk3 := hts (.fieldLink RX6 21 "TidedGround$State" "steep" "I") (List.mem_of_getElem? (i := 7) rfl)
  have lk4 := hts (.fieldLink RX6 18 "TidedGround$State" "props" "[I") (List.mem_of_getElem? (i := 4) rfl)
  have lk5 := hts (.fieldLink RX6 15 "TidedGround$State" "loads" "[I") (List.mem_of_getElem? (i := 3) rfl)
  have lk6 := hts (.fieldLink RX6 9 "TidedGround$State" "shifts" "[I") (List.mem_of_getElem? (i := 2) rfl)
  have n_0 : (0 : Int32).toInt = 0 := by decide
  have n_1 : (1 : Int32).toInt = 1 := by decide
  have n_3 : (3 : Int32).toInt = 3 := by decide
  have n_6 : (6 : Int32).toInt = 6 := by decide
  have n_20 : (20 : Int32).toInt = 20 := by decide
  have n_24 : (24 : Int32).toInt = 24 := by decide
  have hl := lv_entry ([.ref (as_ 0)]) (n := 2) (Nat.le_of_ble_eq_true rfl)
  rw [lg_entry_eq]
  generalize (lg_sl ([.ref (as_ 0)]) ++ List.replicate (2 - (lg_sl ([.ref (as_ 0)])).length) Slot.unset).toArray = ls at hl ⊢
  have hl : lv_has ls 2 [(0, .ref (as_ 0))] := hl
  refine W_abs (fun Q hQ => ?_)
  refine lv_aload_n hx hb dX6_restart_0 rfl (lv_at hl 0 rfl) ?_
  refine lv_iconst (v := 0) hx hb dX6_restart_1 (by decide) ?_
  refine va_put (D := eD E) (ci := 6) (v := .int 0) (ty := .int) (C := RX6) (T := TX6) (N := 9) hx hb hts in_X6 tyX6 tyX6_ok nmX6 hown hK hP hD hS 0 rfl rfl 0 (by decide) lk0 (fun _ h9 => h9) rfl (by decide +kernel) rfl rfl (Nat.le_of_ble_eq_true rfl) dX6_restart_2 (fun H locs hP hD hS => ?_)
  replace hP : va_P (eD E) vwCl (stateL E as_ (up2 vs 0 0 0)) H := hP
  replace hD : va_D A (stateL E as_ (up2 vs 0 0 0)) := hD
  generalize hv2 : up2 vs 0 0 0 = vs_2 at hP hD
  refine lv_iconst (v := 0) hx hb dX6_restart_5 (by decide) ?_
  refine lv_istore_n (lv' := [(1, .int 0), (0, .ref (as_ 0))]) hx hb dX6_restart_6 rfl hl (by decide) rfl (fun ls hl => ?_)
  have K7 : ∀ (μ : Nat) (i : Int32) (va : Vf) (H : Heap) (locs : List Loc) (ls : Array Slot), (3 - i.toInt).toNat < μ → va_P (eD E) vwCl (stateL E as_ va) H → va_D A (stateL E as_ va) → va_S A s.heap H locs → (0 ≤ i.toInt ∧ i.toInt ≤ 3) → (va 0 0 = 0) → (∀ j : Nat, (j : Int) < i.toInt → va 1 j = 0) → (va 7 = vs 7 ∧ va 8 = vs 8) → lv_has ls 2 [(0, .ref (as_ 0)), (1, .int i)] → W p l e (headSpec wsX6_restart rm_X6_restart).room s m ([.ref (as_ 0)] : List Value).toArray below meth c H locs 0 0 Q (F0 m 7 ls []) := by
    intro μ
    induction μ with
    | zero =>
      intro i va H locs ls hμ7
      exact absurd hμ7 (Nat.not_lt_zero _)
    | succ μ ih7 =>
      intro i va H locs ls hμ7 hP hD hS h7_0 h7_1 h7_2 h7_3 hl
      have hx7_0 := h7_3
      clear h7_3
      refine lv_iload_n hx hb dX6_restart_7 rfl (lv_at hl 1 rfl) ?_
      refine lv_iconst (v := 3) hx hb dX6_restart_8 (by decide) ?_
      refine lv_icmp_ge (tgt := 25) hx hb dX6_restart_9 (by decide) (fun c9 => ?_) (fun c9 => ?_)
      · have c9_ := i_le c9
        refine lv_iconst (v := 0) hx hb dX6_restart_25 (by decide) ?_
        refine lv_istore_n (lv' := [(1, .int 0), (0, .ref (as_ 0))]) hx hb dX6_restart_26 rfl hl (by decide) rfl (fun ls hl => ?_)
        have K27 : ∀ (μ : Nat) (k : Int32) (vb : Vf) (H : Heap) (locs : List Loc) (ls : Array Slot), (24 - k.toInt).toNat < μ → va_P (eD E) vwCl (stateL E as_ vb) H → va_D A (stateL E as_ vb) → va_S A s.heap H locs → (0 ≤ k.toInt ∧ k.toInt ≤ 24) → (vb 0 0 = 0) → (∀ j, j < 3 → vb 1 j = 0) → (∀ j : Nat, (j : Int) < k.toInt → vb 2 j = 0) → (vb 7 = vs 7 ∧ vb 8 = vs 8) → lv_has ls 2 [(0, .ref (as_ 0)), (1, .int k)] → W p l e (headSpec wsX6_restart rm_X6_restart).room s m ([.ref (as_ 0)] : List Value).toArray below meth c H locs 0 0 Q (F0 m 27 ls []) := by
          intro μ
          induction μ with
          | zero =>
            intro k vb H locs ls hμ27
            exact absurd hμ27 (Nat.not_lt_zero _)
          | succ μ ih27 =>
            intro k vb H locs ls hμ27 hP hD hS h27_0 h27_1 h27_2 h27_3 h27_4 hl
            have hx27_0 := h27_3
            clear h27_3
            have hx27_1 := h27_4
            clear h27_4
            refine lv_iload_n hx hb dX6_restart_27 rfl (lv_at hl 1 rfl) ?_
            refine lv_bipush (v := 24) hx hb dX6_restart_28 (by decide) ?_
            refine lv_icmp_ge (tgt := 46) hx hb dX6_restart_30 (by decide) (fun c30 => ?_) (fun c30 => ?_)
            · have c30_ := i_le c30
              refine lv_iconst (v := 0) hx hb dX6_restart_46 (by decide) ?_
              refine lv_istore_n (lv' := [(1, .int 0), (0, .ref (as_ 0))]) hx hb dX6_restart_47 rfl hl (by decide) rfl (fun ls hl => ?_)
              have K48 : ∀ (μ : Nat) (n : Int32) (vc : Vf) (H : Heap) (locs : List Loc) (ls : Array Slot), (6 - n.toInt).toNat < μ → va_P (eD E) vwCl (stateL E as_ vc) H → va_D A (stateL E as_ vc) → va_S A s.heap H locs → (0 ≤ n.toInt ∧ n.toInt ≤ 6) → (vc 0 0 = 0) → (∀ j, j < 3 → vc 1 j = 0) → (∀ j : Nat, (j : Int) < n.toInt → vc 3 j = 0) → (∀ j, j < 24 → vc 2 j = 0) → (vc 7 = vs 7 ∧ vc 8 = vs 8) → lv_has ls 2 [(0, .ref (as_ 0)), (1, .int n)] → W p l e (headSpec wsX6_restart rm_X6_restart).room s m ([.ref (as_ 0)] : List Value).toArray below meth c H locs 0 0 Q (F0 m 48 ls []) := by
                intro μ
                induction μ with
                | zero =>
                  intro n vc H locs ls hμ48
                  exact absurd hμ48 (Nat.not_lt_zero _)
                | succ μ ih48 =>
                  intro n vc H locs ls hμ48 hP hD hS h48_0 h48_1 h48_2 h48_3 h48_4 h48_5 hl
                  have hx48_0 := h48_3
                  clear h48_3
                  have hx48_1 := h48_4
                  clear h48_4
                  have hx48_2 := h48_5
                  clear h48_5
                  refine lv_iload_n hx hb dX6_restart_48 rfl (lv_at hl 1 rfl) ?_
                  refine lv_bipush (v := 6) hx hb dX6_restart_49 (by decide) ?_
                  refine lv_icmp_ge (tgt := 67) hx hb dX6_restart_51 (by decide) (fun c51 => ?_) (fun c51 => ?_)
                  · have c51_ := i_le c51
                    refine lv_aload_n hx hb dX6_restart_67 rfl (lv_at hl 0 rfl) ?_
                    refine lv_iconst (v := 0) hx hb dX6_restart_68 (by decide) ?_
                    refine va_put (D := eD E) (ci := 6) (v := .int 0) (ty := .int) (C := RX6) (T := TX6) (N := 9) hx hb hts in_X6 tyX6 tyX6_ok nmX6 hown hK hP hD hS 0 rfl rfl 4 (by decide) lk1 (fun _ h9 => h9) rfl (by decide +kernel) rfl rfl (Nat.le_of_ble_eq_true rfl) dX6_restart_69 (fun H locs hP hD hS => ?_)
                    replace hP : va_P (eD E) vwCl (stateL E as_ (up2 vc 4 0 0)) H := hP
                    replace hD : va_D A (stateL E as_ (up2 vc 4 0 0)) := hD
                    generalize hv69 : up2 vc 4 0 0 = vs_69 at hP hD
                    refine lv_aload_n hx hb dX6_restart_72 rfl (lv_at hl 0 rfl) ?_
                    refine lv_iconst (v := 0) hx hb dX6_restart_73 (by decide) ?_
                    refine va_put (D := eD E) (ci := 6) (v := .int 0) (ty := .int) (C := RX6) (T := TX6) (N := 9) hx hb hts in_X6 tyX6 tyX6_ok nmX6 hown hK hP hD hS 0 rfl rfl 5 (by decide) lk2 (fun _ h9 => h9) rfl (by decide +kernel) rfl rfl (Nat.le_of_ble_eq_true rfl) dX6_restart_74 (fun H locs hP hD hS => ?_)
                    replace hP : va_P (eD E) vwCl (stateL E as_ (up2 vs_69 5 0 0)) H := hP
                    replace hD : va_D A (stateL E as_ (up2 vs_69 5 0 0)) := hD
                    generalize hv74 : up2 vs_69 5 0 0 = vs_74 at hP hD
                    refine lv_aload_n hx hb dX6_restart_77 rfl (lv_at hl 0 rfl) ?_
                    refine lv_bipush (v := 20) hx hb dX6_restart_78 (by decide) ?_
                    refine va_put (D := eD E) (ci := 6) (v := .int 20) (ty := .int) (C := RX6) (T := TX6) (N := 9) hx hb hts in_X6 tyX6 tyX6_ok nmX6 hown hK hP hD hS 0 rfl rfl 6 (by decide) lk3 (fun _ h9 => h9) rfl (by decide +kernel) rfl rfl (Nat.le_of_ble_eq_true rfl) dX6_restart_80 (fun H locs hP hD hS => ?_)
                    replace hP : va_P (eD E) vwCl (stateL E as_ (up2 vs_74 6 0 20)) H := hP
                    replace hD : va_D A (stateL E as_ (up2 vs_74 6 0 20)) := hD
                    generalize hv80 : up2 vs_74 6 0 20 = vs_80 at hP hD
                    subst hQ
                    exact W.vret hx hb hr (fun t ht hW => ⟨⟨(vs_80), rfl, (show (StateI vs_80) ∧ (stZ vs vs_80) from ⟨(by rw [← hv80, ← hv74, ← hv69]; exact st_fresh h48_1 h48_2), (by rw [← hv80, ← hv74, ← hv69]; exact ⟨h48_1, h48_2, hx48_1, fun j hj => hx48_0 j (by omega), rfl, rfl, rfl, hx48_2.1, hx48_2.2⟩)⟩), by rw [ht]; exact hP, hD⟩, hS.F ht⟩) hS.2.2 dX6_restart_83
                  · have c51_ := i_nle c51
                    refine lv_aload_n hx hb dX6_restart_54 rfl (lv_at hl 0 rfl) ?_
                    refine va_get (D := eD E) (ci := 6) (v := .ref (as_ 3)) (C := RX6) (T := TX6) (N := 9) hx hb hts in_X6 hown hK hP 0 rfl rfl 3 (by decide) lk4 (fun _ h9 => h9) rfl dX6_restart_55 ?_
                    refine lv_iload_n hx hb dX6_restart_58 rfl (lv_at hl 1 rfl) ?_
                    refine lv_iconst (v := 0) hx hb dX6_restart_59 (by decide) ?_
                    refine va_iast hx hb hK hP hD hS 3 0 rfl rfl (n := 6) (f := (vc 3)) (i_in (by omega) (by omega)) dX6_restart_60 (fun H locs hP hD hS => ?_)
                    replace hP : va_P (eD E) vwCl (stateL E as_ (up2 vc 3 n.toNatClampNeg 0)) H := hP
                    replace hD : va_D A (stateL E as_ (up2 vc 3 n.toNatClampNeg 0)) := hD
                    generalize hv60 : up2 vc 3 n.toNatClampNeg 0 = vs_60 at hP hD
                    obtain ⟨x61, e61⟩ : ∃ y : Int32, y = n + 1 := ⟨_, rfl⟩
                    refine lv_iinc (v := x61) (lv' := [(1, .int x61), (0, .ref (as_ 0))]) hx hb dX6_restart_61 hl (k := 1) rfl (by rw [e61]; rfl) (by decide) rfl (fun ls hl => ?_)
                    have t61 := i_add e61 (by omega)
                    refine lv_goto (tgt := 48) hx hb dX6_restart_64 (by decide) ?_
                    exact ih48 x61 vs_60 _ _ ls (by omega) hP hD hS (by omega) (by rw [← hv60]; exact h48_1) (by rw [← hv60]; exact h48_2) (by rw [← hv60]; exact up0_next hx48_0 h48_0.1 (by omega)) (by rw [← hv60]; exact hx48_1) (by rw [← hv60]; exact hx48_2) (lv_sub hl [1, 0] rfl)
              exact K48 _ 0 vb _ _ ls (Nat.lt_succ_self _) hP hD hS (by omega) h27_1 h27_2 (fun j h => absurd h (by omega)) (fun j h => hx27_0 j (by omega)) hx27_1 (lv_sub hl [1, 0] rfl)
            · have c30_ := i_nle c30
              refine lv_aload_n hx hb dX6_restart_33 rfl (lv_at hl 0 rfl) ?_
              refine va_get (D := eD E) (ci := 6) (v := .ref (as_ 2)) (C := RX6) (T := TX6) (N := 9) hx hb hts in_X6 hown hK hP 0 rfl rfl 2 (by decide) lk5 (fun _ h9 => h9) rfl dX6_restart_34 ?_
              refine lv_iload_n hx hb dX6_restart_37 rfl (lv_at hl 1 rfl) ?_
              refine lv_iconst (v := 0) hx hb dX6_restart_38 (by decide) ?_
              refine va_iast hx hb hK hP hD hS 2 0 rfl rfl (n := 24) (f := (vb 2)) (i_in (by omega) (by omega)) dX6_restart_39 (fun H locs hP hD hS => ?_)
              replace hP : va_P (eD E) vwCl (stateL E as_ (up2 vb 2 k.toNatClampNeg 0)) H := hP
              replace hD : va_D A (stateL E as_ (up2 vb 2 k.toNatClampNeg 0)) := hD
              generalize hv39 : up2 vb 2 k.toNatClampNeg 0 = vs_39 at hP hD
              obtain ⟨x40, e40⟩ : ∃ y : Int32, y = k + 1 := ⟨_, rfl⟩
              refine lv_iinc (v := x40) (lv' := [(1, .int x40), (0, .ref (as_ 0))]) hx hb dX6_restart_40 hl (k := 1) rfl (by rw [e40]; rfl) (by decide) rfl (fun ls hl => ?_)
              have t40 := i_add e40 (by omega)
              refine lv_goto (tgt := 27) hx hb dX6_restart_43 (by decide) ?_
              exact ih27 x40 vs_39 _ _ ls (by omega) hP hD hS (by omega) (by rw [← hv39]; exact h27_1) (by rw [← hv39]; exact h27_2) (by rw [← hv39]; exact up0_next hx27_0 h27_0.1 (by omega)) (by rw [← hv39]; exact hx27_1) (lv_sub hl [1, 0] rfl)
        exact K27 _ 0 va _ _ ls (Nat.lt_succ_self _) hP hD hS (by omega) h7_1 (fun j h => h7_2 j (by omega)) (fun j h => absurd h (by omega)) hx7_0 (lv_sub hl [1, 0] rfl)
      · have c9_ := i_nle c9
        refine lv_aload_n hx hb dX6_restart_12 rfl (lv_at hl 0 rfl) ?_
        refine va_get (D := eD E) (ci := 6) (v := .ref (as_ 1)) (C := RX6) (T := TX6) (N := 9) hx hb hts in_X6 hown hK hP 0 rfl rfl 1 (by decide) lk6 (fun _ h9 => h9) rfl dX6_restart_13 ?_
        refine lv_iload_n hx hb dX6_restart_16 rfl (lv_at hl 1 rfl) ?_
        refine lv_iconst (v := 0) hx hb dX6_restart_17 (by decide) ?_
        refine va_iast hx hb hK hP hD hS 1 0 rfl rfl (n := 3) (f := (va 1)) (i_in (by omega) (by omega)) dX6_restart_18 (fun H locs hP hD hS => ?_)
        replace hP : va_P (eD E) vwCl (stateL E as_ (up2 va 1 i.toNatClampNeg 0)) H := hP
        replace hD : va_D A (stateL E as_ (up2 va 1 i.toNatClampNeg 0)) := hD
        generalize hv18 : up2 va 1 i.toNatClampNeg 0 = vs_18 at hP hD
        obtain ⟨x19, e19⟩ : ∃ y : Int32, y = i + 1 := ⟨_, rfl⟩
        refine lv_iinc (v := x19) (lv' := [(1, .int x19), (0, .ref (as_ 0))]) hx hb dX6_restart_19 hl (k := 1) rfl (by rw [e19]; rfl) (by decide) rfl (fun ls hl => ?_)
        have t19 := i_add e19 (by omega)
        refine lv_goto (tgt := 7) hx hb dX6_restart_22 (by decide) ?_
        exact ih7 x19 vs_18 _ _ ls (by omega) hP hD hS (by omega) (by rw [← hv18]; exact h7_1) (by rw [← hv18]; exact up0_next h7_2 h7_0.1 (by omega)) (by rw [← hv18]; exact hx7_0) (lv_sub hl [1, 0] rfl)
  exact K7 _ 0 vs_2 _ _ ls (Nat.lt_succ_self _) hP hD hS (by omega) (by rw [← hv2]; rfl) (fun j h => absurd h (by omega)) (by rw [← hv2]; exact ⟨rfl, rfl⟩) (lv_sub hl [1, 0] rfl)
