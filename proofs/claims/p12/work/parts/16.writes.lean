section
def rm_X0_clear : Room := { frames := 0, cells := 0, slots := 0, locals := 0 }
set_option maxHeartbeats 4000000 in
set_option maxRecDepth 100000 in
theorem c_X0_clear (l : Launch) (E : Ev) (sz : Nat) (q : Nat) (qr : Nat) (qa : Nat) (m0 : Int32) (m1 : Int32) (m2 : Int32) (mr : Nat → Int32) (ma : Nat → Int32) (hrow : ∀ j, j < 18 → -9 ≤ (mr j).toInt ∧ (mr j).toInt ≤ 9) (hahe : ∀ j, j < 24 → 0 ≤ (ma j).toInt ∧ (ma j).toInt ≤ 1000) : Met l yX0_clear wsX0_clear rm_X0_clear (MtP E sz [.ref q] (moonL E q qr qa m0 m1 m2 mr ma)) (va_Qv (fun (u : Int32 × Int32 × Int32 × (Nat → Int32) × (Nat → Int32)) => (moonI u.1 u.2.2.2.1 u.2.2.2.2) ∧ (((u.1 : Int32) = 1) ∧ u.2.2.2.1 0 = 0 ∧ u.2.2.2.1 1 = 0)) (MtB E (va_A (moonL E q qr qa m0 m1 m2 mr ma) sz) (fun u => moonL E q qr qa u.1 u.2.1 u.2.2.1 u.2.2.2.1 u.2.2.2.2)) (va_A (moonL E q qr qa m0 m1 m2 mr ma) sz)) 0 0 (va_A (moonL E q qr qa m0 m1 m2 mr ma) sz) := by
  refine Met.ofW (cc := cX0_clear) (maxL := 2) (ret := none) (by decide) rfl ?_
  intro p e s m args below meth c s₁ B hml hv
  obtain ⟨rfl, hsz, hE, hP, hD0⟩ := hv
  subst hsz
  have hD := hD0.self (sz := s.heap.size)
  generalize hAe : va_A (moonL E q qr qa m0 m1 m2 mr ma) s.heap.size = A at hD hE ⊢
  have hA : ∀ q : Nat, s.heap.size ≤ q → A q := fun q h => by rw [← hAe]; exact Or.inr h
  have hS : va_S A s.heap s.heap [] := va_S.rf
  have hx := B.exec
  have hb := B.bytes
  have hr := B.returns
  have hts := atoms_spec (ws := wsX0_clear) B.pre
  have hown : s.vm.findClass RX0 = some m.cls := findClass_of_methodNamed B.named
  have hlocks := B.notSynchronized
  have hK := hE.1
  have in_X0 : ∀ w ∈ u_ws RX0 TX0 5, w ∈ wsX0_clear := fun w h => List.mem_cons_of_mem _ (List.mem_append_right _ h)
  have lk0 := hts (.fieldLink RX0 18 "TidedGround$Moon" "size" "I") (List.mem_of_getElem? (i := 1) rfl)
  have lk1 := hts (.fieldLink RX0 22 "TidedGround$Moon" "perX" "I") (List.mem_of_getElem? (i := 2) rfl)
  have lk2 := hts (.fieldLink RX0 25 "TidedGround$Moon" "perY" "I") (List.mem_of_getElem? (i := 3) rfl)
  have lk3 := hts (.fieldLink RX0 9 "TidedGround$Moon" "row" "[I") (List.mem_of_getElem? (i := 4) rfl)
  have lk4 := hts (.fieldLink RX0 15 "TidedGround$Moon" "ahead" "[I") (List.mem_of_getElem? (i := 5) rfl)
  have n_0 : (0 : Int32).toInt = 0 := by decide
  have n_1 : (1 : Int32).toInt = 1 := by decide
  have n_18 : (18 : Int32).toInt = 18 := by decide
  have n_24 : (24 : Int32).toInt = 24 := by decide
  have hl := lv_entry ([.ref q]) (n := 2) (Nat.le_of_ble_eq_true rfl)
  rw [lg_entry_eq]
  generalize (lg_sl ([.ref q]) ++ List.replicate (2 - (lg_sl ([.ref q])).length) Slot.unset).toArray = ls at hl ⊢
  have hl : lv_has ls 2 [(0, .ref q)] := hl
  refine W_abs (fun Q hQ => ?_)
  refine lv_aload_n hx hb dX0_clear_0 rfl (lv_at hl 0 rfl) ?_
  refine lv_iconst (v := 1) hx hb dX0_clear_1 (by decide) ?_
  refine va_put (D := eD E) (ci := 0) (v := .int 1) (ty := .int) (C := RX0) (T := TX0) (N := 5) hx hb hts in_X0 tyX0 tyX0_ok nmX0 hown hK hP hD hS 0 rfl rfl 0 (by decide) lk0 (fun _ h9 => h9) rfl (by decide +kernel) rfl rfl (Nat.le_of_ble_eq_true rfl) dX0_clear_2 (fun H locs hP hD hS => ?_)
  replace hP : va_P (eD E) vwCl (moonL E q qr qa 1 m1 m2 mr ma) H := hP
  replace hD : va_D A (moonL E q qr qa 1 m1 m2 mr ma) := hD
  refine lv_aload_n hx hb dX0_clear_5 rfl (lv_at hl 0 rfl) ?_
  refine lv_iconst (v := 0) hx hb dX0_clear_6 (by decide) ?_
  refine va_put (D := eD E) (ci := 0) (v := .int 0) (ty := .int) (C := RX0) (T := TX0) (N := 5) hx hb hts in_X0 tyX0 tyX0_ok nmX0 hown hK hP hD hS 0 rfl rfl 1 (by decide) lk1 (fun _ h9 => h9) rfl (by decide +kernel) rfl rfl (Nat.le_of_ble_eq_true rfl) dX0_clear_7 (fun H locs hP hD hS => ?_)
  replace hP : va_P (eD E) vwCl (moonL E q qr qa 1 0 m2 mr ma) H := hP
  replace hD : va_D A (moonL E q qr qa 1 0 m2 mr ma) := hD
  refine lv_aload_n hx hb dX0_clear_10 rfl (lv_at hl 0 rfl) ?_
  refine lv_iconst (v := 0) hx hb dX0_clear_11 (by decide) ?_
  refine va_put (D := eD E) (ci := 0) (v := .int 0) (ty := .int) (C := RX0) (T := TX0) (N := 5) hx hb hts in_X0 tyX0 tyX0_ok nmX0 hown hK hP hD hS 0 rfl rfl 2 (by decide) lk2 (fun _ h9 => h9) rfl (by decide +kernel) rfl rfl (Nat.le_of_ble_eq_true rfl) dX0_clear_12 (fun H locs hP hD hS => ?_)
  replace hP : va_P (eD E) vwCl (moonL E q qr qa 1 0 0 mr ma) H := hP
  replace hD : va_D A (moonL E q qr qa 1 0 0 mr ma) := hD
  refine lv_iconst (v := 0) hx hb dX0_clear_15 (by decide) ?_
  refine lv_istore_n (lv' := [(1, .int 0), (0, .ref q)]) hx hb dX0_clear_16 rfl hl (by decide) rfl (fun ls hl => ?_)
  have K17 : ∀ (μ : Nat) (i : Int32) (mr1 : Nat → Int32) (H : Heap) (locs : List Loc) (ls : Array Slot), (18 - i.toInt).toNat < μ → va_P (eD E) vwCl (moonL E q qr qa 1 0 0 mr1 ma) H → va_D A (moonL E q qr qa 1 0 0 mr1 ma) → va_S A s.heap H locs → (0 ≤ i.toInt ∧ i.toInt ≤ 18) → (∀ j, j < 18 → -9 ≤ (mr1 j).toInt ∧ (mr1 j).toInt ≤ 9) → (∀ j : Nat, (j : Int) < i.toInt → mr1 j = 0) → lv_has ls 2 [(0, .ref q), (1, .int i)] → W p l e (headSpec wsX0_clear rm_X0_clear).room s m ([.ref q] : List Value).toArray below meth c H locs 0 0 Q (F0 m 17 ls []) := by
    intro μ
    induction μ with
    | zero =>
      intro i mr1 H locs ls hμ17
      exact absurd hμ17 (Nat.not_lt_zero _)
    | succ μ ih17 =>
      intro i mr1 H locs ls hμ17 hP hD hS h17_0 h17_1 h17_2 hl
      have hx17_0 := h17_2
      clear h17_2
      refine lv_iload_n hx hb dX0_clear_17 rfl (lv_at hl 1 rfl) ?_
      refine lv_aload_n hx hb dX0_clear_18 rfl (lv_at hl 0 rfl) ?_
      refine va_get (D := eD E) (ci := 0) (v := .ref qr) (C := RX0) (T := TX0) (N := 5) hx hb hts in_X0 hown hK hP 0 rfl rfl 3 (by decide) lk3 (fun _ h9 => h9) rfl dX0_clear_19 ?_
      refine va_alen (v := 18) hx hb hK hP 1 0 rfl rfl rfl dX0_clear_22 ?_
      refine lv_icmp_ge (tgt := 39) hx hb dX0_clear_23 (by decide) (fun c23 => ?_) (fun c23 => ?_)
      · have c23_ := i_le c23
        refine lv_iconst (v := 0) hx hb dX0_clear_39 (by decide) ?_
        refine lv_istore_n (lv' := [(1, .int 0), (0, .ref q)]) hx hb dX0_clear_40 rfl hl (by decide) rfl (fun ls hl => ?_)
        have K41 : ∀ (μ : Nat) (k : Int32) (ma1 : Nat → Int32) (H : Heap) (locs : List Loc) (ls : Array Slot), (24 - k.toInt).toNat < μ → va_P (eD E) vwCl (moonL E q qr qa 1 0 0 mr1 ma1) H → va_D A (moonL E q qr qa 1 0 0 mr1 ma1) → va_S A s.heap H locs → (0 ≤ k.toInt ∧ k.toInt ≤ 24) → (∀ j, j < 24 → 0 ≤ (ma1 j).toInt ∧ (ma1 j).toInt ≤ 1000) → lv_has ls 2 [(0, .ref q), (1, .int k)] → W p l e (headSpec wsX0_clear rm_X0_clear).room s m ([.ref q] : List Value).toArray below meth c H locs 0 0 Q (F0 m 41 ls []) := by
          intro μ
          induction μ with
          | zero =>
            intro k ma1 H locs ls hμ41
            exact absurd hμ41 (Nat.not_lt_zero _)
          | succ μ ih41 =>
            intro k ma1 H locs ls hμ41 hP hD hS h41_0 h41_1 hl
            refine lv_iload_n hx hb dX0_clear_41 rfl (lv_at hl 1 rfl) ?_
            refine lv_bipush (v := 24) hx hb dX0_clear_42 (by decide) ?_
            refine lv_icmp_ge (tgt := 60) hx hb dX0_clear_44 (by decide) (fun c44 => ?_) (fun c44 => ?_)
            · have c44_ := i_le c44
              subst hQ
              exact W.vret hx hb hr (fun t ht hW => ⟨⟨(1, 0, 0, mr1, ma1), rfl, (show (moonI 1 mr1 ma1) ∧ (((1 : Int32) = 1) ∧ mr1 0 = 0 ∧ mr1 1 = 0) from ⟨⟨by decide, h17_1, h41_1⟩, ⟨rfl, hx17_0 0 (by omega), hx17_0 1 (by omega)⟩⟩), by rw [ht]; exact hP, hD⟩, hS.F ht⟩) hS.2.2 dX0_clear_60
            · have c44_ := i_nle c44
              refine lv_aload_n hx hb dX0_clear_47 rfl (lv_at hl 0 rfl) ?_
              refine va_get (D := eD E) (ci := 0) (v := .ref qa) (C := RX0) (T := TX0) (N := 5) hx hb hts in_X0 hown hK hP 0 rfl rfl 4 (by decide) lk4 (fun _ h9 => h9) rfl dX0_clear_48 ?_
              refine lv_iload_n hx hb dX0_clear_51 rfl (lv_at hl 1 rfl) ?_
              refine lv_iconst (v := 0) hx hb dX0_clear_52 (by decide) ?_
              refine va_iast hx hb hK hP hD hS 2 0 rfl rfl (n := 24) (f := ma1) (i_in (by omega) (by omega)) dX0_clear_53 (fun H locs hP hD hS => ?_)
              replace hP : va_P (eD E) vwCl (moonL E q qr qa 1 0 0 mr1 (upd ma1 k.toNatClampNeg 0)) H := hP
              replace hD : va_D A (moonL E q qr qa 1 0 0 mr1 (upd ma1 k.toNatClampNeg 0)) := hD
              generalize hv53 : upd ma1 k.toNatClampNeg 0 = ma_53 at hP hD
              obtain ⟨x54, e54⟩ : ∃ y : Int32, y = k + 1 := ⟨_, rfl⟩
              refine lv_iinc (v := x54) (lv' := [(1, .int x54), (0, .ref q)]) hx hb dX0_clear_54 hl (k := 1) rfl (by rw [e54]; rfl) (by decide) rfl (fun ls hl => ?_)
              have t54 := i_add e54 (by omega)
              refine lv_goto (tgt := 41) hx hb dX0_clear_57 (by decide) ?_
              exact ih41 x54 ma_53 _ _ ls (by omega) hP hD hS (by omega) (by rw [← hv53]; exact ahe_up h41_1 (by decide) (by decide)) (lv_sub hl [1, 0] rfl)
        exact K41 _ 0 ma _ _ ls (Nat.lt_succ_self _) hP hD hS (by omega) hahe (lv_sub hl [1, 0] rfl)
      · have c23_ := i_nle c23
        refine lv_aload_n hx hb dX0_clear_26 rfl (lv_at hl 0 rfl) ?_
        refine va_get (D := eD E) (ci := 0) (v := .ref qr) (C := RX0) (T := TX0) (N := 5) hx hb hts in_X0 hown hK hP 0 rfl rfl 3 (by decide) lk3 (fun _ h9 => h9) rfl dX0_clear_27 ?_
        refine lv_iload_n hx hb dX0_clear_30 rfl (lv_at hl 1 rfl) ?_
        refine lv_iconst (v := 0) hx hb dX0_clear_31 (by decide) ?_
        refine va_iast hx hb hK hP hD hS 1 0 rfl rfl (n := 18) (f := mr1) (i_in (by omega) (by omega)) dX0_clear_32 (fun H locs hP hD hS => ?_)
        replace hP : va_P (eD E) vwCl (moonL E q qr qa 1 0 0 (upd mr1 i.toNatClampNeg 0) ma) H := hP
        replace hD : va_D A (moonL E q qr qa 1 0 0 (upd mr1 i.toNatClampNeg 0) ma) := hD
        generalize hv32 : upd mr1 i.toNatClampNeg 0 = mr_32 at hP hD
        obtain ⟨x33, e33⟩ : ∃ y : Int32, y = i + 1 := ⟨_, rfl⟩
        refine lv_iinc (v := x33) (lv' := [(1, .int x33), (0, .ref q)]) hx hb dX0_clear_33 hl (k := 1) rfl (by rw [e33]; rfl) (by decide) rfl (fun ls hl => ?_)
        have t33 := i_add e33 (by omega)
        refine lv_goto (tgt := 17) hx hb dX0_clear_36 (by decide) ?_
        exact ih17 x33 mr_32 _ _ ls (by omega) hP hD hS (by omega) (by rw [← hv32]; exact row_up h17_1 (by decide) (by decide)) (by rw [← hv32]; exact u0_next hx17_0 (by omega) (by omega)) (lv_sub hl [1, 0] rfl)
  exact K17 _ 0 mr _ _ ls (Nat.lt_succ_self _) hP hD hS (by omega) hrow (fun j h => absurd h (by omega)) (lv_sub hl [1, 0] rfl)
def rm_X5_add : Room := { frames := 0, cells := 0, slots := 0, locals := 0 }
set_option maxHeartbeats 4000000 in
set_option maxRecDepth 100000 in
theorem c_X5_add (l : Launch) (E : Ev) (sz : Nat) (q : Nat) (q1 : Nat) (q2 : Nat) (q3 : Nat) (n : Int32) (f1 : Nat → Int32) (f2 : Nat → Int32) (f3 : Nat → Int32) (x : Int32) (y : Int32) (z : Int32) (hs : sitesI 6 n f1) (hx : 0 ≤ x.toInt ∧ x.toInt ≤ 23) : Met l yX5_add wsX5_add rm_X5_add (MtP E sz [.ref q, .int x, .int y, .int z] (sitesL E q q1 q2 q3 n f1 f2 f3)) (va_Qv (fun (u : Int32 × (Nat → Int32) × (Nat → Int32) × (Nat → Int32)) => (sitesI 6 u.1 u.2.1 ∧ u.1.toInt ≤ n.toInt + 1) ∧ (n.toInt < 6 → u.1.toInt = n.toInt + 1 ∧ u.2.1 = upd f1 n.toNatClampNeg x ∧ u.2.2.1 = upd f2 n.toNatClampNeg y ∧ u.2.2.2 = upd f3 n.toNatClampNeg z)) (MtB E (va_A (sitesL E q q1 q2 q3 n f1 f2 f3) sz) (fun u => sitesL E q q1 q2 q3 u.1 u.2.1 u.2.2.1 u.2.2.2)) (va_A (sitesL E q q1 q2 q3 n f1 f2 f3) sz)) 0 0 (va_A (sitesL E q q1 q2 q3 n f1 f2 f3) sz) := by
  refine Met.ofW (cc := cX5_add) (maxL := 4) (ret := none) (by decide) rfl ?_
  intro p e s m args below meth c s₁ B hml hv
  obtain ⟨rfl, hsz, hE, hP, hD0⟩ := hv
  subst hsz
  have hD := hD0.self (sz := s.heap.size)
  generalize hAe : va_A (sitesL E q q1 q2 q3 n f1 f2 f3) s.heap.size = A at hD hE ⊢
  have hA : ∀ q : Nat, s.heap.size ≤ q → A q := fun q h => by rw [← hAe]; exact Or.inr h
  have hS : va_S A s.heap s.heap [] := va_S.rf
  have hx := B.exec
  have hb := B.bytes
  have hr := B.returns
  have hts := atoms_spec (ws := wsX5_add) B.pre
  have hown : s.vm.findClass RX5 = some m.cls := findClass_of_methodNamed B.named
  have hlocks := B.notSynchronized
  have hK := hE.1
  have in_X5 : ∀ w ∈ u_ws RX5 TX5 4, w ∈ wsX5_add := fun w h => List.mem_cons_of_mem _ (List.mem_append_right _ h)
  have lk0 := hts (.fieldLink RX5 21 "TidedGround$Sites" "count" "I") (List.mem_of_getElem? (i := 1) rfl)
  have lk1 := hts (.fieldLink RX5 9 "TidedGround$Sites" "cell" "[I") (List.mem_of_getElem? (i := 2) rfl)
  have lk2 := hts (.fieldLink RX5 15 "TidedGround$Sites" "first" "[I") (List.mem_of_getElem? (i := 3) rfl)
  have lk3 := hts (.fieldLink RX5 18 "TidedGround$Sites" "second" "[I") (List.mem_of_getElem? (i := 4) rfl)
  have n_0 : (0 : Int32).toInt = 0 := by decide
  have n_1 : (1 : Int32).toInt = 1 := by decide
  have n_6 : (6 : Int32).toInt = 6 := by decide
  have hl := lv_entry ([.ref q, .int x, .int y, .int z]) (n := 4) (Nat.le_of_ble_eq_true rfl)
  rw [lg_entry_eq]
  generalize (lg_sl ([.ref q, .int x, .int y, .int z]) ++ List.replicate (4 - (lg_sl ([.ref q, .int x, .int y, .int z])).length) Slot.unset).toArray = ls at hl ⊢
  have hl : lv_has ls 4 [(0, .ref q), (1, .int x), (2, .int y), (3, .int z)] := hl
  refine W_abs (fun Q hQ => ?_)
  obtain ⟨hn, hf⟩ := id hs
  refine lv_aload_n hx hb dX5_add_0 rfl (lv_at hl 0 rfl) ?_
  refine va_get (D := eD E) (ci := 5) (v := .int n) (C := RX5) (T := TX5) (N := 4) hx hb hts in_X5 hown hK hP 0 rfl rfl 0 (by decide) lk0 (fun _ h9 => h9) rfl dX5_add_1 ?_
  refine lv_bipush (v := 6) hx hb dX5_add_4 (by decide) ?_
  refine lv_icmp_ge (tgt := 49) hx hb dX5_add_6 (by decide) (fun c6 => ?_) (fun c6 => ?_)
  · have c6_ := i_le c6
    subst hQ
    exact W.vret hx hb hr (fun t ht hW => ⟨⟨(n, f1, f2, f3), rfl, (show (sitesI 6 n f1 ∧ n.toInt ≤ n.toInt + 1) ∧ (n.toInt < 6 → n.toInt = n.toInt + 1 ∧ f1 = upd f1 n.toNatClampNeg x ∧ f2 = upd f2 n.toNatClampNeg y ∧ f3 = upd f3 n.toNatClampNeg z) from ⟨⟨hs, by omega⟩, (fun q => absurd q (by omega))⟩), by rw [ht]; exact hP, hD⟩, hS.F ht⟩) hS.2.2 dX5_add_49
  · have c6_ := i_nle c6
    refine lv_aload_n hx hb dX5_add_9 rfl (lv_at hl 0 rfl) ?_
    refine va_get (D := eD E) (ci := 5) (v := .ref q1) (C := RX5) (T := TX5) (N := 4) hx hb hts in_X5 hown hK hP 0 rfl rfl 1 (by decide) lk1 (fun _ h9 => h9) rfl dX5_add_10 ?_
    refine lv_aload_n hx hb dX5_add_13 rfl (lv_at hl 0 rfl) ?_
    refine va_get (D := eD E) (ci := 5) (v := .int n) (C := RX5) (T := TX5) (N := 4) hx hb hts in_X5 hown hK hP 0 rfl rfl 0 (by decide) lk0 (fun _ h9 => h9) rfl dX5_add_14 ?_
    refine lv_iload_n hx hb dX5_add_17 rfl (lv_at hl 1 rfl) ?_
    refine va_iast hx hb hK hP hD hS 1 0 rfl rfl (n := 6) (f := f1) (i_in (by omega) (by omega)) dX5_add_18 (fun H locs hP hD hS => ?_)
    replace hP : va_P (eD E) vwCl (sitesL E q q1 q2 q3 n (upd f1 n.toNatClampNeg x) f2 f3) H := hP
    replace hD : va_D A (sitesL E q q1 q2 q3 n (upd f1 n.toNatClampNeg x) f2 f3) := hD
    generalize hv18 : upd f1 n.toNatClampNeg x = f1_18 at hP hD
    refine lv_aload_n hx hb dX5_add_19 rfl (lv_at hl 0 rfl) ?_
    refine va_get (D := eD E) (ci := 5) (v := .ref q2) (C := RX5) (T := TX5) (N := 4) hx hb hts in_X5 hown hK hP 0 rfl rfl 2 (by decide) lk2 (fun _ h9 => h9) rfl dX5_add_20 ?_
    refine lv_aload_n hx hb dX5_add_23 rfl (lv_at hl 0 rfl) ?_
    refine va_get (D := eD E) (ci := 5) (v := .int n) (C := RX5) (T := TX5) (N := 4) hx hb hts in_X5 hown hK hP 0 rfl rfl 0 (by decide) lk0 (fun _ h9 => h9) rfl dX5_add_24 ?_
    refine lv_iload_n hx hb dX5_add_27 rfl (lv_at hl 2 rfl) ?_
    refine va_iast hx hb hK hP hD hS 2 0 rfl rfl (n := 6) (f := f2) (i_in (by omega) (by omega)) dX5_add_28 (fun H locs hP hD hS => ?_)
    replace hP : va_P (eD E) vwCl (sitesL E q q1 q2 q3 n f1_18 (upd f2 n.toNatClampNeg y) f3) H := hP
    replace hD : va_D A (sitesL E q q1 q2 q3 n f1_18 (upd f2 n.toNatClampNeg y) f3) := hD
    generalize hv28 : upd f2 n.toNatClampNeg y = f2_28 at hP hD
    refine lv_aload_n hx hb dX5_add_29 rfl (lv_at hl 0 rfl) ?_
    refine va_get (D := eD E) (ci := 5) (v := .ref q3) (C := RX5) (T := TX5) (N := 4) hx hb hts in_X5 hown hK hP 0 rfl rfl 3 (by decide) lk3 (fun _ h9 => h9) rfl dX5_add_30 ?_
    refine lv_aload_n hx hb dX5_add_33 rfl (lv_at hl 0 rfl) ?_
    refine va_get (D := eD E) (ci := 5) (v := .int n) (C := RX5) (T := TX5) (N := 4) hx hb hts in_X5 hown hK hP 0 rfl rfl 0 (by decide) lk0 (fun _ h9 => h9) rfl dX5_add_34 ?_
    refine lv_iload_n hx hb dX5_add_37 rfl (lv_at hl 3 rfl) ?_
    refine va_iast hx hb hK hP hD hS 3 0 rfl rfl (n := 6) (f := f3) (i_in (by omega) (by omega)) dX5_add_38 (fun H locs hP hD hS => ?_)
    replace hP : va_P (eD E) vwCl (sitesL E q q1 q2 q3 n f1_18 f2_28 (upd f3 n.toNatClampNeg z)) H := hP
    replace hD : va_D A (sitesL E q q1 q2 q3 n f1_18 f2_28 (upd f3 n.toNatClampNeg z)) := hD
    generalize hv38 : upd f3 n.toNatClampNeg z = f3_38 at hP hD
    refine lv_aload_n hx hb dX5_add_39 rfl (lv_at hl 0 rfl) ?_
    refine lv_dup hx hb dX5_add_40 rfl ?_
    refine va_get (D := eD E) (ci := 5) (v := .int n) (C := RX5) (T := TX5) (N := 4) hx hb hts in_X5 hown hK hP 0 rfl rfl 0 (by decide) lk0 (fun _ h9 => h9) rfl dX5_add_41 ?_
    refine lv_iconst (v := 1) hx hb dX5_add_44 (by decide) ?_
    refine lv_iadd hx hb dX5_add_45 ?_
    refine lv_topi (fun x45 e45 => ?_)
    have t45 := i_add e45 (by omega)
    refine va_put (D := eD E) (ci := 5) (v := .int x45) (ty := .int) (C := RX5) (T := TX5) (N := 4) hx hb hts in_X5 tyX5 tyX5_ok nmX5 hown hK hP hD hS 0 rfl rfl 0 (by decide) lk0 (fun _ h9 => h9) rfl (by decide +kernel) rfl rfl (Nat.le_of_ble_eq_true rfl) dX5_add_46 (fun H locs hP hD hS => ?_)
    replace hP : va_P (eD E) vwCl (sitesL E q q1 q2 q3 x45 f1_18 f2_28 f3_38) H := hP
    replace hD : va_D A (sitesL E q q1 q2 q3 x45 f1_18 f2_28 f3_38) := hD
    subst hQ
    exact W.vret hx hb hr (fun t ht hW => ⟨⟨(x45, f1_18, f2_28, f3_38), rfl, (show (sitesI 6 x45 f1_18 ∧ x45.toInt ≤ n.toInt + 1) ∧ (n.toInt < 6 → x45.toInt = n.toInt + 1 ∧ f1_18 = upd f1 n.toNatClampNeg x ∧ f2_28 = upd f2 n.toNatClampNeg y ∧ f3_38 = upd f3 n.toNatClampNeg z) from ⟨⟨⟨by omega, by rw [← hv18]; exact cel_up hf (by omega) (by omega)⟩, by omega⟩, (fun _ => ⟨by omega, hv18.symm, hv28.symm, hv38.symm⟩)⟩), by rw [ht]; exact hP, hD⟩, hS.F ht⟩) hS.2.2 dX5_add_49
def rm_X6_restart : Room := { frames := 0, cells := 0, slots := 0, locals := 0 }
set_option maxHeartbeats 4000000 in
set_option maxRecDepth 100000 in
theorem c_X6_restart (l : Launch) (E : Ev) (sz : Nat) (as_ : Nat → Nat) (vs : Vf) : Met l yX6_restart wsX6_restart rm_X6_restart (MtP E sz [.ref (as_ 0)] (stateL E as_ vs)) (va_Qv (fun (u : Vf) => (StateI u) ∧ (stZ vs u)) (MtB E (va_A (stateL E as_ vs) sz) (fun u => stateL E as_ u)) (va_A (stateL E as_ vs) sz)) 0 0 (va_A (stateL E as_ vs) sz) := by
  refine Met.ofW (cc := cX6_restart) (maxL := 2) (ret := none) (by decide) rfl ?_
  intro p e s m args below meth c s₁ B hml hv
  obtain ⟨rfl, hsz, hE, hP, hD0⟩ := hv
  subst hsz
  have hD := hD0.self (sz := s.heap.size)
  generalize hAe : va_A (stateL E as_ vs) s.heap.size = A at hD hE ⊢
  have hA : ∀ q : Nat, s.heap.size ≤ q → A q := fun q h => by rw [← hAe]; exact Or.inr h
  have hS : va_S A s.heap s.heap [] := va_S.rf
  have hx := B.exec
  have hb := B.bytes
  have hr := B.returns
  have hts := atoms_spec (ws := wsX6_restart) B.pre
  have hown : s.vm.findClass RX6 = some m.cls := findClass_of_methodNamed B.named
  have hlocks := B.notSynchronized
  have hK := hE.1
  have in_X6 : ∀ w ∈ u_ws RX6 TX6 9, w ∈ wsX6_restart := fun w h => List.mem_cons_of_mem _ (List.mem_append_right _ h)
  have lk0 := hts (.fieldLink RX6 25 "TidedGround$State" "step" "I") (List.mem_of_getElem? (i := 1) rfl)
  have lk1 := hts (.fieldLink RX6 28 "TidedGround$State" "cart" "I") (List.mem_of_getElem? (i := 5) rfl)
  have lk2 := hts (.fieldLink RX6 31 "TidedGround$State" "pushed" "I") (List.mem_of_getElem? (i := 6) rfl)
  have lk3 := hts (.fieldLink RX6 21 "TidedGround$State" "steep" "I") (List.mem_of_getElem? (i := 7) rfl)
  have lk4 := hts (.fieldLink RX6 18 "TidedGround$State" "props" "[I") (List.mem_of_getElem? (i := 4) rfl)
  have lk5 := hts (.fieldLink RX6 15 "TidedGround$State" "loads" "[I") (List.mem_of_getElem? (i := 3) rfl)
  have lk6 := hts (.fieldLink RX6 9 "TidedGround$State" "shifts" "[I") (List.mem_of_getElem? (i := 2) rfl)
  have n_0 : (0 : Int32).toInt = 0 := by decide
  have n_1 : (1 : Int32).toInt = 1 := by decide
  have n_3 : (3 : Int32).toInt = 3 := by decide
  have n_6 : (6 : Int32).toInt = 6 := by decide
  have n_20 : (20 : Int32).toInt = 20 := by decide
  have n_24 : (24 : Int32).toInt = 24 := by decide
  have hl := lv_entry ([.ref (as_ 0)]) (n := 2) (Nat.le_of_ble_eq_true rfl)
  rw [lg_entry_eq]
  generalize (lg_sl ([.ref (as_ 0)]) ++ List.replicate (2 - (lg_sl ([.ref (as_ 0)])).length) Slot.unset).toArray = ls at hl ⊢
  have hl : lv_has ls 2 [(0, .ref (as_ 0))] := hl
  refine W_abs (fun Q hQ => ?_)
  refine lv_aload_n hx hb dX6_restart_0 rfl (lv_at hl 0 rfl) ?_
  refine lv_iconst (v := 0) hx hb dX6_restart_1 (by decide) ?_
  refine va_put (D := eD E) (ci := 6) (v := .int 0) (ty := .int) (C := RX6) (T := TX6) (N := 9) hx hb hts in_X6 tyX6 tyX6_ok nmX6 hown hK hP hD hS 0 rfl rfl 0 (by decide) lk0 (fun _ h9 => h9) rfl (by decide +kernel) rfl rfl (Nat.le_of_ble_eq_true rfl) dX6_restart_2 (fun H locs hP hD hS => ?_)
  replace hP : va_P (eD E) vwCl (stateL E as_ (up2 vs 0 0 0)) H := hP
  replace hD : va_D A (stateL E as_ (up2 vs 0 0 0)) := hD
  generalize hv2 : up2 vs 0 0 0 = vs_2 at hP hD
  refine lv_iconst (v := 0) hx hb dX6_restart_5 (by decide) ?_
  refine lv_istore_n (lv' := [(1, .int 0), (0, .ref (as_ 0))]) hx hb dX6_restart_6 rfl hl (by decide) rfl (fun ls hl => ?_)
  have K7 : ∀ (μ : Nat) (i : Int32) (va : Vf) (H : Heap) (locs : List Loc) (ls : Array Slot), (3 - i.toInt).toNat < μ → va_P (eD E) vwCl (stateL E as_ va) H → va_D A (stateL E as_ va) → va_S A s.heap H locs → (0 ≤ i.toInt ∧ i.toInt ≤ 3) → (va 0 0 = 0) → (∀ j : Nat, (j : Int) < i.toInt → va 1 j = 0) → (va 7 = vs 7 ∧ va 8 = vs 8) → lv_has ls 2 [(0, .ref (as_ 0)), (1, .int i)] → W p l e (headSpec wsX6_restart rm_X6_restart).room s m ([.ref (as_ 0)] : List Value).toArray below meth c H locs 0 0 Q (F0 m 7 ls []) := by
    intro μ
    induction μ with
    | zero =>
      intro i va H locs ls hμ7
      exact absurd hμ7 (Nat.not_lt_zero _)
    | succ μ ih7 =>
      intro i va H locs ls hμ7 hP hD hS h7_0 h7_1 h7_2 h7_3 hl
      have hx7_0 := h7_3
      clear h7_3
      refine lv_iload_n hx hb dX6_restart_7 rfl (lv_at hl 1 rfl) ?_
      refine lv_iconst (v := 3) hx hb dX6_restart_8 (by decide) ?_
      refine lv_icmp_ge (tgt := 25) hx hb dX6_restart_9 (by decide) (fun c9 => ?_) (fun c9 => ?_)
      · have c9_ := i_le c9
        refine lv_iconst (v := 0) hx hb dX6_restart_25 (by decide) ?_
        refine lv_istore_n (lv' := [(1, .int 0), (0, .ref (as_ 0))]) hx hb dX6_restart_26 rfl hl (by decide) rfl (fun ls hl => ?_)
        have K27 : ∀ (μ : Nat) (k : Int32) (vb : Vf) (H : Heap) (locs : List Loc) (ls : Array Slot), (24 - k.toInt).toNat < μ → va_P (eD E) vwCl (stateL E as_ vb) H → va_D A (stateL E as_ vb) → va_S A s.heap H locs → (0 ≤ k.toInt ∧ k.toInt ≤ 24) → (vb 0 0 = 0) → (∀ j, j < 3 → vb 1 j = 0) → (∀ j : Nat, (j : Int) < k.toInt → vb 2 j = 0) → (vb 7 = vs 7 ∧ vb 8 = vs 8) → lv_has ls 2 [(0, .ref (as_ 0)), (1, .int k)] → W p l e (headSpec wsX6_restart rm_X6_restart).room s m ([.ref (as_ 0)] : List Value).toArray below meth c H locs 0 0 Q (F0 m 27 ls []) := by
          intro μ
          induction μ with
          | zero =>
            intro k vb H locs ls hμ27
            exact absurd hμ27 (Nat.not_lt_zero _)
          | succ μ ih27 =>
            intro k vb H locs ls hμ27 hP hD hS h27_0 h27_1 h27_2 h27_3 h27_4 hl
            have hx27_0 := h27_3
            clear h27_3
            have hx27_1 := h27_4
            clear h27_4
            refine lv_iload_n hx hb dX6_restart_27 rfl (lv_at hl 1 rfl) ?_
            refine lv_bipush (v := 24) hx hb dX6_restart_28 (by decide) ?_
            refine lv_icmp_ge (tgt := 46) hx hb dX6_restart_30 (by decide) (fun c30 => ?_) (fun c30 => ?_)
            · have c30_ := i_le c30
              refine lv_iconst (v := 0) hx hb dX6_restart_46 (by decide) ?_
              refine lv_istore_n (lv' := [(1, .int 0), (0, .ref (as_ 0))]) hx hb dX6_restart_47 rfl hl (by decide) rfl (fun ls hl => ?_)
              have K48 : ∀ (μ : Nat) (n : Int32) (vc : Vf) (H : Heap) (locs : List Loc) (ls : Array Slot), (6 - n.toInt).toNat < μ → va_P (eD E) vwCl (stateL E as_ vc) H → va_D A (stateL E as_ vc) → va_S A s.heap H locs → (0 ≤ n.toInt ∧ n.toInt ≤ 6) → (vc 0 0 = 0) → (∀ j, j < 3 → vc 1 j = 0) → (∀ j : Nat, (j : Int) < n.toInt → vc 3 j = 0) → (∀ j, j < 24 → vc 2 j = 0) → (vc 7 = vs 7 ∧ vc 8 = vs 8) → lv_has ls 2 [(0, .ref (as_ 0)), (1, .int n)] → W p l e (headSpec wsX6_restart rm_X6_restart).room s m ([.ref (as_ 0)] : List Value).toArray below meth c H locs 0 0 Q (F0 m 48 ls []) := by
                intro μ
                induction μ with
                | zero =>
                  intro n vc H locs ls hμ48
                  exact absurd hμ48 (Nat.not_lt_zero _)
                | succ μ ih48 =>
                  intro n vc H locs ls hμ48 hP hD hS h48_0 h48_1 h48_2 h48_3 h48_4 h48_5 hl
                  have hx48_0 := h48_3
                  clear h48_3
                  have hx48_1 := h48_4
                  clear h48_4
                  have hx48_2 := h48_5
                  clear h48_5
                  refine lv_iload_n hx hb dX6_restart_48 rfl (lv_at hl 1 rfl) ?_
                  refine lv_bipush (v := 6) hx hb dX6_restart_49 (by decide) ?_
                  refine lv_icmp_ge (tgt := 67) hx hb dX6_restart_51 (by decide) (fun c51 => ?_) (fun c51 => ?_)
                  · have c51_ := i_le c51
                    refine lv_aload_n hx hb dX6_restart_67 rfl (lv_at hl 0 rfl) ?_
                    refine lv_iconst (v := 0) hx hb dX6_restart_68 (by decide) ?_
                    refine va_put (D := eD E) (ci := 6) (v := .int 0) (ty := .int) (C := RX6) (T := TX6) (N := 9) hx hb hts in_X6 tyX6 tyX6_ok nmX6 hown hK hP hD hS 0 rfl rfl 4 (by decide) lk1 (fun _ h9 => h9) rfl (by decide +kernel) rfl rfl (Nat.le_of_ble_eq_true rfl) dX6_restart_69 (fun H locs hP hD hS => ?_)
                    replace hP : va_P (eD E) vwCl (stateL E as_ (up2 vc 4 0 0)) H := hP
                    replace hD : va_D A (stateL E as_ (up2 vc 4 0 0)) := hD
                    generalize hv69 : up2 vc 4 0 0 = vs_69 at hP hD
                    refine lv_aload_n hx hb dX6_restart_72 rfl (lv_at hl 0 rfl) ?_
                    refine lv_iconst (v := 0) hx hb dX6_restart_73 (by decide) ?_
                    refine va_put (D := eD E) (ci := 6) (v := .int 0) (ty := .int) (C := RX6) (T := TX6) (N := 9) hx hb hts in_X6 tyX6 tyX6_ok nmX6 hown hK hP hD hS 0 rfl rfl 5 (by decide) lk2 (fun _ h9 => h9) rfl (by decide +kernel) rfl rfl (Nat.le_of_ble_eq_true rfl) dX6_restart_74 (fun H locs hP hD hS => ?_)
                    replace hP : va_P (eD E) vwCl (stateL E as_ (up2 vs_69 5 0 0)) H := hP
                    replace hD : va_D A (stateL E as_ (up2 vs_69 5 0 0)) := hD
                    generalize hv74 : up2 vs_69 5 0 0 = vs_74 at hP hD
                    refine lv_aload_n hx hb dX6_restart_77 rfl (lv_at hl 0 rfl) ?_
                    refine lv_bipush (v := 20) hx hb dX6_restart_78 (by decide) ?_
                    refine va_put (D := eD E) (ci := 6) (v := .int 20) (ty := .int) (C := RX6) (T := TX6) (N := 9) hx hb hts in_X6 tyX6 tyX6_ok nmX6 hown hK hP hD hS 0 rfl rfl 6 (by decide) lk3 (fun _ h9 => h9) rfl (by decide +kernel) rfl rfl (Nat.le_of_ble_eq_true rfl) dX6_restart_80 (fun H locs hP hD hS => ?_)
                    replace hP : va_P (eD E) vwCl (stateL E as_ (up2 vs_74 6 0 20)) H := hP
                    replace hD : va_D A (stateL E as_ (up2 vs_74 6 0 20)) := hD
                    generalize hv80 : up2 vs_74 6 0 20 = vs_80 at hP hD
                    subst hQ
                    exact W.vret hx hb hr (fun t ht hW => ⟨⟨(vs_80), rfl, (show (StateI vs_80) ∧ (stZ vs vs_80) from ⟨(by rw [← hv80, ← hv74, ← hv69]; exact st_fresh h48_1 h48_2), (by rw [← hv80, ← hv74, ← hv69]; exact ⟨h48_1, h48_2, hx48_1, fun j hj => hx48_0 j (by omega), rfl, rfl, rfl, hx48_2.1, hx48_2.2⟩)⟩), by rw [ht]; exact hP, hD⟩, hS.F ht⟩) hS.2.2 dX6_restart_83
                  · have c51_ := i_nle c51
                    refine lv_aload_n hx hb dX6_restart_54 rfl (lv_at hl 0 rfl) ?_
                    refine va_get (D := eD E) (ci := 6) (v := .ref (as_ 3)) (C := RX6) (T := TX6) (N := 9) hx hb hts in_X6 hown hK hP 0 rfl rfl 3 (by decide) lk4 (fun _ h9 => h9) rfl dX6_restart_55 ?_
                    refine lv_iload_n hx hb dX6_restart_58 rfl (lv_at hl 1 rfl) ?_
                    refine lv_iconst (v := 0) hx hb dX6_restart_59 (by decide) ?_
                    refine va_iast hx hb hK hP hD hS 3 0 rfl rfl (n := 6) (f := (vc 3)) (i_in (by omega) (by omega)) dX6_restart_60 (fun H locs hP hD hS => ?_)
                    replace hP : va_P (eD E) vwCl (stateL E as_ (up2 vc 3 n.toNatClampNeg 0)) H := hP
                    replace hD : va_D A (stateL E as_ (up2 vc 3 n.toNatClampNeg 0)) := hD
                    generalize hv60 : up2 vc 3 n.toNatClampNeg 0 = vs_60 at hP hD
                    obtain ⟨x61, e61⟩ : ∃ y : Int32, y = n + 1 := ⟨_, rfl⟩
                    refine lv_iinc (v := x61) (lv' := [(1, .int x61), (0, .ref (as_ 0))]) hx hb dX6_restart_61 hl (k := 1) rfl (by rw [e61]; rfl) (by decide) rfl (fun ls hl => ?_)
                    have t61 := i_add e61 (by omega)
                    refine lv_goto (tgt := 48) hx hb dX6_restart_64 (by decide) ?_
                    exact ih48 x61 vs_60 _ _ ls (by omega) hP hD hS (by omega) (by rw [← hv60]; exact h48_1) (by rw [← hv60]; exact h48_2) (by rw [← hv60]; exact up0_next hx48_0 h48_0.1 (by omega)) (by rw [← hv60]; exact hx48_1) (by rw [← hv60]; exact hx48_2) (lv_sub hl [1, 0] rfl)
              exact K48 _ 0 vb _ _ ls (Nat.lt_succ_self _) hP hD hS (by omega) h27_1 h27_2 (fun j h => absurd h (by omega)) (fun j h => hx27_0 j (by omega)) hx27_1 (lv_sub hl [1, 0] rfl)
            · have c30_ := i_nle c30
              refine lv_aload_n hx hb dX6_restart_33 rfl (lv_at hl 0 rfl) ?_
              refine va_get (D := eD E) (ci := 6) (v := .ref (as_ 2)) (C := RX6) (T := TX6) (N := 9) hx hb hts in_X6 hown hK hP 0 rfl rfl 2 (by decide) lk5 (fun _ h9 => h9) rfl dX6_restart_34 ?_
              refine lv_iload_n hx hb dX6_restart_37 rfl (lv_at hl 1 rfl) ?_
              refine lv_iconst (v := 0) hx hb dX6_restart_38 (by decide) ?_
              refine va_iast hx hb hK hP hD hS 2 0 rfl rfl (n := 24) (f := (vb 2)) (i_in (by omega) (by omega)) dX6_restart_39 (fun H locs hP hD hS => ?_)
              replace hP : va_P (eD E) vwCl (stateL E as_ (up2 vb 2 k.toNatClampNeg 0)) H := hP
              replace hD : va_D A (stateL E as_ (up2 vb 2 k.toNatClampNeg 0)) := hD
              generalize hv39 : up2 vb 2 k.toNatClampNeg 0 = vs_39 at hP hD
              obtain ⟨x40, e40⟩ : ∃ y : Int32, y = k + 1 := ⟨_, rfl⟩
              refine lv_iinc (v := x40) (lv' := [(1, .int x40), (0, .ref (as_ 0))]) hx hb dX6_restart_40 hl (k := 1) rfl (by rw [e40]; rfl) (by decide) rfl (fun ls hl => ?_)
              have t40 := i_add e40 (by omega)
              refine lv_goto (tgt := 27) hx hb dX6_restart_43 (by decide) ?_
              exact ih27 x40 vs_39 _ _ ls (by omega) hP hD hS (by omega) (by rw [← hv39]; exact h27_1) (by rw [← hv39]; exact h27_2) (by rw [← hv39]; exact up0_next hx27_0 h27_0.1 (by omega)) (by rw [← hv39]; exact hx27_1) (lv_sub hl [1, 0] rfl)
        exact K27 _ 0 va _ _ ls (Nat.lt_succ_self _) hP hD hS (by omega) h7_1 (fun j h => h7_2 j (by omega)) (fun j h => absurd h (by omega)) hx7_0 (lv_sub hl [1, 0] rfl)
      · have c9_ := i_nle c9
        refine lv_aload_n hx hb dX6_restart_12 rfl (lv_at hl 0 rfl) ?_
        refine va_get (D := eD E) (ci := 6) (v := .ref (as_ 1)) (C := RX6) (T := TX6) (N := 9) hx hb hts in_X6 hown hK hP 0 rfl rfl 1 (by decide) lk6 (fun _ h9 => h9) rfl dX6_restart_13 ?_
        refine lv_iload_n hx hb dX6_restart_16 rfl (lv_at hl 1 rfl) ?_
        refine lv_iconst (v := 0) hx hb dX6_restart_17 (by decide) ?_
        refine va_iast hx hb hK hP hD hS 1 0 rfl rfl (n := 3) (f := (va 1)) (i_in (by omega) (by omega)) dX6_restart_18 (fun H locs hP hD hS => ?_)
        replace hP : va_P (eD E) vwCl (stateL E as_ (up2 va 1 i.toNatClampNeg 0)) H := hP
        replace hD : va_D A (stateL E as_ (up2 va 1 i.toNatClampNeg 0)) := hD
        generalize hv18 : up2 va 1 i.toNatClampNeg 0 = vs_18 at hP hD
        obtain ⟨x19, e19⟩ : ∃ y : Int32, y = i + 1 := ⟨_, rfl⟩
        refine lv_iinc (v := x19) (lv' := [(1, .int x19), (0, .ref (as_ 0))]) hx hb dX6_restart_19 hl (k := 1) rfl (by rw [e19]; rfl) (by decide) rfl (fun ls hl => ?_)
        have t19 := i_add e19 (by omega)
        refine lv_goto (tgt := 7) hx hb dX6_restart_22 (by decide) ?_
        exact ih7 x19 vs_18 _ _ ls (by omega) hP hD hS (by omega) (by rw [← hv18]; exact h7_1) (by rw [← hv18]; exact up0_next h7_2 h7_0.1 (by omega)) (by rw [← hv18]; exact hx7_0) (lv_sub hl [1, 0] rfl)
  exact K7 _ 0 vs_2 _ _ ls (Nat.lt_succ_self _) hP hD hS (by omega) (by rw [← hv2]; rfl) (fun j h => absurd h (by omega)) (by rw [← hv2]; exact ⟨rfl, rfl⟩) (lv_sub hl [1, 0] rfl)
end
section
/-! ===== rows copied, one place more; a plan's rows without its numbers ===== -/
theorem upc_next {v : Vf} {g : Nat → Int32} {t : Nat} {i i2 x : Int32} (h : ∀ j : Nat, (j : Int) < i.toInt → v t j = g j) (h0 : 0 ≤ i.toInt) (h1 : i2.toInt = i.toInt + 1) (hx : x = g i.toNatClampNeg) : ∀ j : Nat, (j : Int) < i2.toInt → up2 v t i.toNatClampNeg x t j = g j := by
  intro j hj
  have e : up2 v t i.toNatClampNeg x t = upd (v t) i.toNatClampNeg x := by
    unfold up2
    rw [Nat.beq_refl]
    rfl
  rw [e]
  unfold upd
  split
  · rename_i he
    rw [he, hx]
  · rename_i hne
    refine h j ?_
    have := i_nat h0
    omega
theorem st_copy {v w : Vf} (hJ : StateI w) (h0 : v 0 0 = w 0 0) (h1 : ∀ j, j < 3 → v 1 j = w 1 j) : StateI (up2 (up2 (up2 (up2 v 4 0 (w 4 0)) 5 0 (w 5 0)) 6 0 (w 6 0)) 7 0 (w 7 0)) := by
  refine ⟨?_, ?_, hJ.2.2⟩
  · show 0 ≤ (v 0 0).toInt ∧ (v 0 0).toInt ≤ 900100
    rw [h0]
    exact hJ.1
  · intro j hj
    show 0 ≤ (v 1 j).toInt ∧ (v 1 j).toInt ≤ 8
    rw [h1 j hj]
    exact hJ.2.1 j hj
def rowB (f : Nat → Int32) : Prop := ∀ j, j < 18 → -9 ≤ (f j).toInt ∧ (f j).toInt ≤ 9
def aheB (f : Nat → Int32) : Prop := ∀ j, j < 24 → 0 ≤ (f j).toInt ∧ (f j).toInt ≤ 1000
def celB (f : Nat → Int32) : Prop := ∀ j, j < 6 → 0 ≤ (f j).toInt ∧ (f j).toInt ≤ 23
def PlanR (v : Vf) : Prop := (rowB (v 23) ∧ aheB (v 24)) ∧ (rowB (v 33) ∧ aheB (v 34)) ∧ (rowB (v 43) ∧ aheB (v 44)) ∧ celB (v 61) ∧ celB (v 71) ∧ celB (v 81) ∧ celB (v 91)
theorem PlanI.R {v : Vf} (h : PlanI v) : PlanR v := ⟨h.2.2.1.2, h.2.2.2.1.2, h.2.2.2.2.1.2, h.2.2.2.2.2.1.2, h.2.2.2.2.2.2.1.2, h.2.2.2.2.2.2.2.1.2, h.2.2.2.2.2.2.2.2.2⟩
theorem pl_clear {v : Vf} (hR : PlanR v) (hm0 : moonI (v 20 0) (v 23) (v 24)) (hm1 : moonI (v 30 0) (v 33) (v 34)) (hm2 : moonI (v 40 0) (v 43) (v 44)) (hz : v 0 0 = 0 ∧ v 1 0 = 0 ∧ v 2 0 = 0 ∧ v 5 0 = 0) (hc : v 60 0 = 0 ∧ v 70 0 = 0 ∧ v 80 0 = 0 ∧ v 90 0 = 0) : PlanI v ∧ v 0 0 = 0 ∧ v 2 0 = 0 := by
  obtain ⟨z0, z1, z2, z5⟩ := hz
  obtain ⟨c0, c1, c2, c3⟩ := hc
  refine ⟨⟨?_, ?_, hm0, hm1, hm2, ⟨?_, hR.2.2.2.1⟩, ⟨?_, hR.2.2.2.2.1⟩, ⟨?_, hR.2.2.2.2.2.1⟩, ⟨?_, hR.2.2.2.2.2.2⟩⟩, z0, z2⟩
  · rw [z0, z1, z2]
    unfold groundI
    decide
  · rw [z5]; decide
  · rw [c0]; decide
  · rw [c1]; decide
  · rw [c2]; decide
  · rw [c3]; decide
abbrev rdL (E : Ev) (qr : Nat) (qx : Nat) (fx : Nat → Int32) (ln : Int32) (ps : Int32) (fn : Int32) (fa : Int32) (na : Int32) (cx : Int32) (ck : Int32) (ap : Nat → Nat) (vp : Vf) : va_W := [(qr, .inr (2, [.ref qx, .int ln, .int ps, .ref (ap 0), .int fn, .int fa, .int na, .int cx, .int ck])), (qx, .inl (eI E, 250, .inl fx)), ((ap 0), .inr (1, [.int (vp 0 0), .int (vp 1 0), .int (vp 2 0), .ref (ap 3), .ref (ap 4), .int (vp 5 0), .ref (ap 6), .ref (ap 7), .ref (ap 8), .ref (ap 9), .ref (ap 10)])), ((ap 3), .inl (eI E, 24, .inl (vp 3))), ((ap 4), .inl (eI E, 24, .inl (vp 4))), ((ap 6), .inl (eM E, 3, .inr (.inr (.inr (.inr (fun i => some (ap (20 + 10 * i)))))))), ((ap 20), .inr (0, [.int (vp 20 0), .int (vp 21 0), .int (vp 22 0), .ref (ap 23), .ref (ap 24)])), ((ap 23), .inl (eI E, 18, .inl (vp 23))), ((ap 24), .inl (eI E, 24, .inl (vp 24))), ((ap 30), .inr (0, [.int (vp 30 0), .int (vp 31 0), .int (vp 32 0), .ref (ap 33), .ref (ap 34)])), ((ap 33), .inl (eI E, 18, .inl (vp 33))), ((ap 34), .inl (eI E, 24, .inl (vp 34))), ((ap 40), .inr (0, [.int (vp 40 0), .int (vp 41 0), .int (vp 42 0), .ref (ap 43), .ref (ap 44)])), ((ap 43), .inl (eI E, 18, .inl (vp 43))), ((ap 44), .inl (eI E, 24, .inl (vp 44))), ((ap 7), .inr (5, [.int (vp 60 0), .ref (ap 61), .ref (ap 62), .ref (ap 63)])), ((ap 61), .inl (eI E, 6, .inl (vp 61))), ((ap 62), .inl (eI E, 6, .inl (vp 62))), ((ap 63), .inl (eI E, 6, .inl (vp 63))), ((ap 8), .inr (5, [.int (vp 70 0), .ref (ap 71), .ref (ap 72), .ref (ap 73)])), ((ap 71), .inl (eI E, 6, .inl (vp 71))), ((ap 72), .inl (eI E, 6, .inl (vp 72))), ((ap 73), .inl (eI E, 6, .inl (vp 73))), ((ap 9), .inr (5, [.int (vp 80 0), .ref (ap 81), .ref (ap 82), .ref (ap 83)])), ((ap 81), .inl (eI E, 6, .inl (vp 81))), ((ap 82), .inl (eI E, 6, .inl (vp 82))), ((ap 83), .inl (eI E, 6, .inl (vp 83))), ((ap 10), .inr (5, [.int (vp 90 0), .ref (ap 91), .ref (ap 92), .ref (ap 93)])), ((ap 91), .inl (eI E, 6, .inl (vp 91))), ((ap 92), .inl (eI E, 6, .inl (vp 92))), ((ap 93), .inl (eI E, 6, .inl (vp 93)))]
abbrev adL (E : Ev) (qr : Nat) (qx : Nat) (ln : Int32) (ps : Int32) (fn : Int32) (fa : Int32) (na : Int32) (cx : Int32) (ck : Int32) (ap : Nat → Nat) (q : Nat) (q1 : Nat) (q2 : Nat) (q3 : Nat) (n : Int32) (f1 : Nat → Int32) (f2 : Nat → Int32) (f3 : Nat → Int32) : va_W := [(qr, .inr (2, [.ref qx, .int ln, .int ps, .ref (ap 0), .int fn, .int fa, .int na, .int cx, .int ck])), (q, .inr (5, [.int n, .ref q1, .ref q2, .ref q3])), (q1, .inl (eI E, 6, .inl f1)), (q2, .inl (eI E, 6, .inl f2)), (q3, .inl (eI E, 6, .inl f3))]
abbrev rrL (E : Ev) (qr : Nat) (qx : Nat) (fx : Nat → Int32) (ln : Int32) (ps : Int32) (fn : Int32) (fa : Int32) (na : Int32) (cx : Int32) (ck : Int32) (ap : Nat → Nat) (qm : Nat) (mr : Nat → Int32) : va_W := [(qr, .inr (2, [.ref qx, .int ln, .int ps, .ref (ap 0), .int fn, .int fa, .int na, .int cx, .int ck])), (qx, .inl (eI E, 250, .inl fx)), (qm, .inl (eI E, 18, .inl mr))]
abbrev rbL (E : Ev) (qr : Nat) (qx : Nat) (fx : Nat → Int32) (ln : Int32) (ps : Int32) (fn : Int32) (fa : Int32) (na : Int32) (cx : Int32) (ck : Int32) (ap : Nat → Nat) : va_W := [(qr, .inr (2, [.ref qx, .int ln, .int ps, .ref (ap 0), .int fn, .int fa, .int na, .int cx, .int ck])), (qx, .inl (eI E, 250, .inl fx))]
abbrev st2L (E : Ev) (as_ : Nat → Nat) (vs : Vf) (bs : Nat → Nat) (ws_ : Vf) : va_W := [((as_ 0), .inr (6, [.int (vs 0 0), .ref (as_ 1), .ref (as_ 2), .ref (as_ 3), .int (vs 4 0), .int (vs 5 0), .int (vs 6 0), .int (vs 7 0), .int (vs 8 0)])), ((as_ 1), .inl (eI E, 3, .inl (vs 1))), ((as_ 2), .inl (eI E, 24, .inl (vs 2))), ((as_ 3), .inl (eI E, 6, .inl (vs 3))), ((bs 0), .inr (6, [.int (ws_ 0 0), .ref (bs 1), .ref (bs 2), .ref (bs 3), .int (ws_ 4 0), .int (ws_ 5 0), .int (ws_ 6 0), .int (ws_ 7 0), .int (ws_ 8 0)])), ((bs 1), .inl (eI E, 3, .inl (ws_ 1))), ((bs 2), .inl (eI E, 24, .inl (ws_ 2))), ((bs 3), .inl (eI E, 6, .inl (ws_ 3)))]
end
section
def rm_X0_settle : Room := { frames := 0, cells := 0, slots := 0, locals := 0 }
set_option maxHeartbeats 4000000 in
set_option maxRecDepth 100000 in
theorem c_X0_settle (l : Launch) (E : Ev) (sz : Nat) (q : Nat) (qr : Nat) (qa : Nat) (m0 : Int32) (m1 : Int32) (m2 : Int32) (mr : Nat → Int32) (ma : Nat → Int32) (len : Int32) (wid : Int32) (cel : Int32) (hrow : ∀ j, j < 18 → -9 ≤ (mr j).toInt ∧ (mr j).toInt ≤ 9) (hahe : ∀ j, j < 24 → 0 ≤ (ma j).toInt ∧ (ma j).toInt ≤ 1000) (hm1 : 0 ≤ m1.toInt ∧ m1.toInt ≤ 8) (hm2 : 0 ≤ m2.toInt ∧ m2.toInt ≤ 8) (hlen : 1 ≤ len.toInt ∧ len.toInt ≤ 9) (hwid : 0 ≤ wid.toInt ∧ wid.toInt ≤ 6) (hcel : 0 ≤ cel.toInt ∧ cel.toInt ≤ 24) : Met l yX0_settle wsX0_settle rm_X0_settle (MtP E sz [.ref q, .int len, .int wid, .int cel] (moonL E q qr qa m0 m1 m2 mr ma)) (va_Qv (fun (u : Int32 × (Nat → Int32) × (Nat → Int32)) => (moonI u.1 u.2.1 u.2.2) ∧ (u.1 = len ∧ (∀ j : Nat, (j : Int) < len.toInt → u.2.1 j = mr j) ∧ (∀ j : Nat, (j : Int) < len.toInt → u.2.1 (len.toInt.toNat + j) = mr j) ∧ (1 ≤ wid.toInt → ∀ j : Nat, (j : Int) < cel.toInt → (u.2.2 j).toInt = m1.toInt * ((j : Int) % wid.toInt) + m2.toInt * ((j : Int) / wid.toInt)))) (MtB E (va_A (moonL E q qr qa m0 m1 m2 mr ma) sz) (fun u => moonL E q qr qa u.1 m1 m2 u.2.1 u.2.2)) (va_A (moonL E q qr qa m0 m1 m2 mr ma) sz)) 0 0 (va_A (moonL E q qr qa m0 m1 m2 mr ma) sz) := by
  refine Met.ofW (cc := cX0_settle) (maxL := 5) (ret := none) (by decide) rfl ?_
  intro p e s m args below meth c s₁ B hml hv
  obtain ⟨rfl, hsz, hE, hP, hD0⟩ := hv
  subst hsz
  have hD := hD0.self (sz := s.heap.size)
  generalize hAe : va_A (moonL E q qr qa m0 m1 m2 mr ma) s.heap.size = A at hD hE ⊢
  have hA : ∀ q : Nat, s.heap.size ≤ q → A q := fun q h => by rw [← hAe]; exact Or.inr h
  have hS : va_S A s.heap s.heap [] := va_S.rf
  have hx := B.exec
  have hb := B.bytes
  have hr := B.returns
  have hts := atoms_spec (ws := wsX0_settle) B.pre
  have hown : s.vm.findClass RX0 = some m.cls := findClass_of_methodNamed B.named
  have hlocks := B.notSynchronized
  have hK := hE.1
  have in_X0 : ∀ w ∈ u_ws RX0 TX0 5, w ∈ wsX0_settle := fun w h => List.mem_cons_of_mem _ (List.mem_append_right _ h)
  have lk0 := hts (.fieldLink RX0 18 "TidedGround$Moon" "size" "I") (List.mem_of_getElem? (i := 1) rfl)
  have lk1 := hts (.fieldLink RX0 15 "TidedGround$Moon" "ahead" "[I") (List.mem_of_getElem? (i := 3) rfl)
  have lk2 := hts (.fieldLink RX0 22 "TidedGround$Moon" "perX" "I") (List.mem_of_getElem? (i := 4) rfl)
  have lk3 := hts (.fieldLink RX0 25 "TidedGround$Moon" "perY" "I") (List.mem_of_getElem? (i := 5) rfl)
  have lk4 := hts (.fieldLink RX0 9 "TidedGround$Moon" "row" "[I") (List.mem_of_getElem? (i := 2) rfl)
  have n_0 : (0 : Int32).toInt = 0 := by decide
  have n_1 : (1 : Int32).toInt = 1 := by decide
  have n_18 : (18 : Int32).toInt = 18 := by decide
  have hl := lv_entry ([.ref q, .int len, .int wid, .int cel]) (n := 5) (Nat.le_of_ble_eq_true rfl)
  rw [lg_entry_eq]
  generalize (lg_sl ([.ref q, .int len, .int wid, .int cel]) ++ List.replicate (5 - (lg_sl ([.ref q, .int len, .int wid, .int cel])).length) Slot.unset).toArray = ls at hl ⊢
  have hl : lv_has ls 5 [(0, .ref q), (1, .int len), (2, .int wid), (3, .int cel)] := hl
  refine W_abs (fun Q hQ => ?_)
  refine lv_aload_n hx hb dX0_settle_0 rfl (lv_at hl 0 rfl) ?_
  refine lv_iload_n hx hb dX0_settle_1 rfl (lv_at hl 1 rfl) ?_
  refine va_put (D := eD E) (ci := 0) (v := .int len) (ty := .int) (C := RX0) (T := TX0) (N := 5) hx hb hts in_X0 tyX0 tyX0_ok nmX0 hown hK hP hD hS 0 rfl rfl 0 (by decide) lk0 (fun _ h9 => h9) rfl (by decide +kernel) rfl rfl (Nat.le_of_ble_eq_true rfl) dX0_settle_2 (fun H locs hP hD hS => ?_)
  replace hP : va_P (eD E) vwCl (moonL E q qr qa len m1 m2 mr ma) H := hP
  replace hD : va_D A (moonL E q qr qa len m1 m2 mr ma) := hD
  refine lv_iconst (v := 0) hx hb dX0_settle_5 (by decide) ?_
  refine lv_istore (lv' := [(4, .int 0), (0, .ref q), (1, .int len), (2, .int wid), (3, .int cel)]) hx hb dX0_settle_6 hl (by decide) rfl (fun ls hl => ?_)
  have K8 : ∀ (μ : Nat) (i : Int32) (mr1 : Nat → Int32) (H : Heap) (locs : List Loc) (ls : Array Slot), (9 - i.toInt).toNat < μ → va_P (eD E) vwCl (moonL E q qr qa len m1 m2 mr1 ma) H → va_D A (moonL E q qr qa len m1 m2 mr1 ma) → va_S A s.heap H locs → (0 ≤ i.toInt ∧ i.toInt ≤ 9) → (∀ j, j < 18 → -9 ≤ (mr1 j).toInt ∧ (mr1 j).toInt ≤ 9) → (∀ j : Nat, (j : Int) < len.toInt → mr1 j = mr j) → (∀ j : Nat, (j : Int) < i.toInt → mr1 (len.toInt.toNat + j) = mr j) → lv_has ls 5 [(0, .ref q), (1, .int len), (2, .int wid), (3, .int cel), (4, .int i)] → W p l e (headSpec wsX0_settle rm_X0_settle).room s m ([.ref q, .int len, .int wid, .int cel] : List Value).toArray below meth c H locs 0 0 Q (F0 m 8 ls []) := by
    intro μ
    induction μ with
    | zero =>
      intro i mr1 H locs ls hμ8
      exact absurd hμ8 (Nat.not_lt_zero _)
    | succ μ ih8 =>
      intro i mr1 H locs ls hμ8 hP hD hS h8_0 h8_1 h8_2 h8_3 hl
      have hx8_0 := h8_2
      clear h8_2
      have hx8_1 := h8_3
      clear h8_3
      refine lv_iload hx hb dX0_settle_8 (lv_at hl 4 rfl) ?_
      refine lv_aload_n hx hb dX0_settle_10 rfl (lv_at hl 0 rfl) ?_
      refine va_get (D := eD E) (ci := 0) (v := .int len) (C := RX0) (T := TX0) (N := 5) hx hb hts in_X0 hown hK hP 0 rfl rfl 0 (by decide) lk0 (fun _ h9 => h9) rfl dX0_settle_11 ?_
      refine lv_icmp_ge (tgt := 57) hx hb dX0_settle_14 (by decide) (fun c14 => ?_) (fun c14 => ?_)
      · have c14_ := i_le c14
        refine lv_iconst (v := 0) hx hb dX0_settle_57 (by decide) ?_
        refine lv_istore (lv' := [(4, .int 0), (0, .ref q), (1, .int len), (2, .int wid), (3, .int cel)]) hx hb dX0_settle_58 hl (by decide) rfl (fun ls hl => ?_)
        have K60 : ∀ (μ : Nat) (k : Int32) (ma1 : Nat → Int32) (H : Heap) (locs : List Loc) (ls : Array Slot), (24 - k.toInt).toNat < μ → va_P (eD E) vwCl (moonL E q qr qa len m1 m2 mr1 ma1) H → va_D A (moonL E q qr qa len m1 m2 mr1 ma1) → va_S A s.heap H locs → (0 ≤ k.toInt ∧ k.toInt ≤ 24) → (∀ j, j < 24 → 0 ≤ (ma1 j).toInt ∧ (ma1 j).toInt ≤ 1000) → (∀ j : Nat, (j : Int) < k.toInt → (ma1 j).toInt = m1.toInt * ((j : Int) % wid.toInt) + m2.toInt * ((j : Int) / wid.toInt)) → lv_has ls 5 [(0, .ref q), (1, .int len), (2, .int wid), (3, .int cel), (4, .int k)] → W p l e (headSpec wsX0_settle rm_X0_settle).room s m ([.ref q, .int len, .int wid, .int cel] : List Value).toArray below meth c H locs 0 0 Q (F0 m 60 ls []) := by
          intro μ
          induction μ with
          | zero =>
            intro k ma1 H locs ls hμ60
            exact absurd hμ60 (Nat.not_lt_zero _)
          | succ μ ih60 =>
            intro k ma1 H locs ls hμ60 hP hD hS h60_0 h60_1 h60_2 hl
            have hx60_0 := h60_2
            clear h60_2
            refine lv_iload hx hb dX0_settle_60 (lv_at hl 4 rfl) ?_
            refine lv_iload_n hx hb dX0_settle_62 rfl (lv_at hl 3 rfl) ?_
            refine lv_icmp_ge (tgt := 102) hx hb dX0_settle_63 (by decide) (fun c63 => ?_) (fun c63 => ?_)
            · have c63_ := i_le c63
              subst hQ
              exact W.vret hx hb hr (fun t ht hW => ⟨⟨(len, mr1, ma1), rfl, (show (moonI len mr1 ma1) ∧ (len = len ∧ (∀ j : Nat, (j : Int) < len.toInt → mr1 j = mr j) ∧ (∀ j : Nat, (j : Int) < len.toInt → mr1 (len.toInt.toNat + j) = mr j) ∧ (1 ≤ wid.toInt → ∀ j : Nat, (j : Int) < cel.toInt → (ma1 j).toInt = m1.toInt * ((j : Int) % wid.toInt) + m2.toInt * ((j : Int) / wid.toInt))) from ⟨⟨hlen, h8_1, h60_1⟩, ⟨rfl, hx8_0, (fun j hj => hx8_1 j (by omega)), (fun hw j hj => hx60_0 j (by omega))⟩⟩), by rw [ht]; exact hP, hD⟩, hS.F ht⟩) hS.2.2 dX0_settle_102
            · have c63_ := i_nle c63
              refine lv_iload_n hx hb dX0_settle_66 rfl (lv_at hl 2 rfl) ?_
              refine lv_if_le (tgt := 102) hx hb dX0_settle_67 (by decide) (fun c67 => ?_) (fun c67 => ?_)
              · have c67_ := i_le c67
                subst hQ
                exact W.vret hx hb hr (fun t ht hW => ⟨⟨(len, mr1, ma1), rfl, (show (moonI len mr1 ma1) ∧ (len = len ∧ (∀ j : Nat, (j : Int) < len.toInt → mr1 j = mr j) ∧ (∀ j : Nat, (j : Int) < len.toInt → mr1 (len.toInt.toNat + j) = mr j) ∧ (1 ≤ wid.toInt → ∀ j : Nat, (j : Int) < cel.toInt → (ma1 j).toInt = m1.toInt * ((j : Int) % wid.toInt) + m2.toInt * ((j : Int) / wid.toInt))) from ⟨⟨hlen, h8_1, h60_1⟩, ⟨rfl, hx8_0, (fun j hj => hx8_1 j (by omega)), (fun hw j hj => hx60_0 j (by omega))⟩⟩), by rw [ht]; exact hP, hD⟩, hS.F ht⟩) hS.2.2 dX0_settle_102
              · have c67_ := i_nle c67
                refine lv_aload_n hx hb dX0_settle_70 rfl (lv_at hl 0 rfl) ?_
                refine va_get (D := eD E) (ci := 0) (v := .ref qa) (C := RX0) (T := TX0) (N := 5) hx hb hts in_X0 hown hK hP 0 rfl rfl 4 (by decide) lk1 (fun _ h9 => h9) rfl dX0_settle_71 ?_
                refine lv_iload hx hb dX0_settle_74 (lv_at hl 4 rfl) ?_
                refine lv_aload_n hx hb dX0_settle_76 rfl (lv_at hl 0 rfl) ?_
                refine va_get (D := eD E) (ci := 0) (v := .int m1) (C := RX0) (T := TX0) (N := 5) hx hb hts in_X0 hown hK hP 0 rfl rfl 1 (by decide) lk2 (fun _ h9 => h9) rfl dX0_settle_77 ?_
                refine lv_iload hx hb dX0_settle_80 (lv_at hl 4 rfl) ?_
                refine lv_iload_n hx hb dX0_settle_82 rfl (lv_at hl 2 rfl) ?_
                refine lv_irem hx hb dX0_settle_83 (i_ne0 (by omega)) ?_
                refine lv_topi (fun x83 e83 => ?_)
                have t83 := i_rem e83 (by omega) (by omega)
                refine lv_imul hx hb dX0_settle_84 ?_
                refine lv_topi (fun x84 e84 => ?_)
                have t84 := i_mulc 24 e84 (by omega) (by omega) (by omega) (by omega) (by omega)
                have u84 := i_mul e84 (by have q := mul_b (a := m1.toInt) (b := x83.toInt) (A := 8) (B := 24) (by omega) (by omega); omega)
                refine lv_aload_n hx hb dX0_settle_85 rfl (lv_at hl 0 rfl) ?_
                refine va_get (D := eD E) (ci := 0) (v := .int m2) (C := RX0) (T := TX0) (N := 5) hx hb hts in_X0 hown hK hP 0 rfl rfl 2 (by decide) lk3 (fun _ h9 => h9) rfl dX0_settle_86 ?_
                refine lv_iload hx hb dX0_settle_89 (lv_at hl 4 rfl) ?_
                refine lv_iload_n hx hb dX0_settle_91 rfl (lv_at hl 2 rfl) ?_
                refine lv_idiv hx hb dX0_settle_92 (i_ne0 (by omega)) ?_
                refine lv_topi (fun x92 e92 => ?_)
                have t92 := i_div e92 (by omega) (by omega)
                refine lv_imul hx hb dX0_settle_93 ?_
                refine lv_topi (fun x93 e93 => ?_)
                have t93 := i_mulc 24 e93 (by omega) (by omega) (by omega) (by omega) (by omega)
                have u93 := i_mul e93 (by have q := mul_b (a := m2.toInt) (b := x92.toInt) (A := 8) (B := 24) (by omega) (by omega); omega)
                refine lv_iadd hx hb dX0_settle_94 ?_
                refine lv_topi (fun x94 e94 => ?_)
                have t94 := i_add e94 (by omega)
                have u94 := i_add e94 (by omega)
                have hv94 : x94.toInt = m1.toInt * (k.toInt % wid.toInt) + m2.toInt * (k.toInt / wid.toInt) := by rw [u94, u84, u93, t83.1, t92.1]
                refine va_iast hx hb hK hP hD hS 2 0 rfl rfl (n := 24) (f := ma1) (i_in (by omega) (by omega)) dX0_settle_95 (fun H locs hP hD hS => ?_)
                replace hP : va_P (eD E) vwCl (moonL E q qr qa len m1 m2 mr1 (upd ma1 k.toNatClampNeg x94)) H := hP
                replace hD : va_D A (moonL E q qr qa len m1 m2 mr1 (upd ma1 k.toNatClampNeg x94)) := hD
                generalize hv95 : upd ma1 k.toNatClampNeg x94 = ma_95 at hP hD
                obtain ⟨x96, e96⟩ : ∃ y : Int32, y = k + 1 := ⟨_, rfl⟩
                refine lv_iinc (v := x96) (lv' := [(4, .int x96), (0, .ref q), (1, .int len), (2, .int wid), (3, .int cel)]) hx hb dX0_settle_96 hl (k := 4) rfl (by rw [e96]; rfl) (by decide) rfl (fun ls hl => ?_)
                have t96 := i_add e96 (by omega)
                refine lv_goto (tgt := 60) hx hb dX0_settle_99 (by decide) ?_
                exact ih60 x96 ma_95 _ _ ls (by omega) hP hD hS (by omega) (by rw [← hv95]; exact ahe_up h60_1 (by omega) (by omega)) (by rw [← hv95]; exact ah_next (i := k) (i2 := x96) (g := fun z => m1.toInt * (z % wid.toInt) + m2.toInt * (z / wid.toInt)) hx60_0 (by omega) (by omega) hv94) (lv_sub hl [1, 2, 3, 4, 0] rfl)
        exact K60 _ 0 ma _ _ ls (Nat.lt_succ_self _) hP hD hS (by omega) hahe (fun j h => absurd h (by omega)) (lv_sub hl [1, 2, 3, 4, 0] rfl)
      · have c14_ := i_nle c14
        refine lv_aload_n hx hb dX0_settle_17 rfl (lv_at hl 0 rfl) ?_
        refine va_get (D := eD E) (ci := 0) (v := .int len) (C := RX0) (T := TX0) (N := 5) hx hb hts in_X0 hown hK hP 0 rfl rfl 0 (by decide) lk0 (fun _ h9 => h9) rfl dX0_settle_18 ?_
        refine lv_iload hx hb dX0_settle_21 (lv_at hl 4 rfl) ?_
        refine lv_iadd hx hb dX0_settle_23 ?_
        refine lv_topi (fun x23 e23 => ?_)
        have t23 := i_add e23 (by omega)
        refine lv_aload_n hx hb dX0_settle_24 rfl (lv_at hl 0 rfl) ?_
        refine va_get (D := eD E) (ci := 0) (v := .ref qr) (C := RX0) (T := TX0) (N := 5) hx hb hts in_X0 hown hK hP 0 rfl rfl 3 (by decide) lk4 (fun _ h9 => h9) rfl dX0_settle_25 ?_
        refine va_alen (v := 18) hx hb hK hP 1 0 rfl rfl rfl dX0_settle_28 ?_
        refine lv_icmp_ge (tgt := 57) hx hb dX0_settle_29 (by decide) (fun c29 => ?_) (fun c29 => ?_)
        · have c29_ := i_le c29
          refine lv_iconst (v := 0) hx hb dX0_settle_57 (by decide) ?_
          refine lv_istore (lv' := [(4, .int 0), (0, .ref q), (1, .int len), (2, .int wid), (3, .int cel)]) hx hb dX0_settle_58 hl (by decide) rfl (fun ls hl => ?_)
          have K60 : ∀ (μ : Nat) (k : Int32) (ma1 : Nat → Int32) (H : Heap) (locs : List Loc) (ls : Array Slot), (24 - k.toInt).toNat < μ → va_P (eD E) vwCl (moonL E q qr qa len m1 m2 mr1 ma1) H → va_D A (moonL E q qr qa len m1 m2 mr1 ma1) → va_S A s.heap H locs → (0 ≤ k.toInt ∧ k.toInt ≤ 24) → (∀ j, j < 24 → 0 ≤ (ma1 j).toInt ∧ (ma1 j).toInt ≤ 1000) → (∀ j : Nat, (j : Int) < k.toInt → (ma1 j).toInt = m1.toInt * ((j : Int) % wid.toInt) + m2.toInt * ((j : Int) / wid.toInt)) → lv_has ls 5 [(0, .ref q), (1, .int len), (2, .int wid), (3, .int cel), (4, .int k)] → W p l e (headSpec wsX0_settle rm_X0_settle).room s m ([.ref q, .int len, .int wid, .int cel] : List Value).toArray below meth c H locs 0 0 Q (F0 m 60 ls []) := by
            intro μ
            induction μ with
            | zero =>
              intro k ma1 H locs ls hμ60
              exact absurd hμ60 (Nat.not_lt_zero _)
            | succ μ ih60 =>
              intro k ma1 H locs ls hμ60 hP hD hS h60_0 h60_1 h60_2 hl
              have hx60_0 := h60_2
              clear h60_2
              refine lv_iload hx hb dX0_settle_60 (lv_at hl 4 rfl) ?_
              refine lv_iload_n hx hb dX0_settle_62 rfl (lv_at hl 3 rfl) ?_
              refine lv_icmp_ge (tgt := 102) hx hb dX0_settle_63 (by decide) (fun c63 => ?_) (fun c63 => ?_)
              · have c63_ := i_le c63
                subst hQ
                exact W.vret hx hb hr (fun t ht hW => ⟨⟨(len, mr1, ma1), rfl, (show (moonI len mr1 ma1) ∧ (len = len ∧ (∀ j : Nat, (j : Int) < len.toInt → mr1 j = mr j) ∧ (∀ j : Nat, (j : Int) < len.toInt → mr1 (len.toInt.toNat + j) = mr j) ∧ (1 ≤ wid.toInt → ∀ j : Nat, (j : Int) < cel.toInt → (ma1 j).toInt = m1.toInt * ((j : Int) % wid.toInt) + m2.toInt * ((j : Int) / wid.toInt))) from ⟨⟨hlen, h8_1, h60_1⟩, ⟨rfl, hx8_0, (fun j hj => hx8_1 j (by omega)), (fun hw j hj => hx60_0 j (by omega))⟩⟩), by rw [ht]; exact hP, hD⟩, hS.F ht⟩) hS.2.2 dX0_settle_102
              · have c63_ := i_nle c63
                refine lv_iload_n hx hb dX0_settle_66 rfl (lv_at hl 2 rfl) ?_
                refine lv_if_le (tgt := 102) hx hb dX0_settle_67 (by decide) (fun c67 => ?_) (fun c67 => ?_)
                · have c67_ := i_le c67
                  subst hQ
                  exact W.vret hx hb hr (fun t ht hW => ⟨⟨(len, mr1, ma1), rfl, (show (moonI len mr1 ma1) ∧ (len = len ∧ (∀ j : Nat, (j : Int) < len.toInt → mr1 j = mr j) ∧ (∀ j : Nat, (j : Int) < len.toInt → mr1 (len.toInt.toNat + j) = mr j) ∧ (1 ≤ wid.toInt → ∀ j : Nat, (j : Int) < cel.toInt → (ma1 j).toInt = m1.toInt * ((j : Int) % wid.toInt) + m2.toInt * ((j : Int) / wid.toInt))) from ⟨⟨hlen, h8_1, h60_1⟩, ⟨rfl, hx8_0, (fun j hj => hx8_1 j (by omega)), (fun hw j hj => hx60_0 j (by omega))⟩⟩), by rw [ht]; exact hP, hD⟩, hS.F ht⟩) hS.2.2 dX0_settle_102
                · have c67_ := i_nle c67
                  refine lv_aload_n hx hb dX0_settle_70 rfl (lv_at hl 0 rfl) ?_
                  refine va_get (D := eD E) (ci := 0) (v := .ref qa) (C := RX0) (T := TX0) (N := 5) hx hb hts in_X0 hown hK hP 0 rfl rfl 4 (by decide) lk1 (fun _ h9 => h9) rfl dX0_settle_71 ?_
                  refine lv_iload hx hb dX0_settle_74 (lv_at hl 4 rfl) ?_
                  refine lv_aload_n hx hb dX0_settle_76 rfl (lv_at hl 0 rfl) ?_
                  refine va_get (D := eD E) (ci := 0) (v := .int m1) (C := RX0) (T := TX0) (N := 5) hx hb hts in_X0 hown hK hP 0 rfl rfl 1 (by decide) lk2 (fun _ h9 => h9) rfl dX0_settle_77 ?_
                  refine lv_iload hx hb dX0_settle_80 (lv_at hl 4 rfl) ?_
                  refine lv_iload_n hx hb dX0_settle_82 rfl (lv_at hl 2 rfl) ?_
                  refine lv_irem hx hb dX0_settle_83 (i_ne0 (by omega)) ?_
                  refine lv_topi (fun x83 e83 => ?_)
                  have t83 := i_rem e83 (by omega) (by omega)
                  refine lv_imul hx hb dX0_settle_84 ?_
                  refine lv_topi (fun x84 e84 => ?_)
                  have t84 := i_mulc 24 e84 (by omega) (by omega) (by omega) (by omega) (by omega)
                  have u84 := i_mul e84 (by have q := mul_b (a := m1.toInt) (b := x83.toInt) (A := 8) (B := 24) (by omega) (by omega); omega)
                  refine lv_aload_n hx hb dX0_settle_85 rfl (lv_at hl 0 rfl) ?_
                  refine va_get (D := eD E) (ci := 0) (v := .int m2) (C := RX0) (T := TX0) (N := 5) hx hb hts in_X0 hown hK hP 0 rfl rfl 2 (by decide) lk3 (fun _ h9 => h9) rfl dX0_settle_86 ?_
                  refine lv_iload hx hb dX0_settle_89 (lv_at hl 4 rfl) ?_
                  refine lv_iload_n hx hb dX0_settle_91 rfl (lv_at hl 2 rfl) ?_
                  refine lv_idiv hx hb dX0_settle_92 (i_ne0 (by omega)) ?_
                  refine lv_topi (fun x92 e92 => ?_)
                  have t92 := i_div e92 (by omega) (by omega)
                  refine lv_imul hx hb dX0_settle_93 ?_
                  refine lv_topi (fun x93 e93 => ?_)
                  have t93 := i_mulc 24 e93 (by omega) (by omega) (by omega) (by omega) (by omega)
                  have u93 := i_mul e93 (by have q := mul_b (a := m2.toInt) (b := x92.toInt) (A := 8) (B := 24) (by omega) (by omega); omega)
                  refine lv_iadd hx hb dX0_settle_94 ?_
                  refine lv_topi (fun x94 e94 => ?_)
                  have t94 := i_add e94 (by omega)
                  have u94 := i_add e94 (by omega)
                  have hv94 : x94.toInt = m1.toInt * (k.toInt % wid.toInt) + m2.toInt * (k.toInt / wid.toInt) := by rw [u94, u84, u93, t83.1, t92.1]
                  refine va_iast hx hb hK hP hD hS 2 0 rfl rfl (n := 24) (f := ma1) (i_in (by omega) (by omega)) dX0_settle_95 (fun H locs hP hD hS => ?_)
                  replace hP : va_P (eD E) vwCl (moonL E q qr qa len m1 m2 mr1 (upd ma1 k.toNatClampNeg x94)) H := hP
                  replace hD : va_D A (moonL E q qr qa len m1 m2 mr1 (upd ma1 k.toNatClampNeg x94)) := hD
                  generalize hv95 : upd ma1 k.toNatClampNeg x94 = ma_95 at hP hD
                  obtain ⟨x96, e96⟩ : ∃ y : Int32, y = k + 1 := ⟨_, rfl⟩
                  refine lv_iinc (v := x96) (lv' := [(4, .int x96), (0, .ref q), (1, .int len), (2, .int wid), (3, .int cel)]) hx hb dX0_settle_96 hl (k := 4) rfl (by rw [e96]; rfl) (by decide) rfl (fun ls hl => ?_)
                  have t96 := i_add e96 (by omega)
                  refine lv_goto (tgt := 60) hx hb dX0_settle_99 (by decide) ?_
                  exact ih60 x96 ma_95 _ _ ls (by omega) hP hD hS (by omega) (by rw [← hv95]; exact ahe_up h60_1 (by omega) (by omega)) (by rw [← hv95]; exact ah_next (i := k) (i2 := x96) (g := fun z => m1.toInt * (z % wid.toInt) + m2.toInt * (z / wid.toInt)) hx60_0 (by omega) (by omega) hv94) (lv_sub hl [1, 2, 3, 4, 0] rfl)
          exact K60 _ 0 ma _ _ ls (Nat.lt_succ_self _) hP hD hS (by omega) hahe (fun j h => absurd h (by omega)) (lv_sub hl [1, 2, 3, 4, 0] rfl)
        · have c29_ := i_nle c29
          refine lv_aload_n hx hb dX0_settle_32 rfl (lv_at hl 0 rfl) ?_
          refine va_get (D := eD E) (ci := 0) (v := .ref qr) (C := RX0) (T := TX0) (N := 5) hx hb hts in_X0 hown hK hP 0 rfl rfl 3 (by decide) lk4 (fun _ h9 => h9) rfl dX0_settle_33 ?_
          refine lv_aload_n hx hb dX0_settle_36 rfl (lv_at hl 0 rfl) ?_
          refine va_get (D := eD E) (ci := 0) (v := .int len) (C := RX0) (T := TX0) (N := 5) hx hb hts in_X0 hown hK hP 0 rfl rfl 0 (by decide) lk0 (fun _ h9 => h9) rfl dX0_settle_37 ?_
          refine lv_iload hx hb dX0_settle_40 (lv_at hl 4 rfl) ?_
          refine lv_iadd hx hb dX0_settle_42 ?_
          refine lv_topi (fun x42 e42 => ?_)
          have t42 := i_add e42 (by omega)
          refine lv_aload_n hx hb dX0_settle_43 rfl (lv_at hl 0 rfl) ?_
          refine va_get (D := eD E) (ci := 0) (v := .ref qr) (C := RX0) (T := TX0) (N := 5) hx hb hts in_X0 hown hK hP 0 rfl rfl 3 (by decide) lk4 (fun _ h9 => h9) rfl dX0_settle_44 ?_
          refine lv_iload hx hb dX0_settle_47 (lv_at hl 4 rfl) ?_
          refine va_iald hx hb hK hP 1 0 rfl rfl (n := 18) (f := mr1) (i_in (by omega) (by omega)) dX0_settle_49 ?_
          refine lv_topi (fun x49 e49 => ?_)
          have b49 := h8_1 i.toNatClampNeg (i_natlt (by omega) (by decide))
          rw [← e49] at b49
          have hr49 : x49 = mr i.toNatClampNeg := by rw [e49]; exact hx8_0 _ (by rw [i_nat (by omega)]; omega)
          have kq50 : x42.toNatClampNeg = len.toInt.toNat + i.toNatClampNeg := by show x42.toInt.toNat = len.toInt.toNat + i.toInt.toNat; omega
          refine va_iast hx hb hK hP hD hS 1 0 rfl rfl (n := 18) (f := mr1) (i_in (by omega) (by omega)) dX0_settle_50 (fun H locs hP hD hS => ?_)
          replace hP : va_P (eD E) vwCl (moonL E q qr qa len m1 m2 (upd mr1 x42.toNatClampNeg x49) ma) H := hP
          replace hD : va_D A (moonL E q qr qa len m1 m2 (upd mr1 x42.toNatClampNeg x49) ma) := hD
          generalize hv50 : upd mr1 x42.toNatClampNeg x49 = mr_50 at hP hD
          obtain ⟨x51, e51⟩ : ∃ y : Int32, y = i + 1 := ⟨_, rfl⟩
          refine lv_iinc (v := x51) (lv' := [(4, .int x51), (0, .ref q), (1, .int len), (2, .int wid), (3, .int cel)]) hx hb dX0_settle_51 hl (k := 4) rfl (by rw [e51]; rfl) (by decide) rfl (fun ls hl => ?_)
          have t51 := i_add e51 (by omega)
          refine lv_goto (tgt := 8) hx hb dX0_settle_54 (by decide) ?_
          exact ih8 x51 mr_50 _ _ ls (by omega) hP hD hS (by omega) (by rw [← hv50]; exact row_up h8_1 (by omega) (by omega)) (fun j hj => by rw [← hv50, upd_low (L := len.toInt) (by show len.toInt ≤ ((x42.toInt.toNat : Nat) : Int); omega) j hj]; exact hx8_0 j hj) (by rw [← hv50]; exact im_w hx8_1 (by omega) (by omega) kq50 hr49) (lv_sub hl [1, 2, 3, 4, 0] rfl)
  exact K8 _ 0 mr _ _ ls (Nat.lt_succ_self _) hP hD hS (by omega) hrow (fun _ _ => rfl) (fun j h => absurd h (by omega)) (lv_sub hl [1, 2, 3, 4, 0] rfl)
def rm_X6_copyFrom : Room := { frames := 0, cells := 0, slots := 0, locals := 0 }
set_option maxHeartbeats 4000000 in
set_option maxRecDepth 100000 in
theorem c_X6_copyFrom (l : Launch) (E : Ev) (sz : Nat) (as_ : Nat → Nat) (vs : Vf) (bs : Nat → Nat) (ws_ : Vf) (hJ2 : StateI ws_) : Met l yX6_copyFrom wsX6_copyFrom rm_X6_copyFrom (MtP E sz [.ref (as_ 0), .ref (bs 0)] (st2L E as_ vs bs ws_)) (va_Qv (fun (u : Vf) => (StateI u) ∧ (stE u ws_ ∧ u 8 = vs 8)) (MtB E (va_A (st2L E as_ vs bs ws_) sz) (fun u => st2L E as_ u bs ws_)) (va_A (st2L E as_ vs bs ws_) sz)) 0 0 (va_A (st2L E as_ vs bs ws_) sz) := by
  refine Met.ofW (cc := cX6_copyFrom) (maxL := 3) (ret := none) (by decide) rfl ?_
  intro p e s m args below meth c s₁ B hml hv
  obtain ⟨rfl, hsz, hE, hP, hD0⟩ := hv
  subst hsz
  have hD := hD0.self (sz := s.heap.size)
  generalize hAe : va_A (st2L E as_ vs bs ws_) s.heap.size = A at hD hE ⊢
  have hA : ∀ q : Nat, s.heap.size ≤ q → A q := fun q h => by rw [← hAe]; exact Or.inr h
  have hS : va_S A s.heap s.heap [] := va_S.rf
  have hx := B.exec
  have hb := B.bytes
  have hr := B.returns
  have hts := atoms_spec (ws := wsX6_copyFrom) B.pre
  have hown : s.vm.findClass RX6 = some m.cls := findClass_of_methodNamed B.named
  have hlocks := B.notSynchronized
  have hK := hE.1
  have in_X6 : ∀ w ∈ u_ws RX6 TX6 9, w ∈ wsX6_copyFrom := fun w h => List.mem_cons_of_mem _ (List.mem_append_right _ h)
  have lk0 := hts (.fieldLink RX6 25 "TidedGround$State" "step" "I") (List.mem_of_getElem? (i := 1) rfl)
  have lk1 := hts (.fieldLink RX6 28 "TidedGround$State" "cart" "I") (List.mem_of_getElem? (i := 5) rfl)
  have lk2 := hts (.fieldLink RX6 31 "TidedGround$State" "pushed" "I") (List.mem_of_getElem? (i := 6) rfl)
  have lk3 := hts (.fieldLink RX6 21 "TidedGround$State" "steep" "I") (List.mem_of_getElem? (i := 7) rfl)
  have lk4 := hts (.fieldLink RX6 34 "TidedGround$State" "seed" "I") (List.mem_of_getElem? (i := 8) rfl)
  have lk5 := hts (.fieldLink RX6 18 "TidedGround$State" "props" "[I") (List.mem_of_getElem? (i := 4) rfl)
  have lk6 := hts (.fieldLink RX6 15 "TidedGround$State" "loads" "[I") (List.mem_of_getElem? (i := 3) rfl)
  have lk7 := hts (.fieldLink RX6 9 "TidedGround$State" "shifts" "[I") (List.mem_of_getElem? (i := 2) rfl)
  have n_0 : (0 : Int32).toInt = 0 := by decide
  have n_1 : (1 : Int32).toInt = 1 := by decide
  have n_3 : (3 : Int32).toInt = 3 := by decide
  have n_6 : (6 : Int32).toInt = 6 := by decide
  have n_24 : (24 : Int32).toInt = 24 := by decide
  have hl := lv_entry ([.ref (as_ 0), .ref (bs 0)]) (n := 3) (Nat.le_of_ble_eq_true rfl)
  rw [lg_entry_eq]
  generalize (lg_sl ([.ref (as_ 0), .ref (bs 0)]) ++ List.replicate (3 - (lg_sl ([.ref (as_ 0), .ref (bs 0)])).length) Slot.unset).toArray = ls at hl ⊢
  have hl : lv_has ls 3 [(0, .ref (as_ 0)), (1, .ref (bs 0))] := hl
  refine W_abs (fun Q hQ => ?_)
  refine lv_aload_n hx hb dX6_copyFrom_0 rfl (lv_at hl 0 rfl) ?_
  refine lv_aload_n hx hb dX6_copyFrom_1 rfl (lv_at hl 1 rfl) ?_
  refine va_get (D := eD E) (ci := 6) (v := .int (ws_ 0 0)) (C := RX6) (T := TX6) (N := 9) hx hb hts in_X6 hown hK hP 4 rfl rfl 0 (by decide) lk0 (fun _ h9 => h9) rfl dX6_copyFrom_2 ?_
  refine va_put (D := eD E) (ci := 6) (v := .int (ws_ 0 0)) (ty := .int) (C := RX6) (T := TX6) (N := 9) hx hb hts in_X6 tyX6 tyX6_ok nmX6 hown hK hP hD hS 0 rfl rfl 0 (by decide) lk0 (fun _ h9 => h9) rfl (by decide +kernel) rfl rfl (Nat.le_of_ble_eq_true rfl) dX6_copyFrom_5 (fun H locs hP hD hS => ?_)
  replace hP : va_P (eD E) vwCl (st2L E as_ (up2 vs 0 0 (ws_ 0 0)) bs ws_) H := hP
  replace hD : va_D A (st2L E as_ (up2 vs 0 0 (ws_ 0 0)) bs ws_) := hD
  generalize hv5 : up2 vs 0 0 (ws_ 0 0) = vs_5 at hP hD
  refine lv_iconst (v := 0) hx hb dX6_copyFrom_8 (by decide) ?_
  refine lv_istore_n (lv' := [(2, .int 0), (0, .ref (as_ 0)), (1, .ref (bs 0))]) hx hb dX6_copyFrom_9 rfl hl (by decide) rfl (fun ls hl => ?_)
  have K10 : ∀ (μ : Nat) (i : Int32) (va : Vf) (H : Heap) (locs : List Loc) (ls : Array Slot), (3 - i.toInt).toNat < μ → va_P (eD E) vwCl (st2L E as_ va bs ws_) H → va_D A (st2L E as_ va bs ws_) → va_S A s.heap H locs → (0 ≤ i.toInt ∧ i.toInt ≤ 3) → (va 0 0 = ws_ 0 0) → (∀ j : Nat, (j : Int) < i.toInt → va 1 j = ws_ 1 j) → (va 8 = vs 8) → lv_has ls 3 [(0, .ref (as_ 0)), (1, .ref (bs 0)), (2, .int i)] → W p l e (headSpec wsX6_copyFrom rm_X6_copyFrom).room s m ([.ref (as_ 0), .ref (bs 0)] : List Value).toArray below meth c H locs 0 0 Q (F0 m 10 ls []) := by
    intro μ
    induction μ with
    | zero =>
      intro i va H locs ls hμ10
      exact absurd hμ10 (Nat.not_lt_zero _)
    | succ μ ih10 =>
      intro i va H locs ls hμ10 hP hD hS h10_0 h10_1 h10_2 h10_3 hl
      have hx10_0 := h10_3
      clear h10_3
      refine lv_iload_n hx hb dX6_copyFrom_10 rfl (lv_at hl 2 rfl) ?_
      refine lv_iconst (v := 3) hx hb dX6_copyFrom_11 (by decide) ?_
      refine lv_icmp_ge (tgt := 33) hx hb dX6_copyFrom_12 (by decide) (fun c12 => ?_) (fun c12 => ?_)
      · have c12_ := i_le c12
        refine lv_iconst (v := 0) hx hb dX6_copyFrom_33 (by decide) ?_
        refine lv_istore_n (lv' := [(2, .int 0), (0, .ref (as_ 0)), (1, .ref (bs 0))]) hx hb dX6_copyFrom_34 rfl hl (by decide) rfl (fun ls hl => ?_)
        have K35 : ∀ (μ : Nat) (k : Int32) (vb : Vf) (H : Heap) (locs : List Loc) (ls : Array Slot), (24 - k.toInt).toNat < μ → va_P (eD E) vwCl (st2L E as_ vb bs ws_) H → va_D A (st2L E as_ vb bs ws_) → va_S A s.heap H locs → (0 ≤ k.toInt ∧ k.toInt ≤ 24) → (vb 0 0 = ws_ 0 0) → (∀ j, j < 3 → vb 1 j = ws_ 1 j) → (∀ j : Nat, (j : Int) < k.toInt → vb 2 j = ws_ 2 j) → (vb 8 = vs 8) → lv_has ls 3 [(0, .ref (as_ 0)), (1, .ref (bs 0)), (2, .int k)] → W p l e (headSpec wsX6_copyFrom rm_X6_copyFrom).room s m ([.ref (as_ 0), .ref (bs 0)] : List Value).toArray below meth c H locs 0 0 Q (F0 m 35 ls []) := by
          intro μ
          induction μ with
          | zero =>
            intro k vb H locs ls hμ35
            exact absurd hμ35 (Nat.not_lt_zero _)
          | succ μ ih35 =>
            intro k vb H locs ls hμ35 hP hD hS h35_0 h35_1 h35_2 h35_3 h35_4 hl
            have hx35_0 := h35_3
            clear h35_3
            have hx35_1 := h35_4
            clear h35_4
            refine lv_iload_n hx hb dX6_copyFrom_35 rfl (lv_at hl 2 rfl) ?_
            refine lv_bipush (v := 24) hx hb dX6_copyFrom_36 (by decide) ?_
            refine lv_icmp_ge (tgt := 59) hx hb dX6_copyFrom_38 (by decide) (fun c38 => ?_) (fun c38 => ?_)
            · have c38_ := i_le c38
              refine lv_iconst (v := 0) hx hb dX6_copyFrom_59 (by decide) ?_
              refine lv_istore_n (lv' := [(2, .int 0), (0, .ref (as_ 0)), (1, .ref (bs 0))]) hx hb dX6_copyFrom_60 rfl hl (by decide) rfl (fun ls hl => ?_)
              have K61 : ∀ (μ : Nat) (n : Int32) (vc : Vf) (H : Heap) (locs : List Loc) (ls : Array Slot), (6 - n.toInt).toNat < μ → va_P (eD E) vwCl (st2L E as_ vc bs ws_) H → va_D A (st2L E as_ vc bs ws_) → va_S A s.heap H locs → (0 ≤ n.toInt ∧ n.toInt ≤ 6) → (vc 0 0 = ws_ 0 0) → (∀ j, j < 3 → vc 1 j = ws_ 1 j) → (∀ j : Nat, (j : Int) < n.toInt → vc 3 j = ws_ 3 j) → (∀ j, j < 24 → vc 2 j = ws_ 2 j) → (vc 8 = vs 8) → lv_has ls 3 [(0, .ref (as_ 0)), (1, .ref (bs 0)), (2, .int n)] → W p l e (headSpec wsX6_copyFrom rm_X6_copyFrom).room s m ([.ref (as_ 0), .ref (bs 0)] : List Value).toArray below meth c H locs 0 0 Q (F0 m 61 ls []) := by
                intro μ
                induction μ with
                | zero =>
                  intro n vc H locs ls hμ61
                  exact absurd hμ61 (Nat.not_lt_zero _)
                | succ μ ih61 =>
                  intro n vc H locs ls hμ61 hP hD hS h61_0 h61_1 h61_2 h61_3 h61_4 h61_5 hl
                  have hx61_0 := h61_3
                  clear h61_3
                  have hx61_1 := h61_4
                  clear h61_4
                  have hx61_2 := h61_5
                  clear h61_5
                  refine lv_iload_n hx hb dX6_copyFrom_61 rfl (lv_at hl 2 rfl) ?_
                  refine lv_bipush (v := 6) hx hb dX6_copyFrom_62 (by decide) ?_
                  refine lv_icmp_ge (tgt := 85) hx hb dX6_copyFrom_64 (by decide) (fun c64 => ?_) (fun c64 => ?_)
                  · have c64_ := i_le c64
                    refine lv_aload_n hx hb dX6_copyFrom_85 rfl (lv_at hl 0 rfl) ?_
                    refine lv_aload_n hx hb dX6_copyFrom_86 rfl (lv_at hl 1 rfl) ?_
                    refine va_get (D := eD E) (ci := 6) (v := .int (ws_ 4 0)) (C := RX6) (T := TX6) (N := 9) hx hb hts in_X6 hown hK hP 4 rfl rfl 4 (by decide) lk1 (fun _ h9 => h9) rfl dX6_copyFrom_87 ?_
                    refine va_put (D := eD E) (ci := 6) (v := .int (ws_ 4 0)) (ty := .int) (C := RX6) (T := TX6) (N := 9) hx hb hts in_X6 tyX6 tyX6_ok nmX6 hown hK hP hD hS 0 rfl rfl 4 (by decide) lk1 (fun _ h9 => h9) rfl (by decide +kernel) rfl rfl (Nat.le_of_ble_eq_true rfl) dX6_copyFrom_90 (fun H locs hP hD hS => ?_)
                    replace hP : va_P (eD E) vwCl (st2L E as_ (up2 vc 4 0 (ws_ 4 0)) bs ws_) H := hP
                    replace hD : va_D A (st2L E as_ (up2 vc 4 0 (ws_ 4 0)) bs ws_) := hD
                    generalize hv90 : up2 vc 4 0 (ws_ 4 0) = vs_90 at hP hD
                    refine lv_aload_n hx hb dX6_copyFrom_93 rfl (lv_at hl 0 rfl) ?_
                    refine lv_aload_n hx hb dX6_copyFrom_94 rfl (lv_at hl 1 rfl) ?_
                    refine va_get (D := eD E) (ci := 6) (v := .int (ws_ 5 0)) (C := RX6) (T := TX6) (N := 9) hx hb hts in_X6 hown hK hP 4 rfl rfl 5 (by decide) lk2 (fun _ h9 => h9) rfl dX6_copyFrom_95 ?_
                    refine va_put (D := eD E) (ci := 6) (v := .int (ws_ 5 0)) (ty := .int) (C := RX6) (T := TX6) (N := 9) hx hb hts in_X6 tyX6 tyX6_ok nmX6 hown hK hP hD hS 0 rfl rfl 5 (by decide) lk2 (fun _ h9 => h9) rfl (by decide +kernel) rfl rfl (Nat.le_of_ble_eq_true rfl) dX6_copyFrom_98 (fun H locs hP hD hS => ?_)
                    replace hP : va_P (eD E) vwCl (st2L E as_ (up2 vs_90 5 0 (ws_ 5 0)) bs ws_) H := hP
                    replace hD : va_D A (st2L E as_ (up2 vs_90 5 0 (ws_ 5 0)) bs ws_) := hD
                    generalize hv98 : up2 vs_90 5 0 (ws_ 5 0) = vs_98 at hP hD
                    refine lv_aload_n hx hb dX6_copyFrom_101 rfl (lv_at hl 0 rfl) ?_
                    refine lv_aload_n hx hb dX6_copyFrom_102 rfl (lv_at hl 1 rfl) ?_
                    refine va_get (D := eD E) (ci := 6) (v := .int (ws_ 6 0)) (C := RX6) (T := TX6) (N := 9) hx hb hts in_X6 hown hK hP 4 rfl rfl 6 (by decide) lk3 (fun _ h9 => h9) rfl dX6_copyFrom_103 ?_
                    refine va_put (D := eD E) (ci := 6) (v := .int (ws_ 6 0)) (ty := .int) (C := RX6) (T := TX6) (N := 9) hx hb hts in_X6 tyX6 tyX6_ok nmX6 hown hK hP hD hS 0 rfl rfl 6 (by decide) lk3 (fun _ h9 => h9) rfl (by decide +kernel) rfl rfl (Nat.le_of_ble_eq_true rfl) dX6_copyFrom_106 (fun H locs hP hD hS => ?_)
                    replace hP : va_P (eD E) vwCl (st2L E as_ (up2 vs_98 6 0 (ws_ 6 0)) bs ws_) H := hP
                    replace hD : va_D A (st2L E as_ (up2 vs_98 6 0 (ws_ 6 0)) bs ws_) := hD
                    generalize hv106 : up2 vs_98 6 0 (ws_ 6 0) = vs_106 at hP hD
                    refine lv_aload_n hx hb dX6_copyFrom_109 rfl (lv_at hl 0 rfl) ?_
                    refine lv_aload_n hx hb dX6_copyFrom_110 rfl (lv_at hl 1 rfl) ?_
                    refine va_get (D := eD E) (ci := 6) (v := .int (ws_ 7 0)) (C := RX6) (T := TX6) (N := 9) hx hb hts in_X6 hown hK hP 4 rfl rfl 7 (by decide) lk4 (fun _ h9 => h9) rfl dX6_copyFrom_111 ?_
                    refine va_put (D := eD E) (ci := 6) (v := .int (ws_ 7 0)) (ty := .int) (C := RX6) (T := TX6) (N := 9) hx hb hts in_X6 tyX6 tyX6_ok nmX6 hown hK hP hD hS 0 rfl rfl 7 (by decide) lk4 (fun _ h9 => h9) rfl (by decide +kernel) rfl rfl (Nat.le_of_ble_eq_true rfl) dX6_copyFrom_114 (fun H locs hP hD hS => ?_)
                    replace hP : va_P (eD E) vwCl (st2L E as_ (up2 vs_106 7 0 (ws_ 7 0)) bs ws_) H := hP
                    replace hD : va_D A (st2L E as_ (up2 vs_106 7 0 (ws_ 7 0)) bs ws_) := hD
                    generalize hv114 : up2 vs_106 7 0 (ws_ 7 0) = vs_114 at hP hD
                    subst hQ
                    exact W.vret hx hb hr (fun t ht hW => ⟨⟨(vs_114), rfl, (show (StateI vs_114) ∧ (stE vs_114 ws_ ∧ vs_114 8 = vs 8) from ⟨(by rw [← hv114, ← hv106, ← hv98, ← hv90]; exact st_copy hJ2 h61_1 h61_2), (by rw [← hv114, ← hv106, ← hv98, ← hv90]; exact ⟨⟨h61_1, h61_2, hx61_1, fun j hj => hx61_0 j (by omega), rfl, rfl, rfl, rfl⟩, hx61_2⟩)⟩), by rw [ht]; exact hP, hD⟩, hS.F ht⟩) hS.2.2 dX6_copyFrom_117
                  · have c64_ := i_nle c64
                    refine lv_aload_n hx hb dX6_copyFrom_67 rfl (lv_at hl 0 rfl) ?_
                    refine va_get (D := eD E) (ci := 6) (v := .ref (as_ 3)) (C := RX6) (T := TX6) (N := 9) hx hb hts in_X6 hown hK hP 0 rfl rfl 3 (by decide) lk5 (fun _ h9 => h9) rfl dX6_copyFrom_68 ?_
                    refine lv_iload_n hx hb dX6_copyFrom_71 rfl (lv_at hl 2 rfl) ?_
                    refine lv_aload_n hx hb dX6_copyFrom_72 rfl (lv_at hl 1 rfl) ?_
                    refine va_get (D := eD E) (ci := 6) (v := .ref (bs 3)) (C := RX6) (T := TX6) (N := 9) hx hb hts in_X6 hown hK hP 4 rfl rfl 3 (by decide) lk5 (fun _ h9 => h9) rfl dX6_copyFrom_73 ?_
                    refine lv_iload_n hx hb dX6_copyFrom_76 rfl (lv_at hl 2 rfl) ?_
                    refine va_iald hx hb hK hP 7 0 rfl rfl (n := 6) (f := (ws_ 3)) (i_in (by omega) (by omega)) dX6_copyFrom_77 ?_
                    refine lv_topi (fun x77 e77 => ?_)
                    refine va_iast hx hb hK hP hD hS 3 0 rfl rfl (n := 6) (f := (vc 3)) (i_in (by omega) (by omega)) dX6_copyFrom_78 (fun H locs hP hD hS => ?_)
                    replace hP : va_P (eD E) vwCl (st2L E as_ (up2 vc 3 n.toNatClampNeg x77) bs ws_) H := hP
                    replace hD : va_D A (st2L E as_ (up2 vc 3 n.toNatClampNeg x77) bs ws_) := hD
                    generalize hv78 : up2 vc 3 n.toNatClampNeg x77 = vs_78 at hP hD
                    obtain ⟨x79, e79⟩ : ∃ y : Int32, y = n + 1 := ⟨_, rfl⟩
                    refine lv_iinc (v := x79) (lv' := [(2, .int x79), (0, .ref (as_ 0)), (1, .ref (bs 0))]) hx hb dX6_copyFrom_79 hl (k := 2) rfl (by rw [e79]; rfl) (by decide) rfl (fun ls hl => ?_)
                    have t79 := i_add e79 (by omega)
                    refine lv_goto (tgt := 61) hx hb dX6_copyFrom_82 (by decide) ?_
                    exact ih61 x79 vs_78 _ _ ls (by omega) hP hD hS (by omega) (by rw [← hv78]; exact h61_1) (by rw [← hv78]; exact h61_2) (by rw [← hv78]; exact upc_next hx61_0 h61_0.1 (by omega) e77) (by rw [← hv78]; exact hx61_1) (by rw [← hv78]; exact hx61_2) (lv_sub hl [1, 2, 0] rfl)
              exact K61 _ 0 vb _ _ ls (Nat.lt_succ_self _) hP hD hS (by omega) h35_1 h35_2 (fun j h => absurd h (by omega)) (fun j h => hx35_0 j (by omega)) hx35_1 (lv_sub hl [1, 2, 0] rfl)
            · have c38_ := i_nle c38
              refine lv_aload_n hx hb dX6_copyFrom_41 rfl (lv_at hl 0 rfl) ?_
              refine va_get (D := eD E) (ci := 6) (v := .ref (as_ 2)) (C := RX6) (T := TX6) (N := 9) hx hb hts in_X6 hown hK hP 0 rfl rfl 2 (by decide) lk6 (fun _ h9 => h9) rfl dX6_copyFrom_42 ?_
              refine lv_iload_n hx hb dX6_copyFrom_45 rfl (lv_at hl 2 rfl) ?_
              refine lv_aload_n hx hb dX6_copyFrom_46 rfl (lv_at hl 1 rfl) ?_
              refine va_get (D := eD E) (ci := 6) (v := .ref (bs 2)) (C := RX6) (T := TX6) (N := 9) hx hb hts in_X6 hown hK hP 4 rfl rfl 2 (by decide) lk6 (fun _ h9 => h9) rfl dX6_copyFrom_47 ?_
              refine lv_iload_n hx hb dX6_copyFrom_50 rfl (lv_at hl 2 rfl) ?_
              refine va_iald hx hb hK hP 6 0 rfl rfl (n := 24) (f := (ws_ 2)) (i_in (by omega) (by omega)) dX6_copyFrom_51 ?_
              refine lv_topi (fun x51 e51 => ?_)
              refine va_iast hx hb hK hP hD hS 2 0 rfl rfl (n := 24) (f := (vb 2)) (i_in (by omega) (by omega)) dX6_copyFrom_52 (fun H locs hP hD hS => ?_)
              replace hP : va_P (eD E) vwCl (st2L E as_ (up2 vb 2 k.toNatClampNeg x51) bs ws_) H := hP
              replace hD : va_D A (st2L E as_ (up2 vb 2 k.toNatClampNeg x51) bs ws_) := hD
              generalize hv52 : up2 vb 2 k.toNatClampNeg x51 = vs_52 at hP hD
              obtain ⟨x53, e53⟩ : ∃ y : Int32, y = k + 1 := ⟨_, rfl⟩
              refine lv_iinc (v := x53) (lv' := [(2, .int x53), (0, .ref (as_ 0)), (1, .ref (bs 0))]) hx hb dX6_copyFrom_53 hl (k := 2) rfl (by rw [e53]; rfl) (by decide) rfl (fun ls hl => ?_)
              have t53 := i_add e53 (by omega)
              refine lv_goto (tgt := 35) hx hb dX6_copyFrom_56 (by decide) ?_
              exact ih35 x53 vs_52 _ _ ls (by omega) hP hD hS (by omega) (by rw [← hv52]; exact h35_1) (by rw [← hv52]; exact h35_2) (by rw [← hv52]; exact upc_next hx35_0 h35_0.1 (by omega) e51) (by rw [← hv52]; exact hx35_1) (lv_sub hl [1, 2, 0] rfl)
        exact K35 _ 0 va _ _ ls (Nat.lt_succ_self _) hP hD hS (by omega) h10_1 (fun j h => h10_2 j (by omega)) (fun j h => absurd h (by omega)) hx10_0 (lv_sub hl [1, 2, 0] rfl)
      · have c12_ := i_nle c12
        refine lv_aload_n hx hb dX6_copyFrom_15 rfl (lv_at hl 0 rfl) ?_
        refine va_get (D := eD E) (ci := 6) (v := .ref (as_ 1)) (C := RX6) (T := TX6) (N := 9) hx hb hts in_X6 hown hK hP 0 rfl rfl 1 (by decide) lk7 (fun _ h9 => h9) rfl dX6_copyFrom_16 ?_
        refine lv_iload_n hx hb dX6_copyFrom_19 rfl (lv_at hl 2 rfl) ?_
        refine lv_aload_n hx hb dX6_copyFrom_20 rfl (lv_at hl 1 rfl) ?_
        refine va_get (D := eD E) (ci := 6) (v := .ref (bs 1)) (C := RX6) (T := TX6) (N := 9) hx hb hts in_X6 hown hK hP 4 rfl rfl 1 (by decide) lk7 (fun _ h9 => h9) rfl dX6_copyFrom_21 ?_
        refine lv_iload_n hx hb dX6_copyFrom_24 rfl (lv_at hl 2 rfl) ?_
        refine va_iald hx hb hK hP 5 0 rfl rfl (n := 3) (f := (ws_ 1)) (i_in (by omega) (by omega)) dX6_copyFrom_25 ?_
        refine lv_topi (fun x25 e25 => ?_)
        refine va_iast hx hb hK hP hD hS 1 0 rfl rfl (n := 3) (f := (va 1)) (i_in (by omega) (by omega)) dX6_copyFrom_26 (fun H locs hP hD hS => ?_)
        replace hP : va_P (eD E) vwCl (st2L E as_ (up2 va 1 i.toNatClampNeg x25) bs ws_) H := hP
        replace hD : va_D A (st2L E as_ (up2 va 1 i.toNatClampNeg x25) bs ws_) := hD
        generalize hv26 : up2 va 1 i.toNatClampNeg x25 = vs_26 at hP hD
        obtain ⟨x27, e27⟩ : ∃ y : Int32, y = i + 1 := ⟨_, rfl⟩
        refine lv_iinc (v := x27) (lv' := [(2, .int x27), (0, .ref (as_ 0)), (1, .ref (bs 0))]) hx hb dX6_copyFrom_27 hl (k := 2) rfl (by rw [e27]; rfl) (by decide) rfl (fun ls hl => ?_)
        have t27 := i_add e27 (by omega)
        refine lv_goto (tgt := 10) hx hb dX6_copyFrom_30 (by decide) ?_
        exact ih10 x27 vs_26 _ _ ls (by omega) hP hD hS (by omega) (by rw [← hv26]; exact h10_1) (by rw [← hv26]; exact upc_next h10_2 h10_0.1 (by omega) e25) (by rw [← hv26]; exact hx10_0) (lv_sub hl [1, 2, 0] rfl)
  exact K10 _ 0 vs_5 _ _ ls (Nat.lt_succ_self _) hP hD hS (by omega) (by rw [← hv5]; rfl) (fun j h => absurd h (by omega)) (by rw [← hv5]; rfl) (lv_sub hl [1, 2, 0] rfl)
def rm_X1_clear : Room := { frames := 1, cells := 0, slots := 0, locals := 21 }
set_option maxHeartbeats 4000000 in
set_option maxRecDepth 100000 in
theorem c_X1_clear (l : Launch) (E : Ev) (sz : Nat) (ap : Nat → Nat) (vp : Vf) (hR : PlanR vp) : Met l yX1_clear wsX1_clear rm_X1_clear (MtP E sz [.ref (ap 0)] (planL E ap vp)) (va_Qv (fun (u : Vf) => (PlanI u ∧ u 0 0 = 0 ∧ u 2 0 = 0) ∧ ((u 1 0 = 0 ∧ u 5 0 = 0 ∧ u 60 0 = 0 ∧ u 70 0 = 0 ∧ u 80 0 = 0 ∧ u 90 0 = 0) ∧ (u 20 0 = 1 ∧ u 23 0 = 0 ∧ u 23 1 = 0) ∧ (u 30 0 = 1 ∧ u 33 0 = 0 ∧ u 33 1 = 0) ∧ (u 40 0 = 1 ∧ u 43 0 = 0 ∧ u 43 1 = 0))) (MtB E (va_A (planL E ap vp) sz) (fun u => planL E ap u)) (va_A (planL E ap vp) sz)) 0 0 (va_A (planL E ap vp) sz) := by
  refine Met.ofW (cc := cX1_clear) (maxL := 2) (ret := none) (by decide) rfl ?_
  intro p e s m args below meth c s₁ B hml hv
  obtain ⟨rfl, hsz, hE, hP, hD0⟩ := hv
  subst hsz
  have hD := hD0.self (sz := s.heap.size)
  generalize hAe : va_A (planL E ap vp) s.heap.size = A at hD hE ⊢
  have hA : ∀ q : Nat, s.heap.size ≤ q → A q := fun q h => by rw [← hAe]; exact Or.inr h
  have hS : va_S A s.heap s.heap [] := va_S.rf
  have hx := B.exec
  have hb := B.bytes
  have hr := B.returns
  have hts := atoms_spec (ws := wsX1_clear) B.pre
  have hown : s.vm.findClass RX1 = some m.cls := findClass_of_methodNamed B.named
  have hlocks := B.notSynchronized
  have hK := hE.1
  have in_X1 : ∀ w ∈ u_ws RX1 TX1 11, w ∈ wsX1_clear := fun w h => List.mem_cons_of_mem _ (List.mem_append_left _ (List.mem_append_left _ (List.mem_append_right _ h)))
  have in_X5 : ∀ w ∈ u_ws RX5 TX5 4, w ∈ wsX1_clear := fun w h => List.mem_cons_of_mem _ (List.mem_append_left _ (List.mem_append_right _ h))
  have lk0 := hts (.fieldLink RX1 44 "TidedGround$Plan" "width" "I") (List.mem_of_getElem? (i := 1) rfl)
  have lk1 := hts (.fieldLink RX1 48 "TidedGround$Plan" "depth" "I") (List.mem_of_getElem? (i := 2) rfl)
  have lk2 := hts (.fieldLink RX1 51 "TidedGround$Plan" "cells" "I") (List.mem_of_getElem? (i := 3) rfl)
  have lk3 := hts (.fieldLink RX1 54 "TidedGround$Plan" "moonCount" "I") (List.mem_of_getElem? (i := 4) rfl)
  have lk4 := hts (.fieldLink RX1 20 "TidedGround$Plan" "moons" "[LTidedGround$Moon;") (List.mem_of_getElem? (i := 5) rfl)
  have lk5 := hts (.fieldLink RX1 27 "TidedGround$Plan" "houses" "LTidedGround$Sites;") (List.mem_of_getElem? (i := 6) rfl)
  have lk6 := hts (.fieldLink RX1 58 "TidedGround$Sites" "count" "I") (List.mem_of_getElem? (i := 7) rfl)
  have lk7 := hts (.fieldLink RX1 31 "TidedGround$Plan" "cracks" "LTidedGround$Sites;") (List.mem_of_getElem? (i := 8) rfl)
  have lk8 := hts (.fieldLink RX1 34 "TidedGround$Plan" "wells" "LTidedGround$Sites;") (List.mem_of_getElem? (i := 9) rfl)
  have lk9 := hts (.fieldLink RX1 37 "TidedGround$Plan" "deeds" "LTidedGround$Sites;") (List.mem_of_getElem? (i := 10) rfl)
  have n_0 : (0 : Int32).toInt = 0 := by decide
  have n_1 : (1 : Int32).toInt = 1 := by decide
  have n_2 : (2 : Int32).toInt = 2 := by decide
  have n_3 : (3 : Int32).toInt = 3 := by decide
  have hl := lv_entry ([.ref (ap 0)]) (n := 2) (Nat.le_of_ble_eq_true rfl)
  rw [lg_entry_eq]
  generalize (lg_sl ([.ref (ap 0)]) ++ List.replicate (2 - (lg_sl ([.ref (ap 0)])).length) Slot.unset).toArray = ls at hl ⊢
  have hl : lv_has ls 2 [(0, .ref (ap 0))] := hl
  refine W_abs (fun Q hQ => ?_)
  refine lv_aload_n hx hb dX1_clear_0 rfl (lv_at hl 0 rfl) ?_
  refine lv_iconst (v := 0) hx hb dX1_clear_1 (by decide) ?_
  refine va_put (D := eD E) (ci := 1) (v := .int 0) (ty := .int) (C := RX1) (T := TX1) (N := 11) hx hb hts in_X1 tyX1 tyX1_ok nmX1 hown hK hP hD hS 0 rfl rfl 0 (by decide) lk0 (fun _ h9 => h9) rfl (by decide +kernel) rfl rfl (Nat.le_of_ble_eq_true rfl) dX1_clear_2 (fun H locs hP hD hS => ?_)
  replace hP : va_P (eD E) vwCl (planL E ap (up2 vp 0 0 0)) H := hP
  replace hD : va_D A (planL E ap (up2 vp 0 0 0)) := hD
  generalize hv2 : up2 vp 0 0 0 = vp_2 at hP hD
  have hR : PlanR vp_2 := by rw [← hv2]; exact hR
  refine lv_aload_n hx hb dX1_clear_5 rfl (lv_at hl 0 rfl) ?_
  refine lv_iconst (v := 0) hx hb dX1_clear_6 (by decide) ?_
  refine va_put (D := eD E) (ci := 1) (v := .int 0) (ty := .int) (C := RX1) (T := TX1) (N := 11) hx hb hts in_X1 tyX1 tyX1_ok nmX1 hown hK hP hD hS 0 rfl rfl 1 (by decide) lk1 (fun _ h9 => h9) rfl (by decide +kernel) rfl rfl (Nat.le_of_ble_eq_true rfl) dX1_clear_7 (fun H locs hP hD hS => ?_)
  replace hP : va_P (eD E) vwCl (planL E ap (up2 vp_2 1 0 0)) H := hP
  replace hD : va_D A (planL E ap (up2 vp_2 1 0 0)) := hD
  generalize hv7 : up2 vp_2 1 0 0 = vp_7 at hP hD
  have hR : PlanR vp_7 := by rw [← hv7]; exact hR
  refine lv_aload_n hx hb dX1_clear_10 rfl (lv_at hl 0 rfl) ?_
  refine lv_iconst (v := 0) hx hb dX1_clear_11 (by decide) ?_
  refine va_put (D := eD E) (ci := 1) (v := .int 0) (ty := .int) (C := RX1) (T := TX1) (N := 11) hx hb hts in_X1 tyX1 tyX1_ok nmX1 hown hK hP hD hS 0 rfl rfl 2 (by decide) lk2 (fun _ h9 => h9) rfl (by decide +kernel) rfl rfl (Nat.le_of_ble_eq_true rfl) dX1_clear_12 (fun H locs hP hD hS => ?_)
  replace hP : va_P (eD E) vwCl (planL E ap (up2 vp_7 2 0 0)) H := hP
  replace hD : va_D A (planL E ap (up2 vp_7 2 0 0)) := hD
  generalize hv12 : up2 vp_7 2 0 0 = vp_12 at hP hD
  have hR : PlanR vp_12 := by rw [← hv12]; exact hR
  refine lv_aload_n hx hb dX1_clear_15 rfl (lv_at hl 0 rfl) ?_
  refine lv_iconst (v := 0) hx hb dX1_clear_16 (by decide) ?_
  refine va_put (D := eD E) (ci := 1) (v := .int 0) (ty := .int) (C := RX1) (T := TX1) (N := 11) hx hb hts in_X1 tyX1 tyX1_ok nmX1 hown hK hP hD hS 0 rfl rfl 5 (by decide) lk3 (fun _ h9 => h9) rfl (by decide +kernel) rfl rfl (Nat.le_of_ble_eq_true rfl) dX1_clear_17 (fun H locs hP hD hS => ?_)
  replace hP : va_P (eD E) vwCl (planL E ap (up2 vp_12 5 0 0)) H := hP
  replace hD : va_D A (planL E ap (up2 vp_12 5 0 0)) := hD
  generalize hv17 : up2 vp_12 5 0 0 = vp_17 at hP hD
  have hR : PlanR vp_17 := by rw [← hv17]; exact hR
  have hz : vp_17 0 0 = 0 ∧ vp_17 1 0 = 0 ∧ vp_17 2 0 = 0 ∧ vp_17 5 0 = 0 := by rw [← hv17, ← hv12, ← hv7, ← hv2]; exact ⟨rfl, rfl, rfl, rfl⟩
  refine lv_iconst (v := 0) hx hb dX1_clear_20 (by decide) ?_
  refine lv_istore_n (lv' := [(1, .int 0), (0, .ref (ap 0))]) hx hb dX1_clear_21 rfl hl (by decide) rfl (fun ls hl => ?_)
  refine lv_iload_n hx hb dX1_clear_22 rfl (lv_at hl 0 rfl) ?_
  refine lv_iconst (v := 3) hx hb dX1_clear_23 (by decide) ?_
  refine lv_icmp_ge (tgt := 42) hx hb dX1_clear_24 (by decide) (fun q => absurd q (by decide)) (fun _ => ?_)
  refine lv_aload_n hx hb dX1_clear_27 rfl (lv_at hl 1 rfl) ?_
  refine va_get (D := eD E) (ci := 1) (v := .ref (ap 6)) (C := RX1) (T := TX1) (N := 11) hx hb hts in_X1 hown hK hP 0 rfl rfl 6 (by decide) lk4 (fun _ h9 => h9) rfl dX1_clear_28 ?_
  refine lv_iload_n hx hb dX1_clear_31 rfl (lv_at hl 0 rfl) ?_
  refine va_aldq hx hb hK hP 3 2 rfl rfl (i_in (by decide) (by decide)) dX1_clear_32 ?_
  refine W.eq (g2 := F0 m 33 ls [.ref (ap 20)]) rfl ?_
  refine mt_Vv (w1 := fun (u : Int32 × Int32 × Int32 × (Nat → Int32) × (Nat → Int32)) => moonL E (ap 20) (ap 23) (ap 24) u.1 u.2.1 u.2.2.1 u.2.2.2.1 u.2.2.2.2) (wf := fun (u : Int32 × Int32 × Int32 × (Nat → Int32) × (Nat → Int32)) => planL E ap (up3 (up3 (up2 (up2 (up2 vp_17 20 0 u.1) 21 0 u.2.1) 22 0 u.2.2.1) 23 u.2.2.2.1) 24 u.2.2.2.2)) (wr := [((ap 0), .inr (1, [.int (vp_17 0 0), .int (vp_17 1 0), .int (vp_17 2 0), .ref (ap 3), .ref (ap 4), .int (vp_17 5 0), .ref (ap 6), .ref (ap 7), .ref (ap 8), .ref (ap 9), .ref (ap 10)])), ((ap 3), .inl (eI E, 24, .inl (vp_17 3))), ((ap 4), .inl (eI E, 24, .inl (vp_17 4))), ((ap 6), .inl (eM E, 3, .inr (.inr (.inr (.inr (fun i => some (ap (20 + 10 * i)))))))), ((ap 30), .inr (0, [.int (vp_17 30 0), .int (vp_17 31 0), .int (vp_17 32 0), .ref (ap 33), .ref (ap 34)])), ((ap 33), .inl (eI E, 18, .inl (vp_17 33))), ((ap 34), .inl (eI E, 24, .inl (vp_17 34))), ((ap 40), .inr (0, [.int (vp_17 40 0), .int (vp_17 41 0), .int (vp_17 42 0), .ref (ap 43), .ref (ap 44)])), ((ap 43), .inl (eI E, 18, .inl (vp_17 43))), ((ap 44), .inl (eI E, 24, .inl (vp_17 44))), ((ap 7), .inr (5, [.int (vp_17 60 0), .ref (ap 61), .ref (ap 62), .ref (ap 63)])), ((ap 61), .inl (eI E, 6, .inl (vp_17 61))), ((ap 62), .inl (eI E, 6, .inl (vp_17 62))), ((ap 63), .inl (eI E, 6, .inl (vp_17 63))), ((ap 8), .inr (5, [.int (vp_17 70 0), .ref (ap 71), .ref (ap 72), .ref (ap 73)])), ((ap 71), .inl (eI E, 6, .inl (vp_17 71))), ((ap 72), .inl (eI E, 6, .inl (vp_17 72))), ((ap 73), .inl (eI E, 6, .inl (vp_17 73))), ((ap 9), .inr (5, [.int (vp_17 80 0), .ref (ap 81), .ref (ap 82), .ref (ap 83)])), ((ap 81), .inl (eI E, 6, .inl (vp_17 81))), ((ap 82), .inl (eI E, 6, .inl (vp_17 82))), ((ap 83), .inl (eI E, 6, .inl (vp_17 83))), ((ap 10), .inr (5, [.int (vp_17 90 0), .ref (ap 91), .ref (ap 92), .ref (ap 93)])), ((ap 91), .inl (eI E, 6, .inl (vp_17 91))), ((ap 92), .inl (eI E, 6, .inl (vp_17 92))), ((ap 93), .inl (eI E, 6, .inl (vp_17 93)))]) (As := []) (rest := []) (C := RX0) (ci := 0) ⟨hx, hb, hml, hown, hts⟩ (c_X0_clear l E H.size (ap 20) (ap 23) (ap 24) (vp_17 20 0) (vp_17 21 0) (vp_17 22 0) (vp_17 23) (vp_17 24) hR.1.1 hR.1.2) (cwV 0 hts gX1_clear_X0_clear rfl rfl rfl (by decide +kernel) ⟨Nat.le_of_ble_eq_true rfl, Nat.le_of_ble_eq_true rfl⟩) hE hS hA hP hD [4, 5, 6] [0, 1, 2, 3, 7, 8, 9, 10, 11, 12, 13, 14, 15, 16, 17, 18, 19, 20, 21, 22, 23, 24, 25, 26, 27, 28] rfl rfl (by decide) (by decide) (by decide) [0, 1, 2, 3, 26, 27, 28, 4, 5, 6, 7, 8, 9, 10, 11, 12, 13, 14, 15, 16, 17, 18, 19, 20, 21, 22, 23, 24, 25] (by decide) (fun u => rfl) rfl rfl rfl rfl hl.1 rfl (Nat.le_of_ble_eq_true rfl) dX1_clear_33 ⟨Nat.zero_le _, Nat.zero_le _⟩ (fun u33 H locs h33 hP hD hS => ?_)
  obtain ⟨o33_m0, o33_m1, o33_m2, o33_mr, o33_ma⟩ := u33
  try dsimp only at h33
  have hf33 := h33.2
  replace h33 := h33.1
  replace hP : va_P (eD E) vwCl (planL E ap (up3 (up3 (up2 (up2 (up2 vp_17 20 0 o33_m0) 21 0 o33_m1) 22 0 o33_m2) 23 o33_mr) 24 o33_ma)) H := hP
  replace hD : va_D A (planL E ap (up3 (up3 (up2 (up2 (up2 vp_17 20 0 o33_m0) 21 0 o33_m1) 22 0 o33_m2) 23 o33_mr) 24 o33_ma)) := hD
  generalize hv33 : up3 (up3 (up2 (up2 (up2 vp_17 20 0 o33_m0) 21 0 o33_m1) 22 0 o33_m2) 23 o33_mr) 24 o33_ma = vp_33 at hP hD
  have hz : vp_33 0 0 = 0 ∧ vp_33 1 0 = 0 ∧ vp_33 2 0 = 0 ∧ vp_33 5 0 = 0 := by rw [← hv33]; exact hz
  have hm0 : moonI (vp_33 20 0) (vp_33 23) (vp_33 24) := by rw [← hv33]; exact h33
  have hR : PlanR vp_33 := by rw [← hv33]; exact ⟨⟨h33.2.1, h33.2.2⟩, hR.2.1, hR.2.2.1, hR.2.2.2⟩
  have hu0 : vp_33 20 0 = 1 ∧ vp_33 23 0 = 0 ∧ vp_33 23 1 = 0 := by rw [← hv33]; exact hf33
  refine lv_iinc (v := 1) (lv' := [(1, .int 1), (0, .ref (ap 0))]) hx hb dX1_clear_36 hl (k := 0) rfl (by decide) (by decide) rfl (fun ls hl => ?_)
  refine lv_goto (tgt := 22) hx hb dX1_clear_39 (by decide) ?_
  refine lv_iload_n hx hb dX1_clear_22 rfl (lv_at hl 0 rfl) ?_
  refine lv_iconst (v := 3) hx hb dX1_clear_23 (by decide) ?_
  refine lv_icmp_ge (tgt := 42) hx hb dX1_clear_24 (by decide) (fun q => absurd q (by decide)) (fun _ => ?_)
  refine lv_aload_n hx hb dX1_clear_27 rfl (lv_at hl 1 rfl) ?_
  refine va_get (D := eD E) (ci := 1) (v := .ref (ap 6)) (C := RX1) (T := TX1) (N := 11) hx hb hts in_X1 hown hK hP 0 rfl rfl 6 (by decide) lk4 (fun _ h9 => h9) rfl dX1_clear_28 ?_
  refine lv_iload_n hx hb dX1_clear_31 rfl (lv_at hl 0 rfl) ?_
  refine va_aldq hx hb hK hP 3 2 rfl rfl (i_in (by decide) (by decide)) dX1_clear_32 ?_
  refine W.eq (g2 := F0 m 33 ls [.ref (ap 30)]) rfl ?_
  refine mt_Vv (w1 := fun (u : Int32 × Int32 × Int32 × (Nat → Int32) × (Nat → Int32)) => moonL E (ap 30) (ap 33) (ap 34) u.1 u.2.1 u.2.2.1 u.2.2.2.1 u.2.2.2.2) (wf := fun (u : Int32 × Int32 × Int32 × (Nat → Int32) × (Nat → Int32)) => planL E ap (up3 (up3 (up2 (up2 (up2 vp_33 30 0 u.1) 31 0 u.2.1) 32 0 u.2.2.1) 33 u.2.2.2.1) 34 u.2.2.2.2)) (wr := [((ap 0), .inr (1, [.int (vp_33 0 0), .int (vp_33 1 0), .int (vp_33 2 0), .ref (ap 3), .ref (ap 4), .int (vp_33 5 0), .ref (ap 6), .ref (ap 7), .ref (ap 8), .ref (ap 9), .ref (ap 10)])), ((ap 3), .inl (eI E, 24, .inl (vp_33 3))), ((ap 4), .inl (eI E, 24, .inl (vp_33 4))), ((ap 6), .inl (eM E, 3, .inr (.inr (.inr (.inr (fun i => some (ap (20 + 10 * i)))))))), ((ap 20), .inr (0, [.int (vp_33 20 0), .int (vp_33 21 0), .int (vp_33 22 0), .ref (ap 23), .ref (ap 24)])), ((ap 23), .inl (eI E, 18, .inl (vp_33 23))), ((ap 24), .inl (eI E, 24, .inl (vp_33 24))), ((ap 40), .inr (0, [.int (vp_33 40 0), .int (vp_33 41 0), .int (vp_33 42 0), .ref (ap 43), .ref (ap 44)])), ((ap 43), .inl (eI E, 18, .inl (vp_33 43))), ((ap 44), .inl (eI E, 24, .inl (vp_33 44))), ((ap 7), .inr (5, [.int (vp_33 60 0), .ref (ap 61), .ref (ap 62), .ref (ap 63)])), ((ap 61), .inl (eI E, 6, .inl (vp_33 61))), ((ap 62), .inl (eI E, 6, .inl (vp_33 62))), ((ap 63), .inl (eI E, 6, .inl (vp_33 63))), ((ap 8), .inr (5, [.int (vp_33 70 0), .ref (ap 71), .ref (ap 72), .ref (ap 73)])), ((ap 71), .inl (eI E, 6, .inl (vp_33 71))), ((ap 72), .inl (eI E, 6, .inl (vp_33 72))), ((ap 73), .inl (eI E, 6, .inl (vp_33 73))), ((ap 9), .inr (5, [.int (vp_33 80 0), .ref (ap 81), .ref (ap 82), .ref (ap 83)])), ((ap 81), .inl (eI E, 6, .inl (vp_33 81))), ((ap 82), .inl (eI E, 6, .inl (vp_33 82))), ((ap 83), .inl (eI E, 6, .inl (vp_33 83))), ((ap 10), .inr (5, [.int (vp_33 90 0), .ref (ap 91), .ref (ap 92), .ref (ap 93)])), ((ap 91), .inl (eI E, 6, .inl (vp_33 91))), ((ap 92), .inl (eI E, 6, .inl (vp_33 92))), ((ap 93), .inl (eI E, 6, .inl (vp_33 93)))]) (As := []) (rest := []) (C := RX0) (ci := 0) ⟨hx, hb, hml, hown, hts⟩ (c_X0_clear l E H.size (ap 30) (ap 33) (ap 34) (vp_33 30 0) (vp_33 31 0) (vp_33 32 0) (vp_33 33) (vp_33 34) hR.2.1.1 hR.2.1.2) (cwV 0 hts gX1_clear_X0_clear rfl rfl rfl (by decide +kernel) ⟨Nat.le_of_ble_eq_true rfl, Nat.le_of_ble_eq_true rfl⟩) hE hS hA hP hD [7, 8, 9] [0, 1, 2, 3, 4, 5, 6, 10, 11, 12, 13, 14, 15, 16, 17, 18, 19, 20, 21, 22, 23, 24, 25, 26, 27, 28] rfl rfl (by decide) (by decide) (by decide) [0, 1, 2, 3, 4, 5, 6, 26, 27, 28, 7, 8, 9, 10, 11, 12, 13, 14, 15, 16, 17, 18, 19, 20, 21, 22, 23, 24, 25] (by decide) (fun u => rfl) rfl rfl rfl rfl hl.1 rfl (Nat.le_of_ble_eq_true rfl) dX1_clear_33 ⟨Nat.zero_le _, Nat.zero_le _⟩ (fun u33 H locs h33 hP hD hS => ?_)
  obtain ⟨o33_m0, o33_m1, o33_m2, o33_mr, o33_ma⟩ := u33
  try dsimp only at h33
  have hf33 := h33.2
  replace h33 := h33.1
  replace hP : va_P (eD E) vwCl (planL E ap (up3 (up3 (up2 (up2 (up2 vp_33 30 0 o33_m0) 31 0 o33_m1) 32 0 o33_m2) 33 o33_mr) 34 o33_ma)) H := hP
  replace hD : va_D A (planL E ap (up3 (up3 (up2 (up2 (up2 vp_33 30 0 o33_m0) 31 0 o33_m1) 32 0 o33_m2) 33 o33_mr) 34 o33_ma)) := hD
  generalize hv33 : up3 (up3 (up2 (up2 (up2 vp_33 30 0 o33_m0) 31 0 o33_m1) 32 0 o33_m2) 33 o33_mr) 34 o33_ma = vp_33 at hP hD
  have hz : vp_33 0 0 = 0 ∧ vp_33 1 0 = 0 ∧ vp_33 2 0 = 0 ∧ vp_33 5 0 = 0 := by rw [← hv33]; exact hz
  have hm0 : moonI (vp_33 20 0) (vp_33 23) (vp_33 24) := by rw [← hv33]; exact hm0
  have hm1 : moonI (vp_33 30 0) (vp_33 33) (vp_33 34) := by rw [← hv33]; exact h33
  have hR : PlanR vp_33 := by rw [← hv33]; exact ⟨hR.1, ⟨h33.2.1, h33.2.2⟩, hR.2.2.1, hR.2.2.2⟩
  have hu1 : vp_33 30 0 = 1 ∧ vp_33 33 0 = 0 ∧ vp_33 33 1 = 0 := by rw [← hv33]; exact hf33
  have hu0 : vp_33 20 0 = 1 ∧ vp_33 23 0 = 0 ∧ vp_33 23 1 = 0 := by rw [← hv33]; exact hu0
  refine lv_iinc (v := 2) (lv' := [(1, .int 2), (0, .ref (ap 0))]) hx hb dX1_clear_36 hl (k := 0) rfl (by decide) (by decide) rfl (fun ls hl => ?_)
  refine lv_goto (tgt := 22) hx hb dX1_clear_39 (by decide) ?_
  refine lv_iload_n hx hb dX1_clear_22 rfl (lv_at hl 0 rfl) ?_
  refine lv_iconst (v := 3) hx hb dX1_clear_23 (by decide) ?_
  refine lv_icmp_ge (tgt := 42) hx hb dX1_clear_24 (by decide) (fun q => absurd q (by decide)) (fun _ => ?_)
  refine lv_aload_n hx hb dX1_clear_27 rfl (lv_at hl 1 rfl) ?_
  refine va_get (D := eD E) (ci := 1) (v := .ref (ap 6)) (C := RX1) (T := TX1) (N := 11) hx hb hts in_X1 hown hK hP 0 rfl rfl 6 (by decide) lk4 (fun _ h9 => h9) rfl dX1_clear_28 ?_
  refine lv_iload_n hx hb dX1_clear_31 rfl (lv_at hl 0 rfl) ?_
  refine va_aldq hx hb hK hP 3 2 rfl rfl (i_in (by decide) (by decide)) dX1_clear_32 ?_
  refine W.eq (g2 := F0 m 33 ls [.ref (ap 40)]) rfl ?_
  refine mt_Vv (w1 := fun (u : Int32 × Int32 × Int32 × (Nat → Int32) × (Nat → Int32)) => moonL E (ap 40) (ap 43) (ap 44) u.1 u.2.1 u.2.2.1 u.2.2.2.1 u.2.2.2.2) (wf := fun (u : Int32 × Int32 × Int32 × (Nat → Int32) × (Nat → Int32)) => planL E ap (up3 (up3 (up2 (up2 (up2 vp_33 40 0 u.1) 41 0 u.2.1) 42 0 u.2.2.1) 43 u.2.2.2.1) 44 u.2.2.2.2)) (wr := [((ap 0), .inr (1, [.int (vp_33 0 0), .int (vp_33 1 0), .int (vp_33 2 0), .ref (ap 3), .ref (ap 4), .int (vp_33 5 0), .ref (ap 6), .ref (ap 7), .ref (ap 8), .ref (ap 9), .ref (ap 10)])), ((ap 3), .inl (eI E, 24, .inl (vp_33 3))), ((ap 4), .inl (eI E, 24, .inl (vp_33 4))), ((ap 6), .inl (eM E, 3, .inr (.inr (.inr (.inr (fun i => some (ap (20 + 10 * i)))))))), ((ap 20), .inr (0, [.int (vp_33 20 0), .int (vp_33 21 0), .int (vp_33 22 0), .ref (ap 23), .ref (ap 24)])), ((ap 23), .inl (eI E, 18, .inl (vp_33 23))), ((ap 24), .inl (eI E, 24, .inl (vp_33 24))), ((ap 30), .inr (0, [.int (vp_33 30 0), .int (vp_33 31 0), .int (vp_33 32 0), .ref (ap 33), .ref (ap 34)])), ((ap 33), .inl (eI E, 18, .inl (vp_33 33))), ((ap 34), .inl (eI E, 24, .inl (vp_33 34))), ((ap 7), .inr (5, [.int (vp_33 60 0), .ref (ap 61), .ref (ap 62), .ref (ap 63)])), ((ap 61), .inl (eI E, 6, .inl (vp_33 61))), ((ap 62), .inl (eI E, 6, .inl (vp_33 62))), ((ap 63), .inl (eI E, 6, .inl (vp_33 63))), ((ap 8), .inr (5, [.int (vp_33 70 0), .ref (ap 71), .ref (ap 72), .ref (ap 73)])), ((ap 71), .inl (eI E, 6, .inl (vp_33 71))), ((ap 72), .inl (eI E, 6, .inl (vp_33 72))), ((ap 73), .inl (eI E, 6, .inl (vp_33 73))), ((ap 9), .inr (5, [.int (vp_33 80 0), .ref (ap 81), .ref (ap 82), .ref (ap 83)])), ((ap 81), .inl (eI E, 6, .inl (vp_33 81))), ((ap 82), .inl (eI E, 6, .inl (vp_33 82))), ((ap 83), .inl (eI E, 6, .inl (vp_33 83))), ((ap 10), .inr (5, [.int (vp_33 90 0), .ref (ap 91), .ref (ap 92), .ref (ap 93)])), ((ap 91), .inl (eI E, 6, .inl (vp_33 91))), ((ap 92), .inl (eI E, 6, .inl (vp_33 92))), ((ap 93), .inl (eI E, 6, .inl (vp_33 93)))]) (As := []) (rest := []) (C := RX0) (ci := 0) ⟨hx, hb, hml, hown, hts⟩ (c_X0_clear l E H.size (ap 40) (ap 43) (ap 44) (vp_33 40 0) (vp_33 41 0) (vp_33 42 0) (vp_33 43) (vp_33 44) hR.2.2.1.1 hR.2.2.1.2) (cwV 0 hts gX1_clear_X0_clear rfl rfl rfl (by decide +kernel) ⟨Nat.le_of_ble_eq_true rfl, Nat.le_of_ble_eq_true rfl⟩) hE hS hA hP hD [10, 11, 12] [0, 1, 2, 3, 4, 5, 6, 7, 8, 9, 13, 14, 15, 16, 17, 18, 19, 20, 21, 22, 23, 24, 25, 26, 27, 28] rfl rfl (by decide) (by decide) (by decide) [0, 1, 2, 3, 4, 5, 6, 7, 8, 9, 26, 27, 28, 10, 11, 12, 13, 14, 15, 16, 17, 18, 19, 20, 21, 22, 23, 24, 25] (by decide) (fun u => rfl) rfl rfl rfl rfl hl.1 rfl (Nat.le_of_ble_eq_true rfl) dX1_clear_33 ⟨Nat.zero_le _, Nat.zero_le _⟩ (fun u33 H locs h33 hP hD hS => ?_)
  obtain ⟨o33_m0, o33_m1, o33_m2, o33_mr, o33_ma⟩ := u33
  try dsimp only at h33
  have hf33 := h33.2
  replace h33 := h33.1
  replace hP : va_P (eD E) vwCl (planL E ap (up3 (up3 (up2 (up2 (up2 vp_33 40 0 o33_m0) 41 0 o33_m1) 42 0 o33_m2) 43 o33_mr) 44 o33_ma)) H := hP
  replace hD : va_D A (planL E ap (up3 (up3 (up2 (up2 (up2 vp_33 40 0 o33_m0) 41 0 o33_m1) 42 0 o33_m2) 43 o33_mr) 44 o33_ma)) := hD
  generalize hv33 : up3 (up3 (up2 (up2 (up2 vp_33 40 0 o33_m0) 41 0 o33_m1) 42 0 o33_m2) 43 o33_mr) 44 o33_ma = vp_33 at hP hD
  have hz : vp_33 0 0 = 0 ∧ vp_33 1 0 = 0 ∧ vp_33 2 0 = 0 ∧ vp_33 5 0 = 0 := by rw [← hv33]; exact hz
  have hm0 : moonI (vp_33 20 0) (vp_33 23) (vp_33 24) := by rw [← hv33]; exact hm0
  have hm1 : moonI (vp_33 30 0) (vp_33 33) (vp_33 34) := by rw [← hv33]; exact hm1
  have hm2 : moonI (vp_33 40 0) (vp_33 43) (vp_33 44) := by rw [← hv33]; exact h33
  have hR : PlanR vp_33 := by rw [← hv33]; exact ⟨hR.1, hR.2.1, ⟨h33.2.1, h33.2.2⟩, hR.2.2.2⟩
  have hu2 : vp_33 40 0 = 1 ∧ vp_33 43 0 = 0 ∧ vp_33 43 1 = 0 := by rw [← hv33]; exact hf33
  have hu0 : vp_33 20 0 = 1 ∧ vp_33 23 0 = 0 ∧ vp_33 23 1 = 0 := by rw [← hv33]; exact hu0
  have hu1 : vp_33 30 0 = 1 ∧ vp_33 33 0 = 0 ∧ vp_33 33 1 = 0 := by rw [← hv33]; exact hu1
  refine lv_iinc (v := 3) (lv' := [(1, .int 3), (0, .ref (ap 0))]) hx hb dX1_clear_36 hl (k := 0) rfl (by decide) (by decide) rfl (fun ls hl => ?_)
  refine lv_goto (tgt := 22) hx hb dX1_clear_39 (by decide) ?_
  refine lv_iload_n hx hb dX1_clear_22 rfl (lv_at hl 0 rfl) ?_
  refine lv_iconst (v := 3) hx hb dX1_clear_23 (by decide) ?_
  refine lv_icmp_ge (tgt := 42) hx hb dX1_clear_24 (by decide) (fun _ => ?_) (fun q => absurd q (by decide))
  refine lv_aload_n hx hb dX1_clear_42 rfl (lv_at hl 1 rfl) ?_
  refine va_get (D := eD E) (ci := 1) (v := .ref (ap 7)) (C := RX1) (T := TX1) (N := 11) hx hb hts in_X1 hown hK hP 0 rfl rfl 7 (by decide) lk5 (fun _ h9 => h9) rfl dX1_clear_43 ?_
  refine lv_iconst (v := 0) hx hb dX1_clear_46 (by decide) ?_
  refine va_put (D := eD E) (ci := 5) (v := .int 0) (ty := .int) (C := RX5) (T := TX5) (N := 4) hx hb hts in_X5 tyX5 tyX5_ok nmX5 hown hK hP hD hS 13 rfl rfl 0 (by decide) lk6 (fun _ h9 => h9) rfl (by decide +kernel) rfl rfl (Nat.le_of_ble_eq_true rfl) dX1_clear_47 (fun H locs hP hD hS => ?_)
  replace hP : va_P (eD E) vwCl (planL E ap (up2 vp_33 60 0 0)) H := hP
  replace hD : va_D A (planL E ap (up2 vp_33 60 0 0)) := hD
  generalize hv47 : up2 vp_33 60 0 0 = vp_47 at hP hD
  have hR : PlanR vp_47 := by rw [← hv47]; exact hR
  have hz : vp_47 0 0 = 0 ∧ vp_47 1 0 = 0 ∧ vp_47 2 0 = 0 ∧ vp_47 5 0 = 0 := by rw [← hv47]; exact hz
  have hm0 : moonI (vp_47 20 0) (vp_47 23) (vp_47 24) := by rw [← hv47]; exact hm0
  have hm1 : moonI (vp_47 30 0) (vp_47 33) (vp_47 34) := by rw [← hv47]; exact hm1
  have hm2 : moonI (vp_47 40 0) (vp_47 43) (vp_47 44) := by rw [← hv47]; exact hm2
  refine lv_aload_n hx hb dX1_clear_50 rfl (lv_at hl 1 rfl) ?_
  refine va_get (D := eD E) (ci := 1) (v := .ref (ap 8)) (C := RX1) (T := TX1) (N := 11) hx hb hts in_X1 hown hK hP 0 rfl rfl 8 (by decide) lk7 (fun _ h9 => h9) rfl dX1_clear_51 ?_
  refine lv_iconst (v := 0) hx hb dX1_clear_54 (by decide) ?_
  refine va_put (D := eD E) (ci := 5) (v := .int 0) (ty := .int) (C := RX5) (T := TX5) (N := 4) hx hb hts in_X5 tyX5 tyX5_ok nmX5 hown hK hP hD hS 17 rfl rfl 0 (by decide) lk6 (fun _ h9 => h9) rfl (by decide +kernel) rfl rfl (Nat.le_of_ble_eq_true rfl) dX1_clear_55 (fun H locs hP hD hS => ?_)
  replace hP : va_P (eD E) vwCl (planL E ap (up2 vp_47 70 0 0)) H := hP
  replace hD : va_D A (planL E ap (up2 vp_47 70 0 0)) := hD
  generalize hv55 : up2 vp_47 70 0 0 = vp_55 at hP hD
  have hR : PlanR vp_55 := by rw [← hv55]; exact hR
  have hz : vp_55 0 0 = 0 ∧ vp_55 1 0 = 0 ∧ vp_55 2 0 = 0 ∧ vp_55 5 0 = 0 := by rw [← hv55]; exact hz
  have hm0 : moonI (vp_55 20 0) (vp_55 23) (vp_55 24) := by rw [← hv55]; exact hm0
  have hm1 : moonI (vp_55 30 0) (vp_55 33) (vp_55 34) := by rw [← hv55]; exact hm1
  have hm2 : moonI (vp_55 40 0) (vp_55 43) (vp_55 44) := by rw [← hv55]; exact hm2
  refine lv_aload_n hx hb dX1_clear_58 rfl (lv_at hl 1 rfl) ?_
  refine va_get (D := eD E) (ci := 1) (v := .ref (ap 9)) (C := RX1) (T := TX1) (N := 11) hx hb hts in_X1 hown hK hP 0 rfl rfl 9 (by decide) lk8 (fun _ h9 => h9) rfl dX1_clear_59 ?_
  refine lv_iconst (v := 0) hx hb dX1_clear_62 (by decide) ?_
  refine va_put (D := eD E) (ci := 5) (v := .int 0) (ty := .int) (C := RX5) (T := TX5) (N := 4) hx hb hts in_X5 tyX5 tyX5_ok nmX5 hown hK hP hD hS 21 rfl rfl 0 (by decide) lk6 (fun _ h9 => h9) rfl (by decide +kernel) rfl rfl (Nat.le_of_ble_eq_true rfl) dX1_clear_63 (fun H locs hP hD hS => ?_)
  replace hP : va_P (eD E) vwCl (planL E ap (up2 vp_55 80 0 0)) H := hP
  replace hD : va_D A (planL E ap (up2 vp_55 80 0 0)) := hD
  generalize hv63 : up2 vp_55 80 0 0 = vp_63 at hP hD
  have hR : PlanR vp_63 := by rw [← hv63]; exact hR
  have hz : vp_63 0 0 = 0 ∧ vp_63 1 0 = 0 ∧ vp_63 2 0 = 0 ∧ vp_63 5 0 = 0 := by rw [← hv63]; exact hz
  have hm0 : moonI (vp_63 20 0) (vp_63 23) (vp_63 24) := by rw [← hv63]; exact hm0
  have hm1 : moonI (vp_63 30 0) (vp_63 33) (vp_63 34) := by rw [← hv63]; exact hm1
  have hm2 : moonI (vp_63 40 0) (vp_63 43) (vp_63 44) := by rw [← hv63]; exact hm2
  refine lv_aload_n hx hb dX1_clear_66 rfl (lv_at hl 1 rfl) ?_
  refine va_get (D := eD E) (ci := 1) (v := .ref (ap 10)) (C := RX1) (T := TX1) (N := 11) hx hb hts in_X1 hown hK hP 0 rfl rfl 10 (by decide) lk9 (fun _ h9 => h9) rfl dX1_clear_67 ?_
  refine lv_iconst (v := 0) hx hb dX1_clear_70 (by decide) ?_
  refine va_put (D := eD E) (ci := 5) (v := .int 0) (ty := .int) (C := RX5) (T := TX5) (N := 4) hx hb hts in_X5 tyX5 tyX5_ok nmX5 hown hK hP hD hS 25 rfl rfl 0 (by decide) lk6 (fun _ h9 => h9) rfl (by decide +kernel) rfl rfl (Nat.le_of_ble_eq_true rfl) dX1_clear_71 (fun H locs hP hD hS => ?_)
  replace hP : va_P (eD E) vwCl (planL E ap (up2 vp_63 90 0 0)) H := hP
  replace hD : va_D A (planL E ap (up2 vp_63 90 0 0)) := hD
  generalize hv71 : up2 vp_63 90 0 0 = vp_71 at hP hD
  have hR : PlanR vp_71 := by rw [← hv71]; exact hR
  have hz : vp_71 0 0 = 0 ∧ vp_71 1 0 = 0 ∧ vp_71 2 0 = 0 ∧ vp_71 5 0 = 0 := by rw [← hv71]; exact hz
  have hm0 : moonI (vp_71 20 0) (vp_71 23) (vp_71 24) := by rw [← hv71]; exact hm0
  have hm1 : moonI (vp_71 30 0) (vp_71 33) (vp_71 34) := by rw [← hv71]; exact hm1
  have hm2 : moonI (vp_71 40 0) (vp_71 43) (vp_71 44) := by rw [← hv71]; exact hm2
  subst hQ
  exact W.vret hx hb hr (fun t ht hW => ⟨⟨(vp_71), rfl, (show (PlanI vp_71 ∧ vp_71 0 0 = 0 ∧ vp_71 2 0 = 0) ∧ ((vp_71 1 0 = 0 ∧ vp_71 5 0 = 0 ∧ vp_71 60 0 = 0 ∧ vp_71 70 0 = 0 ∧ vp_71 80 0 = 0 ∧ vp_71 90 0 = 0) ∧ (vp_71 20 0 = 1 ∧ vp_71 23 0 = 0 ∧ vp_71 23 1 = 0) ∧ (vp_71 30 0 = 1 ∧ vp_71 33 0 = 0 ∧ vp_71 33 1 = 0) ∧ (vp_71 40 0 = 1 ∧ vp_71 43 0 = 0 ∧ vp_71 43 1 = 0)) from ⟨(pl_clear hR hm0 hm1 hm2 hz (by rw [← hv71, ← hv63, ← hv55, ← hv47]; exact ⟨rfl, rfl, rfl, rfl⟩)), ⟨⟨hz.2.1, hz.2.2.2, (by rw [← hv71, ← hv63, ← hv55, ← hv47]; rfl), (by rw [← hv71, ← hv63, ← hv55, ← hv47]; rfl), (by rw [← hv71, ← hv63, ← hv55, ← hv47]; rfl), (by rw [← hv71, ← hv63, ← hv55, ← hv47]; rfl)⟩, (by rw [← hv71, ← hv63, ← hv55, ← hv47]; exact hu0), (by rw [← hv71, ← hv63, ← hv55, ← hv47]; exact hu1), (by rw [← hv71, ← hv63, ← hv55, ← hv47]; exact hu2)⟩⟩), by rw [ht]; exact hP, hD⟩, hS.F ht⟩) hS.2.2 dX1_clear_74
end
