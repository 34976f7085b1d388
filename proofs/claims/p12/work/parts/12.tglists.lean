section
def TgI (v : Vf) : Prop := (0 ≤ (v 1 0).toInt ∧ (v 1 0).toInt ≤ 250) ∧ (0 ≤ (v 12 0).toInt ∧ (v 12 0).toInt ≤ 30)
abbrev tgsL (E : Ev) (a : Nat → Nat) (v : Vf) (aq ap : Nat → Nat) (vp : Vf) (b : Nat → Nat) (u : Vf) : va_W := [((a 99), .inr (9, [.ref (a 0), .int (v 1 0), .int (v 2 0), .ref (a 3), .ref (aq 0), .ref (a 5), .ref (b 0), .ref (a 7), .ref (a 8), .ref (a 9), .ref (a 10), .ref (a 11), .int (v 12 0)])), ((a 11), .inl (eI E, 30, .inl (v 11))), ((a 8), .inr (3, [.ref (a 5), .ref (a 201), .ref (a 202), .ref (a 203)])), ((a 203), .inl (eI E, 960, .inl (v 203))), ((a 10), .inr (4, [.ref (a 5), .int (v 401 0), .ref (a 402), .ref (a 403), .ref (a 404), .ref (a 405), .int (v 406 0), .ref (a 407), .int (v 408 0), .int (v 409 0), .int (v 410 0)])), ((a 5), .inr (8, [.ref (ap 0), .ref (b 0)])), ((ap 0), .inr (1, [.int (vp 0 0), .int (vp 1 0), .int (vp 2 0), .ref (ap 3), .ref (ap 4), .int (vp 5 0), .ref (ap 6), .ref (ap 7), .ref (ap 8), .ref (ap 9), .ref (ap 10)])), ((ap 3), .inl (eI E, 24, .inl (vp 3))), ((ap 4), .inl (eI E, 24, .inl (vp 4))), ((ap 6), .inl (eM E, 3, .inr (.inr (.inr (.inr (fun i => some (ap (20 + 10 * i)))))))), ((ap 20), .inr (0, [.int (vp 20 0), .int (vp 21 0), .int (vp 22 0), .ref (ap 23), .ref (ap 24)])), ((ap 23), .inl (eI E, 18, .inl (vp 23))), ((ap 24), .inl (eI E, 24, .inl (vp 24))), ((ap 30), .inr (0, [.int (vp 30 0), .int (vp 31 0), .int (vp 32 0), .ref (ap 33), .ref (ap 34)])), ((ap 33), .inl (eI E, 18, .inl (vp 33))), ((ap 34), .inl (eI E, 24, .inl (vp 34))), ((ap 40), .inr (0, [.int (vp 40 0), .int (vp 41 0), .int (vp 42 0), .ref (ap 43), .ref (ap 44)])), ((ap 43), .inl (eI E, 18, .inl (vp 43))), ((ap 44), .inl (eI E, 24, .inl (vp 44))), ((ap 7), .inr (5, [.int (vp 60 0), .ref (ap 61), .ref (ap 62), .ref (ap 63)])), ((ap 61), .inl (eI E, 6, .inl (vp 61))), ((ap 62), .inl (eI E, 6, .inl (vp 62))), ((ap 63), .inl (eI E, 6, .inl (vp 63))), ((ap 8), .inr (5, [.int (vp 70 0), .ref (ap 71), .ref (ap 72), .ref (ap 73)])), ((ap 71), .inl (eI E, 6, .inl (vp 71))), ((ap 72), .inl (eI E, 6, .inl (vp 72))), ((ap 73), .inl (eI E, 6, .inl (vp 73))), ((ap 9), .inr (5, [.int (vp 80 0), .ref (ap 81), .ref (ap 82), .ref (ap 83)])), ((ap 81), .inl (eI E, 6, .inl (vp 81))), ((ap 82), .inl (eI E, 6, .inl (vp 82))), ((ap 83), .inl (eI E, 6, .inl (vp 83))), ((ap 10), .inr (5, [.int (vp 90 0), .ref (ap 91), .ref (ap 92), .ref (ap 93)])), ((ap 91), .inl (eI E, 6, .inl (vp 91))), ((ap 92), .inl (eI E, 6, .inl (vp 92))), ((ap 93), .inl (eI E, 6, .inl (vp 93))), ((b 0), .inr (6, [.int (u 0 0), .ref (b 1), .ref (b 2), .ref (b 3), .int (u 4 0), .int (u 5 0), .int (u 6 0), .int (u 7 0), .int (u 8 0)])), ((b 1), .inl (eI E, 3, .inl (u 1))), ((b 2), .inl (eI E, 24, .inl (u 2))), ((b 3), .inl (eI E, 6, .inl (u 3)))]
abbrev rpL (E : Ev) (a : Nat → Nat) (v : Vf) (ap : Nat → Nat) (vp : Vf) (b : Nat → Nat) (u : Vf) : va_W := [((a 8), .inr (3, [.ref (a 5), .ref (a 201), .ref (a 202), .ref (a 203)])), ((a 203), .inl (eI E, 960, .inl (v 203))), ((a 5), .inr (8, [.ref (ap 0), .ref (b 0)])), ((ap 0), .inr (1, [.int (vp 0 0), .int (vp 1 0), .int (vp 2 0), .ref (ap 3), .ref (ap 4), .int (vp 5 0), .ref (ap 6), .ref (ap 7), .ref (ap 8), .ref (ap 9), .ref (ap 10)])), ((ap 3), .inl (eI E, 24, .inl (vp 3))), ((ap 4), .inl (eI E, 24, .inl (vp 4))), ((ap 6), .inl (eM E, 3, .inr (.inr (.inr (.inr (fun i => some (ap (20 + 10 * i)))))))), ((ap 20), .inr (0, [.int (vp 20 0), .int (vp 21 0), .int (vp 22 0), .ref (ap 23), .ref (ap 24)])), ((ap 23), .inl (eI E, 18, .inl (vp 23))), ((ap 24), .inl (eI E, 24, .inl (vp 24))), ((ap 30), .inr (0, [.int (vp 30 0), .int (vp 31 0), .int (vp 32 0), .ref (ap 33), .ref (ap 34)])), ((ap 33), .inl (eI E, 18, .inl (vp 33))), ((ap 34), .inl (eI E, 24, .inl (vp 34))), ((ap 40), .inr (0, [.int (vp 40 0), .int (vp 41 0), .int (vp 42 0), .ref (ap 43), .ref (ap 44)])), ((ap 43), .inl (eI E, 18, .inl (vp 43))), ((ap 44), .inl (eI E, 24, .inl (vp 44))), ((ap 7), .inr (5, [.int (vp 60 0), .ref (ap 61), .ref (ap 62), .ref (ap 63)])), ((ap 61), .inl (eI E, 6, .inl (vp 61))), ((ap 62), .inl (eI E, 6, .inl (vp 62))), ((ap 63), .inl (eI E, 6, .inl (vp 63))), ((ap 8), .inr (5, [.int (vp 70 0), .ref (ap 71), .ref (ap 72), .ref (ap 73)])), ((ap 71), .inl (eI E, 6, .inl (vp 71))), ((ap 72), .inl (eI E, 6, .inl (vp 72))), ((ap 73), .inl (eI E, 6, .inl (vp 73))), ((ap 9), .inr (5, [.int (vp 80 0), .ref (ap 81), .ref (ap 82), .ref (ap 83)])), ((ap 81), .inl (eI E, 6, .inl (vp 81))), ((ap 82), .inl (eI E, 6, .inl (vp 82))), ((ap 83), .inl (eI E, 6, .inl (vp 83))), ((ap 10), .inr (5, [.int (vp 90 0), .ref (ap 91), .ref (ap 92), .ref (ap 93)])), ((ap 91), .inl (eI E, 6, .inl (vp 91))), ((ap 92), .inl (eI E, 6, .inl (vp 92))), ((ap 93), .inl (eI E, 6, .inl (vp 93))), ((b 0), .inr (6, [.int (u 0 0), .ref (b 1), .ref (b 2), .ref (b 3), .int (u 4 0), .int (u 5 0), .int (u 6 0), .int (u 7 0), .int (u 8 0)])), ((b 1), .inl (eI E, 3, .inl (u 1))), ((b 2), .inl (eI E, 24, .inl (u 2))), ((b 3), .inl (eI E, 6, .inl (u 3)))]
end
section
def rm_X3_reachedNext : Room := { frames := 4, cells := 0, slots := 0, locals := 96 }
set_option maxHeartbeats 4000000 in
set_option maxRecDepth 100000 in
theorem c_X3_reachedNext (l : Launch) (E : Ev) (A : Nat → Prop) (a : Nat → Nat) (v : Vf) (ap : Nat → Nat) (vp : Vf) (as_ : Nat → Nat) (vs : Vf) (set : Int32) (step : Int32) (hI : PlanI vp) (hJ : StateI vs) (hstep : 0 ≤ step.toInt ∧ step.toInt ≤ 2000000) : Met l yX3_reachedNext wsX3_reachedNext rm_X3_reachedNext (RdP E A [.ref (a 8), .int set, .int step] (rpL E a v ap vp as_ vs)) (vp_Si (fun r => (True) ∧ (∀ vm : Vf, RW vm vp vs → (-1 : Int32) = vm 62 0 → r = mRe vm set step))) 0 0 (fun _ => False) := by
  refine Met.ofW (cc := cX3_reachedNext) (maxL := 7) (ret := (some .int)) (by decide) rfl ?_
  intro p e s m args below meth c s₁ B hml hv
  obtain ⟨rfl, hE, hP⟩ := hv
  have hx := B.exec
  have hb := B.bytes
  have hr := B.returns
  have hts := atoms_spec (ws := wsX3_reachedNext) B.pre
  have hown : s.vm.findClass RX3 = some m.cls := findClass_of_methodNamed B.named
  have hlocks := B.notSynchronized
  have hK := hE.1
  have in_X3 : ∀ w ∈ u_ws RX3 TX3 4, w ∈ wsX3_reachedNext := fun w h => List.mem_cons_of_mem _ (List.mem_append_left _ (List.mem_append_left _ (List.mem_append_left _ (List.mem_append_left _ (List.mem_append_left _ (List.mem_append_right _ h))))))
  have in_X8 : ∀ w ∈ u_ws RX8 TX8 2, w ∈ wsX3_reachedNext := fun w h => List.mem_cons_of_mem _ (List.mem_append_left _ (List.mem_append_left _ (List.mem_append_left _ (List.mem_append_left _ (List.mem_append_right _ h)))))
  have in_X1 : ∀ w ∈ u_ws RX1 TX1 11, w ∈ wsX3_reachedNext := fun w h => List.mem_cons_of_mem _ (List.mem_append_left _ (List.mem_append_left _ (List.mem_append_left _ (List.mem_append_right _ h))))
  have lk0 := hts (.fieldLink RX3 21 "TidedGround$Routes" "world" "LTidedGround$World;") (List.mem_of_getElem? (i := 1) rfl)
  have lk1 := hts (.fieldLink RX3 29 "TidedGround$World" "plan" "LTidedGround$Plan;") (List.mem_of_getElem? (i := 2) rfl)
  have lk2 := hts (.fieldLink RX3 35 "TidedGround$Plan" "cells" "I") (List.mem_of_getElem? (i := 3) rfl)
  have n_m1 : ((-1) : Int32).toInt = -1 := by decide
  have n_0 : (0 : Int32).toInt = 0 := by decide
  have n_1 : (1 : Int32).toInt = 1 := by decide
  have n_5 : (5 : Int32).toInt = 5 := by decide
  have hl := lv_entry ([.ref (a 8), .int set, .int step]) (n := 7) (Nat.le_of_ble_eq_true rfl)
  rw [lg_entry_eq]
  generalize (lg_sl ([.ref (a 8), .int set, .int step]) ++ List.replicate (7 - (lg_sl ([.ref (a 8), .int set, .int step])).length) Slot.unset).toArray = ls at hl ⊢
  have hl : lv_has ls 7 [(0, .ref (a 8)), (1, .int set), (2, .int step)] := hl
  refine W_abs (fun Q hQ => ?_)
  obtain ⟨hg, hmc, hm0, hm1, hm2, hs0, hs1, hs2, hs3⟩ := id hI
  obtain ⟨hg1, hg2, hg3, hg4⟩ := id hg
  have hz0 := hm0.1
  have hz1 := hm1.1
  have hz2 := hm2.1
  have hc0 := hs0.1
  have hc1 := hs1.1
  have hc2 := hs2.1
  have hc3 := hs3.1
  obtain ⟨hj0, hj1, hj2⟩ := id hJ
  have hnn := Int.mul_nonneg hg1.1 hg2.1
  refine lv_iload_n hx hb dX3_reachedNext_0 rfl (lv_at hl 1 rfl) ?_
  refine lv_istore_n (lv' := [(3, .int set), (0, .ref (a 8)), (1, .int set), (2, .int step)]) hx hb dX3_reachedNext_1 rfl hl (by decide) rfl (fun ls hl => ?_)
  refine lv_iconst (v := 0) hx hb dX3_reachedNext_2 (by decide) ?_
  refine lv_istore (lv' := [(4, .int 0), (3, .int set), (0, .ref (a 8)), (1, .int set), (2, .int step)]) hx hb dX3_reachedNext_3 hl (by decide) rfl (fun ls hl => ?_)
  have K5 : ∀ (μ : Nat) (nx : Int32) (k : Int32) (ls : Array Slot), (24 - k.toInt).toNat < μ → (0 ≤ k.toInt ∧ k.toInt ≤ 24) → (∀ vm : Vf, RW vm vp vs → (-1 : Int32) = vm 62 0 → nx = mReN vm set step k.toNatClampNeg) → (k.toInt ≤ (vp 2 0).toInt) → lv_has ls 7 [(0, .ref (a 8)), (1, .int set), (2, .int step), (3, .int nx), (4, .int k)] → W p l e (headSpec wsX3_reachedNext rm_X3_reachedNext).room s m ([.ref (a 8), .int set, .int step] : List Value).toArray below meth c s.heap [] 0 0 Q (F0 m 5 ls []) := by
    intro μ
    induction μ with
    | zero =>
      intro nx k ls hμ5
      exact absurd hμ5 (Nat.not_lt_zero _)
    | succ μ ih5 =>
      intro nx k ls hμ5 h5_0 h5_1 h5_2 hl
      have hx5_0 := h5_1
      clear h5_1
      have hx5_1 := h5_2
      clear h5_2
      refine lv_iload hx hb dX3_reachedNext_5 (lv_at hl 4 rfl) ?_
      refine lv_aload_n hx hb dX3_reachedNext_7 rfl (lv_at hl 0 rfl) ?_
      refine va_get (D := eD E) (ci := 3) (v := .ref (a 5)) (C := RX3) (T := TX3) (N := 4) hx hb hts in_X3 hown hK hP 0 rfl rfl 0 (by decide) lk0 (fun _ h9 => h9) rfl dX3_reachedNext_8 ?_
      refine va_get (D := eD E) (ci := 8) (v := .ref (ap 0)) (C := RX8) (T := TX8) (N := 2) hx hb hts in_X8 hown hK hP 2 rfl rfl 0 (by decide) lk1 (fun _ h9 => h9) rfl dX3_reachedNext_11 ?_
      refine va_get (D := eD E) (ci := 1) (v := .int (vp 2 0)) (C := RX1) (T := TX1) (N := 11) hx hb hts in_X1 hown hK hP 3 rfl rfl 2 (by decide) lk2 (fun _ h9 => h9) rfl dX3_reachedNext_14 ?_
      refine lv_icmp_ge (tgt := 89) hx hb dX3_reachedNext_17 (by decide) (fun c17 => ?_) (fun c17 => ?_)
      · have c17_ := i_le c17
        refine lv_iload_n hx hb dX3_reachedNext_89 rfl (lv_at hl 3 rfl) ?_
        subst hQ
        exact W.iret (v := nx) hx hb hr (fun t ht hW => ⟨nx, rfl, ⟨trivial, (fun vm hR hg => by have ek : k.toNatClampNeg = ((vm 0 0).toInt * (vm 1 0).toInt).toNat := (by rw [← hR.1.1.1, ← hR.1.1.2.1]; show k.toInt.toNat = _; omega); show nx = mReN vm set step ((vm 0 0).toInt * (vm 1 0).toInt).toNat; rw [← ek]; exact hx5_0 vm hR hg)⟩, ht⟩) (fun q h => absurd h List.not_mem_nil) dX3_reachedNext_90
      · have c17_ := i_nle c17
        refine lv_iconst (v := 1) hx hb dX3_reachedNext_20 (by decide) ?_
        refine lv_istore (lv' := [(5, .int 1), (0, .ref (a 8)), (1, .int set), (2, .int step), (3, .int nx), (4, .int k)]) hx hb dX3_reachedNext_21 hl (by decide) rfl (fun ls hl => ?_)
        have K23 : ∀ (μ : Nat) (ny : Int32) (way : Int32) (ls : Array Slot), (5 - way.toInt).toNat < μ → (0 ≤ way.toInt ∧ way.toInt ≤ 5) → (∀ vm : Vf, RW vm vp vs → (-1 : Int32) = vm 62 0 → RwP vm set k step way.toInt ny) → (1 ≤ way.toInt) → lv_has ls 7 [(0, .ref (a 8)), (1, .int set), (2, .int step), (3, .int ny), (4, .int k), (5, .int way)] → W p l e (headSpec wsX3_reachedNext rm_X3_reachedNext).room s m ([.ref (a 8), .int set, .int step] : List Value).toArray below meth c s.heap [] 0 0 Q (F0 m 23 ls []) := by
          intro μ
          induction μ with
          | zero =>
            intro ny way ls hμ23
            exact absurd hμ23 (Nat.not_lt_zero _)
          | succ μ ih23 =>
            intro ny way ls hμ23 h23_0 h23_1 h23_2 hl
            have hx23_0 := h23_1
            clear h23_1
            have hx23_1 := h23_2
            clear h23_2
            refine lv_iload hx hb dX3_reachedNext_23 (lv_at hl 5 rfl) ?_
            refine lv_iconst (v := 5) hx hb dX3_reachedNext_25 (by decide) ?_
            refine lv_icmp_ge (tgt := 83) hx hb dX3_reachedNext_26 (by decide) (fun c26 => ?_) (fun c26 => ?_)
            · have c26_ := i_le c26
              have hw26 : way.toInt = 5 := by omega
              obtain ⟨x83, e83⟩ : ∃ y : Int32, y = k + 1 := ⟨_, rfl⟩
              refine lv_iinc (v := x83) (lv' := [(4, .int x83), (0, .ref (a 8)), (1, .int set), (2, .int step), (3, .int ny), (5, .int way)]) hx hb dX3_reachedNext_83 hl (k := 4) rfl (by rw [e83]; rfl) (by decide) rfl (fun ls hl => ?_)
              have t83 := i_add e83 (by omega)
              refine lv_goto (tgt := 5) hx hb dX3_reachedNext_86 (by decide) ?_
              exact ih5 ny x83 ls (by omega) (by omega) (fun vm hR hg => rwp_out (hx23_0 vm hR hg) (by omega) t83 (by first | exact Or.inl hw26 | exact Or.inr hn35)) (by omega) (lv_sub hl [1, 2, 3, 4, 0] rfl)
            · have c26_ := i_nle c26
              refine lv_iload_n hx hb dX3_reachedNext_29 rfl (lv_at hl 1 rfl) ?_
              refine lv_iload hx hb dX3_reachedNext_30 (lv_at hl 4 rfl) ?_
              refine lv_ishr hx hb dX3_reachedNext_32 ?_
              refine lv_topi (fun x32 e32 => ?_)
              refine lv_iconst (v := 1) hx hb dX3_reachedNext_33 (by decide) ?_
              refine lv_iand hx hb dX3_reachedNext_34 ?_
              refine lv_topi (fun x34 e34 => ?_)
              refine lv_if_eq (tgt := 83) hx hb dX3_reachedNext_35 (by decide) (fun c35 => ?_) (fun c35 => ?_)
              · have c35_ := i_eq c35
                have hn35 : ¬ hasB set k := by unfold hasB; rw [← e32, ← e34]; exact fun q => q c35
                obtain ⟨x83, e83⟩ : ∃ y : Int32, y = k + 1 := ⟨_, rfl⟩
                refine lv_iinc (v := x83) (lv' := [(4, .int x83), (0, .ref (a 8)), (1, .int set), (2, .int step), (3, .int ny), (5, .int way)]) hx hb dX3_reachedNext_83 hl (k := 4) rfl (by rw [e83]; rfl) (by decide) rfl (fun ls hl => ?_)
                have t83 := i_add e83 (by omega)
                refine lv_goto (tgt := 5) hx hb dX3_reachedNext_86 (by decide) ?_
                exact ih5 ny x83 ls (by omega) (by omega) (fun vm hR hg => rwp_out (hx23_0 vm hR hg) (by omega) t83 (by first | exact Or.inl hw26 | exact Or.inr hn35)) (by omega) (lv_sub hl [1, 2, 3, 4, 0] rfl)
              · have c35_ := i_ne c35
                have hy35 : hasB set k := by unfold hasB; rw [← e32, ← e34]; exact c35
                refine lv_aload_n hx hb dX3_reachedNext_38 rfl (lv_at hl 0 rfl) ?_
                refine va_get (D := eD E) (ci := 3) (v := .ref (a 5)) (C := RX3) (T := TX3) (N := 4) hx hb hts in_X3 hown hK hP 0 rfl rfl 0 (by decide) lk0 (fun _ h9 => h9) rfl dX3_reachedNext_39 ?_
                refine va_get (D := eD E) (ci := 8) (v := .ref (ap 0)) (C := RX8) (T := TX8) (N := 2) hx hb hts in_X8 hown hK hP 2 rfl rfl 0 (by decide) lk1 (fun _ h9 => h9) rfl dX3_reachedNext_42 ?_
                refine lv_iload hx hb dX3_reachedNext_45 (lv_at hl 4 rfl) ?_
                refine lv_iload hx hb dX3_reachedNext_47 (lv_at hl 5 rfl) ?_
                refine rd_V (As := [.int k, .int way]) (rest := []) (C := RX1) (ci := 1) ⟨hx, hb, hml, hown, hts⟩ (c_X1_beside l E A ap vp k way hI (by omega)) (cwV 2 hts gX3_reachedNext_X1_beside rfl rfl rfl (by decide +kernel) ⟨Nat.le_of_ble_eq_true rfl, Nat.le_of_ble_eq_true rfl⟩) hE (hP.sub (ws' := planL E ap vp) [3, 4, 5, 6, 7, 8, 9, 10, 11, 12, 13, 14, 15, 16, 17, 18, 19, 20, 21, 22, 23, 24, 25, 26, 27, 28, 29, 30, 31] rfl) rfl rfl rfl rfl hl.1 rfl (Nat.le_of_ble_eq_true rfl) dX3_reachedNext_49 ⟨Nat.zero_le _, Nat.zero_le _⟩ (fun r49 h49 => ?_)
                have hf49 := h49.2
                replace h49 := h49.1
                refine lv_istore (lv' := [(6, .int r49), (0, .ref (a 8)), (1, .int set), (2, .int step), (3, .int ny), (4, .int k), (5, .int way)]) hx hb dX3_reachedNext_52 hl (by decide) rfl (fun ls hl => ?_)
                refine lv_aload_n hx hb dX3_reachedNext_54 rfl (lv_at hl 1 rfl) ?_
                refine va_get (D := eD E) (ci := 3) (v := .ref (a 5)) (C := RX3) (T := TX3) (N := 4) hx hb hts in_X3 hown hK hP 0 rfl rfl 0 (by decide) lk0 (fun _ h9 => h9) rfl dX3_reachedNext_55 ?_
                refine lv_iload hx hb dX3_reachedNext_58 (lv_at hl 5 rfl) ?_
                refine lv_iload hx hb dX3_reachedNext_60 (lv_at hl 0 rfl) ?_
                refine lv_iload_n hx hb dX3_reachedNext_62 rfl (lv_at hl 3 rfl) ?_
                refine rd_V (As := [.int k, .int r49, .int step]) (rest := []) (C := RX8) (ci := 8) ⟨hx, hb, hml, hown, hts⟩ (c_X8_pushTo l E A (a 5) ap vp as_ vs k r49 step hI hJ (by omega) (by omega) (by omega)) (cwV 3 hts gX3_reachedNext_X8_pushTo rfl rfl rfl (by decide +kernel) ⟨Nat.le_of_ble_eq_true rfl, Nat.le_of_ble_eq_true rfl⟩) hE (hP.sub (ws' := wpsL E (a 5) ap vp as_ vs) [2, 3, 4, 5, 6, 7, 8, 9, 10, 11, 12, 13, 14, 15, 16, 17, 18, 19, 20, 21, 22, 23, 24, 25, 26, 27, 28, 29, 30, 31, 32, 33, 34, 35] rfl) rfl rfl rfl rfl hl.1 rfl (Nat.le_of_ble_eq_true rfl) dX3_reachedNext_63 ⟨Nat.zero_le _, Nat.zero_le _⟩ (fun r63 h63 => ?_)
                have hf63 := h63.2
                replace h63 := h63.1
                refine lv_iconst (v := (-1)) hx hb dX3_reachedNext_66 (by decide) ?_
                refine lv_icmp_eq (tgt := 77) hx hb dX3_reachedNext_67 (by decide) (fun c67 => ?_) (fun c67 => ?_)
                · have c67_ := i_eq c67
                  clear h63
                  have hp67 : r63.toInt = -1 := by omega
                  obtain ⟨x77, e77⟩ : ∃ y : Int32, y = way + 1 := ⟨_, rfl⟩
                  refine lv_iinc (v := x77) (lv' := [(5, .int x77), (6, .int r49), (0, .ref (a 8)), (1, .int set), (2, .int step), (3, .int ny), (4, .int k)]) hx hb dX3_reachedNext_77 hl (k := 6) rfl (by rw [e77]; rfl) (by decide) rfl (fun ls hl => ?_)
                  have t77 := i_add e77 (by omega)
                  refine lv_goto (tgt := 23) hx hb dX3_reachedNext_80 (by decide) ?_
                  exact ih23 ny x77 ls (by omega) (by omega) (fun vm hR hg => by have hkc : cW vm k := ⟨by omega, by rw [← hR.1.1.1, ← hR.1.1.2.1]; omega⟩; have hG := hR.2.2.2.1.1; have hW : 1 ≤ (vm 0 0).toInt := wd_pos hG.1.1 (show 1 ≤ (vm 0 0).toInt * (vm 1 0).toInt by have z1 := hkc.1; have z2 := hkc.2; omega); have hb := hf49.2 vm hR.1.1.1 hR.1.1.2.1 hG (by rw [hR.1.1.1]; exact hW) (by omega); have hp := hf63 vm hR hg way (by omega) hb hkc; exact rwp_cls (hx23_0 vm hR hg) hy35 (by omega) t77 hp (by first | exact Or.inl ⟨hp67, rfl⟩ | exact Or.inr ⟨hq67, by rw [e75, e74]⟩)) (by omega) (lv_sub hl [2, 3, 4, 5, 6, 0] rfl)
                · have c67_ := i_ne c67
                  replace h63 := cm_n h63 c67_
                  clear c67_
                  have hq67 : r63.toInt ≠ -1 := by omega
                  refine lv_iload_n hx hb dX3_reachedNext_70 rfl (lv_at hl 4 rfl) ?_
                  refine lv_iconst (v := 1) hx hb dX3_reachedNext_71 (by decide) ?_
                  refine lv_iload hx hb dX3_reachedNext_72 (lv_at hl 0 rfl) ?_
                  refine lv_ishl hx hb dX3_reachedNext_74 ?_
                  refine lv_topi (fun x74 e74 => ?_)
                  refine lv_ior hx hb dX3_reachedNext_75 ?_
                  refine lv_topi (fun x75 e75 => ?_)
                  refine lv_istore_n (lv' := [(3, .int x75), (6, .int r49), (0, .ref (a 8)), (1, .int set), (2, .int step), (4, .int k), (5, .int way)]) hx hb dX3_reachedNext_76 rfl hl (by decide) rfl (fun ls hl => ?_)
                  obtain ⟨x77, e77⟩ : ∃ y : Int32, y = way + 1 := ⟨_, rfl⟩
                  refine lv_iinc (v := x77) (lv' := [(5, .int x77), (3, .int x75), (6, .int r49), (0, .ref (a 8)), (1, .int set), (2, .int step), (4, .int k)]) hx hb dX3_reachedNext_77 hl (k := 6) rfl (by rw [e77]; rfl) (by decide) rfl (fun ls hl => ?_)
                  have t77 := i_add e77 (by omega)
                  refine lv_goto (tgt := 23) hx hb dX3_reachedNext_80 (by decide) ?_
                  exact ih23 x75 x77 ls (by omega) (by omega) (fun vm hR hg => by have hkc : cW vm k := ⟨by omega, by rw [← hR.1.1.1, ← hR.1.1.2.1]; omega⟩; have hG := hR.2.2.2.1.1; have hW : 1 ≤ (vm 0 0).toInt := wd_pos hG.1.1 (show 1 ≤ (vm 0 0).toInt * (vm 1 0).toInt by have z1 := hkc.1; have z2 := hkc.2; omega); have hb := hf49.2 vm hR.1.1.1 hR.1.1.2.1 hG (by rw [hR.1.1.1]; exact hW) (by omega); have hp := hf63 vm hR hg way (by omega) hb hkc; exact rwp_cls (hx23_0 vm hR hg) hy35 (by omega) t77 hp (by first | exact Or.inl ⟨hp67, rfl⟩ | exact Or.inr ⟨hq67, by rw [e75, e74]⟩)) (by omega) (lv_sub hl [3, 4, 5, 1, 6, 0] rfl)
        exact K23 _ nx 1 ls (Nat.lt_succ_self _) (by omega) (fun vm hR hg => rwp_in (hx5_0 vm hR hg) n_1) (by rw [n_1]; omega) (lv_sub hl [1, 2, 3, 4, 5, 0] rfl)
  exact K5 _ set 0 ls (Nat.lt_succ_self _) (by omega) (fun _ _ _ => rfl) (by rw [n_0]; omega) (lv_sub hl [2, 3, 4, 1, 0] rfl)
def rm_X3_fewestSteps : Room := { frames := 5, cells := 0, slots := 0, locals := 122 }
set_option maxHeartbeats 4000000 in
set_option maxRecDepth 100000 in
theorem c_X3_fewestSteps (l : Launch) (E : Ev) (A : Nat → Prop) (a : Nat → Nat) (v : Vf) (ap : Nat → Nat) (vp : Vf) (as_ : Nat → Nat) (vs : Vf) (x0 : Int32) (y0 : Int32) (step : Int32) (hI : PlanI vp) (hJ : StateI vs) (hstep : 0 ≤ step.toInt ∧ step.toInt ≤ 900000) : Met l yX3_fewestSteps wsX3_fewestSteps rm_X3_fewestSteps (RdP E A [.ref (a 8), .int x0, .int y0, .int step] (rpL E a v ap vp as_ vs)) (vp_Si (fun r => (True) ∧ (∀ vm : Vf, RW vm vp vs → (-1 : Int32) = vm 62 0 → SoP vm x0 y0 step r))) 0 0 (fun _ => False) := by
  refine Met.ofW (cc := cX3_fewestSteps) (maxL := 6) (ret := (some .int)) (by decide) rfl ?_
  intro p e s m args below meth c s₁ B hml hv
  obtain ⟨rfl, hE, hP⟩ := hv
  have hx := B.exec
  have hb := B.bytes
  have hr := B.returns
  have hts := atoms_spec (ws := wsX3_fewestSteps) B.pre
  have hown : s.vm.findClass RX3 = some m.cls := findClass_of_methodNamed B.named
  have hlocks := B.notSynchronized
  have hK := hE.1
  have n_m1 : ((-1) : Int32).toInt = -1 := by decide
  have n_0 : (0 : Int32).toInt = 0 := by decide
  have n_1 : (1 : Int32).toInt = 1 := by decide
  have n_60 : (60 : Int32).toInt = 60 := by decide
  have hl := lv_entry ([.ref (a 8), .int x0, .int y0, .int step]) (n := 6) (Nat.le_of_ble_eq_true rfl)
  rw [lg_entry_eq]
  generalize (lg_sl ([.ref (a 8), .int x0, .int y0, .int step]) ++ List.replicate (6 - (lg_sl ([.ref (a 8), .int x0, .int y0, .int step])).length) Slot.unset).toArray = ls at hl ⊢
  have hl : lv_has ls 6 [(0, .ref (a 8)), (1, .int x0), (2, .int y0), (3, .int step)] := hl
  refine W_abs (fun Q hQ => ?_)
  obtain ⟨hg, hmc, hm0, hm1, hm2, hs0, hs1, hs2, hs3⟩ := id hI
  obtain ⟨hg1, hg2, hg3, hg4⟩ := id hg
  have hz0 := hm0.1
  have hz1 := hm1.1
  have hz2 := hm2.1
  have hc0 := hs0.1
  have hc1 := hs1.1
  have hc2 := hs2.1
  have hc3 := hs3.1
  obtain ⟨hj0, hj1, hj2⟩ := id hJ
  refine lv_iconst (v := 1) hx hb dX3_fewestSteps_0 (by decide) ?_
  refine lv_iload_n hx hb dX3_fewestSteps_1 rfl (lv_at hl 1 rfl) ?_
  refine lv_ishl hx hb dX3_fewestSteps_2 ?_
  refine lv_topi (fun x2 e2 => ?_)
  refine lv_istore (lv' := [(4, .int x2), (0, .ref (a 8)), (1, .int x0), (2, .int y0), (3, .int step)]) hx hb dX3_fewestSteps_3 hl (by decide) rfl (fun ls hl => ?_)
  refine lv_iconst (v := 0) hx hb dX3_fewestSteps_5 (by decide) ?_
  refine lv_istore (lv' := [(5, .int 0), (4, .int x2), (0, .ref (a 8)), (1, .int x0), (2, .int y0), (3, .int step)]) hx hb dX3_fewestSteps_6 hl (by decide) rfl (fun ls hl => ?_)
  have K8 : ∀ (μ : Nat) (rd : Int32) (n : Int32) (ls : Array Slot), (61 - n.toInt).toNat < μ → (0 ≤ n.toInt ∧ n.toInt ≤ 61) → (∀ vm : Vf, RW vm vp vs → (-1 : Int32) = vm 62 0 → (rd = mOnN vm x0 step n.toNatClampNeg ∧ ∀ j : Nat, (j : Int) < n.toInt → ¬ hasB (mOnN vm x0 step j) y0)) → lv_has ls 6 [(0, .ref (a 8)), (1, .int x0), (2, .int y0), (3, .int step), (4, .int rd), (5, .int n)] → W p l e (headSpec wsX3_fewestSteps rm_X3_fewestSteps).room s m ([.ref (a 8), .int x0, .int y0, .int step] : List Value).toArray below meth c s.heap [] 0 0 Q (F0 m 8 ls []) := by
    intro μ
    induction μ with
    | zero =>
      intro rd n ls hμ8
      exact absurd hμ8 (Nat.not_lt_zero _)
    | succ μ ih8 =>
      intro rd n ls hμ8 h8_0 h8_1 hl
      have hx8_0 := h8_1
      clear h8_1
      refine lv_iload hx hb dX3_fewestSteps_8 (lv_at hl 5 rfl) ?_
      refine lv_bipush (v := 60) hx hb dX3_fewestSteps_10 (by decide) ?_
      refine lv_icmp_gt (tgt := 47) hx hb dX3_fewestSteps_12 (by decide) (fun c12 => ?_) (fun c12 => ?_)
      · have c12_ := i_lt c12
        refine lv_iconst (v := (-1)) hx hb dX3_fewestSteps_47 (by decide) ?_
        subst hQ
        exact W.iret (v := (-1)) hx hb hr (fun t ht hW => ⟨(-1), rfl, ⟨trivial, (fun vm hR hg => nx_end (P := fun j => hasB (mOnN vm x0 step j) y0) (hx8_0 vm hR hg).2 (by omega) (by omega))⟩, ht⟩) (fun q h => absurd h List.not_mem_nil) dX3_fewestSteps_48
      · have c12_ := i_nlt c12
        refine lv_iload hx hb dX3_fewestSteps_15 (lv_at hl 4 rfl) ?_
        refine lv_iload_n hx hb dX3_fewestSteps_17 rfl (lv_at hl 2 rfl) ?_
        refine lv_ishr hx hb dX3_fewestSteps_18 ?_
        refine lv_topi (fun x18 e18 => ?_)
        refine lv_iconst (v := 1) hx hb dX3_fewestSteps_19 (by decide) ?_
        refine lv_iand hx hb dX3_fewestSteps_20 ?_
        refine lv_topi (fun x20 e20 => ?_)
        refine lv_if_eq (tgt := 27) hx hb dX3_fewestSteps_21 (by decide) (fun c21 => ?_) (fun c21 => ?_)
        · have c21_ := i_eq c21
          have hn21 : ¬ hasB rd y0 := by unfold hasB; rw [← e18, ← e20]; exact fun q => q c21
          refine lv_aload_n hx hb dX3_fewestSteps_27 rfl (lv_at hl 0 rfl) ?_
          refine lv_iload hx hb dX3_fewestSteps_28 (lv_at hl 4 rfl) ?_
          refine lv_iload_n hx hb dX3_fewestSteps_30 rfl (lv_at hl 3 rfl) ?_
          refine lv_iload hx hb dX3_fewestSteps_31 (lv_at hl 5 rfl) ?_
          refine lv_iadd hx hb dX3_fewestSteps_33 ?_
          refine lv_topi (fun x33 e33 => ?_)
          have t33 := i_add e33 (by omega)
          refine lv_iconst (v := 1) hx hb dX3_fewestSteps_34 (by decide) ?_
          refine lv_iadd hx hb dX3_fewestSteps_35 ?_
          refine lv_topi (fun x35 e35 => ?_)
          have t35 := i_add e35 (by omega)
          refine rd_V (As := [.int rd, .int x35]) (rest := []) (C := RX3) (ci := 3) ⟨hx, hb, hml, hown, hts⟩ (c_X3_reachedNext l E A a v ap vp as_ vs rd x35 hI hJ (by omega)) (cwV 2 hts gX3_fewestSteps_X3_reachedNext rfl rfl rfl (by decide +kernel) ⟨Nat.le_of_ble_eq_true rfl, Nat.le_of_ble_eq_true rfl⟩) hE (hP.sub (ws' := rpL E a v ap vp as_ vs) [0, 1, 2, 3, 4, 5, 6, 7, 8, 9, 10, 11, 12, 13, 14, 15, 16, 17, 18, 19, 20, 21, 22, 23, 24, 25, 26, 27, 28, 29, 30, 31, 32, 33, 34, 35] rfl) rfl rfl rfl rfl hl.1 rfl (Nat.le_of_ble_eq_true rfl) dX3_fewestSteps_36 ⟨Nat.zero_le _, Nat.zero_le _⟩ (fun r36 h36 => ?_)
          have hf36 := h36.2
          replace h36 := h36.1
          refine lv_istore (lv' := [(4, .int r36), (0, .ref (a 8)), (1, .int x0), (2, .int y0), (3, .int step), (5, .int n)]) hx hb dX3_fewestSteps_39 hl (by decide) rfl (fun ls hl => ?_)
          obtain ⟨x41, e41⟩ : ∃ y : Int32, y = n + 1 := ⟨_, rfl⟩
          refine lv_iinc (v := x41) (lv' := [(5, .int x41), (4, .int r36), (0, .ref (a 8)), (1, .int x0), (2, .int y0), (3, .int step)]) hx hb dX3_fewestSteps_41 hl (k := 5) rfl (by rw [e41]; rfl) (by decide) rfl (fun ls hl => ?_)
          have t41 := i_add e41 (by omega)
          refine lv_goto (tgt := 8) hx hb dX3_fewestSteps_44 (by decide) ?_
          exact ih8 r36 x41 ls (by omega) (by omega) (fun vm hR hg => ⟨on_next (hx8_0 vm hR hg).1 (by omega) t41 (by rw [e35, e33]) (hf36 vm hR hg), nx_no (P := fun j => hasB (mOnN vm x0 step j) y0) (hx8_0 vm hR hg).2 (by omega) t41 (by show ¬ hasB (mOnN vm x0 step n.toNatClampNeg) y0; rw [← (hx8_0 vm hR hg).1]; exact hn21)⟩) (lv_sub hl [2, 3, 4, 5, 1, 0] rfl)
        · have c21_ := i_ne c21
          have hy21 : hasB rd y0 := by unfold hasB; rw [← e18, ← e20]; exact c21
          refine lv_iload hx hb dX3_fewestSteps_24 (lv_at hl 5 rfl) ?_
          subst hQ
          exact W.iret (v := n) hx hb hr (fun t ht hW => ⟨n, rfl, ⟨trivial, (fun vm hR hg => nx_at (P := fun j => hasB (mOnN vm x0 step j) y0) (hx8_0 vm hR hg).2 (by omega) (by omega) (by show hasB (mOnN vm x0 step n.toNatClampNeg) y0; rw [← (hx8_0 vm hR hg).1]; exact hy21))⟩, ht⟩) (fun q h => absurd h List.not_mem_nil) dX3_fewestSteps_26
  exact K8 _ x2 0 ls (Nat.lt_succ_self _) (by omega) (fun vm hR hg => ⟨e2, fun j hj => absurd hj (by rw [n_0]; omega)⟩) (lv_sub hl [2, 3, 4, 5, 1, 0] rfl)
def rm_X3_wayTaken : Room := { frames := 2, cells := 0, slots := 0, locals := 45 }
set_option maxHeartbeats 4000000 in
set_option maxRecDepth 100000 in
theorem c_X3_wayTaken (l : Launch) (E : Ev) (A : Nat → Prop) (a : Nat → Nat) (v : Vf) (ap : Nat → Nat) (vp : Vf) (as_ : Nat → Nat) (vs : Vf) (x0 : Int32) (y0 : Int32) (n : Int32) (i : Int32) (hI : PlanI vp) (hJ : StateI vs) (hx0 : 0 ≤ x0.toInt ∧ x0.toInt ≤ 23) (hn : 1 ≤ n.toInt ∧ n.toInt ≤ 40) : Met l yX3_wayTaken wsX3_wayTaken rm_X3_wayTaken (RdP E A [.ref (a 8), .int x0, .int y0, .int n, .int i] (rpL E a v ap vp as_ vs)) (vp_Si (fun r => True)) 0 0 (fun _ => False) := by
  refine Met.ofW (cc := cX3_wayTaken) (maxL := 8) (ret := (some .int)) (by decide) rfl ?_
  intro p e s m args below meth c s₁ B hml hv
  obtain ⟨rfl, hE, hP⟩ := hv
  have hx := B.exec
  have hb := B.bytes
  have hr := B.returns
  have hts := atoms_spec (ws := wsX3_wayTaken) B.pre
  have hown : s.vm.findClass RX3 = some m.cls := findClass_of_methodNamed B.named
  have hlocks := B.notSynchronized
  have hK := hE.1
  have in_X3 : ∀ w ∈ u_ws RX3 TX3 4, w ∈ wsX3_wayTaken := fun w h => List.mem_cons_of_mem _ (List.mem_append_left _ (List.mem_append_left _ (List.mem_append_right _ h)))
  have in_X8 : ∀ w ∈ u_ws RX8 TX8 2, w ∈ wsX3_wayTaken := fun w h => List.mem_cons_of_mem _ (List.mem_append_left _ (List.mem_append_right _ h))
  have lk0 := hts (.fieldLink RX3 18 "TidedGround$Routes" "choice" "[I") (List.mem_of_getElem? (i := 1) rfl)
  have lk1 := hts (.fieldLink RX3 21 "TidedGround$Routes" "world" "LTidedGround$World;") (List.mem_of_getElem? (i := 2) rfl)
  have lk2 := hts (.fieldLink RX3 29 "TidedGround$World" "plan" "LTidedGround$Plan;") (List.mem_of_getElem? (i := 3) rfl)
  have n_m1 : ((-1) : Int32).toInt = -1 := by decide
  have n_0 : (0 : Int32).toInt = 0 := by decide
  have n_1 : (1 : Int32).toInt = 1 := by decide
  have n_24 : (24 : Int32).toInt = 24 := by decide
  have hl := lv_entry ([.ref (a 8), .int x0, .int y0, .int n, .int i]) (n := 8) (Nat.le_of_ble_eq_true rfl)
  rw [lg_entry_eq]
  generalize (lg_sl ([.ref (a 8), .int x0, .int y0, .int n, .int i]) ++ List.replicate (8 - (lg_sl ([.ref (a 8), .int x0, .int y0, .int n, .int i])).length) Slot.unset).toArray = ls at hl ⊢
  have hl : lv_has ls 8 [(0, .ref (a 8)), (1, .int x0), (2, .int y0), (3, .int n), (4, .int i)] := hl
  refine W_abs (fun Q hQ => ?_)
  obtain ⟨hg, hmc, hm0, hm1, hm2, hs0, hs1, hs2, hs3⟩ := id hI
  obtain ⟨hg1, hg2, hg3, hg4⟩ := id hg
  have hz0 := hm0.1
  have hz1 := hm1.1
  have hz2 := hm2.1
  have hc0 := hs0.1
  have hc1 := hs1.1
  have hc2 := hs2.1
  have hc3 := hs3.1
  obtain ⟨hj0, hj1, hj2⟩ := id hJ
  refine lv_iload_n hx hb dX3_wayTaken_0 rfl (lv_at hl 1 rfl) ?_
  refine lv_istore (lv' := [(5, .int x0), (0, .ref (a 8)), (1, .int x0), (2, .int y0), (3, .int n), (4, .int i)]) hx hb dX3_wayTaken_1 hl (by decide) rfl (fun ls hl => ?_)
  refine lv_iconst (v := 0) hx hb dX3_wayTaken_3 (by decide) ?_
  refine lv_istore (lv' := [(6, .int 0), (5, .int x0), (0, .ref (a 8)), (1, .int x0), (2, .int y0), (3, .int n), (4, .int i)]) hx hb dX3_wayTaken_4 hl (by decide) rfl (fun ls hl => ?_)
  have K6 : ∀ (μ : Nat) (k : Int32) (j : Int32) (ls : Array Slot), (40 - j.toInt).toNat < μ → (k.toInt = -1 ∨ (0 ≤ k.toInt ∧ k.toInt ≤ 23)) → (0 ≤ j.toInt ∧ j.toInt ≤ 40) → lv_has ls 8 [(0, .ref (a 8)), (1, .int x0), (2, .int y0), (3, .int n), (4, .int i), (5, .int k), (6, .int j)] → W p l e (headSpec wsX3_wayTaken rm_X3_wayTaken).room s m ([.ref (a 8), .int x0, .int y0, .int n, .int i] : List Value).toArray below meth c s.heap [] 0 0 Q (F0 m 6 ls []) := by
    intro μ
    induction μ with
    | zero =>
      intro k j ls hμ6
      exact absurd hμ6 (Nat.not_lt_zero _)
    | succ μ ih6 =>
      intro k j ls hμ6 h6_0 h6_1 hl
      refine lv_iload hx hb dX3_wayTaken_6 (lv_at hl 6 rfl) ?_
      refine lv_iload_n hx hb dX3_wayTaken_8 rfl (lv_at hl 3 rfl) ?_
      refine lv_icmp_ge (tgt := 71) hx hb dX3_wayTaken_9 (by decide) (fun c9 => ?_) (fun c9 => ?_)
      · have c9_ := i_le c9
        refine lv_iconst (v := (-1)) hx hb dX3_wayTaken_71 (by decide) ?_
        subst hQ
        exact W.iret (v := (-1)) hx hb hr (fun t ht hW => ⟨(-1), rfl, trivial, ht⟩) (fun q h => absurd h List.not_mem_nil) dX3_wayTaken_72
      · have c9_ := i_nle c9
        refine lv_iload hx hb dX3_wayTaken_12 (lv_at hl 5 rfl) ?_
        refine lv_iload_n hx hb dX3_wayTaken_14 rfl (lv_at hl 2 rfl) ?_
        refine lv_icmp_eq (tgt := 71) hx hb dX3_wayTaken_15 (by decide) (fun c15 => ?_) (fun c15 => ?_)
        · have c15_ := i_eq c15
          refine lv_iconst (v := (-1)) hx hb dX3_wayTaken_71 (by decide) ?_
          subst hQ
          exact W.iret (v := (-1)) hx hb hr (fun t ht hW => ⟨(-1), rfl, trivial, ht⟩) (fun q h => absurd h List.not_mem_nil) dX3_wayTaken_72
        · have c15_ := i_ne c15
          refine lv_iload hx hb dX3_wayTaken_18 (lv_at hl 5 rfl) ?_
          refine lv_iconst (v := (-1)) hx hb dX3_wayTaken_20 (by decide) ?_
          refine lv_icmp_eq (tgt := 71) hx hb dX3_wayTaken_21 (by decide) (fun c21 => ?_) (fun c21 => ?_)
          · have c21_ := i_eq c21
            refine lv_iconst (v := (-1)) hx hb dX3_wayTaken_71 (by decide) ?_
            subst hQ
            exact W.iret (v := (-1)) hx hb hr (fun t ht hW => ⟨(-1), rfl, trivial, ht⟩) (fun q h => absurd h List.not_mem_nil) dX3_wayTaken_72
          · have c21_ := i_ne c21
            refine lv_aload_n hx hb dX3_wayTaken_24 rfl (lv_at hl 0 rfl) ?_
            refine va_get (D := eD E) (ci := 3) (v := .ref (a 203)) (C := RX3) (T := TX3) (N := 4) hx hb hts in_X3 hown hK hP 0 rfl rfl 3 (by decide) lk0 (fun _ h9 => h9) rfl dX3_wayTaken_25 ?_
            refine lv_iload hx hb dX3_wayTaken_28 (lv_at hl 6 rfl) ?_
            refine lv_bipush (v := 24) hx hb dX3_wayTaken_30 (by decide) ?_
            refine lv_imul hx hb dX3_wayTaken_32 ?_
            refine lv_topi (fun x32 e32 => ?_)
            have t32 := i_mul e32 (by rw [n_24]; omega)
            rw [n_24] at t32
            refine lv_iload hx hb dX3_wayTaken_33 (lv_at hl 5 rfl) ?_
            refine lv_iadd hx hb dX3_wayTaken_35 ?_
            refine lv_topi (fun x35 e35 => ?_)
            have t35 := i_add e35 (by omega)
            refine va_iald hx hb hK hP 1 0 rfl rfl (n := 960) (f := (v 203)) (i_in (by omega) (by omega)) dX3_wayTaken_36 ?_
            refine lv_topi (fun x36 e36 => ?_)
            refine lv_istore (lv' := [(7, .int x36), (0, .ref (a 8)), (1, .int x0), (2, .int y0), (3, .int n), (4, .int i), (5, .int k), (6, .int j)]) hx hb dX3_wayTaken_37 hl (by decide) rfl (fun ls hl => ?_)
            refine lv_iload hx hb dX3_wayTaken_39 (lv_at hl 7 rfl) ?_
            refine lv_iload hx hb dX3_wayTaken_41 (lv_at hl 5 rfl) ?_
            refine lv_icmp_ne (tgt := 49) hx hb dX3_wayTaken_43 (by decide) (fun c43 => ?_) (fun c43 => ?_)
            · have c43_ := i_ne c43
              refine lv_aload_n hx hb dX3_wayTaken_49 rfl (lv_at hl 1 rfl) ?_
              refine va_get (D := eD E) (ci := 3) (v := .ref (a 5)) (C := RX3) (T := TX3) (N := 4) hx hb hts in_X3 hown hK hP 0 rfl rfl 0 (by decide) lk1 (fun _ h9 => h9) rfl dX3_wayTaken_50 ?_
              refine va_get (D := eD E) (ci := 8) (v := .ref (ap 0)) (C := RX8) (T := TX8) (N := 2) hx hb hts in_X8 hown hK hP 2 rfl rfl 0 (by decide) lk2 (fun _ h9 => h9) rfl dX3_wayTaken_53 ?_
              refine lv_iload hx hb dX3_wayTaken_56 (lv_at hl 6 rfl) ?_
              refine lv_iload hx hb dX3_wayTaken_58 (lv_at hl 0 rfl) ?_
              refine rd_V (As := [.int k, .int x36]) (rest := []) (C := RX1) (ci := 1) ⟨hx, hb, hml, hown, hts⟩ (c_X1_beside l E A ap vp k x36 hI (by omega)) (cwV 2 hts gX3_wayTaken_X1_beside rfl rfl rfl (by decide +kernel) ⟨Nat.le_of_ble_eq_true rfl, Nat.le_of_ble_eq_true rfl⟩) hE (hP.sub (ws' := planL E ap vp) [3, 4, 5, 6, 7, 8, 9, 10, 11, 12, 13, 14, 15, 16, 17, 18, 19, 20, 21, 22, 23, 24, 25, 26, 27, 28, 29, 30, 31] rfl) rfl rfl rfl rfl hl.1 rfl (Nat.le_of_ble_eq_true rfl) dX3_wayTaken_60 ⟨Nat.zero_le _, Nat.zero_le _⟩ (fun r60 h60 => ?_)
              have hf60 := h60.2
              replace h60 := h60.1
              refine lv_istore (lv' := [(5, .int r60), (7, .int x36), (0, .ref (a 8)), (1, .int x0), (2, .int y0), (3, .int n), (4, .int i), (6, .int j)]) hx hb dX3_wayTaken_63 hl (by decide) rfl (fun ls hl => ?_)
              obtain ⟨x65, e65⟩ : ∃ y : Int32, y = j + 1 := ⟨_, rfl⟩
              refine lv_iinc (v := x65) (lv' := [(6, .int x65), (5, .int r60), (7, .int x36), (0, .ref (a 8)), (1, .int x0), (2, .int y0), (3, .int n), (4, .int i)]) hx hb dX3_wayTaken_65 hl (k := 7) rfl (by rw [e65]; rfl) (by decide) rfl (fun ls hl => ?_)
              have t65 := i_add e65 (by omega)
              refine lv_goto (tgt := 6) hx hb dX3_wayTaken_68 (by decide) ?_
              exact ih6 r60 x65 ls (by omega) (by omega) (by omega) (lv_sub hl [3, 4, 5, 6, 7, 1, 0] rfl)
            · have c43_ := i_eq c43
              refine lv_iload hx hb dX3_wayTaken_46 (lv_at hl 0 rfl) ?_
              subst hQ
              exact W.iret (v := x36) hx hb hr (fun t ht hW => ⟨x36, rfl, trivial, ht⟩) (fun q h => absurd h List.not_mem_nil) dX3_wayTaken_48
  exact K6 _ x0 0 ls (Nat.lt_succ_self _) (by omega) (by omega) (lv_sub hl [2, 3, 4, 5, 6, 1, 0] rfl)
def rm_X9_isNoMoon : Room := { frames := 1, cells := 0, slots := 0, locals := 22 }
set_option maxHeartbeats 4000000 in
set_option maxRecDepth 100000 in
theorem c_X9_isNoMoon (l : Launch) (E : Ev) (A : Nat → Prop) (a : Nat → Nat) (v : Vf) (aq : Nat → Nat) (ap : Nat → Nat) (vp : Vf) (as_ : Nat → Nat) (vs : Vf) (i : Int32) (hI : PlanI vp) (hJ : StateI vs) (hT : TgI v) : Met l yX9_isNoMoon wsX9_isNoMoon rm_X9_isNoMoon (RdP E A [.ref (a 99), .int i] (tgsL E a v aq ap vp as_ vs)) (vp_Si (fun r => (r.toInt = 1 ∧ (i.toInt < 0 ∨ (vp 5 0).toInt ≤ i.toInt)) ∨ (r.toInt = 0 ∧ 0 ≤ i.toInt ∧ i.toInt < (vp 5 0).toInt))) 0 0 (fun _ => False) := by
  refine Met.ofW (cc := cX9_isNoMoon) (maxL := 2) (ret := (some .boolean)) (by decide) rfl ?_
  intro p e s m args below meth c s₁ B hml hv
  obtain ⟨rfl, hE, hP⟩ := hv
  have hx := B.exec
  have hb := B.bytes
  have hr := B.returns
  have hts := atoms_spec (ws := wsX9_isNoMoon) B.pre
  have hown : s.vm.findClass RX9 = some m.cls := findClass_of_methodNamed B.named
  have hlocks := B.notSynchronized
  have hK := hE.1
  have in_X9 : ∀ w ∈ u_ws RX9 TX9 13, w ∈ wsX9_isNoMoon := fun w h => List.mem_cons_of_mem _ (List.mem_append_left _ (List.mem_append_left _ (List.mem_append_right _ h)))
  have in_X8 : ∀ w ∈ u_ws RX8 TX8 2, w ∈ wsX9_isNoMoon := fun w h => List.mem_cons_of_mem _ (List.mem_append_left _ (List.mem_append_right _ h))
  have in_X1 : ∀ w ∈ u_ws RX1 TX1 11, w ∈ wsX9_isNoMoon := fun w h => List.mem_cons_of_mem _ (List.mem_append_right _ h)
  have lk0 := hts (.fieldLink RX9 43 "TidedGround" "world" "LTidedGround$World;") (List.mem_of_getElem? (i := 1) rfl)
  have lk1 := hts (.fieldLink RX9 91 "TidedGround$World" "plan" "LTidedGround$Plan;") (List.mem_of_getElem? (i := 2) rfl)
  have lk2 := hts (.fieldLink RX9 119 "TidedGround$Plan" "moonCount" "I") (List.mem_of_getElem? (i := 3) rfl)
  have n_0 : (0 : Int32).toInt = 0 := by decide
  have n_1 : (1 : Int32).toInt = 1 := by decide
  have hl := lv_entry ([.ref (a 99), .int i]) (n := 2) (Nat.le_of_ble_eq_true rfl)
  rw [lg_entry_eq]
  generalize (lg_sl ([.ref (a 99), .int i]) ++ List.replicate (2 - (lg_sl ([.ref (a 99), .int i])).length) Slot.unset).toArray = ls at hl ⊢
  have hl : lv_has ls 2 [(0, .ref (a 99)), (1, .int i)] := hl
  refine W_abs (fun Q hQ => ?_)
  obtain ⟨hg, hmc, hm0, hm1, hm2, hs0, hs1, hs2, hs3⟩ := id hI
  obtain ⟨hg1, hg2, hg3, hg4⟩ := id hg
  have hz0 := hm0.1
  have hz1 := hm1.1
  have hz2 := hm2.1
  have hc0 := hs0.1
  have hc1 := hs1.1
  have hc2 := hs2.1
  have hc3 := hs3.1
  obtain ⟨hj0, hj1, hj2⟩ := id hJ
  obtain ⟨hT1, hT2⟩ := id hT
  refine lv_iload_n hx hb dX9_isNoMoon_0 rfl (lv_at hl 1 rfl) ?_
  refine lv_iconst (v := 0) hx hb dX9_isNoMoon_1 (by decide) ?_
  refine lv_aload_n hx hb dX9_isNoMoon_2 rfl (lv_at hl 0 rfl) ?_
  refine va_get (D := eD E) (ci := 9) (v := .ref (a 5)) (C := RX9) (T := TX9) (N := 13) hx hb hts in_X9 hown hK hP 0 rfl rfl 5 (by decide) lk0 (fun _ h9 => h9) rfl dX9_isNoMoon_3 ?_
  refine va_get (D := eD E) (ci := 8) (v := .ref (ap 0)) (C := RX8) (T := TX8) (N := 2) hx hb hts in_X8 hown hK hP 5 rfl rfl 0 (by decide) lk1 (fun _ h9 => h9) rfl dX9_isNoMoon_6 ?_
  refine va_get (D := eD E) (ci := 1) (v := .int (vp 5 0)) (C := RX1) (T := TX1) (N := 11) hx hb hts in_X1 hown hK hP 6 rfl rfl 5 (by decide) lk2 (fun _ h9 => h9) rfl dX9_isNoMoon_9 ?_
  refine lv_iconst (v := 1) hx hb dX9_isNoMoon_12 (by decide) ?_
  refine lv_isub hx hb dX9_isNoMoon_13 ?_
  refine lv_topi (fun x13 e13 => ?_)
  have t13 := i_sub e13 (by omega)
  refine rd_S (As := [.int i, .int 0, .int x13]) (rest := []) ⟨hx, hb, hml, hown, hts⟩ (c_X9_isOff l E A i 0 x13) (va_cwS 3 hts gX9_isNoMoon_X9_isOff rfl rfl rfl (by decide +kernel) ⟨Nat.le_of_ble_eq_true rfl, Nat.le_of_ble_eq_true rfl⟩) hE (hP.sub (ws' := []) [] rfl) rfl hl.1 rfl (Nat.le_of_ble_eq_true rfl) dX9_isNoMoon_14 ⟨Nat.zero_le _, Nat.zero_le _⟩ (fun r14 h14 => ?_)
  subst hQ
  exact W.zret (v := r14) hx hb hr (nar_b (by omega)) (fun t ht hW => ⟨r14, rfl, (by omega), ht⟩) (fun q h => absurd h List.not_mem_nil) dX9_isNoMoon_17
def rm_X9_fault : Room := { frames := 0, cells := 0, slots := 0, locals := 0 }
set_option maxHeartbeats 4000000 in
set_option maxRecDepth 100000 in
theorem c_X9_fault (l : Launch) (E : Ev) (A : Nat → Prop) (a : Nat → Nat) (v : Vf) (aq : Nat → Nat) (ap : Nat → Nat) (vp : Vf) (as_ : Nat → Nat) (vs : Vf) (hI : PlanI vp) (hJ : StateI vs) (hT : TgI v) : Met l yX9_fault wsX9_fault rm_X9_fault (RdP E A [.ref (a 99)] (tgsL E a v aq ap vp as_ vs)) (vp_Si (fun r => (True) ∧ (r = v 2 0))) 0 0 (fun _ => False) := by
  refine Met.ofW (cc := cX9_fault) (maxL := 1) (ret := (some .int)) (by decide) rfl ?_
  intro p e s m args below meth c s₁ B hml hv
  obtain ⟨rfl, hE, hP⟩ := hv
  have hx := B.exec
  have hb := B.bytes
  have hr := B.returns
  have hts := atoms_spec (ws := wsX9_fault) B.pre
  have hown : s.vm.findClass RX9 = some m.cls := findClass_of_methodNamed B.named
  have hlocks := B.notSynchronized
  have hK := hE.1
  have in_X9 : ∀ w ∈ u_ws RX9 TX9 13, w ∈ wsX9_fault := fun w h => List.mem_cons_of_mem _ (List.mem_append_right _ h)
  have lk0 := hts (.fieldLink RX9 13 "TidedGround" "faultAt" "I") (List.mem_of_getElem? (i := 1) rfl)
  have hl := lv_entry ([.ref (a 99)]) (n := 1) (Nat.le_of_ble_eq_true rfl)
  rw [lg_entry_eq]
  generalize (lg_sl ([.ref (a 99)]) ++ List.replicate (1 - (lg_sl ([.ref (a 99)])).length) Slot.unset).toArray = ls at hl ⊢
  have hl : lv_has ls 1 [(0, .ref (a 99))] := hl
  refine W_abs (fun Q hQ => ?_)
  obtain ⟨hg, hmc, hm0, hm1, hm2, hs0, hs1, hs2, hs3⟩ := id hI
  obtain ⟨hg1, hg2, hg3, hg4⟩ := id hg
  have hz0 := hm0.1
  have hz1 := hm1.1
  have hz2 := hm2.1
  have hc0 := hs0.1
  have hc1 := hs1.1
  have hc2 := hs2.1
  have hc3 := hs3.1
  obtain ⟨hj0, hj1, hj2⟩ := id hJ
  obtain ⟨hT1, hT2⟩ := id hT
  refine lv_aload_n hx hb dX9_fault_0 rfl (lv_at hl 0 rfl) ?_
  refine va_get (D := eD E) (ci := 9) (v := .int (v 2 0)) (C := RX9) (T := TX9) (N := 13) hx hb hts in_X9 hown hK hP 0 rfl rfl 2 (by decide) lk0 (fun _ h9 => h9) rfl dX9_fault_1 ?_
  subst hQ
  exact W.iret (v := (v 2 0)) hx hb hr (fun t ht hW => ⟨(v 2 0), rfl, ⟨trivial, rfl⟩, ht⟩) (fun q h => absurd h List.not_mem_nil) dX9_fault_4
def rm_X9_told : Room := { frames := 3, cells := 0, slots := 0, locals := 70 }
set_option maxHeartbeats 4000000 in
set_option maxRecDepth 100000 in
theorem c_X9_told (l : Launch) (E : Ev) (A : Nat → Prop) (a : Nat → Nat) (v : Vf) (aq : Nat → Nat) (ap : Nat → Nat) (vp : Vf) (as_ : Nat → Nat) (vs : Vf) (what : Int32) (hI : PlanI vp) (hJ : StateI vs) (hT : TgI v) : Met l yX9_told wsX9_told rm_X9_told (RdP E A [.ref (a 99), .int what] (tgsL E a v aq ap vp as_ vs)) (vp_Si (fun r => (True) ∧ (∀ vm : Vf, RW vm vp vs → v 1 0 = vm 32 0 → v 401 0 = vm 67 0 → v 12 0 = vm 75 0 → TabP 14 what r (mTv vm)))) 0 0 (fun _ => False) := by
  refine Met.ofW (cc := cX9_told) (maxL := 3) (ret := (some .int)) (by decide) rfl ?_
  intro p e s m args below meth c s₁ B hml hv
  obtain ⟨rfl, hE, hP⟩ := hv
  have hx := B.exec
  have hb := B.bytes
  have hr := B.returns
  have hts := atoms_spec (ws := wsX9_told) B.pre
  have hown : s.vm.findClass RX9 = some m.cls := findClass_of_methodNamed B.named
  have hlocks := B.notSynchronized
  have hK := hE.1
  have in_X9 : ∀ w ∈ u_ws RX9 TX9 13, w ∈ wsX9_told := fun w h => List.mem_cons_of_mem _ (List.mem_append_left _ (List.mem_append_left _ (List.mem_append_left _ (List.mem_append_left _ (List.mem_append_left _ (List.mem_append_left _ (List.mem_append_right _ h)))))))
  have in_X8 : ∀ w ∈ u_ws RX8 TX8 2, w ∈ wsX9_told := fun w h => List.mem_cons_of_mem _ (List.mem_append_left _ (List.mem_append_left _ (List.mem_append_left _ (List.mem_append_left _ (List.mem_append_left _ (List.mem_append_right _ h))))))
  have in_X1 : ∀ w ∈ u_ws RX1 TX1 11, w ∈ wsX9_told := fun w h => List.mem_cons_of_mem _ (List.mem_append_left _ (List.mem_append_left _ (List.mem_append_left _ (List.mem_append_left _ (List.mem_append_right _ h)))))
  have in_X5 : ∀ w ∈ u_ws RX5 TX5 4, w ∈ wsX9_told := fun w h => List.mem_cons_of_mem _ (List.mem_append_left _ (List.mem_append_left _ (List.mem_append_left _ (List.mem_append_right _ h))))
  have in_X6 : ∀ w ∈ u_ws RX6 TX6 9, w ∈ wsX9_told := fun w h => List.mem_cons_of_mem _ (List.mem_append_left _ (List.mem_append_left _ (List.mem_append_right _ h)))
  have in_X4 : ∀ w ∈ u_ws RX4 TX4 11, w ∈ wsX9_told := fun w h => List.mem_cons_of_mem _ (List.mem_append_left _ (List.mem_append_right _ h))
  have lk0 := hts (.fieldLink RX9 43 "TidedGround" "world" "LTidedGround$World;") (List.mem_of_getElem? (i := 1) rfl)
  have lk1 := hts (.fieldLink RX9 91 "TidedGround$World" "plan" "LTidedGround$Plan;") (List.mem_of_getElem? (i := 2) rfl)
  have lk2 := hts (.constant RX9 81 (-1000000002)) (List.mem_of_getElem? (i := 20) rfl)
  have lk3 := hts (.fieldLink RX9 113 "TidedGround$Plan" "width" "I") (List.mem_of_getElem? (i := 3) rfl)
  have lk4 := hts (.fieldLink RX9 116 "TidedGround$Plan" "depth" "I") (List.mem_of_getElem? (i := 4) rfl)
  have lk5 := hts (.fieldLink RX9 119 "TidedGround$Plan" "moonCount" "I") (List.mem_of_getElem? (i := 5) rfl)
  have lk6 := hts (.fieldLink RX9 122 "TidedGround$Plan" "houses" "LTidedGround$Sites;") (List.mem_of_getElem? (i := 6) rfl)
  have lk7 := hts (.fieldLink RX9 126 "TidedGround$Sites" "count" "I") (List.mem_of_getElem? (i := 7) rfl)
  have lk8 := hts (.fieldLink RX9 129 "TidedGround$Plan" "cracks" "LTidedGround$Sites;") (List.mem_of_getElem? (i := 8) rfl)
  have lk9 := hts (.fieldLink RX9 132 "TidedGround$Plan" "wells" "LTidedGround$Sites;") (List.mem_of_getElem? (i := 9) rfl)
  have lk10 := hts (.fieldLink RX9 134 "TidedGround$Plan" "deeds" "LTidedGround$Sites;") (List.mem_of_getElem? (i := 10) rfl)
  have lk11 := hts (.fieldLink RX9 82 "TidedGround" "letterCount" "I") (List.mem_of_getElem? (i := 11) rfl)
  have lk12 := hts (.fieldLink RX9 34 "TidedGround" "now" "LTidedGround$State;") (List.mem_of_getElem? (i := 12) rfl)
  have lk13 := hts (.fieldLink RX9 137 "TidedGround$State" "step" "I") (List.mem_of_getElem? (i := 13) rfl)
  have lk14 := hts (.fieldLink RX9 144 "TidedGround$State" "cart" "I") (List.mem_of_getElem? (i := 14) rfl)
  have lk15 := hts (.fieldLink RX9 151 "TidedGround$State" "pushed" "I") (List.mem_of_getElem? (i := 15) rfl)
  have lk16 := hts (.fieldLink RX9 154 "TidedGround$State" "steep" "I") (List.mem_of_getElem? (i := 16) rfl)
  have lk17 := hts (.fieldLink RX9 70 "TidedGround" "sightings" "LTidedGround$Sightings;") (List.mem_of_getElem? (i := 17) rfl)
  have lk18 := hts (.fieldLink RX9 103 "TidedGround$Sightings" "count" "I") (List.mem_of_getElem? (i := 18) rfl)
  have lk19 := hts (.fieldLink RX9 106 "TidedGround" "bookCount" "I") (List.mem_of_getElem? (i := 19) rfl)
  have n_m1000000002 : ((-1000000002) : Int32).toInt = -1000000002 := by decide
  have hl := lv_entry ([.ref (a 99), .int what]) (n := 3) (Nat.le_of_ble_eq_true rfl)
  rw [lg_entry_eq]
  generalize (lg_sl ([.ref (a 99), .int what]) ++ List.replicate (3 - (lg_sl ([.ref (a 99), .int what])).length) Slot.unset).toArray = ls at hl ⊢
  have hl : lv_has ls 3 [(0, .ref (a 99)), (1, .int what)] := hl
  refine W_abs (fun Q hQ => ?_)
  obtain ⟨hg, hmc, hm0, hm1, hm2, hs0, hs1, hs2, hs3⟩ := id hI
  obtain ⟨hg1, hg2, hg3, hg4⟩ := id hg
  have hz0 := hm0.1
  have hz1 := hm1.1
  have hz2 := hm2.1
  have hc0 := hs0.1
  have hc1 := hs1.1
  have hc2 := hs2.1
  have hc3 := hs3.1
  obtain ⟨hj0, hj1, hj2⟩ := id hJ
  obtain ⟨hT1, hT2⟩ := id hT
  refine lv_aload_n hx hb dX9_told_0 rfl (lv_at hl 0 rfl) ?_
  refine va_get (D := eD E) (ci := 9) (v := .ref (a 5)) (C := RX9) (T := TX9) (N := 13) hx hb hts in_X9 hown hK hP 0 rfl rfl 5 (by decide) lk0 (fun _ h9 => h9) rfl dX9_told_1 ?_
  refine va_get (D := eD E) (ci := 8) (v := .ref (ap 0)) (C := RX8) (T := TX8) (N := 2) hx hb hts in_X8 hown hK hP 5 rfl rfl 0 (by decide) lk1 (fun _ h9 => h9) rfl dX9_told_4 ?_
  refine lv_astore_n (lv' := [(2, .ref (ap 0)), (0, .ref (a 99)), (1, .int what)]) hx hb dX9_told_7 rfl hl (by decide) rfl (fun ls hl => ?_)
  refine lv_iload_n hx hb dX9_told_8 rfl (lv_at hl 2 rfl) ?_
  by_cases tb9 : what.toInt < 0 ∨ 14 < what.toInt
  · refine lv_tableOut (tgt := 190) hx hb dX9_told_9 tb9 (by decide) ?_
    refine lv_ldc hx hb hown lk2 dX9_told_190 ?_
    subst hQ
    exact W.iret (v := (-1000000002)) hx hb hr (fun t ht hW => ⟨(-1000000002), rfl, ⟨trivial, (fun vm hR h1 h2 h3 => Or.inl ⟨tb9, by omega⟩)⟩, ht⟩) (fun q h => absurd h List.not_mem_nil) dX9_told_192
  · rcases (show what.toInt = 0 ∨ what.toInt = 1 ∨ what.toInt = 2 ∨ what.toInt = 3 ∨ what.toInt = 4 ∨ what.toInt = 5 ∨ what.toInt = 6 ∨ what.toInt = 7 ∨ what.toInt = 8 ∨ what.toInt = 9 ∨ what.toInt = 10 ∨ what.toInt = 11 ∨ what.toInt = 12 ∨ what.toInt = 13 ∨ what.toInt = 14 by omega) with sw9 | sw9 | sw9 | sw9 | sw9 | sw9 | sw9 | sw9 | sw9 | sw9 | sw9 | sw9 | sw9 | sw9 | sw9
    · refine lv_tableIn (off := 75) (tgt := 84) hx hb dX9_told_9 (by omega) (by omega) (by rw [sw9]; rfl) (by decide) ?_
      refine lv_aload_n hx hb dX9_told_84 rfl (lv_at hl 0 rfl) ?_
      refine va_get (D := eD E) (ci := 1) (v := .int (vp 0 0)) (C := RX1) (T := TX1) (N := 11) hx hb hts in_X1 hown hK hP 6 rfl rfl 0 (by decide) lk3 (fun _ h9 => h9) rfl dX9_told_85 ?_
      subst hQ
      exact W.iret (v := (vp 0 0)) hx hb hr (fun t ht hW => ⟨(vp 0 0), rfl, ⟨trivial, (fun vm hR h1 h2 h3 => Or.inr ⟨0, sw9, by decide, hR.1.1.1⟩)⟩, ht⟩) (fun q h => absurd h List.not_mem_nil) dX9_told_88
    · refine lv_tableIn (off := 80) (tgt := 89) hx hb dX9_told_9 (by omega) (by omega) (by rw [sw9]; rfl) (by decide) ?_
      refine lv_aload_n hx hb dX9_told_89 rfl (lv_at hl 0 rfl) ?_
      refine va_get (D := eD E) (ci := 1) (v := .int (vp 1 0)) (C := RX1) (T := TX1) (N := 11) hx hb hts in_X1 hown hK hP 6 rfl rfl 1 (by decide) lk4 (fun _ h9 => h9) rfl dX9_told_90 ?_
      subst hQ
      exact W.iret (v := (vp 1 0)) hx hb hr (fun t ht hW => ⟨(vp 1 0), rfl, ⟨trivial, (fun vm hR h1 h2 h3 => Or.inr ⟨1, sw9, by decide, hR.1.1.2.1⟩)⟩, ht⟩) (fun q h => absurd h List.not_mem_nil) dX9_told_93
    · refine lv_tableIn (off := 85) (tgt := 94) hx hb dX9_told_9 (by omega) (by omega) (by rw [sw9]; rfl) (by decide) ?_
      refine lv_aload_n hx hb dX9_told_94 rfl (lv_at hl 0 rfl) ?_
      refine va_get (D := eD E) (ci := 1) (v := .int (vp 5 0)) (C := RX1) (T := TX1) (N := 11) hx hb hts in_X1 hown hK hP 6 rfl rfl 5 (by decide) lk5 (fun _ h9 => h9) rfl dX9_told_95 ?_
      subst hQ
      exact W.iret (v := (vp 5 0)) hx hb hr (fun t ht hW => ⟨(vp 5 0), rfl, ⟨trivial, (fun vm hR h1 h2 h3 => Or.inr ⟨2, sw9, by decide, hR.1.2.1.1⟩)⟩, ht⟩) (fun q h => absurd h List.not_mem_nil) dX9_told_98
    · refine lv_tableIn (off := 90) (tgt := 99) hx hb dX9_told_9 (by omega) (by omega) (by rw [sw9]; rfl) (by decide) ?_
      refine lv_aload_n hx hb dX9_told_99 rfl (lv_at hl 0 rfl) ?_
      refine va_get (D := eD E) (ci := 1) (v := .ref (ap 7)) (C := RX1) (T := TX1) (N := 11) hx hb hts in_X1 hown hK hP 6 rfl rfl 7 (by decide) lk6 (fun _ h9 => h9) rfl dX9_told_100 ?_
      refine va_get (D := eD E) (ci := 5) (v := .int (vp 60 0)) (C := RX5) (T := TX5) (N := 4) hx hb hts in_X5 hown hK hP 19 rfl rfl 0 (by decide) lk7 (fun _ h9 => h9) rfl dX9_told_103 ?_
      subst hQ
      exact W.iret (v := (vp 60 0)) hx hb hr (fun t ht hW => ⟨(vp 60 0), rfl, ⟨trivial, (fun vm hR h1 h2 h3 => Or.inr ⟨3, sw9, by decide, hR.1.2.2.1.1⟩)⟩, ht⟩) (fun q h => absurd h List.not_mem_nil) dX9_told_106
    · refine lv_tableIn (off := 98) (tgt := 107) hx hb dX9_told_9 (by omega) (by omega) (by rw [sw9]; rfl) (by decide) ?_
      refine lv_aload_n hx hb dX9_told_107 rfl (lv_at hl 0 rfl) ?_
      refine va_get (D := eD E) (ci := 1) (v := .ref (ap 8)) (C := RX1) (T := TX1) (N := 11) hx hb hts in_X1 hown hK hP 6 rfl rfl 8 (by decide) lk8 (fun _ h9 => h9) rfl dX9_told_108 ?_
      refine va_get (D := eD E) (ci := 5) (v := .int (vp 70 0)) (C := RX5) (T := TX5) (N := 4) hx hb hts in_X5 hown hK hP 23 rfl rfl 0 (by decide) lk7 (fun _ h9 => h9) rfl dX9_told_111 ?_
      subst hQ
      exact W.iret (v := (vp 70 0)) hx hb hr (fun t ht hW => ⟨(vp 70 0), rfl, ⟨trivial, (fun vm hR h1 h2 h3 => Or.inr ⟨4, sw9, by decide, hR.1.2.2.2.1.1⟩)⟩, ht⟩) (fun q h => absurd h List.not_mem_nil) dX9_told_114
    · refine lv_tableIn (off := 106) (tgt := 115) hx hb dX9_told_9 (by omega) (by omega) (by rw [sw9]; rfl) (by decide) ?_
      refine lv_aload_n hx hb dX9_told_115 rfl (lv_at hl 0 rfl) ?_
      refine va_get (D := eD E) (ci := 1) (v := .ref (ap 9)) (C := RX1) (T := TX1) (N := 11) hx hb hts in_X1 hown hK hP 6 rfl rfl 9 (by decide) lk9 (fun _ h9 => h9) rfl dX9_told_116 ?_
      refine va_get (D := eD E) (ci := 5) (v := .int (vp 80 0)) (C := RX5) (T := TX5) (N := 4) hx hb hts in_X5 hown hK hP 27 rfl rfl 0 (by decide) lk7 (fun _ h9 => h9) rfl dX9_told_119 ?_
      subst hQ
      exact W.iret (v := (vp 80 0)) hx hb hr (fun t ht hW => ⟨(vp 80 0), rfl, ⟨trivial, (fun vm hR h1 h2 h3 => Or.inr ⟨5, sw9, by decide, hR.1.2.2.2.2.1.1⟩)⟩, ht⟩) (fun q h => absurd h List.not_mem_nil) dX9_told_122
    · refine lv_tableIn (off := 114) (tgt := 123) hx hb dX9_told_9 (by omega) (by omega) (by rw [sw9]; rfl) (by decide) ?_
      refine lv_aload_n hx hb dX9_told_123 rfl (lv_at hl 0 rfl) ?_
      refine va_get (D := eD E) (ci := 1) (v := .ref (ap 10)) (C := RX1) (T := TX1) (N := 11) hx hb hts in_X1 hown hK hP 6 rfl rfl 10 (by decide) lk10 (fun _ h9 => h9) rfl dX9_told_124 ?_
      refine va_get (D := eD E) (ci := 5) (v := .int (vp 90 0)) (C := RX5) (T := TX5) (N := 4) hx hb hts in_X5 hown hK hP 31 rfl rfl 0 (by decide) lk7 (fun _ h9 => h9) rfl dX9_told_127 ?_
      subst hQ
      exact W.iret (v := (vp 90 0)) hx hb hr (fun t ht hW => ⟨(vp 90 0), rfl, ⟨trivial, (fun vm hR h1 h2 h3 => Or.inr ⟨6, sw9, by decide, hR.1.2.2.2.2.2.1⟩)⟩, ht⟩) (fun q h => absurd h List.not_mem_nil) dX9_told_130
    · refine lv_tableIn (off := 122) (tgt := 131) hx hb dX9_told_9 (by omega) (by omega) (by rw [sw9]; rfl) (by decide) ?_
      refine lv_aload_n hx hb dX9_told_131 rfl (lv_at hl 1 rfl) ?_
      refine va_get (D := eD E) (ci := 9) (v := .int (v 1 0)) (C := RX9) (T := TX9) (N := 13) hx hb hts in_X9 hown hK hP 0 rfl rfl 1 (by decide) lk11 (fun _ h9 => h9) rfl dX9_told_132 ?_
      subst hQ
      exact W.iret (v := (v 1 0)) hx hb hr (fun t ht hW => ⟨(v 1 0), rfl, ⟨trivial, (fun vm hR h1 h2 h3 => Or.inr ⟨7, sw9, by decide, h1⟩)⟩, ht⟩) (fun q h => absurd h List.not_mem_nil) dX9_told_135
    · refine lv_tableIn (off := 127) (tgt := 136) hx hb dX9_told_9 (by omega) (by omega) (by rw [sw9]; rfl) (by decide) ?_
      refine lv_aload_n hx hb dX9_told_136 rfl (lv_at hl 1 rfl) ?_
      refine va_get (D := eD E) (ci := 9) (v := .ref (as_ 0)) (C := RX9) (T := TX9) (N := 13) hx hb hts in_X9 hown hK hP 0 rfl rfl 6 (by decide) lk12 (fun _ h9 => h9) rfl dX9_told_137 ?_
      refine va_get (D := eD E) (ci := 6) (v := .int (vs 0 0)) (C := RX6) (T := TX6) (N := 9) hx hb hts in_X6 hown hK hP 35 rfl rfl 0 (by decide) lk13 (fun _ h9 => h9) rfl dX9_told_140 ?_
      subst hQ
      exact W.iret (v := (vs 0 0)) hx hb hr (fun t ht hW => ⟨(vs 0 0), rfl, ⟨trivial, (fun vm hR h1 h2 h3 => Or.inr ⟨8, sw9, by decide, hR.2.1.1⟩)⟩, ht⟩) (fun q h => absurd h List.not_mem_nil) dX9_told_143
    · refine lv_tableIn (off := 135) (tgt := 144) hx hb dX9_told_9 (by omega) (by omega) (by rw [sw9]; rfl) (by decide) ?_
      refine lv_aload_n hx hb dX9_told_144 rfl (lv_at hl 0 rfl) ?_
      refine rd_V (As := []) (rest := []) (C := RX1) (ci := 1) ⟨hx, hb, hml, hown, hts⟩ (c_X1_period l E A ap vp hI) (cwV 0 hts gX9_told_X1_period rfl rfl rfl (by decide +kernel) ⟨Nat.le_of_ble_eq_true rfl, Nat.le_of_ble_eq_true rfl⟩) hE (hP.sub (ws' := planL E ap vp) [6, 7, 8, 9, 10, 11, 12, 13, 14, 15, 16, 17, 18, 19, 20, 21, 22, 23, 24, 25, 26, 27, 28, 29, 30, 31, 32, 33, 34] rfl) rfl rfl rfl rfl hl.1 rfl (Nat.le_of_ble_eq_true rfl) dX9_told_145 ⟨Nat.zero_le _, Nat.zero_le _⟩ (fun r145 h145 => ?_)
      have hf145 := h145.2
      replace h145 := h145.1
      subst hQ
      exact W.iret (v := r145) hx hb hr (fun t ht hW => ⟨r145, rfl, ⟨trivial, (fun vm hR h1 h2 h3 => Or.inr ⟨9, sw9, by decide, per_eq hR hf145⟩)⟩, ht⟩) (fun q h => absurd h List.not_mem_nil) dX9_told_148
    · refine lv_tableIn (off := 140) (tgt := 149) hx hb dX9_told_9 (by omega) (by omega) (by rw [sw9]; rfl) (by decide) ?_
      refine lv_aload_n hx hb dX9_told_149 rfl (lv_at hl 0 rfl) ?_
      refine lv_aload_n hx hb dX9_told_150 rfl (lv_at hl 1 rfl) ?_
      refine va_get (D := eD E) (ci := 9) (v := .ref (as_ 0)) (C := RX9) (T := TX9) (N := 13) hx hb hts in_X9 hown hK hP 0 rfl rfl 6 (by decide) lk12 (fun _ h9 => h9) rfl dX9_told_151 ?_
      refine va_get (D := eD E) (ci := 6) (v := .int (vs 4 0)) (C := RX6) (T := TX6) (N := 9) hx hb hts in_X6 hown hK hP 35 rfl rfl 4 (by decide) lk14 (fun _ h9 => h9) rfl dX9_told_154 ?_
      refine rd_V (As := [.int (vs 4 0)]) (rest := []) (C := RX1) (ci := 1) ⟨hx, hb, hml, hown, hts⟩ (c_X1_pairOf l E A ap vp (vs 4 0) hI (by omega)) (cwV 1 hts gX9_told_X1_pairOf rfl rfl rfl (by decide +kernel) ⟨Nat.le_of_ble_eq_true rfl, Nat.le_of_ble_eq_true rfl⟩) hE (hP.sub (ws' := planL E ap vp) [6, 7, 8, 9, 10, 11, 12, 13, 14, 15, 16, 17, 18, 19, 20, 21, 22, 23, 24, 25, 26, 27, 28, 29, 30, 31, 32, 33, 34] rfl) rfl rfl rfl rfl hl.1 rfl (Nat.le_of_ble_eq_true rfl) dX9_told_157 ⟨Nat.zero_le _, Nat.zero_le _⟩ (fun r157 h157 => ?_)
      have hf157 := h157.2
      replace h157 := h157.1
      subst hQ
      exact W.iret (v := r157) hx hb hr (fun t ht hW => ⟨r157, rfl, ⟨trivial, (fun vm hR h1 h2 h3 => Or.inr ⟨10, sw9, by decide, pair_told hR hf157⟩)⟩, ht⟩) (fun q h => absurd h List.not_mem_nil) dX9_told_160
    · refine lv_tableIn (off := 152) (tgt := 161) hx hb dX9_told_9 (by omega) (by omega) (by rw [sw9]; rfl) (by decide) ?_
      refine lv_aload_n hx hb dX9_told_161 rfl (lv_at hl 1 rfl) ?_
      refine va_get (D := eD E) (ci := 9) (v := .ref (as_ 0)) (C := RX9) (T := TX9) (N := 13) hx hb hts in_X9 hown hK hP 0 rfl rfl 6 (by decide) lk12 (fun _ h9 => h9) rfl dX9_told_162 ?_
      refine va_get (D := eD E) (ci := 6) (v := .int (vs 5 0)) (C := RX6) (T := TX6) (N := 9) hx hb hts in_X6 hown hK hP 35 rfl rfl 5 (by decide) lk15 (fun _ h9 => h9) rfl dX9_told_165 ?_
      subst hQ
      exact W.iret (v := (vs 5 0)) hx hb hr (fun t ht hW => ⟨(vs 5 0), rfl, ⟨trivial, (fun vm hR h1 h2 h3 => Or.inr ⟨11, sw9, by decide, hR.2.1.2.2.2.2.2.1⟩)⟩, ht⟩) (fun q h => absurd h List.not_mem_nil) dX9_told_168
    · refine lv_tableIn (off := 160) (tgt := 169) hx hb dX9_told_9 (by omega) (by omega) (by rw [sw9]; rfl) (by decide) ?_
      refine lv_aload_n hx hb dX9_told_169 rfl (lv_at hl 1 rfl) ?_
      refine va_get (D := eD E) (ci := 9) (v := .ref (as_ 0)) (C := RX9) (T := TX9) (N := 13) hx hb hts in_X9 hown hK hP 0 rfl rfl 6 (by decide) lk12 (fun _ h9 => h9) rfl dX9_told_170 ?_
      refine va_get (D := eD E) (ci := 6) (v := .int (vs 6 0)) (C := RX6) (T := TX6) (N := 9) hx hb hts in_X6 hown hK hP 35 rfl rfl 6 (by decide) lk16 (fun _ h9 => h9) rfl dX9_told_173 ?_
      subst hQ
      exact W.iret (v := (vs 6 0)) hx hb hr (fun t ht hW => ⟨(vs 6 0), rfl, ⟨trivial, (fun vm hR h1 h2 h3 => Or.inr ⟨12, sw9, by decide, hR.2.1.2.2.2.2.2.2.1⟩)⟩, ht⟩) (fun q h => absurd h List.not_mem_nil) dX9_told_176
    · refine lv_tableIn (off := 168) (tgt := 177) hx hb dX9_told_9 (by omega) (by omega) (by rw [sw9]; rfl) (by decide) ?_
      refine lv_aload_n hx hb dX9_told_177 rfl (lv_at hl 1 rfl) ?_
      refine va_get (D := eD E) (ci := 9) (v := .ref (a 10)) (C := RX9) (T := TX9) (N := 13) hx hb hts in_X9 hown hK hP 0 rfl rfl 10 (by decide) lk17 (fun _ h9 => h9) rfl dX9_told_178 ?_
      refine va_get (D := eD E) (ci := 4) (v := .int (v 401 0)) (C := RX4) (T := TX4) (N := 11) hx hb hts in_X4 hown hK hP 4 rfl rfl 1 (by decide) lk18 (fun _ h9 => h9) rfl dX9_told_181 ?_
      subst hQ
      exact W.iret (v := (v 401 0)) hx hb hr (fun t ht hW => ⟨(v 401 0), rfl, ⟨trivial, (fun vm hR h1 h2 h3 => Or.inr ⟨13, sw9, by decide, h2⟩)⟩, ht⟩) (fun q h => absurd h List.not_mem_nil) dX9_told_184
    · refine lv_tableIn (off := 176) (tgt := 185) hx hb dX9_told_9 (by omega) (by omega) (by rw [sw9]; rfl) (by decide) ?_
      refine lv_aload_n hx hb dX9_told_185 rfl (lv_at hl 1 rfl) ?_
      refine va_get (D := eD E) (ci := 9) (v := .int (v 12 0)) (C := RX9) (T := TX9) (N := 13) hx hb hts in_X9 hown hK hP 0 rfl rfl 12 (by decide) lk19 (fun _ h9 => h9) rfl dX9_told_186 ?_
      subst hQ
      exact W.iret (v := (v 12 0)) hx hb hr (fun t ht hW => ⟨(v 12 0), rfl, ⟨trivial, (fun vm hR h1 h2 h3 => Or.inr ⟨14, sw9, by decide, h3⟩)⟩, ht⟩) (fun q h => absurd h List.not_mem_nil) dX9_told_189
def rm_X9_cell : Room := { frames := 4, cells := 0, slots := 0, locals := 98 }
set_option maxHeartbeats 4000000 in
set_option maxRecDepth 100000 in
theorem c_X9_cell (l : Launch) (E : Ev) (A : Nat → Prop) (a : Nat → Nat) (v : Vf) (aq : Nat → Nat) (ap : Nat → Nat) (vp : Vf) (as_ : Nat → Nat) (vs : Vf) (x : Int32) (y : Int32) (what : Int32) (hI : PlanI vp) (hJ : StateI vs) (hT : TgI v) : Met l yX9_cell wsX9_cell rm_X9_cell (RdP E A [.ref (a 99), .int x, .int y, .int what] (tgsL E a v aq ap vp as_ vs)) (vp_Si (fun r => (True) ∧ (∀ vm : Vf, RW vm vp vs → (-1 : Int32) = vm 62 0 → UnkP (inG x y (vm 0 0) (vm 1 0)) r (TabP 6 what r (mCv vm (mC vm x y)))))) 0 0 (fun _ => False) := by
  refine Met.ofW (cc := cX9_cell) (maxL := 5) (ret := (some .int)) (by decide) rfl ?_
  intro p e s m args below meth c s₁ B hml hv
  obtain ⟨rfl, hE, hP⟩ := hv
  have hx := B.exec
  have hb := B.bytes
  have hr := B.returns
  have hts := atoms_spec (ws := wsX9_cell) B.pre
  have hown : s.vm.findClass RX9 = some m.cls := findClass_of_methodNamed B.named
  have hlocks := B.notSynchronized
  have hK := hE.1
  have in_X9 : ∀ w ∈ u_ws RX9 TX9 13, w ∈ wsX9_cell := fun w h => List.mem_cons_of_mem _ (List.mem_append_left _ (List.mem_append_left _ (List.mem_append_left _ (List.mem_append_left _ (List.mem_append_right _ h)))))
  have in_X8 : ∀ w ∈ u_ws RX8 TX8 2, w ∈ wsX9_cell := fun w h => List.mem_cons_of_mem _ (List.mem_append_left _ (List.mem_append_left _ (List.mem_append_left _ (List.mem_append_right _ h))))
  have in_X1 : ∀ w ∈ u_ws RX1 TX1 11, w ∈ wsX9_cell := fun w h => List.mem_cons_of_mem _ (List.mem_append_left _ (List.mem_append_left _ (List.mem_append_right _ h)))
  have in_X6 : ∀ w ∈ u_ws RX6 TX6 9, w ∈ wsX9_cell := fun w h => List.mem_cons_of_mem _ (List.mem_append_left _ (List.mem_append_right _ h))
  have lk0 := hts (.fieldLink RX9 43 "TidedGround" "world" "LTidedGround$World;") (List.mem_of_getElem? (i := 1) rfl)
  have lk1 := hts (.fieldLink RX9 91 "TidedGround$World" "plan" "LTidedGround$Plan;") (List.mem_of_getElem? (i := 2) rfl)
  have lk2 := hts (.constant RX9 81 (-1000000002)) (List.mem_of_getElem? (i := 9) rfl)
  have lk3 := hts (.fieldLink RX9 162 "TidedGround$Plan" "base" "[I") (List.mem_of_getElem? (i := 4) rfl)
  have lk4 := hts (.fieldLink RX9 165 "TidedGround$Plan" "softness" "[I") (List.mem_of_getElem? (i := 5) rfl)
  have lk5 := hts (.fieldLink RX9 34 "TidedGround" "now" "LTidedGround$State;") (List.mem_of_getElem? (i := 6) rfl)
  have lk6 := hts (.fieldLink RX9 168 "TidedGround$State" "loads" "[I") (List.mem_of_getElem? (i := 7) rfl)
  have lk7 := hts (.fieldLink RX9 137 "TidedGround$State" "step" "I") (List.mem_of_getElem? (i := 8) rfl)
  have lk8 := hts (.constant RX9 161 (-1000000001)) (List.mem_of_getElem? (i := 3) rfl)
  have n_m1000000002 : ((-1000000002) : Int32).toInt = -1000000002 := by decide
  have n_m1000000001 : ((-1000000001) : Int32).toInt = -1000000001 := by decide
  have n_m1 : ((-1) : Int32).toInt = -1 := by decide
  have n_0 : (0 : Int32).toInt = 0 := by decide
  have hl := lv_entry ([.ref (a 99), .int x, .int y, .int what]) (n := 5) (Nat.le_of_ble_eq_true rfl)
  rw [lg_entry_eq]
  generalize (lg_sl ([.ref (a 99), .int x, .int y, .int what]) ++ List.replicate (5 - (lg_sl ([.ref (a 99), .int x, .int y, .int what])).length) Slot.unset).toArray = ls at hl ⊢
  have hl : lv_has ls 5 [(0, .ref (a 99)), (1, .int x), (2, .int y), (3, .int what)] := hl
  refine W_abs (fun Q hQ => ?_)
  obtain ⟨hg, hmc, hm0, hm1, hm2, hs0, hs1, hs2, hs3⟩ := id hI
  obtain ⟨hg1, hg2, hg3, hg4⟩ := id hg
  have hz0 := hm0.1
  have hz1 := hm1.1
  have hz2 := hm2.1
  have hc0 := hs0.1
  have hc1 := hs1.1
  have hc2 := hs2.1
  have hc3 := hs3.1
  obtain ⟨hj0, hj1, hj2⟩ := id hJ
  obtain ⟨hT1, hT2⟩ := id hT
  refine lv_aload_n hx hb dX9_cell_0 rfl (lv_at hl 0 rfl) ?_
  refine va_get (D := eD E) (ci := 9) (v := .ref (a 5)) (C := RX9) (T := TX9) (N := 13) hx hb hts in_X9 hown hK hP 0 rfl rfl 5 (by decide) lk0 (fun _ h9 => h9) rfl dX9_cell_1 ?_
  refine va_get (D := eD E) (ci := 8) (v := .ref (ap 0)) (C := RX8) (T := TX8) (N := 2) hx hb hts in_X8 hown hK hP 5 rfl rfl 0 (by decide) lk1 (fun _ h9 => h9) rfl dX9_cell_4 ?_
  refine lv_iload_n hx hb dX9_cell_7 rfl (lv_at hl 1 rfl) ?_
  refine lv_iload_n hx hb dX9_cell_8 rfl (lv_at hl 2 rfl) ?_
  refine rd_V (As := [.int x, .int y]) (rest := []) (C := RX1) (ci := 1) ⟨hx, hb, hml, hown, hts⟩ (c_X1_cellAt l E A ap vp x y hI) (cwV 2 hts gX9_cell_X1_cellAt rfl rfl rfl (by decide +kernel) ⟨Nat.le_of_ble_eq_true rfl, Nat.le_of_ble_eq_true rfl⟩) hE (hP.sub (ws' := planL E ap vp) [6, 7, 8, 9, 10, 11, 12, 13, 14, 15, 16, 17, 18, 19, 20, 21, 22, 23, 24, 25, 26, 27, 28, 29, 30, 31, 32, 33, 34] rfl) rfl rfl rfl rfl hl.1 rfl (Nat.le_of_ble_eq_true rfl) dX9_cell_9 ⟨Nat.zero_le _, Nat.zero_le _⟩ (fun r9 h9 => ?_)
  have hf9 := h9.2
  replace h9 := h9.1
  have hm9 : y.toInt < 0 ∨ 0 ≤ (vp 0 0).toInt * y.toInt := (Int.lt_or_le y.toInt 0).imp id (fun q => Int.mul_nonneg (by omega) q)
  refine lv_istore (lv' := [(4, .int r9), (0, .ref (a 99)), (1, .int x), (2, .int y), (3, .int what)]) hx hb dX9_cell_12 hl (by decide) rfl (fun ls hl => ?_)
  refine lv_iload hx hb dX9_cell_14 (lv_at hl 0 rfl) ?_
  refine lv_iconst (v := (-1)) hx hb dX9_cell_16 (by decide) ?_
  refine lv_icmp_ne (tgt := 23) hx hb dX9_cell_17 (by decide) (fun c17 => ?_) (fun c17 => ?_)
  · have c17_ := i_ne c17
    replace h9 := cm_n h9 c17_
    clear c17_
    have sv23_r9 : 0 ≤ r9.toInt ∧ r9.toInt ≤ 23 := by omega
    have hcel : inG x y (vp 0 0) (vp 1 0) := (by unfold inG; omega)
    have hr9 : r9.toInt = (vp 0 0).toInt * y.toInt + x.toInt := by omega
    have hC9 : ∀ vm : Vf, RW vm vp vs → r9 = mC vm x y ∧ inG x y (vm 0 0) (vm 1 0) ∧ cW vm r9 := fun vm hR => by have hG := hR.2.2.2.1.1; have q := mC_eq hG hR.1.1.1 hR.1.1.2.1 hcel hr9; have i := hcel; rw [hR.1.1.1, hR.1.1.2.1] at i; exact ⟨q, i, by rw [q]; exact mC_cW hG i⟩
    clear hf9 hm9
    refine lv_iload_n hx hb dX9_cell_23 rfl (lv_at hl 4 rfl) ?_
    by_cases tb24 : what.toInt < 0 ∨ 6 < what.toInt
    · refine lv_tableOut (tgt := 171) hx hb dX9_cell_24 tb24 (by decide) ?_
      refine lv_ldc hx hb hown lk2 dX9_cell_171 ?_
      subst hQ
      exact W.iret (v := (-1000000002)) hx hb hr (fun t ht hW => ⟨(-1000000002), rfl, ⟨trivial, (fun vm hR hg => Or.inr ⟨(hC9 vm hR).2.1, Or.inl ⟨tb24, by omega⟩⟩)⟩, ht⟩) (fun q h => absurd h List.not_mem_nil) dX9_cell_173
    · rcases (show what.toInt = 0 ∨ what.toInt = 1 ∨ what.toInt = 2 ∨ what.toInt = 3 ∨ what.toInt = 4 ∨ what.toInt = 5 ∨ what.toInt = 6 by omega) with sw24 | sw24 | sw24 | sw24 | sw24 | sw24 | sw24
      · refine lv_tableIn (off := 44) (tgt := 68) hx hb dX9_cell_24 (by omega) (by omega) (by rw [sw24]; rfl) (by decide) ?_
        refine lv_aload_n hx hb dX9_cell_68 rfl (lv_at hl 1 rfl) ?_
        refine va_get (D := eD E) (ci := 9) (v := .ref (a 5)) (C := RX9) (T := TX9) (N := 13) hx hb hts in_X9 hown hK hP 0 rfl rfl 5 (by decide) lk0 (fun _ h9 => h9) rfl dX9_cell_69 ?_
        refine va_get (D := eD E) (ci := 8) (v := .ref (ap 0)) (C := RX8) (T := TX8) (N := 2) hx hb hts in_X8 hown hK hP 5 rfl rfl 0 (by decide) lk1 (fun _ h9 => h9) rfl dX9_cell_72 ?_
        refine va_get (D := eD E) (ci := 1) (v := .ref (ap 3)) (C := RX1) (T := TX1) (N := 11) hx hb hts in_X1 hown hK hP 6 rfl rfl 3 (by decide) lk3 (fun _ h9 => h9) rfl dX9_cell_75 ?_
        refine lv_iload hx hb dX9_cell_78 (lv_at hl 0 rfl) ?_
        refine va_iald hx hb hK hP 7 0 rfl rfl (n := 24) (f := (vp 3)) (i_in (by omega) (by omega)) dX9_cell_80 ?_
        refine lv_topi (fun x80 e80 => ?_)
        subst hQ
        exact W.iret (v := x80) hx hb hr (fun t ht hW => ⟨x80, rfl, ⟨trivial, (fun vm hR hg => by have hC := hC9 vm hR; have hc := hC.2.2; exact Or.inr ⟨hC.2.1, Or.inr ⟨0, sw24, by decide, (by rw [← hC.1]; exact e80.trans (hR.1.1.2.2 _ (by rw [i_nat hc.1]; exact hc.2)).1)⟩⟩)⟩, ht⟩) (fun q h => absurd h List.not_mem_nil) dX9_cell_81
      · refine lv_tableIn (off := 58) (tgt := 82) hx hb dX9_cell_24 (by omega) (by omega) (by rw [sw24]; rfl) (by decide) ?_
        refine lv_aload_n hx hb dX9_cell_82 rfl (lv_at hl 1 rfl) ?_
        refine va_get (D := eD E) (ci := 9) (v := .ref (a 5)) (C := RX9) (T := TX9) (N := 13) hx hb hts in_X9 hown hK hP 0 rfl rfl 5 (by decide) lk0 (fun _ h9 => h9) rfl dX9_cell_83 ?_
        refine va_get (D := eD E) (ci := 8) (v := .ref (ap 0)) (C := RX8) (T := TX8) (N := 2) hx hb hts in_X8 hown hK hP 5 rfl rfl 0 (by decide) lk1 (fun _ h9 => h9) rfl dX9_cell_86 ?_
        refine va_get (D := eD E) (ci := 1) (v := .ref (ap 4)) (C := RX1) (T := TX1) (N := 11) hx hb hts in_X1 hown hK hP 6 rfl rfl 4 (by decide) lk4 (fun _ h9 => h9) rfl dX9_cell_89 ?_
        refine lv_iload hx hb dX9_cell_92 (lv_at hl 0 rfl) ?_
        refine va_iald hx hb hK hP 8 0 rfl rfl (n := 24) (f := (vp 4)) (i_in (by omega) (by omega)) dX9_cell_94 ?_
        refine lv_topi (fun x94 e94 => ?_)
        subst hQ
        exact W.iret (v := x94) hx hb hr (fun t ht hW => ⟨x94, rfl, ⟨trivial, (fun vm hR hg => by have hC := hC9 vm hR; have hc := hC.2.2; exact Or.inr ⟨hC.2.1, Or.inr ⟨1, sw24, by decide, (by rw [← hC.1]; exact e94.trans (hR.1.1.2.2 _ (by rw [i_nat hc.1]; exact hc.2)).2)⟩⟩)⟩, ht⟩) (fun q h => absurd h List.not_mem_nil) dX9_cell_95
      · refine lv_tableIn (off := 72) (tgt := 96) hx hb dX9_cell_24 (by omega) (by omega) (by rw [sw24]; rfl) (by decide) ?_
        refine lv_aload_n hx hb dX9_cell_96 rfl (lv_at hl 1 rfl) ?_
        refine va_get (D := eD E) (ci := 9) (v := .ref (as_ 0)) (C := RX9) (T := TX9) (N := 13) hx hb hts in_X9 hown hK hP 0 rfl rfl 6 (by decide) lk5 (fun _ h9 => h9) rfl dX9_cell_97 ?_
        refine va_get (D := eD E) (ci := 6) (v := .ref (as_ 2)) (C := RX6) (T := TX6) (N := 9) hx hb hts in_X6 hown hK hP 35 rfl rfl 2 (by decide) lk6 (fun _ h9 => h9) rfl dX9_cell_100 ?_
        refine lv_iload hx hb dX9_cell_103 (lv_at hl 0 rfl) ?_
        refine va_iald hx hb hK hP 37 0 rfl rfl (n := 24) (f := (vs 2)) (i_in (by omega) (by omega)) dX9_cell_105 ?_
        refine lv_topi (fun x105 e105 => ?_)
        subst hQ
        exact W.iret (v := x105) hx hb hr (fun t ht hW => ⟨x105, rfl, ⟨trivial, (fun vm hR hg => by have hC := hC9 vm hR; have hc := hC.2.2; exact Or.inr ⟨hC.2.1, Or.inr ⟨2, sw24, by decide, (by rw [← hC.1]; exact e105.trans (hR.2.1.2.2.1 _ (i_natlt (by omega) (by decide))))⟩⟩)⟩, ht⟩) (fun q h => absurd h List.not_mem_nil) dX9_cell_106
      · refine lv_tableIn (off := 83) (tgt := 107) hx hb dX9_cell_24 (by omega) (by omega) (by rw [sw24]; rfl) (by decide) ?_
        refine lv_aload_n hx hb dX9_cell_107 rfl (lv_at hl 1 rfl) ?_
        refine va_get (D := eD E) (ci := 9) (v := .ref (a 5)) (C := RX9) (T := TX9) (N := 13) hx hb hts in_X9 hown hK hP 0 rfl rfl 5 (by decide) lk0 (fun _ h9 => h9) rfl dX9_cell_108 ?_
        refine lv_iload hx hb dX9_cell_111 (lv_at hl 0 rfl) ?_
        refine rd_V (As := [.int r9]) (rest := []) (C := RX8) (ci := 8) ⟨hx, hb, hml, hown, hts⟩ (c_X8_stiffOf l E A (a 5) ap vp as_ vs r9 hI hJ (by omega)) (cwV 1 hts gX9_cell_X8_stiffOf rfl rfl rfl (by decide +kernel) ⟨Nat.le_of_ble_eq_true rfl, Nat.le_of_ble_eq_true rfl⟩) hE (hP.sub (ws' := wpsL E (a 5) ap vp as_ vs) [5, 6, 7, 8, 9, 10, 11, 12, 13, 14, 15, 16, 17, 18, 19, 20, 21, 22, 23, 24, 25, 26, 27, 28, 29, 30, 31, 32, 33, 34, 35, 36, 37, 38] rfl) rfl rfl rfl rfl hl.1 rfl (Nat.le_of_ble_eq_true rfl) dX9_cell_113 ⟨Nat.zero_le _, Nat.zero_le _⟩ (fun r113 h113 => ?_)
        have hf113 := h113.2
        replace h113 := h113.1
        subst hQ
        exact W.iret (v := r113) hx hb hr (fun t ht hW => ⟨r113, rfl, ⟨trivial, (fun vm hR hg => by have hC := hC9 vm hR; have hc := hC.2.2; exact Or.inr ⟨hC.2.1, Or.inr ⟨3, sw24, by decide, (by rw [← hC.1]; exact hf113 vm hR hc)⟩⟩)⟩, ht⟩) (fun q h => absurd h List.not_mem_nil) dX9_cell_116
      · refine lv_tableIn (off := 93) (tgt := 117) hx hb dX9_cell_24 (by omega) (by omega) (by rw [sw24]; rfl) (by decide) ?_
        refine lv_aload_n hx hb dX9_cell_117 rfl (lv_at hl 1 rfl) ?_
        refine va_get (D := eD E) (ci := 9) (v := .ref (a 5)) (C := RX9) (T := TX9) (N := 13) hx hb hts in_X9 hown hK hP 0 rfl rfl 5 (by decide) lk0 (fun _ h9 => h9) rfl dX9_cell_118 ?_
        refine lv_iload hx hb dX9_cell_121 (lv_at hl 0 rfl) ?_
        refine lv_aload_n hx hb dX9_cell_123 rfl (lv_at hl 1 rfl) ?_
        refine va_get (D := eD E) (ci := 9) (v := .ref (as_ 0)) (C := RX9) (T := TX9) (N := 13) hx hb hts in_X9 hown hK hP 0 rfl rfl 6 (by decide) lk5 (fun _ h9 => h9) rfl dX9_cell_124 ?_
        refine va_get (D := eD E) (ci := 6) (v := .int (vs 0 0)) (C := RX6) (T := TX6) (N := 9) hx hb hts in_X6 hown hK hP 35 rfl rfl 0 (by decide) lk7 (fun _ h9 => h9) rfl dX9_cell_127 ?_
        refine lv_iconst (v := (-1)) hx hb dX9_cell_130 (by decide) ?_
        refine rd_V (As := [.int r9, .int (vs 0 0), .int (-1)]) (rest := []) (C := RX8) (ci := 8) ⟨hx, hb, hml, hown, hts⟩ (c_X8_pullAt l E A (a 5) ap vp as_ vs r9 (vs 0 0) (-1) hI hJ (by omega) (by omega)) (cwV 3 hts gX9_cell_X8_pullAt rfl rfl rfl (by decide +kernel) ⟨Nat.le_of_ble_eq_true rfl, Nat.le_of_ble_eq_true rfl⟩) hE (hP.sub (ws' := wpsL E (a 5) ap vp as_ vs) [5, 6, 7, 8, 9, 10, 11, 12, 13, 14, 15, 16, 17, 18, 19, 20, 21, 22, 23, 24, 25, 26, 27, 28, 29, 30, 31, 32, 33, 34, 35, 36, 37, 38] rfl) rfl rfl rfl rfl hl.1 rfl (Nat.le_of_ble_eq_true rfl) dX9_cell_131 ⟨Nat.zero_le _, Nat.zero_le _⟩ (fun r131 h131 => ?_)
        have hf131 := h131.2
        replace h131 := h131.1
        subst hQ
        exact W.iret (v := r131) hx hb hr (fun t ht hW => ⟨r131, rfl, ⟨trivial, (fun vm hR hg => by have hC := hC9 vm hR; have hc := hC.2.2; exact Or.inr ⟨hC.2.1, Or.inr ⟨4, sw24, by decide, (by rw [← hC.1]; have q := hf131 vm hR hg hc; rw [show vs 0 0 = vm 23 0 from hR.2.1.1] at q; exact q)⟩⟩)⟩, ht⟩) (fun q h => absurd h List.not_mem_nil) dX9_cell_134
      · refine lv_tableIn (off := 111) (tgt := 135) hx hb dX9_cell_24 (by omega) (by omega) (by rw [sw24]; rfl) (by decide) ?_
        refine lv_aload_n hx hb dX9_cell_135 rfl (lv_at hl 1 rfl) ?_
        refine va_get (D := eD E) (ci := 9) (v := .ref (a 5)) (C := RX9) (T := TX9) (N := 13) hx hb hts in_X9 hown hK hP 0 rfl rfl 5 (by decide) lk0 (fun _ h9 => h9) rfl dX9_cell_136 ?_
        refine lv_iload hx hb dX9_cell_139 (lv_at hl 0 rfl) ?_
        refine lv_aload_n hx hb dX9_cell_141 rfl (lv_at hl 1 rfl) ?_
        refine va_get (D := eD E) (ci := 9) (v := .ref (as_ 0)) (C := RX9) (T := TX9) (N := 13) hx hb hts in_X9 hown hK hP 0 rfl rfl 6 (by decide) lk5 (fun _ h9 => h9) rfl dX9_cell_142 ?_
        refine va_get (D := eD E) (ci := 6) (v := .int (vs 0 0)) (C := RX6) (T := TX6) (N := 9) hx hb hts in_X6 hown hK hP 35 rfl rfl 0 (by decide) lk7 (fun _ h9 => h9) rfl dX9_cell_145 ?_
        refine lv_iconst (v := (-1)) hx hb dX9_cell_148 (by decide) ?_
        refine rd_V (As := [.int r9, .int (vs 0 0), .int (-1)]) (rest := []) (C := RX8) (ci := 8) ⟨hx, hb, hml, hown, hts⟩ (c_X8_heightAt l E A (a 5) ap vp as_ vs r9 (vs 0 0) (-1) hI hJ (by omega) (by omega)) (cwV 3 hts gX9_cell_X8_heightAt rfl rfl rfl (by decide +kernel) ⟨Nat.le_of_ble_eq_true rfl, Nat.le_of_ble_eq_true rfl⟩) hE (hP.sub (ws' := wpsL E (a 5) ap vp as_ vs) [5, 6, 7, 8, 9, 10, 11, 12, 13, 14, 15, 16, 17, 18, 19, 20, 21, 22, 23, 24, 25, 26, 27, 28, 29, 30, 31, 32, 33, 34, 35, 36, 37, 38] rfl) rfl rfl rfl rfl hl.1 rfl (Nat.le_of_ble_eq_true rfl) dX9_cell_149 ⟨Nat.zero_le _, Nat.zero_le _⟩ (fun r149 h149 => ?_)
        have hf149 := h149.2
        replace h149 := h149.1
        subst hQ
        exact W.iret (v := r149) hx hb hr (fun t ht hW => ⟨r149, rfl, ⟨trivial, (fun vm hR hg => by have hC := hC9 vm hR; have hc := hC.2.2; exact Or.inr ⟨hC.2.1, Or.inr ⟨5, sw24, by decide, (by rw [← hC.1]; have q := hf149 vm hR hg hc; rw [show vs 0 0 = vm 23 0 from hR.2.1.1] at q; exact q)⟩⟩)⟩, ht⟩) (fun q h => absurd h List.not_mem_nil) dX9_cell_152
      · refine lv_tableIn (off := 129) (tgt := 153) hx hb dX9_cell_24 (by omega) (by omega) (by rw [sw24]; rfl) (by decide) ?_
        refine lv_aload_n hx hb dX9_cell_153 rfl (lv_at hl 1 rfl) ?_
        refine va_get (D := eD E) (ci := 9) (v := .ref (a 5)) (C := RX9) (T := TX9) (N := 13) hx hb hts in_X9 hown hK hP 0 rfl rfl 5 (by decide) lk0 (fun _ h9 => h9) rfl dX9_cell_154 ?_
        refine lv_iload hx hb dX9_cell_157 (lv_at hl 0 rfl) ?_
        refine lv_aload_n hx hb dX9_cell_159 rfl (lv_at hl 1 rfl) ?_
        refine va_get (D := eD E) (ci := 9) (v := .ref (as_ 0)) (C := RX9) (T := TX9) (N := 13) hx hb hts in_X9 hown hK hP 0 rfl rfl 6 (by decide) lk5 (fun _ h9 => h9) rfl dX9_cell_160 ?_
        refine va_get (D := eD E) (ci := 6) (v := .int (vs 0 0)) (C := RX6) (T := TX6) (N := 9) hx hb hts in_X6 hown hK hP 35 rfl rfl 0 (by decide) lk7 (fun _ h9 => h9) rfl dX9_cell_163 ?_
        refine lv_iconst (v := (-1)) hx hb dX9_cell_166 (by decide) ?_
        refine rd_V (As := [.int r9, .int (vs 0 0), .int (-1)]) (rest := []) (C := RX8) (ci := 8) ⟨hx, hb, hml, hown, hts⟩ (c_X8_leanAt l E A (a 5) ap vp as_ vs r9 (vs 0 0) (-1) hI hJ (by omega) (by omega)) (cwV 3 hts gX9_cell_X8_leanAt rfl rfl rfl (by decide +kernel) ⟨Nat.le_of_ble_eq_true rfl, Nat.le_of_ble_eq_true rfl⟩) hE (hP.sub (ws' := wpsL E (a 5) ap vp as_ vs) [5, 6, 7, 8, 9, 10, 11, 12, 13, 14, 15, 16, 17, 18, 19, 20, 21, 22, 23, 24, 25, 26, 27, 28, 29, 30, 31, 32, 33, 34, 35, 36, 37, 38] rfl) rfl rfl rfl rfl hl.1 rfl (Nat.le_of_ble_eq_true rfl) dX9_cell_167 ⟨Nat.zero_le _, Nat.zero_le _⟩ (fun r167 h167 => ?_)
        have hf167 := h167.2
        replace h167 := h167.1
        subst hQ
        exact W.iret (v := r167) hx hb hr (fun t ht hW => ⟨r167, rfl, ⟨trivial, (fun vm hR hg => by have hC := hC9 vm hR; have hc := hC.2.2; exact Or.inr ⟨hC.2.1, Or.inr ⟨6, sw24, by decide, (by rw [← hC.1]; have q := hf167 vm hR hg hc; rw [show vs 0 0 = vm 23 0 from hR.2.1.1] at q; exact q)⟩⟩)⟩, ht⟩) (fun q h => absurd h List.not_mem_nil) dX9_cell_170
  · have c17_ := i_eq c17
    clear h9
    refine lv_ldc hx hb hown lk8 dX9_cell_20 ?_
    subst hQ
    exact W.iret (v := (-1000000001)) hx hb hr (fun t ht hW => ⟨(-1000000001), rfl, ⟨trivial, (fun vm hR hg => Or.inl ⟨by omega, (by rw [← hR.1.1.1, ← hR.1.1.2.1]; unfold inG; omega)⟩)⟩, ht⟩) (fun q h => absurd h List.not_mem_nil) dX9_cell_22
def rm_X9_height : Room := { frames := 3, cells := 0, slots := 0, locals := 71 }
set_option maxHeartbeats 4000000 in
set_option maxRecDepth 100000 in
theorem c_X9_height (l : Launch) (E : Ev) (A : Nat → Prop) (a : Nat → Nat) (v : Vf) (aq : Nat → Nat) (ap : Nat → Nat) (vp : Vf) (as_ : Nat → Nat) (vs : Vf) (x : Int32) (y : Int32) (step : Int32) (hI : PlanI vp) (hJ : StateI vs) (hT : TgI v) : Met l yX9_height wsX9_height rm_X9_height (RdP E A [.ref (a 99), .int x, .int y, .int step] (tgsL E a v aq ap vp as_ vs)) (vp_Si (fun r => (True) ∧ (∀ vm : Vf, RW vm vp vs → (-1 : Int32) = vm 62 0 → UnkP (inG x y (vm 0 0) (vm 1 0)) r (OutP (0 ≤ step.toInt ∧ step.toInt ≤ 999999) r (r = mH vm (mC vm x y) step))))) 0 0 (fun _ => False) := by
  refine Met.ofW (cc := cX9_height) (maxL := 5) (ret := (some .int)) (by decide) rfl ?_
  intro p e s m args below meth c s₁ B hml hv
  obtain ⟨rfl, hE, hP⟩ := hv
  have hx := B.exec
  have hb := B.bytes
  have hr := B.returns
  have hts := atoms_spec (ws := wsX9_height) B.pre
  have hown : s.vm.findClass RX9 = some m.cls := findClass_of_methodNamed B.named
  have hlocks := B.notSynchronized
  have hK := hE.1
  have in_X9 : ∀ w ∈ u_ws RX9 TX9 13, w ∈ wsX9_height := fun w h => List.mem_cons_of_mem _ (List.mem_append_left _ (List.mem_append_left _ (List.mem_append_left _ (List.mem_append_left _ (List.mem_append_right _ h)))))
  have in_X8 : ∀ w ∈ u_ws RX8 TX8 2, w ∈ wsX9_height := fun w h => List.mem_cons_of_mem _ (List.mem_append_left _ (List.mem_append_left _ (List.mem_append_left _ (List.mem_append_right _ h))))
  have lk0 := hts (.fieldLink RX9 43 "TidedGround" "world" "LTidedGround$World;") (List.mem_of_getElem? (i := 1) rfl)
  have lk1 := hts (.fieldLink RX9 91 "TidedGround$World" "plan" "LTidedGround$Plan;") (List.mem_of_getElem? (i := 2) rfl)
  have lk2 := hts (.constant RX9 184 999999) (List.mem_of_getElem? (i := 4) rfl)
  have lk3 := hts (.constant RX9 81 (-1000000002)) (List.mem_of_getElem? (i := 5) rfl)
  have lk4 := hts (.constant RX9 161 (-1000000001)) (List.mem_of_getElem? (i := 3) rfl)
  have n_m1000000002 : ((-1000000002) : Int32).toInt = -1000000002 := by decide
  have n_m1000000001 : ((-1000000001) : Int32).toInt = -1000000001 := by decide
  have n_m1 : ((-1) : Int32).toInt = -1 := by decide
  have n_0 : (0 : Int32).toInt = 0 := by decide
  have n_999999 : (999999 : Int32).toInt = 999999 := by decide
  have hl := lv_entry ([.ref (a 99), .int x, .int y, .int step]) (n := 5) (Nat.le_of_ble_eq_true rfl)
  rw [lg_entry_eq]
  generalize (lg_sl ([.ref (a 99), .int x, .int y, .int step]) ++ List.replicate (5 - (lg_sl ([.ref (a 99), .int x, .int y, .int step])).length) Slot.unset).toArray = ls at hl ⊢
  have hl : lv_has ls 5 [(0, .ref (a 99)), (1, .int x), (2, .int y), (3, .int step)] := hl
  refine W_abs (fun Q hQ => ?_)
  obtain ⟨hg, hmc, hm0, hm1, hm2, hs0, hs1, hs2, hs3⟩ := id hI
  obtain ⟨hg1, hg2, hg3, hg4⟩ := id hg
  have hz0 := hm0.1
  have hz1 := hm1.1
  have hz2 := hm2.1
  have hc0 := hs0.1
  have hc1 := hs1.1
  have hc2 := hs2.1
  have hc3 := hs3.1
  obtain ⟨hj0, hj1, hj2⟩ := id hJ
  obtain ⟨hT1, hT2⟩ := id hT
  refine lv_aload_n hx hb dX9_height_0 rfl (lv_at hl 0 rfl) ?_
  refine va_get (D := eD E) (ci := 9) (v := .ref (a 5)) (C := RX9) (T := TX9) (N := 13) hx hb hts in_X9 hown hK hP 0 rfl rfl 5 (by decide) lk0 (fun _ h9 => h9) rfl dX9_height_1 ?_
  refine va_get (D := eD E) (ci := 8) (v := .ref (ap 0)) (C := RX8) (T := TX8) (N := 2) hx hb hts in_X8 hown hK hP 5 rfl rfl 0 (by decide) lk1 (fun _ h9 => h9) rfl dX9_height_4 ?_
  refine lv_iload_n hx hb dX9_height_7 rfl (lv_at hl 1 rfl) ?_
  refine lv_iload_n hx hb dX9_height_8 rfl (lv_at hl 2 rfl) ?_
  refine rd_V (As := [.int x, .int y]) (rest := []) (C := RX1) (ci := 1) ⟨hx, hb, hml, hown, hts⟩ (c_X1_cellAt l E A ap vp x y hI) (cwV 2 hts gX9_height_X1_cellAt rfl rfl rfl (by decide +kernel) ⟨Nat.le_of_ble_eq_true rfl, Nat.le_of_ble_eq_true rfl⟩) hE (hP.sub (ws' := planL E ap vp) [6, 7, 8, 9, 10, 11, 12, 13, 14, 15, 16, 17, 18, 19, 20, 21, 22, 23, 24, 25, 26, 27, 28, 29, 30, 31, 32, 33, 34] rfl) rfl rfl rfl rfl hl.1 rfl (Nat.le_of_ble_eq_true rfl) dX9_height_9 ⟨Nat.zero_le _, Nat.zero_le _⟩ (fun r9 h9 => ?_)
  have hf9 := h9.2
  replace h9 := h9.1
  have hm9 : y.toInt < 0 ∨ 0 ≤ (vp 0 0).toInt * y.toInt := (Int.lt_or_le y.toInt 0).imp id (fun q => Int.mul_nonneg (by omega) q)
  refine lv_istore (lv' := [(4, .int r9), (0, .ref (a 99)), (1, .int x), (2, .int y), (3, .int step)]) hx hb dX9_height_12 hl (by decide) rfl (fun ls hl => ?_)
  refine lv_iload hx hb dX9_height_14 (lv_at hl 0 rfl) ?_
  refine lv_iconst (v := (-1)) hx hb dX9_height_16 (by decide) ?_
  refine lv_icmp_ne (tgt := 23) hx hb dX9_height_17 (by decide) (fun c17 => ?_) (fun c17 => ?_)
  · have c17_ := i_ne c17
    replace h9 := cm_n h9 c17_
    clear c17_
    have sv23_r9 : 0 ≤ r9.toInt ∧ r9.toInt ≤ 23 := by omega
    have hcel : inG x y (vp 0 0) (vp 1 0) := (by unfold inG; omega)
    have hr9 : r9.toInt = (vp 0 0).toInt * y.toInt + x.toInt := by omega
    have hC9 : ∀ vm : Vf, RW vm vp vs → r9 = mC vm x y ∧ inG x y (vm 0 0) (vm 1 0) ∧ cW vm r9 := fun vm hR => by have hG := hR.2.2.2.1.1; have q := mC_eq hG hR.1.1.1 hR.1.1.2.1 hcel hr9; have i := hcel; rw [hR.1.1.1, hR.1.1.2.1] at i; exact ⟨q, i, by rw [q]; exact mC_cW hG i⟩
    clear hf9 hm9
    refine lv_iload_n hx hb dX9_height_23 rfl (lv_at hl 4 rfl) ?_
    refine lv_iconst (v := 0) hx hb dX9_height_24 (by decide) ?_
    refine lv_ldc hx hb hown lk2 dX9_height_25 ?_
    refine rd_S (As := [.int step, .int 0, .int 999999]) (rest := []) ⟨hx, hb, hml, hown, hts⟩ (c_X9_isOff l E A step 0 999999) (va_cwS 3 hts gX9_height_X9_isOff rfl rfl rfl (by decide +kernel) ⟨Nat.le_of_ble_eq_true rfl, Nat.le_of_ble_eq_true rfl⟩) hE (hP.sub (ws' := []) [] rfl) rfl hl.1 rfl (Nat.le_of_ble_eq_true rfl) dX9_height_27 ⟨Nat.zero_le _, Nat.zero_le _⟩ (fun r27 h27 => ?_)
    refine lv_if_eq (tgt := 36) hx hb dX9_height_30 (by decide) (fun c30 => ?_) (fun c30 => ?_)
    · have c30_ := i_eq c30
      replace h27 := or_n h27 c30_
      refine lv_aload_n hx hb dX9_height_36 rfl (lv_at hl 1 rfl) ?_
      refine va_get (D := eD E) (ci := 9) (v := .ref (a 5)) (C := RX9) (T := TX9) (N := 13) hx hb hts in_X9 hown hK hP 0 rfl rfl 5 (by decide) lk0 (fun _ h9 => h9) rfl dX9_height_37 ?_
      refine lv_iload hx hb dX9_height_40 (lv_at hl 0 rfl) ?_
      refine lv_iload_n hx hb dX9_height_42 rfl (lv_at hl 4 rfl) ?_
      refine lv_iconst (v := (-1)) hx hb dX9_height_43 (by decide) ?_
      refine rd_V (As := [.int r9, .int step, .int (-1)]) (rest := []) (C := RX8) (ci := 8) ⟨hx, hb, hml, hown, hts⟩ (c_X8_heightAt l E A (a 5) ap vp as_ vs r9 step (-1) hI hJ (by omega) (by omega)) (cwV 3 hts gX9_height_X8_heightAt rfl rfl rfl (by decide +kernel) ⟨Nat.le_of_ble_eq_true rfl, Nat.le_of_ble_eq_true rfl⟩) hE (hP.sub (ws' := wpsL E (a 5) ap vp as_ vs) [5, 6, 7, 8, 9, 10, 11, 12, 13, 14, 15, 16, 17, 18, 19, 20, 21, 22, 23, 24, 25, 26, 27, 28, 29, 30, 31, 32, 33, 34, 35, 36, 37, 38] rfl) rfl rfl rfl rfl hl.1 rfl (Nat.le_of_ble_eq_true rfl) dX9_height_44 ⟨Nat.zero_le _, Nat.zero_le _⟩ (fun r44 h44 => ?_)
      have hf44 := h44.2
      replace h44 := h44.1
      subst hQ
      exact W.iret (v := r44) hx hb hr (fun t ht hW => ⟨r44, rfl, ⟨trivial, (fun vm hR hg => by have hC := hC9 vm hR; exact Or.inr ⟨hC.2.1, Or.inr ⟨by omega, by rw [← hC.1]; exact hf44 vm hR hg hC.2.2⟩⟩)⟩, ht⟩) (fun q h => absurd h List.not_mem_nil) dX9_height_47
    · have c30_ := i_ne c30
      replace h27 := or_y h27 c30_
      clear c30_
      refine lv_ldc hx hb hown lk3 dX9_height_33 ?_
      subst hQ
      exact W.iret (v := (-1000000002)) hx hb hr (fun t ht hW => ⟨(-1000000002), rfl, ⟨trivial, (fun vm hR hg => Or.inr ⟨(hC9 vm hR).2.1, Or.inl ⟨by omega, by omega⟩⟩)⟩, ht⟩) (fun q h => absurd h List.not_mem_nil) dX9_height_35
  · have c17_ := i_eq c17
    clear h9
    refine lv_ldc hx hb hown lk4 dX9_height_20 ?_
    subst hQ
    exact W.iret (v := (-1000000001)) hx hb hr (fun t ht hW => ⟨(-1000000001), rfl, ⟨trivial, (fun vm hR hg => Or.inl ⟨by omega, (by rw [← hR.1.1.1, ← hR.1.1.2.1]; unfold inG; omega)⟩)⟩, ht⟩) (fun q h => absurd h List.not_mem_nil) dX9_height_22
def rm_X9_moon : Room := { frames := 2, cells := 0, slots := 0, locals := 43 }
set_option maxHeartbeats 4000000 in
set_option maxRecDepth 100000 in
theorem c_X9_moon (l : Launch) (E : Ev) (A : Nat → Prop) (a : Nat → Nat) (v : Vf) (aq : Nat → Nat) (ap : Nat → Nat) (vp : Vf) (as_ : Nat → Nat) (vs : Vf) (i : Int32) (what : Int32) (hI : PlanI vp) (hJ : StateI vs) (hT : TgI v) : Met l yX9_moon wsX9_moon rm_X9_moon (RdP E A [.ref (a 99), .int i, .int what] (tgsL E a v aq ap vp as_ vs)) (vp_Si (fun r => (True) ∧ (∀ vm : Vf, RW vm vp vs → (-1 : Int32) = vm 62 0 → UnkP (0 ≤ i.toInt ∧ i.toInt < (vm 4 0).toInt) r (TabP 4 what r (mMv vm i))))) 0 0 (fun _ => False) := by
  refine Met.ofW (cc := cX9_moon) (maxL := 4) (ret := (some .int)) (by decide) rfl ?_
  intro p e s m args below meth c s₁ B hml hv
  obtain ⟨rfl, hE, hP⟩ := hv
  have hx := B.exec
  have hb := B.bytes
  have hr := B.returns
  have hts := atoms_spec (ws := wsX9_moon) B.pre
  have hown : s.vm.findClass RX9 = some m.cls := findClass_of_methodNamed B.named
  have hlocks := B.notSynchronized
  have hK := hE.1
  have in_X9 : ∀ w ∈ u_ws RX9 TX9 13, w ∈ wsX9_moon := fun w h => List.mem_cons_of_mem _ (List.mem_append_left _ (List.mem_append_left _ (List.mem_append_left _ (List.mem_append_left _ (List.mem_append_right _ h)))))
  have in_X8 : ∀ w ∈ u_ws RX8 TX8 2, w ∈ wsX9_moon := fun w h => List.mem_cons_of_mem _ (List.mem_append_left _ (List.mem_append_left _ (List.mem_append_left _ (List.mem_append_right _ h))))
  have in_X1 : ∀ w ∈ u_ws RX1 TX1 11, w ∈ wsX9_moon := fun w h => List.mem_cons_of_mem _ (List.mem_append_left _ (List.mem_append_left _ (List.mem_append_right _ h)))
  have in_X0 : ∀ w ∈ u_ws RX0 TX0 5, w ∈ wsX9_moon := fun w h => List.mem_cons_of_mem _ (List.mem_append_left _ (List.mem_append_right _ h))
  have in_X6 : ∀ w ∈ u_ws RX6 TX6 9, w ∈ wsX9_moon := fun w h => List.mem_cons_of_mem _ (List.mem_append_right _ h)
  have lk0 := hts (.fieldLink RX9 43 "TidedGround" "world" "LTidedGround$World;") (List.mem_of_getElem? (i := 2) rfl)
  have lk1 := hts (.fieldLink RX9 91 "TidedGround$World" "plan" "LTidedGround$Plan;") (List.mem_of_getElem? (i := 3) rfl)
  have lk2 := hts (.fieldLink RX9 189 "TidedGround$Plan" "moons" "[LTidedGround$Moon;") (List.mem_of_getElem? (i := 4) rfl)
  have lk3 := hts (.constant RX9 81 (-1000000002)) (List.mem_of_getElem? (i := 11) rfl)
  have lk4 := hts (.fieldLink RX9 193 "TidedGround$Moon" "size" "I") (List.mem_of_getElem? (i := 5) rfl)
  have lk5 := hts (.fieldLink RX9 198 "TidedGround$Moon" "perX" "I") (List.mem_of_getElem? (i := 6) rfl)
  have lk6 := hts (.fieldLink RX9 201 "TidedGround$Moon" "perY" "I") (List.mem_of_getElem? (i := 7) rfl)
  have lk7 := hts (.fieldLink RX9 34 "TidedGround" "now" "LTidedGround$State;") (List.mem_of_getElem? (i := 8) rfl)
  have lk8 := hts (.fieldLink RX9 204 "TidedGround$State" "shifts" "[I") (List.mem_of_getElem? (i := 9) rfl)
  have lk9 := hts (.fieldLink RX9 137 "TidedGround$State" "step" "I") (List.mem_of_getElem? (i := 10) rfl)
  have lk10 := hts (.constant RX9 161 (-1000000001)) (List.mem_of_getElem? (i := 1) rfl)
  have n_m1000000002 : ((-1000000002) : Int32).toInt = -1000000002 := by decide
  have n_m1000000001 : ((-1000000001) : Int32).toInt = -1000000001 := by decide
  have n_0 : (0 : Int32).toInt = 0 := by decide
  have n_1 : (1 : Int32).toInt = 1 := by decide
  have n_2 : (2 : Int32).toInt = 2 := by decide
  have hl := lv_entry ([.ref (a 99), .int i, .int what]) (n := 4) (Nat.le_of_ble_eq_true rfl)
  rw [lg_entry_eq]
  generalize (lg_sl ([.ref (a 99), .int i, .int what]) ++ List.replicate (4 - (lg_sl ([.ref (a 99), .int i, .int what])).length) Slot.unset).toArray = ls at hl ⊢
  have hl : lv_has ls 4 [(0, .ref (a 99)), (1, .int i), (2, .int what)] := hl
  refine W_abs (fun Q hQ => ?_)
  obtain ⟨hg, hmc, hm0, hm1, hm2, hs0, hs1, hs2, hs3⟩ := id hI
  obtain ⟨hg1, hg2, hg3, hg4⟩ := id hg
  have hz0 := hm0.1
  have hz1 := hm1.1
  have hz2 := hm2.1
  have hc0 := hs0.1
  have hc1 := hs1.1
  have hc2 := hs2.1
  have hc3 := hs3.1
  obtain ⟨hj0, hj1, hj2⟩ := id hJ
  obtain ⟨hT1, hT2⟩ := id hT
  refine lv_aload_n hx hb dX9_moon_0 rfl (lv_at hl 0 rfl) ?_
  refine lv_iload_n hx hb dX9_moon_1 rfl (lv_at hl 1 rfl) ?_
  refine rd_V (As := [.int i]) (rest := []) (C := RX9) (ci := 9) ⟨hx, hb, hml, hown, hts⟩ (c_X9_isNoMoon l E A a v aq ap vp as_ vs i hI hJ hT) (cwV 1 hts gX9_moon_X9_isNoMoon rfl rfl rfl (by decide +kernel) ⟨Nat.le_of_ble_eq_true rfl, Nat.le_of_ble_eq_true rfl⟩) hE (hP.sub (ws' := tgsL E a v aq ap vp as_ vs) [0, 1, 2, 3, 4, 5, 6, 7, 8, 9, 10, 11, 12, 13, 14, 15, 16, 17, 18, 19, 20, 21, 22, 23, 24, 25, 26, 27, 28, 29, 30, 31, 32, 33, 34, 35, 36, 37, 38] rfl) rfl rfl rfl rfl hl.1 rfl (Nat.le_of_ble_eq_true rfl) dX9_moon_2 ⟨Nat.zero_le _, Nat.zero_le _⟩ (fun r2 h2 => ?_)
  refine lv_if_eq (tgt := 11) hx hb dX9_moon_5 (by decide) (fun c5 => ?_) (fun c5 => ?_)
  · have c5_ := i_eq c5
    replace h2 := or_n h2 c5_
    rcases (show i = 0 ∨ i = 1 ∨ i = 2 from i_c3 (by omega) (by omega)) with rfl | rfl | rfl
    · refine lv_aload_n hx hb dX9_moon_11 rfl (lv_at hl 0 rfl) ?_
      refine va_get (D := eD E) (ci := 9) (v := .ref (a 5)) (C := RX9) (T := TX9) (N := 13) hx hb hts in_X9 hown hK hP 0 rfl rfl 5 (by decide) lk0 (fun _ h9 => h9) rfl dX9_moon_12 ?_
      refine va_get (D := eD E) (ci := 8) (v := .ref (ap 0)) (C := RX8) (T := TX8) (N := 2) hx hb hts in_X8 hown hK hP 5 rfl rfl 0 (by decide) lk1 (fun _ h9 => h9) rfl dX9_moon_15 ?_
      refine va_get (D := eD E) (ci := 1) (v := .ref (ap 6)) (C := RX1) (T := TX1) (N := 11) hx hb hts in_X1 hown hK hP 6 rfl rfl 6 (by decide) lk2 (fun _ h9 => h9) rfl dX9_moon_18 ?_
      refine lv_iload_n hx hb dX9_moon_21 rfl (lv_at hl 1 rfl) ?_
      refine va_aldq hx hb hK hP 9 2 rfl rfl (i_in (by decide) (by decide)) dX9_moon_22 ?_
      refine W.eq (g2 := F0 m 23 ls [.ref (ap 20)]) rfl ?_
      refine lv_astore_n (lv' := [(3, .ref (ap 20)), (0, .ref (a 99)), (1, .int 0), (2, .int what)]) hx hb dX9_moon_23 rfl hl (by decide) rfl (fun ls hl => ?_)
      refine lv_iload_n hx hb dX9_moon_24 rfl (lv_at hl 3 rfl) ?_
      by_cases tb25 : what.toInt < 0 ∨ 4 < what.toInt
      · refine lv_tableOut (tgt := 107) hx hb dX9_moon_25 tb25 (by decide) ?_
        refine lv_ldc hx hb hown lk3 dX9_moon_107 ?_
        subst hQ
        exact W.iret (v := (-1000000002)) hx hb hr (fun t ht hW => ⟨(-1000000002), rfl, ⟨trivial, (fun vm hR hg => by have hmi : (vp 5 0).toInt = (vm 4 0).toInt := (by rw [hR.1.2.1.1]); exact Or.inr ⟨by omega, Or.inl ⟨tb25, by omega⟩⟩)⟩, ht⟩) (fun q h => absurd h List.not_mem_nil) dX9_moon_109
      · rcases (show what.toInt = 0 ∨ what.toInt = 1 ∨ what.toInt = 2 ∨ what.toInt = 3 ∨ what.toInt = 4 by omega) with sw25 | sw25 | sw25 | sw25 | sw25
        · refine lv_tableIn (off := 35) (tgt := 60) hx hb dX9_moon_25 (by omega) (by omega) (by rw [sw25]; rfl) (by decide) ?_
          refine lv_aload_n hx hb dX9_moon_60 rfl (lv_at hl 0 rfl) ?_
          refine va_get (D := eD E) (ci := 0) (v := .int (vp 20 0)) (C := RX0) (T := TX0) (N := 5) hx hb hts in_X0 hown hK hP 10 rfl rfl 0 (by decide) lk4 (fun _ h9 => h9) rfl dX9_moon_61 ?_
          subst hQ
          exact W.iret (v := (vp 20 0)) hx hb hr (fun t ht hW => ⟨(vp 20 0), rfl, ⟨trivial, (fun vm hR hg => by have e5 := hR.1.2.1.1; have hmi : (vp 5 0).toInt = (vm 4 0).toInt := (by rw [e5]); exact Or.inr ⟨by omega, Or.inr ⟨0, sw25, by decide, (by first | (exact (hR.1.2.1.2.1.1 (by omega)).1.1) | (exact (hR.1.2.1.2.2.1.1 (by omega)).1.1) | (exact (hR.1.2.1.2.2.2.1 (by omega)).1.1))⟩⟩)⟩, ht⟩) (fun q h => absurd h List.not_mem_nil) dX9_moon_64
        · refine lv_tableIn (off := 40) (tgt := 65) hx hb dX9_moon_25 (by omega) (by omega) (by rw [sw25]; rfl) (by decide) ?_
          refine lv_aload_n hx hb dX9_moon_65 rfl (lv_at hl 0 rfl) ?_
          refine va_get (D := eD E) (ci := 0) (v := .int (vp 21 0)) (C := RX0) (T := TX0) (N := 5) hx hb hts in_X0 hown hK hP 10 rfl rfl 1 (by decide) lk5 (fun _ h9 => h9) rfl dX9_moon_66 ?_
          subst hQ
          exact W.iret (v := (vp 21 0)) hx hb hr (fun t ht hW => ⟨(vp 21 0), rfl, ⟨trivial, (fun vm hR hg => by have e5 := hR.1.2.1.1; have hmi : (vp 5 0).toInt = (vm 4 0).toInt := (by rw [e5]); exact Or.inr ⟨by omega, Or.inr ⟨1, sw25, by decide, (by first | (exact (hR.1.2.1.2.1.1 (by omega)).1.2.1) | (exact (hR.1.2.1.2.2.1.1 (by omega)).1.2.1) | (exact (hR.1.2.1.2.2.2.1 (by omega)).1.2.1))⟩⟩)⟩, ht⟩) (fun q h => absurd h List.not_mem_nil) dX9_moon_69
        · refine lv_tableIn (off := 45) (tgt := 70) hx hb dX9_moon_25 (by omega) (by omega) (by rw [sw25]; rfl) (by decide) ?_
          refine lv_aload_n hx hb dX9_moon_70 rfl (lv_at hl 0 rfl) ?_
          refine va_get (D := eD E) (ci := 0) (v := .int (vp 22 0)) (C := RX0) (T := TX0) (N := 5) hx hb hts in_X0 hown hK hP 10 rfl rfl 2 (by decide) lk6 (fun _ h9 => h9) rfl dX9_moon_71 ?_
          subst hQ
          exact W.iret (v := (vp 22 0)) hx hb hr (fun t ht hW => ⟨(vp 22 0), rfl, ⟨trivial, (fun vm hR hg => by have e5 := hR.1.2.1.1; have hmi : (vp 5 0).toInt = (vm 4 0).toInt := (by rw [e5]); exact Or.inr ⟨by omega, Or.inr ⟨2, sw25, by decide, (by first | (exact (hR.1.2.1.2.1.1 (by omega)).1.2.2) | (exact (hR.1.2.1.2.2.1.1 (by omega)).1.2.2) | (exact (hR.1.2.1.2.2.2.1 (by omega)).1.2.2))⟩⟩)⟩, ht⟩) (fun q h => absurd h List.not_mem_nil) dX9_moon_74
        · refine lv_tableIn (off := 50) (tgt := 75) hx hb dX9_moon_25 (by omega) (by omega) (by rw [sw25]; rfl) (by decide) ?_
          refine lv_aload_n hx hb dX9_moon_75 rfl (lv_at hl 1 rfl) ?_
          refine va_get (D := eD E) (ci := 9) (v := .ref (as_ 0)) (C := RX9) (T := TX9) (N := 13) hx hb hts in_X9 hown hK hP 0 rfl rfl 6 (by decide) lk7 (fun _ h9 => h9) rfl dX9_moon_76 ?_
          refine va_get (D := eD E) (ci := 6) (v := .ref (as_ 1)) (C := RX6) (T := TX6) (N := 9) hx hb hts in_X6 hown hK hP 35 rfl rfl 1 (by decide) lk8 (fun _ h9 => h9) rfl dX9_moon_79 ?_
          refine lv_iload_n hx hb dX9_moon_82 rfl (lv_at hl 2 rfl) ?_
          refine va_iald hx hb hK hP 36 0 rfl rfl (n := 3) (f := (vs 1)) (i_in (by omega) (by omega)) dX9_moon_83 ?_
          refine lv_topi (fun x83 e83 => ?_)
          have e83 : x83 = (vs 1) 0 := e83
          have b83 := hj1 0 (by decide)
          rw [← e83] at b83
          subst hQ
          exact W.iret (v := x83) hx hb hr (fun t ht hW => ⟨x83, rfl, ⟨trivial, (fun vm hR hg => by have e5 := hR.1.2.1.1; have hmi : (vp 5 0).toInt = (vm 4 0).toInt := (by rw [e5]); exact Or.inr ⟨by omega, Or.inr ⟨3, sw25, by decide, (by first | (exact e83.trans (hR.2.1.2.1 0 (by decide))) | (exact e83.trans (hR.2.1.2.1 1 (by decide))) | (exact e83.trans (hR.2.1.2.1 2 (by decide))))⟩⟩)⟩, ht⟩) (fun q h => absurd h List.not_mem_nil) dX9_moon_84
        · refine lv_tableIn (off := 60) (tgt := 85) hx hb dX9_moon_25 (by omega) (by omega) (by rw [sw25]; rfl) (by decide) ?_
          refine lv_aload_n hx hb dX9_moon_85 rfl (lv_at hl 0 rfl) ?_
          refine lv_iconst (v := 0) hx hb dX9_moon_86 (by decide) ?_
          refine lv_aload_n hx hb dX9_moon_87 rfl (lv_at hl 1 rfl) ?_
          refine va_get (D := eD E) (ci := 9) (v := .ref (as_ 0)) (C := RX9) (T := TX9) (N := 13) hx hb hts in_X9 hown hK hP 0 rfl rfl 6 (by decide) lk7 (fun _ h9 => h9) rfl dX9_moon_88 ?_
          refine va_get (D := eD E) (ci := 6) (v := .int (vs 0 0)) (C := RX6) (T := TX6) (N := 9) hx hb hts in_X6 hown hK hP 35 rfl rfl 0 (by decide) lk9 (fun _ h9 => h9) rfl dX9_moon_91 ?_
          refine lv_aload_n hx hb dX9_moon_94 rfl (lv_at hl 1 rfl) ?_
          refine va_get (D := eD E) (ci := 9) (v := .ref (as_ 0)) (C := RX9) (T := TX9) (N := 13) hx hb hts in_X9 hown hK hP 0 rfl rfl 6 (by decide) lk7 (fun _ h9 => h9) rfl dX9_moon_95 ?_
          refine va_get (D := eD E) (ci := 6) (v := .ref (as_ 1)) (C := RX6) (T := TX6) (N := 9) hx hb hts in_X6 hown hK hP 35 rfl rfl 1 (by decide) lk8 (fun _ h9 => h9) rfl dX9_moon_98 ?_
          refine lv_iload_n hx hb dX9_moon_101 rfl (lv_at hl 2 rfl) ?_
          refine va_iald hx hb hK hP 36 0 rfl rfl (n := 3) (f := (vs 1)) (i_in (by omega) (by omega)) dX9_moon_102 ?_
          refine lv_topi (fun x102 e102 => ?_)
          have e102 : x102 = (vs 1) 0 := e102
          have b102 := hj1 0 (by decide)
          rw [← e102] at b102
          refine rd_V (As := [.int 0, .int (vs 0 0), .int x102]) (rest := []) (C := RX0) (ci := 0) ⟨hx, hb, hml, hown, hts⟩ (c_X0_partAt l E A (ap 20) (ap 23) (ap 24) (vp 20 0) (vp 21 0) (vp 22 0) (vp 23) (vp 24) 0 (vs 0 0) x102 hm0 (by omega) (by omega) (by omega)) (cwV 3 hts gX9_moon_X0_partAt rfl rfl rfl (by decide +kernel) ⟨Nat.le_of_ble_eq_true rfl, Nat.le_of_ble_eq_true rfl⟩) hE (hP.sub (ws' := moonL E (ap 20) (ap 23) (ap 24) (vp 20 0) (vp 21 0) (vp 22 0) (vp 23) (vp 24)) [10, 11, 12] rfl) rfl rfl rfl rfl hl.1 rfl (Nat.le_of_ble_eq_true rfl) dX9_moon_103 ⟨Nat.zero_le _, Nat.zero_le _⟩ (fun r103 h103 => ?_)
          have hf103 := h103.2
          replace h103 := h103.1
          subst hQ
          exact W.iret (v := r103) hx hb hr (fun t ht hW => ⟨r103, rfl, ⟨trivial, (fun vm hR hg => by have e5 := hR.1.2.1.1; have hmi : (vp 5 0).toInt = (vm 4 0).toInt := (by rw [e5]); exact Or.inr ⟨by omega, Or.inr ⟨4, sw25, by decide, (by first | (have q := part0_cls (m := 0) (k := 0) (step := vs 0 0) (x := r103) hR hR.1.2.1.2.1 (by omega) (by decide) hg (by omega) (by rw [hf103, e102]); rw [show vs 0 0 = vm 23 0 from hR.2.1.1] at q; exact q) | (have q := part0_cls (m := 1) (k := 1) (step := vs 0 0) (x := r103) hR hR.1.2.1.2.2.1 (by omega) (by decide) hg (by omega) (by rw [hf103, e102]); rw [show vs 0 0 = vm 23 0 from hR.2.1.1] at q; exact q) | (have q := part0_cls (m := 2) (k := 2) (step := vs 0 0) (x := r103) hR hR.1.2.1.2.2.2 (by omega) (by decide) hg (by omega) (by rw [hf103, e102]); rw [show vs 0 0 = vm 23 0 from hR.2.1.1] at q; exact q))⟩⟩)⟩, ht⟩) (fun q h => absurd h List.not_mem_nil) dX9_moon_106
    · refine lv_aload_n hx hb dX9_moon_11 rfl (lv_at hl 0 rfl) ?_
      refine va_get (D := eD E) (ci := 9) (v := .ref (a 5)) (C := RX9) (T := TX9) (N := 13) hx hb hts in_X9 hown hK hP 0 rfl rfl 5 (by decide) lk0 (fun _ h9 => h9) rfl dX9_moon_12 ?_
      refine va_get (D := eD E) (ci := 8) (v := .ref (ap 0)) (C := RX8) (T := TX8) (N := 2) hx hb hts in_X8 hown hK hP 5 rfl rfl 0 (by decide) lk1 (fun _ h9 => h9) rfl dX9_moon_15 ?_
      refine va_get (D := eD E) (ci := 1) (v := .ref (ap 6)) (C := RX1) (T := TX1) (N := 11) hx hb hts in_X1 hown hK hP 6 rfl rfl 6 (by decide) lk2 (fun _ h9 => h9) rfl dX9_moon_18 ?_
      refine lv_iload_n hx hb dX9_moon_21 rfl (lv_at hl 1 rfl) ?_
      refine va_aldq hx hb hK hP 9 2 rfl rfl (i_in (by decide) (by decide)) dX9_moon_22 ?_
      refine W.eq (g2 := F0 m 23 ls [.ref (ap 30)]) rfl ?_
      refine lv_astore_n (lv' := [(3, .ref (ap 30)), (0, .ref (a 99)), (1, .int 1), (2, .int what)]) hx hb dX9_moon_23 rfl hl (by decide) rfl (fun ls hl => ?_)
      refine lv_iload_n hx hb dX9_moon_24 rfl (lv_at hl 3 rfl) ?_
      by_cases tb25 : what.toInt < 0 ∨ 4 < what.toInt
      · refine lv_tableOut (tgt := 107) hx hb dX9_moon_25 tb25 (by decide) ?_
        refine lv_ldc hx hb hown lk3 dX9_moon_107 ?_
        subst hQ
        exact W.iret (v := (-1000000002)) hx hb hr (fun t ht hW => ⟨(-1000000002), rfl, ⟨trivial, (fun vm hR hg => by have hmi : (vp 5 0).toInt = (vm 4 0).toInt := (by rw [hR.1.2.1.1]); exact Or.inr ⟨by omega, Or.inl ⟨tb25, by omega⟩⟩)⟩, ht⟩) (fun q h => absurd h List.not_mem_nil) dX9_moon_109
      · rcases (show what.toInt = 0 ∨ what.toInt = 1 ∨ what.toInt = 2 ∨ what.toInt = 3 ∨ what.toInt = 4 by omega) with sw25 | sw25 | sw25 | sw25 | sw25
        · refine lv_tableIn (off := 35) (tgt := 60) hx hb dX9_moon_25 (by omega) (by omega) (by rw [sw25]; rfl) (by decide) ?_
          refine lv_aload_n hx hb dX9_moon_60 rfl (lv_at hl 0 rfl) ?_
          refine va_get (D := eD E) (ci := 0) (v := .int (vp 30 0)) (C := RX0) (T := TX0) (N := 5) hx hb hts in_X0 hown hK hP 13 rfl rfl 0 (by decide) lk4 (fun _ h9 => h9) rfl dX9_moon_61 ?_
          subst hQ
          exact W.iret (v := (vp 30 0)) hx hb hr (fun t ht hW => ⟨(vp 30 0), rfl, ⟨trivial, (fun vm hR hg => by have e5 := hR.1.2.1.1; have hmi : (vp 5 0).toInt = (vm 4 0).toInt := (by rw [e5]); exact Or.inr ⟨by omega, Or.inr ⟨0, sw25, by decide, (by first | (exact (hR.1.2.1.2.1.1 (by omega)).1.1) | (exact (hR.1.2.1.2.2.1.1 (by omega)).1.1) | (exact (hR.1.2.1.2.2.2.1 (by omega)).1.1))⟩⟩)⟩, ht⟩) (fun q h => absurd h List.not_mem_nil) dX9_moon_64
        · refine lv_tableIn (off := 40) (tgt := 65) hx hb dX9_moon_25 (by omega) (by omega) (by rw [sw25]; rfl) (by decide) ?_
          refine lv_aload_n hx hb dX9_moon_65 rfl (lv_at hl 0 rfl) ?_
          refine va_get (D := eD E) (ci := 0) (v := .int (vp 31 0)) (C := RX0) (T := TX0) (N := 5) hx hb hts in_X0 hown hK hP 13 rfl rfl 1 (by decide) lk5 (fun _ h9 => h9) rfl dX9_moon_66 ?_
          subst hQ
          exact W.iret (v := (vp 31 0)) hx hb hr (fun t ht hW => ⟨(vp 31 0), rfl, ⟨trivial, (fun vm hR hg => by have e5 := hR.1.2.1.1; have hmi : (vp 5 0).toInt = (vm 4 0).toInt := (by rw [e5]); exact Or.inr ⟨by omega, Or.inr ⟨1, sw25, by decide, (by first | (exact (hR.1.2.1.2.1.1 (by omega)).1.2.1) | (exact (hR.1.2.1.2.2.1.1 (by omega)).1.2.1) | (exact (hR.1.2.1.2.2.2.1 (by omega)).1.2.1))⟩⟩)⟩, ht⟩) (fun q h => absurd h List.not_mem_nil) dX9_moon_69
        · refine lv_tableIn (off := 45) (tgt := 70) hx hb dX9_moon_25 (by omega) (by omega) (by rw [sw25]; rfl) (by decide) ?_
          refine lv_aload_n hx hb dX9_moon_70 rfl (lv_at hl 0 rfl) ?_
          refine va_get (D := eD E) (ci := 0) (v := .int (vp 32 0)) (C := RX0) (T := TX0) (N := 5) hx hb hts in_X0 hown hK hP 13 rfl rfl 2 (by decide) lk6 (fun _ h9 => h9) rfl dX9_moon_71 ?_
          subst hQ
          exact W.iret (v := (vp 32 0)) hx hb hr (fun t ht hW => ⟨(vp 32 0), rfl, ⟨trivial, (fun vm hR hg => by have e5 := hR.1.2.1.1; have hmi : (vp 5 0).toInt = (vm 4 0).toInt := (by rw [e5]); exact Or.inr ⟨by omega, Or.inr ⟨2, sw25, by decide, (by first | (exact (hR.1.2.1.2.1.1 (by omega)).1.2.2) | (exact (hR.1.2.1.2.2.1.1 (by omega)).1.2.2) | (exact (hR.1.2.1.2.2.2.1 (by omega)).1.2.2))⟩⟩)⟩, ht⟩) (fun q h => absurd h List.not_mem_nil) dX9_moon_74
        · refine lv_tableIn (off := 50) (tgt := 75) hx hb dX9_moon_25 (by omega) (by omega) (by rw [sw25]; rfl) (by decide) ?_
          refine lv_aload_n hx hb dX9_moon_75 rfl (lv_at hl 1 rfl) ?_
          refine va_get (D := eD E) (ci := 9) (v := .ref (as_ 0)) (C := RX9) (T := TX9) (N := 13) hx hb hts in_X9 hown hK hP 0 rfl rfl 6 (by decide) lk7 (fun _ h9 => h9) rfl dX9_moon_76 ?_
          refine va_get (D := eD E) (ci := 6) (v := .ref (as_ 1)) (C := RX6) (T := TX6) (N := 9) hx hb hts in_X6 hown hK hP 35 rfl rfl 1 (by decide) lk8 (fun _ h9 => h9) rfl dX9_moon_79 ?_
          refine lv_iload_n hx hb dX9_moon_82 rfl (lv_at hl 2 rfl) ?_
          refine va_iald hx hb hK hP 36 0 rfl rfl (n := 3) (f := (vs 1)) (i_in (by omega) (by omega)) dX9_moon_83 ?_
          refine lv_topi (fun x83 e83 => ?_)
          have e83 : x83 = (vs 1) 1 := e83
          have b83 := hj1 1 (by decide)
          rw [← e83] at b83
          subst hQ
          exact W.iret (v := x83) hx hb hr (fun t ht hW => ⟨x83, rfl, ⟨trivial, (fun vm hR hg => by have e5 := hR.1.2.1.1; have hmi : (vp 5 0).toInt = (vm 4 0).toInt := (by rw [e5]); exact Or.inr ⟨by omega, Or.inr ⟨3, sw25, by decide, (by first | (exact e83.trans (hR.2.1.2.1 0 (by decide))) | (exact e83.trans (hR.2.1.2.1 1 (by decide))) | (exact e83.trans (hR.2.1.2.1 2 (by decide))))⟩⟩)⟩, ht⟩) (fun q h => absurd h List.not_mem_nil) dX9_moon_84
        · refine lv_tableIn (off := 60) (tgt := 85) hx hb dX9_moon_25 (by omega) (by omega) (by rw [sw25]; rfl) (by decide) ?_
          refine lv_aload_n hx hb dX9_moon_85 rfl (lv_at hl 0 rfl) ?_
          refine lv_iconst (v := 0) hx hb dX9_moon_86 (by decide) ?_
          refine lv_aload_n hx hb dX9_moon_87 rfl (lv_at hl 1 rfl) ?_
          refine va_get (D := eD E) (ci := 9) (v := .ref (as_ 0)) (C := RX9) (T := TX9) (N := 13) hx hb hts in_X9 hown hK hP 0 rfl rfl 6 (by decide) lk7 (fun _ h9 => h9) rfl dX9_moon_88 ?_
          refine va_get (D := eD E) (ci := 6) (v := .int (vs 0 0)) (C := RX6) (T := TX6) (N := 9) hx hb hts in_X6 hown hK hP 35 rfl rfl 0 (by decide) lk9 (fun _ h9 => h9) rfl dX9_moon_91 ?_
          refine lv_aload_n hx hb dX9_moon_94 rfl (lv_at hl 1 rfl) ?_
          refine va_get (D := eD E) (ci := 9) (v := .ref (as_ 0)) (C := RX9) (T := TX9) (N := 13) hx hb hts in_X9 hown hK hP 0 rfl rfl 6 (by decide) lk7 (fun _ h9 => h9) rfl dX9_moon_95 ?_
          refine va_get (D := eD E) (ci := 6) (v := .ref (as_ 1)) (C := RX6) (T := TX6) (N := 9) hx hb hts in_X6 hown hK hP 35 rfl rfl 1 (by decide) lk8 (fun _ h9 => h9) rfl dX9_moon_98 ?_
          refine lv_iload_n hx hb dX9_moon_101 rfl (lv_at hl 2 rfl) ?_
          refine va_iald hx hb hK hP 36 0 rfl rfl (n := 3) (f := (vs 1)) (i_in (by omega) (by omega)) dX9_moon_102 ?_
          refine lv_topi (fun x102 e102 => ?_)
          have e102 : x102 = (vs 1) 1 := e102
          have b102 := hj1 1 (by decide)
          rw [← e102] at b102
          refine rd_V (As := [.int 0, .int (vs 0 0), .int x102]) (rest := []) (C := RX0) (ci := 0) ⟨hx, hb, hml, hown, hts⟩ (c_X0_partAt l E A (ap 30) (ap 33) (ap 34) (vp 30 0) (vp 31 0) (vp 32 0) (vp 33) (vp 34) 0 (vs 0 0) x102 hm1 (by omega) (by omega) (by omega)) (cwV 3 hts gX9_moon_X0_partAt rfl rfl rfl (by decide +kernel) ⟨Nat.le_of_ble_eq_true rfl, Nat.le_of_ble_eq_true rfl⟩) hE (hP.sub (ws' := moonL E (ap 30) (ap 33) (ap 34) (vp 30 0) (vp 31 0) (vp 32 0) (vp 33) (vp 34)) [13, 14, 15] rfl) rfl rfl rfl rfl hl.1 rfl (Nat.le_of_ble_eq_true rfl) dX9_moon_103 ⟨Nat.zero_le _, Nat.zero_le _⟩ (fun r103 h103 => ?_)
          have hf103 := h103.2
          replace h103 := h103.1
          subst hQ
          exact W.iret (v := r103) hx hb hr (fun t ht hW => ⟨r103, rfl, ⟨trivial, (fun vm hR hg => by have e5 := hR.1.2.1.1; have hmi : (vp 5 0).toInt = (vm 4 0).toInt := (by rw [e5]); exact Or.inr ⟨by omega, Or.inr ⟨4, sw25, by decide, (by first | (have q := part0_cls (m := 0) (k := 0) (step := vs 0 0) (x := r103) hR hR.1.2.1.2.1 (by omega) (by decide) hg (by omega) (by rw [hf103, e102]); rw [show vs 0 0 = vm 23 0 from hR.2.1.1] at q; exact q) | (have q := part0_cls (m := 1) (k := 1) (step := vs 0 0) (x := r103) hR hR.1.2.1.2.2.1 (by omega) (by decide) hg (by omega) (by rw [hf103, e102]); rw [show vs 0 0 = vm 23 0 from hR.2.1.1] at q; exact q) | (have q := part0_cls (m := 2) (k := 2) (step := vs 0 0) (x := r103) hR hR.1.2.1.2.2.2 (by omega) (by decide) hg (by omega) (by rw [hf103, e102]); rw [show vs 0 0 = vm 23 0 from hR.2.1.1] at q; exact q))⟩⟩)⟩, ht⟩) (fun q h => absurd h List.not_mem_nil) dX9_moon_106
    · refine lv_aload_n hx hb dX9_moon_11 rfl (lv_at hl 0 rfl) ?_
      refine va_get (D := eD E) (ci := 9) (v := .ref (a 5)) (C := RX9) (T := TX9) (N := 13) hx hb hts in_X9 hown hK hP 0 rfl rfl 5 (by decide) lk0 (fun _ h9 => h9) rfl dX9_moon_12 ?_
      refine va_get (D := eD E) (ci := 8) (v := .ref (ap 0)) (C := RX8) (T := TX8) (N := 2) hx hb hts in_X8 hown hK hP 5 rfl rfl 0 (by decide) lk1 (fun _ h9 => h9) rfl dX9_moon_15 ?_
      refine va_get (D := eD E) (ci := 1) (v := .ref (ap 6)) (C := RX1) (T := TX1) (N := 11) hx hb hts in_X1 hown hK hP 6 rfl rfl 6 (by decide) lk2 (fun _ h9 => h9) rfl dX9_moon_18 ?_
      refine lv_iload_n hx hb dX9_moon_21 rfl (lv_at hl 1 rfl) ?_
      refine va_aldq hx hb hK hP 9 2 rfl rfl (i_in (by decide) (by decide)) dX9_moon_22 ?_
      refine W.eq (g2 := F0 m 23 ls [.ref (ap 40)]) rfl ?_
      refine lv_astore_n (lv' := [(3, .ref (ap 40)), (0, .ref (a 99)), (1, .int 2), (2, .int what)]) hx hb dX9_moon_23 rfl hl (by decide) rfl (fun ls hl => ?_)
      refine lv_iload_n hx hb dX9_moon_24 rfl (lv_at hl 3 rfl) ?_
      by_cases tb25 : what.toInt < 0 ∨ 4 < what.toInt
      · refine lv_tableOut (tgt := 107) hx hb dX9_moon_25 tb25 (by decide) ?_
        refine lv_ldc hx hb hown lk3 dX9_moon_107 ?_
        subst hQ
        exact W.iret (v := (-1000000002)) hx hb hr (fun t ht hW => ⟨(-1000000002), rfl, ⟨trivial, (fun vm hR hg => by have hmi : (vp 5 0).toInt = (vm 4 0).toInt := (by rw [hR.1.2.1.1]); exact Or.inr ⟨by omega, Or.inl ⟨tb25, by omega⟩⟩)⟩, ht⟩) (fun q h => absurd h List.not_mem_nil) dX9_moon_109
      · rcases (show what.toInt = 0 ∨ what.toInt = 1 ∨ what.toInt = 2 ∨ what.toInt = 3 ∨ what.toInt = 4 by omega) with sw25 | sw25 | sw25 | sw25 | sw25
        · refine lv_tableIn (off := 35) (tgt := 60) hx hb dX9_moon_25 (by omega) (by omega) (by rw [sw25]; rfl) (by decide) ?_
          refine lv_aload_n hx hb dX9_moon_60 rfl (lv_at hl 0 rfl) ?_
          refine va_get (D := eD E) (ci := 0) (v := .int (vp 40 0)) (C := RX0) (T := TX0) (N := 5) hx hb hts in_X0 hown hK hP 16 rfl rfl 0 (by decide) lk4 (fun _ h9 => h9) rfl dX9_moon_61 ?_
          subst hQ
          exact W.iret (v := (vp 40 0)) hx hb hr (fun t ht hW => ⟨(vp 40 0), rfl, ⟨trivial, (fun vm hR hg => by have e5 := hR.1.2.1.1; have hmi : (vp 5 0).toInt = (vm 4 0).toInt := (by rw [e5]); exact Or.inr ⟨by omega, Or.inr ⟨0, sw25, by decide, (by first | (exact (hR.1.2.1.2.1.1 (by omega)).1.1) | (exact (hR.1.2.1.2.2.1.1 (by omega)).1.1) | (exact (hR.1.2.1.2.2.2.1 (by omega)).1.1))⟩⟩)⟩, ht⟩) (fun q h => absurd h List.not_mem_nil) dX9_moon_64
        · refine lv_tableIn (off := 40) (tgt := 65) hx hb dX9_moon_25 (by omega) (by omega) (by rw [sw25]; rfl) (by decide) ?_
          refine lv_aload_n hx hb dX9_moon_65 rfl (lv_at hl 0 rfl) ?_
          refine va_get (D := eD E) (ci := 0) (v := .int (vp 41 0)) (C := RX0) (T := TX0) (N := 5) hx hb hts in_X0 hown hK hP 16 rfl rfl 1 (by decide) lk5 (fun _ h9 => h9) rfl dX9_moon_66 ?_
          subst hQ
          exact W.iret (v := (vp 41 0)) hx hb hr (fun t ht hW => ⟨(vp 41 0), rfl, ⟨trivial, (fun vm hR hg => by have e5 := hR.1.2.1.1; have hmi : (vp 5 0).toInt = (vm 4 0).toInt := (by rw [e5]); exact Or.inr ⟨by omega, Or.inr ⟨1, sw25, by decide, (by first | (exact (hR.1.2.1.2.1.1 (by omega)).1.2.1) | (exact (hR.1.2.1.2.2.1.1 (by omega)).1.2.1) | (exact (hR.1.2.1.2.2.2.1 (by omega)).1.2.1))⟩⟩)⟩, ht⟩) (fun q h => absurd h List.not_mem_nil) dX9_moon_69
        · refine lv_tableIn (off := 45) (tgt := 70) hx hb dX9_moon_25 (by omega) (by omega) (by rw [sw25]; rfl) (by decide) ?_
          refine lv_aload_n hx hb dX9_moon_70 rfl (lv_at hl 0 rfl) ?_
          refine va_get (D := eD E) (ci := 0) (v := .int (vp 42 0)) (C := RX0) (T := TX0) (N := 5) hx hb hts in_X0 hown hK hP 16 rfl rfl 2 (by decide) lk6 (fun _ h9 => h9) rfl dX9_moon_71 ?_
          subst hQ
          exact W.iret (v := (vp 42 0)) hx hb hr (fun t ht hW => ⟨(vp 42 0), rfl, ⟨trivial, (fun vm hR hg => by have e5 := hR.1.2.1.1; have hmi : (vp 5 0).toInt = (vm 4 0).toInt := (by rw [e5]); exact Or.inr ⟨by omega, Or.inr ⟨2, sw25, by decide, (by first | (exact (hR.1.2.1.2.1.1 (by omega)).1.2.2) | (exact (hR.1.2.1.2.2.1.1 (by omega)).1.2.2) | (exact (hR.1.2.1.2.2.2.1 (by omega)).1.2.2))⟩⟩)⟩, ht⟩) (fun q h => absurd h List.not_mem_nil) dX9_moon_74
        · refine lv_tableIn (off := 50) (tgt := 75) hx hb dX9_moon_25 (by omega) (by omega) (by rw [sw25]; rfl) (by decide) ?_
          refine lv_aload_n hx hb dX9_moon_75 rfl (lv_at hl 1 rfl) ?_
          refine va_get (D := eD E) (ci := 9) (v := .ref (as_ 0)) (C := RX9) (T := TX9) (N := 13) hx hb hts in_X9 hown hK hP 0 rfl rfl 6 (by decide) lk7 (fun _ h9 => h9) rfl dX9_moon_76 ?_
          refine va_get (D := eD E) (ci := 6) (v := .ref (as_ 1)) (C := RX6) (T := TX6) (N := 9) hx hb hts in_X6 hown hK hP 35 rfl rfl 1 (by decide) lk8 (fun _ h9 => h9) rfl dX9_moon_79 ?_
          refine lv_iload_n hx hb dX9_moon_82 rfl (lv_at hl 2 rfl) ?_
          refine va_iald hx hb hK hP 36 0 rfl rfl (n := 3) (f := (vs 1)) (i_in (by omega) (by omega)) dX9_moon_83 ?_
          refine lv_topi (fun x83 e83 => ?_)
          have e83 : x83 = (vs 1) 2 := e83
          have b83 := hj1 2 (by decide)
          rw [← e83] at b83
          subst hQ
          exact W.iret (v := x83) hx hb hr (fun t ht hW => ⟨x83, rfl, ⟨trivial, (fun vm hR hg => by have e5 := hR.1.2.1.1; have hmi : (vp 5 0).toInt = (vm 4 0).toInt := (by rw [e5]); exact Or.inr ⟨by omega, Or.inr ⟨3, sw25, by decide, (by first | (exact e83.trans (hR.2.1.2.1 0 (by decide))) | (exact e83.trans (hR.2.1.2.1 1 (by decide))) | (exact e83.trans (hR.2.1.2.1 2 (by decide))))⟩⟩)⟩, ht⟩) (fun q h => absurd h List.not_mem_nil) dX9_moon_84
        · refine lv_tableIn (off := 60) (tgt := 85) hx hb dX9_moon_25 (by omega) (by omega) (by rw [sw25]; rfl) (by decide) ?_
          refine lv_aload_n hx hb dX9_moon_85 rfl (lv_at hl 0 rfl) ?_
          refine lv_iconst (v := 0) hx hb dX9_moon_86 (by decide) ?_
          refine lv_aload_n hx hb dX9_moon_87 rfl (lv_at hl 1 rfl) ?_
          refine va_get (D := eD E) (ci := 9) (v := .ref (as_ 0)) (C := RX9) (T := TX9) (N := 13) hx hb hts in_X9 hown hK hP 0 rfl rfl 6 (by decide) lk7 (fun _ h9 => h9) rfl dX9_moon_88 ?_
          refine va_get (D := eD E) (ci := 6) (v := .int (vs 0 0)) (C := RX6) (T := TX6) (N := 9) hx hb hts in_X6 hown hK hP 35 rfl rfl 0 (by decide) lk9 (fun _ h9 => h9) rfl dX9_moon_91 ?_
          refine lv_aload_n hx hb dX9_moon_94 rfl (lv_at hl 1 rfl) ?_
          refine va_get (D := eD E) (ci := 9) (v := .ref (as_ 0)) (C := RX9) (T := TX9) (N := 13) hx hb hts in_X9 hown hK hP 0 rfl rfl 6 (by decide) lk7 (fun _ h9 => h9) rfl dX9_moon_95 ?_
          refine va_get (D := eD E) (ci := 6) (v := .ref (as_ 1)) (C := RX6) (T := TX6) (N := 9) hx hb hts in_X6 hown hK hP 35 rfl rfl 1 (by decide) lk8 (fun _ h9 => h9) rfl dX9_moon_98 ?_
          refine lv_iload_n hx hb dX9_moon_101 rfl (lv_at hl 2 rfl) ?_
          refine va_iald hx hb hK hP 36 0 rfl rfl (n := 3) (f := (vs 1)) (i_in (by omega) (by omega)) dX9_moon_102 ?_
          refine lv_topi (fun x102 e102 => ?_)
          have e102 : x102 = (vs 1) 2 := e102
          have b102 := hj1 2 (by decide)
          rw [← e102] at b102
          refine rd_V (As := [.int 0, .int (vs 0 0), .int x102]) (rest := []) (C := RX0) (ci := 0) ⟨hx, hb, hml, hown, hts⟩ (c_X0_partAt l E A (ap 40) (ap 43) (ap 44) (vp 40 0) (vp 41 0) (vp 42 0) (vp 43) (vp 44) 0 (vs 0 0) x102 hm2 (by omega) (by omega) (by omega)) (cwV 3 hts gX9_moon_X0_partAt rfl rfl rfl (by decide +kernel) ⟨Nat.le_of_ble_eq_true rfl, Nat.le_of_ble_eq_true rfl⟩) hE (hP.sub (ws' := moonL E (ap 40) (ap 43) (ap 44) (vp 40 0) (vp 41 0) (vp 42 0) (vp 43) (vp 44)) [16, 17, 18] rfl) rfl rfl rfl rfl hl.1 rfl (Nat.le_of_ble_eq_true rfl) dX9_moon_103 ⟨Nat.zero_le _, Nat.zero_le _⟩ (fun r103 h103 => ?_)
          have hf103 := h103.2
          replace h103 := h103.1
          subst hQ
          exact W.iret (v := r103) hx hb hr (fun t ht hW => ⟨r103, rfl, ⟨trivial, (fun vm hR hg => by have e5 := hR.1.2.1.1; have hmi : (vp 5 0).toInt = (vm 4 0).toInt := (by rw [e5]); exact Or.inr ⟨by omega, Or.inr ⟨4, sw25, by decide, (by first | (have q := part0_cls (m := 0) (k := 0) (step := vs 0 0) (x := r103) hR hR.1.2.1.2.1 (by omega) (by decide) hg (by omega) (by rw [hf103, e102]); rw [show vs 0 0 = vm 23 0 from hR.2.1.1] at q; exact q) | (have q := part0_cls (m := 1) (k := 1) (step := vs 0 0) (x := r103) hR hR.1.2.1.2.2.1 (by omega) (by decide) hg (by omega) (by rw [hf103, e102]); rw [show vs 0 0 = vm 23 0 from hR.2.1.1] at q; exact q) | (have q := part0_cls (m := 2) (k := 2) (step := vs 0 0) (x := r103) hR hR.1.2.1.2.2.2 (by omega) (by decide) hg (by omega) (by rw [hf103, e102]); rw [show vs 0 0 = vm 23 0 from hR.2.1.1] at q; exact q))⟩⟩)⟩, ht⟩) (fun q h => absurd h List.not_mem_nil) dX9_moon_106
  · have c5_ := i_ne c5
    replace h2 := or_y h2 c5_
    clear c5_
    refine lv_ldc hx hb hown lk10 dX9_moon_8 ?_
    subst hQ
    exact W.iret (v := (-1000000001)) hx hb hr (fun t ht hW => ⟨(-1000000001), rfl, ⟨trivial, (fun vm hR hg => by have hmi : (vp 5 0).toInt = (vm 4 0).toInt := (by rw [hR.1.2.1.1]); exact Or.inl ⟨by omega, by omega⟩)⟩, ht⟩) (fun q h => absurd h List.not_mem_nil) dX9_moon_10
def rm_X9_house : Room := { frames := 5, cells := 0, slots := 0, locals := 122 }
set_option maxHeartbeats 4000000 in
set_option maxRecDepth 100000 in
theorem c_X9_house (l : Launch) (E : Ev) (A : Nat → Prop) (a : Nat → Nat) (v : Vf) (aq : Nat → Nat) (ap : Nat → Nat) (vp : Vf) (as_ : Nat → Nat) (vs : Vf) (h : Int32) (what : Int32) (hI : PlanI vp) (hJ : StateI vs) (hT : TgI v) : Met l yX9_house wsX9_house rm_X9_house (RdP E A [.ref (a 99), .int h, .int what] (tgsL E a v aq ap vp as_ vs)) (vp_Si (fun r => (True) ∧ (∀ vm : Vf, RW vm vp vs → (-1 : Int32) = vm 62 0 → UnkP (0 ≤ h.toInt ∧ h.toInt < (vm 9 0).toInt) r (TabP 4 what r (mHv vm h))))) 0 0 (fun _ => False) := by
  refine Met.ofW (cc := cX9_house) (maxL := 4) (ret := (some .int)) (by decide) rfl ?_
  intro p e s m args below meth c s₁ B hml hv
  obtain ⟨rfl, hE, hP⟩ := hv
  have hx := B.exec
  have hb := B.bytes
  have hr := B.returns
  have hts := atoms_spec (ws := wsX9_house) B.pre
  have hown : s.vm.findClass RX9 = some m.cls := findClass_of_methodNamed B.named
  have hlocks := B.notSynchronized
  have hK := hE.1
  have in_X9 : ∀ w ∈ u_ws RX9 TX9 13, w ∈ wsX9_house := fun w h => List.mem_cons_of_mem _ (List.mem_append_left _ (List.mem_append_left _ (List.mem_append_left _ (List.mem_append_left _ (List.mem_append_left _ (List.mem_append_right _ h))))))
  have in_X8 : ∀ w ∈ u_ws RX8 TX8 2, w ∈ wsX9_house := fun w h => List.mem_cons_of_mem _ (List.mem_append_left _ (List.mem_append_left _ (List.mem_append_left _ (List.mem_append_left _ (List.mem_append_right _ h)))))
  have in_X1 : ∀ w ∈ u_ws RX1 TX1 11, w ∈ wsX9_house := fun w h => List.mem_cons_of_mem _ (List.mem_append_left _ (List.mem_append_left _ (List.mem_append_left _ (List.mem_append_right _ h))))
  have in_X5 : ∀ w ∈ u_ws RX5 TX5 4, w ∈ wsX9_house := fun w h => List.mem_cons_of_mem _ (List.mem_append_left _ (List.mem_append_left _ (List.mem_append_right _ h)))
  have in_X6 : ∀ w ∈ u_ws RX6 TX6 9, w ∈ wsX9_house := fun w h => List.mem_cons_of_mem _ (List.mem_append_left _ (List.mem_append_right _ h))
  have lk0 := hts (.fieldLink RX9 43 "TidedGround" "world" "LTidedGround$World;") (List.mem_of_getElem? (i := 1) rfl)
  have lk1 := hts (.fieldLink RX9 91 "TidedGround$World" "plan" "LTidedGround$Plan;") (List.mem_of_getElem? (i := 2) rfl)
  have lk2 := hts (.fieldLink RX9 122 "TidedGround$Plan" "houses" "LTidedGround$Sites;") (List.mem_of_getElem? (i := 3) rfl)
  have lk3 := hts (.constant RX9 81 (-1000000002)) (List.mem_of_getElem? (i := 10) rfl)
  have lk4 := hts (.fieldLink RX9 213 "TidedGround$Sites" "cell" "[I") (List.mem_of_getElem? (i := 5) rfl)
  have lk5 := hts (.fieldLink RX9 216 "TidedGround$Sites" "first" "[I") (List.mem_of_getElem? (i := 6) rfl)
  have lk6 := hts (.fieldLink RX9 34 "TidedGround" "now" "LTidedGround$State;") (List.mem_of_getElem? (i := 7) rfl)
  have lk7 := hts (.fieldLink RX9 219 "TidedGround$State" "props" "[I") (List.mem_of_getElem? (i := 8) rfl)
  have lk8 := hts (.fieldLink RX9 137 "TidedGround$State" "step" "I") (List.mem_of_getElem? (i := 9) rfl)
  have lk9 := hts (.constant RX9 161 (-1000000001)) (List.mem_of_getElem? (i := 4) rfl)
  have n_m1000000002 : ((-1000000002) : Int32).toInt = -1000000002 := by decide
  have n_m1000000001 : ((-1000000001) : Int32).toInt = -1000000001 := by decide
  have n_0 : (0 : Int32).toInt = 0 := by decide
  have n_1 : (1 : Int32).toInt = 1 := by decide
  have hl := lv_entry ([.ref (a 99), .int h, .int what]) (n := 4) (Nat.le_of_ble_eq_true rfl)
  rw [lg_entry_eq]
  generalize (lg_sl ([.ref (a 99), .int h, .int what]) ++ List.replicate (4 - (lg_sl ([.ref (a 99), .int h, .int what])).length) Slot.unset).toArray = ls at hl ⊢
  have hl : lv_has ls 4 [(0, .ref (a 99)), (1, .int h), (2, .int what)] := hl
  refine W_abs (fun Q hQ => ?_)
  obtain ⟨hg, hmc, hm0, hm1, hm2, hs0, hs1, hs2, hs3⟩ := id hI
  obtain ⟨hg1, hg2, hg3, hg4⟩ := id hg
  have hz0 := hm0.1
  have hz1 := hm1.1
  have hz2 := hm2.1
  have hc0 := hs0.1
  have hc1 := hs1.1
  have hc2 := hs2.1
  have hc3 := hs3.1
  obtain ⟨hj0, hj1, hj2⟩ := id hJ
  obtain ⟨hT1, hT2⟩ := id hT
  refine lv_aload_n hx hb dX9_house_0 rfl (lv_at hl 0 rfl) ?_
  refine va_get (D := eD E) (ci := 9) (v := .ref (a 5)) (C := RX9) (T := TX9) (N := 13) hx hb hts in_X9 hown hK hP 0 rfl rfl 5 (by decide) lk0 (fun _ h9 => h9) rfl dX9_house_1 ?_
  refine va_get (D := eD E) (ci := 8) (v := .ref (ap 0)) (C := RX8) (T := TX8) (N := 2) hx hb hts in_X8 hown hK hP 5 rfl rfl 0 (by decide) lk1 (fun _ h9 => h9) rfl dX9_house_4 ?_
  refine va_get (D := eD E) (ci := 1) (v := .ref (ap 7)) (C := RX1) (T := TX1) (N := 11) hx hb hts in_X1 hown hK hP 6 rfl rfl 7 (by decide) lk2 (fun _ h9 => h9) rfl dX9_house_7 ?_
  refine lv_astore_n (lv' := [(3, .ref (ap 7)), (0, .ref (a 99)), (1, .int h), (2, .int what)]) hx hb dX9_house_10 rfl hl (by decide) rfl (fun ls hl => ?_)
  refine lv_aload_n hx hb dX9_house_11 rfl (lv_at hl 0 rfl) ?_
  refine lv_iload_n hx hb dX9_house_12 rfl (lv_at hl 2 rfl) ?_
  refine rd_V (As := [.int h]) (rest := []) (C := RX5) (ci := 5) ⟨hx, hb, hml, hown, hts⟩ (c_X5_has l E A (ap 7) (ap 61) (ap 62) (ap 63) (vp 60 0) (vp 61) (vp 62) (vp 63) h) (cwV 1 hts gX9_house_X5_has rfl rfl rfl (by decide +kernel) ⟨Nat.le_of_ble_eq_true rfl, Nat.le_of_ble_eq_true rfl⟩) hE (hP.sub (ws' := sitesL E (ap 7) (ap 61) (ap 62) (ap 63) (vp 60 0) (vp 61) (vp 62) (vp 63)) [19, 20, 21, 22] rfl) rfl rfl rfl rfl hl.1 rfl (Nat.le_of_ble_eq_true rfl) dX9_house_13 ⟨Nat.zero_le _, Nat.zero_le _⟩ (fun r13 h13 => ?_)
  refine lv_if_ne (tgt := 22) hx hb dX9_house_16 (by decide) (fun c16 => ?_) (fun c16 => ?_)
  · have c16_ := i_ne c16
    replace h13 := or_y h13 c16_
    clear c16_
    have sv22_h : 0 ≤ h.toInt ∧ h.toInt ≤ 5 := by omega
    refine lv_iload_n hx hb dX9_house_22 rfl (lv_at hl 3 rfl) ?_
    by_cases tb23 : what.toInt < 0 ∨ 4 < what.toInt
    · refine lv_tableOut (tgt := 123) hx hb dX9_house_23 tb23 (by decide) ?_
      refine lv_ldc hx hb hown lk3 dX9_house_123 ?_
      subst hQ
      exact W.iret (v := (-1000000002)) hx hb hr (fun t ht hW => ⟨(-1000000002), rfl, ⟨trivial, (fun vm hR hg => by have hmi : (vp 60 0).toInt = (vm 9 0).toInt := (by rw [hR.1.2.2.1.1]); exact Or.inr ⟨by omega, Or.inl ⟨tb23, by omega⟩⟩)⟩, ht⟩) (fun q h => absurd h List.not_mem_nil) dX9_house_125
    · rcases (show what.toInt = 0 ∨ what.toInt = 1 ∨ what.toInt = 2 ∨ what.toInt = 3 ∨ what.toInt = 4 by omega) with sw23 | sw23 | sw23 | sw23 | sw23
      · refine lv_tableIn (off := 33) (tgt := 56) hx hb dX9_house_23 (by omega) (by omega) (by rw [sw23]; rfl) (by decide) ?_
        refine lv_aload_n hx hb dX9_house_56 rfl (lv_at hl 1 rfl) ?_
        refine va_get (D := eD E) (ci := 9) (v := .ref (a 5)) (C := RX9) (T := TX9) (N := 13) hx hb hts in_X9 hown hK hP 0 rfl rfl 5 (by decide) lk0 (fun _ h9 => h9) rfl dX9_house_57 ?_
        refine va_get (D := eD E) (ci := 8) (v := .ref (ap 0)) (C := RX8) (T := TX8) (N := 2) hx hb hts in_X8 hown hK hP 5 rfl rfl 0 (by decide) lk1 (fun _ h9 => h9) rfl dX9_house_60 ?_
        refine lv_aload_n hx hb dX9_house_63 rfl (lv_at hl 0 rfl) ?_
        refine va_get (D := eD E) (ci := 5) (v := .ref (ap 61)) (C := RX5) (T := TX5) (N := 4) hx hb hts in_X5 hown hK hP 19 rfl rfl 1 (by decide) lk4 (fun _ h9 => h9) rfl dX9_house_64 ?_
        refine lv_iload_n hx hb dX9_house_67 rfl (lv_at hl 2 rfl) ?_
        refine va_iald hx hb hK hP 20 0 rfl rfl (n := 6) (f := (vp 61)) (i_in (by omega) (by omega)) dX9_house_68 ?_
        refine lv_topi (fun x68 e68 => ?_)
        have b68 := hs0.2 h.toNatClampNeg (i_natlt (by omega) (by decide))
        rw [← e68] at b68
        refine rd_V (As := [.int x68]) (rest := []) (C := RX1) (ci := 1) ⟨hx, hb, hml, hown, hts⟩ (c_X1_pairOf l E A ap vp x68 hI (by omega)) (cwV 1 hts gX9_house_X1_pairOf rfl rfl rfl (by decide +kernel) ⟨Nat.le_of_ble_eq_true rfl, Nat.le_of_ble_eq_true rfl⟩) hE (hP.sub (ws' := planL E ap vp) [6, 7, 8, 9, 10, 11, 12, 13, 14, 15, 16, 17, 18, 19, 20, 21, 22, 23, 24, 25, 26, 27, 28, 29, 30, 31, 32, 33, 34] rfl) rfl rfl rfl rfl hl.1 rfl (Nat.le_of_ble_eq_true rfl) dX9_house_69 ⟨Nat.zero_le _, Nat.zero_le _⟩ (fun r69 h69 => ?_)
        have hf69 := h69.2
        replace h69 := h69.1
        subst hQ
        exact W.iret (v := r69) hx hb hr (fun t ht hW => ⟨r69, rfl, ⟨trivial, (fun vm hR hg => by have hmi : (vp 60 0).toInt = (vm 9 0).toInt := (by rw [hR.1.2.2.1.1]); have hn := i_nat (x := h) (by omega); exact Or.inr ⟨by omega, Or.inr ⟨0, sw23, by decide, by have q := hR.1.2.2.1.2 h.toNatClampNeg (by omega); have z := pair_cls (hf69.2 (by rw [hR.1.1.1]; exact houses_w hR (by omega))) hR.1.1.1; rw [e68, q.1] at z; exact z⟩⟩)⟩, ht⟩) (fun q h => absurd h List.not_mem_nil) dX9_house_72
      · refine lv_tableIn (off := 50) (tgt := 73) hx hb dX9_house_23 (by omega) (by omega) (by rw [sw23]; rfl) (by decide) ?_
        refine lv_aload_n hx hb dX9_house_73 rfl (lv_at hl 0 rfl) ?_
        refine va_get (D := eD E) (ci := 5) (v := .ref (ap 62)) (C := RX5) (T := TX5) (N := 4) hx hb hts in_X5 hown hK hP 19 rfl rfl 2 (by decide) lk5 (fun _ h9 => h9) rfl dX9_house_74 ?_
        refine lv_iload_n hx hb dX9_house_77 rfl (lv_at hl 2 rfl) ?_
        refine va_iald hx hb hK hP 21 0 rfl rfl (n := 6) (f := (vp 62)) (i_in (by omega) (by omega)) dX9_house_78 ?_
        refine lv_topi (fun x78 e78 => ?_)
        subst hQ
        exact W.iret (v := x78) hx hb hr (fun t ht hW => ⟨x78, rfl, ⟨trivial, (fun vm hR hg => by have hmi : (vp 60 0).toInt = (vm 9 0).toInt := (by rw [hR.1.2.2.1.1]); have hn := i_nat (x := h) (by omega); exact Or.inr ⟨by omega, Or.inr ⟨1, sw23, by decide, by have q := hR.1.2.2.1.2 h.toNatClampNeg (by omega); exact e78.trans q.2⟩⟩)⟩, ht⟩) (fun q h => absurd h List.not_mem_nil) dX9_house_79
      · refine lv_tableIn (off := 57) (tgt := 80) hx hb dX9_house_23 (by omega) (by omega) (by rw [sw23]; rfl) (by decide) ?_
        refine lv_aload_n hx hb dX9_house_80 rfl (lv_at hl 1 rfl) ?_
        refine va_get (D := eD E) (ci := 9) (v := .ref (as_ 0)) (C := RX9) (T := TX9) (N := 13) hx hb hts in_X9 hown hK hP 0 rfl rfl 6 (by decide) lk6 (fun _ h9 => h9) rfl dX9_house_81 ?_
        refine va_get (D := eD E) (ci := 6) (v := .ref (as_ 3)) (C := RX6) (T := TX6) (N := 9) hx hb hts in_X6 hown hK hP 35 rfl rfl 3 (by decide) lk7 (fun _ h9 => h9) rfl dX9_house_84 ?_
        refine lv_iload_n hx hb dX9_house_87 rfl (lv_at hl 2 rfl) ?_
        refine va_iald hx hb hK hP 38 0 rfl rfl (n := 6) (f := (vs 3)) (i_in (by omega) (by omega)) dX9_house_88 ?_
        refine lv_topi (fun x88 e88 => ?_)
        subst hQ
        exact W.iret (v := x88) hx hb hr (fun t ht hW => ⟨x88, rfl, ⟨trivial, (fun vm hR hg => by have hmi : (vp 60 0).toInt = (vm 9 0).toInt := (by rw [hR.1.2.2.1.1]); have hn := i_nat (x := h) (by omega); exact Or.inr ⟨by omega, Or.inr ⟨2, sw23, by decide, by exact e88.trans (hR.2.1.2.2.2.1 h.toNatClampNeg (by omega))⟩⟩)⟩, ht⟩) (fun q h => absurd h List.not_mem_nil) dX9_house_89
      · refine lv_tableIn (off := 67) (tgt := 90) hx hb dX9_house_23 (by omega) (by omega) (by rw [sw23]; rfl) (by decide) ?_
        refine lv_aload_n hx hb dX9_house_90 rfl (lv_at hl 1 rfl) ?_
        refine va_get (D := eD E) (ci := 9) (v := .ref (a 5)) (C := RX9) (T := TX9) (N := 13) hx hb hts in_X9 hown hK hP 0 rfl rfl 5 (by decide) lk0 (fun _ h9 => h9) rfl dX9_house_91 ?_
        refine lv_iload_n hx hb dX9_house_94 rfl (lv_at hl 2 rfl) ?_
        refine lv_aload_n hx hb dX9_house_95 rfl (lv_at hl 1 rfl) ?_
        refine va_get (D := eD E) (ci := 9) (v := .ref (as_ 0)) (C := RX9) (T := TX9) (N := 13) hx hb hts in_X9 hown hK hP 0 rfl rfl 6 (by decide) lk6 (fun _ h9 => h9) rfl dX9_house_96 ?_
        refine va_get (D := eD E) (ci := 6) (v := .int (vs 0 0)) (C := RX6) (T := TX6) (N := 9) hx hb hts in_X6 hown hK hP 35 rfl rfl 0 (by decide) lk8 (fun _ h9 => h9) rfl dX9_house_99 ?_
        refine rd_V (As := [.int h, .int (vs 0 0)]) (rest := []) (C := RX8) (ci := 8) ⟨hx, hb, hml, hown, hts⟩ (c_X8_isBroken l E A (a 5) ap vp as_ vs h (vs 0 0) hI hJ (by omega) (by omega)) (cwV 2 hts gX9_house_X8_isBroken rfl rfl rfl (by decide +kernel) ⟨Nat.le_of_ble_eq_true rfl, Nat.le_of_ble_eq_true rfl⟩) hE (hP.sub (ws' := wpsL E (a 5) ap vp as_ vs) [5, 6, 7, 8, 9, 10, 11, 12, 13, 14, 15, 16, 17, 18, 19, 20, 21, 22, 23, 24, 25, 26, 27, 28, 29, 30, 31, 32, 33, 34, 35, 36, 37, 38] rfl) rfl rfl rfl rfl hl.1 rfl (Nat.le_of_ble_eq_true rfl) dX9_house_102 ⟨Nat.zero_le _, Nat.zero_le _⟩ (fun r102 h102 => ?_)
        have hf102 := h102.2
        replace h102 := h102.1
        refine lv_if_eq (tgt := 112) hx hb dX9_house_105 (by decide) (fun c105 => ?_) (fun c105 => ?_)
        · have c105_ := i_eq c105
          clear h102
          refine lv_iconst (v := 0) hx hb dX9_house_112 (by decide) ?_
          subst hQ
          exact W.iret (v := 0) hx hb hr (fun t ht hW => ⟨0, rfl, ⟨trivial, (fun vm hR hg => by have hmi : (vp 60 0).toInt = (vm 9 0).toInt := (by rw [hR.1.2.2.1.1]); have hn := i_nat (x := h) (by omega); exact Or.inr ⟨by omega, Or.inr ⟨3, sw23, by decide, by have q := hf102 vm hR hg (by omega); rw [show vs 0 0 = vm 23 0 from hR.2.1.1] at q; show _ = mBrk vm h (vm 23 0); rw [← q]; exact i_eqr (by omega)⟩⟩)⟩, ht⟩) (fun q h => absurd h List.not_mem_nil) dX9_house_113
        · have c105_ := i_ne c105
          replace h102 := b_y h102 c105_
          clear c105_
          refine lv_iconst (v := 1) hx hb dX9_house_108 (by decide) ?_
          refine lv_goto (tgt := 113) hx hb dX9_house_109 (by decide) ?_
          subst hQ
          exact W.iret (v := 1) hx hb hr (fun t ht hW => ⟨1, rfl, ⟨trivial, (fun vm hR hg => by have hmi : (vp 60 0).toInt = (vm 9 0).toInt := (by rw [hR.1.2.2.1.1]); have hn := i_nat (x := h) (by omega); exact Or.inr ⟨by omega, Or.inr ⟨3, sw23, by decide, by have q := hf102 vm hR hg (by omega); rw [show vs 0 0 = vm 23 0 from hR.2.1.1] at q; show _ = mBrk vm h (vm 23 0); rw [← q]; exact i_eqr (by omega)⟩⟩)⟩, ht⟩) (fun q h => absurd h List.not_mem_nil) dX9_house_113
      · refine lv_tableIn (off := 91) (tgt := 114) hx hb dX9_house_23 (by omega) (by omega) (by rw [sw23]; rfl) (by decide) ?_
        refine lv_aload_n hx hb dX9_house_114 rfl (lv_at hl 1 rfl) ?_
        refine va_get (D := eD E) (ci := 9) (v := .ref (a 5)) (C := RX9) (T := TX9) (N := 13) hx hb hts in_X9 hown hK hP 0 rfl rfl 5 (by decide) lk0 (fun _ h9 => h9) rfl dX9_house_115 ?_
        refine lv_iload_n hx hb dX9_house_118 rfl (lv_at hl 2 rfl) ?_
        refine rd_V (As := [.int h]) (rest := []) (C := RX8) (ci := 8) ⟨hx, hb, hml, hown, hts⟩ (c_X8_needOf l E A (a 5) ap vp as_ vs h hI hJ (by omega)) (cwV 1 hts gX9_house_X8_needOf rfl rfl rfl (by decide +kernel) ⟨Nat.le_of_ble_eq_true rfl, Nat.le_of_ble_eq_true rfl⟩) hE (hP.sub (ws' := wpsL E (a 5) ap vp as_ vs) [5, 6, 7, 8, 9, 10, 11, 12, 13, 14, 15, 16, 17, 18, 19, 20, 21, 22, 23, 24, 25, 26, 27, 28, 29, 30, 31, 32, 33, 34, 35, 36, 37, 38] rfl) rfl rfl rfl rfl hl.1 rfl (Nat.le_of_ble_eq_true rfl) dX9_house_119 ⟨Nat.zero_le _, Nat.zero_le _⟩ (fun r119 h119 => ?_)
        have hf119 := h119.2
        replace h119 := h119.1
        subst hQ
        exact W.iret (v := r119) hx hb hr (fun t ht hW => ⟨r119, rfl, ⟨trivial, (fun vm hR hg => by have hmi : (vp 60 0).toInt = (vm 9 0).toInt := (by rw [hR.1.2.2.1.1]); have hn := i_nat (x := h) (by omega); exact Or.inr ⟨by omega, Or.inr ⟨4, sw23, by decide, by exact hf119 vm hR hg (by omega)⟩⟩)⟩, ht⟩) (fun q h => absurd h List.not_mem_nil) dX9_house_122
  · have c16_ := i_eq c16
    replace h13 := or_n h13 c16_
    refine lv_ldc hx hb hown lk9 dX9_house_19 ?_
    subst hQ
    exact W.iret (v := (-1000000001)) hx hb hr (fun t ht hW => ⟨(-1000000001), rfl, ⟨trivial, (fun vm hR hg => by have hmi : (vp 60 0).toInt = (vm 9 0).toInt := (by rw [hR.1.2.2.1.1]); exact Or.inl ⟨by omega, by omega⟩)⟩, ht⟩) (fun q h => absurd h List.not_mem_nil) dX9_house_21
def rm_X9_crack : Room := { frames := 3, cells := 0, slots := 0, locals := 70 }
set_option maxHeartbeats 4000000 in
set_option maxRecDepth 100000 in
theorem c_X9_crack (l : Launch) (E : Ev) (A : Nat → Prop) (a : Nat → Nat) (v : Vf) (aq : Nat → Nat) (ap : Nat → Nat) (vp : Vf) (as_ : Nat → Nat) (vs : Vf) (h : Int32) (step : Int32) (hI : PlanI vp) (hJ : StateI vs) (hT : TgI v) : Met l yX9_crack wsX9_crack rm_X9_crack (RdP E A [.ref (a 99), .int h, .int step] (tgsL E a v aq ap vp as_ vs)) (vp_Si (fun r => (True) ∧ (∀ vm : Vf, RW vm vp vs → (-1 : Int32) = vm 62 0 → UnkP (0 ≤ h.toInt ∧ h.toInt < (vm 12 0).toInt) r (OutP (0 ≤ step.toInt ∧ step.toInt ≤ 999999) r (r = mOpen vm h step))))) 0 0 (fun _ => False) := by
  refine Met.ofW (cc := cX9_crack) (maxL := 3) (ret := (some .int)) (by decide) rfl ?_
  intro p e s m args below meth c s₁ B hml hv
  obtain ⟨rfl, hE, hP⟩ := hv
  have hx := B.exec
  have hb := B.bytes
  have hr := B.returns
  have hts := atoms_spec (ws := wsX9_crack) B.pre
  have hown : s.vm.findClass RX9 = some m.cls := findClass_of_methodNamed B.named
  have hlocks := B.notSynchronized
  have hK := hE.1
  have in_X9 : ∀ w ∈ u_ws RX9 TX9 13, w ∈ wsX9_crack := fun w h => List.mem_cons_of_mem _ (List.mem_append_left _ (List.mem_append_left _ (List.mem_append_left _ (List.mem_append_left _ (List.mem_append_left _ (List.mem_append_right _ h))))))
  have in_X8 : ∀ w ∈ u_ws RX8 TX8 2, w ∈ wsX9_crack := fun w h => List.mem_cons_of_mem _ (List.mem_append_left _ (List.mem_append_left _ (List.mem_append_left _ (List.mem_append_left _ (List.mem_append_right _ h)))))
  have in_X1 : ∀ w ∈ u_ws RX1 TX1 11, w ∈ wsX9_crack := fun w h => List.mem_cons_of_mem _ (List.mem_append_left _ (List.mem_append_left _ (List.mem_append_left _ (List.mem_append_right _ h))))
  have lk0 := hts (.fieldLink RX9 43 "TidedGround" "world" "LTidedGround$World;") (List.mem_of_getElem? (i := 1) rfl)
  have lk1 := hts (.fieldLink RX9 91 "TidedGround$World" "plan" "LTidedGround$Plan;") (List.mem_of_getElem? (i := 2) rfl)
  have lk2 := hts (.fieldLink RX9 129 "TidedGround$Plan" "cracks" "LTidedGround$Sites;") (List.mem_of_getElem? (i := 3) rfl)
  have lk3 := hts (.constant RX9 184 999999) (List.mem_of_getElem? (i := 5) rfl)
  have lk4 := hts (.constant RX9 81 (-1000000002)) (List.mem_of_getElem? (i := 6) rfl)
  have lk5 := hts (.constant RX9 161 (-1000000001)) (List.mem_of_getElem? (i := 4) rfl)
  have n_m1000000002 : ((-1000000002) : Int32).toInt = -1000000002 := by decide
  have n_m1000000001 : ((-1000000001) : Int32).toInt = -1000000001 := by decide
  have n_0 : (0 : Int32).toInt = 0 := by decide
  have n_1 : (1 : Int32).toInt = 1 := by decide
  have n_999999 : (999999 : Int32).toInt = 999999 := by decide
  have hl := lv_entry ([.ref (a 99), .int h, .int step]) (n := 3) (Nat.le_of_ble_eq_true rfl)
  rw [lg_entry_eq]
  generalize (lg_sl ([.ref (a 99), .int h, .int step]) ++ List.replicate (3 - (lg_sl ([.ref (a 99), .int h, .int step])).length) Slot.unset).toArray = ls at hl ⊢
  have hl : lv_has ls 3 [(0, .ref (a 99)), (1, .int h), (2, .int step)] := hl
  refine W_abs (fun Q hQ => ?_)
  obtain ⟨hg, hmc, hm0, hm1, hm2, hs0, hs1, hs2, hs3⟩ := id hI
  obtain ⟨hg1, hg2, hg3, hg4⟩ := id hg
  have hz0 := hm0.1
  have hz1 := hm1.1
  have hz2 := hm2.1
  have hc0 := hs0.1
  have hc1 := hs1.1
  have hc2 := hs2.1
  have hc3 := hs3.1
  obtain ⟨hj0, hj1, hj2⟩ := id hJ
  obtain ⟨hT1, hT2⟩ := id hT
  refine lv_aload_n hx hb dX9_crack_0 rfl (lv_at hl 0 rfl) ?_
  refine va_get (D := eD E) (ci := 9) (v := .ref (a 5)) (C := RX9) (T := TX9) (N := 13) hx hb hts in_X9 hown hK hP 0 rfl rfl 5 (by decide) lk0 (fun _ h9 => h9) rfl dX9_crack_1 ?_
  refine va_get (D := eD E) (ci := 8) (v := .ref (ap 0)) (C := RX8) (T := TX8) (N := 2) hx hb hts in_X8 hown hK hP 5 rfl rfl 0 (by decide) lk1 (fun _ h9 => h9) rfl dX9_crack_4 ?_
  refine va_get (D := eD E) (ci := 1) (v := .ref (ap 8)) (C := RX1) (T := TX1) (N := 11) hx hb hts in_X1 hown hK hP 6 rfl rfl 8 (by decide) lk2 (fun _ h9 => h9) rfl dX9_crack_7 ?_
  refine lv_iload_n hx hb dX9_crack_10 rfl (lv_at hl 1 rfl) ?_
  refine rd_V (As := [.int h]) (rest := []) (C := RX5) (ci := 5) ⟨hx, hb, hml, hown, hts⟩ (c_X5_has l E A (ap 8) (ap 71) (ap 72) (ap 73) (vp 70 0) (vp 71) (vp 72) (vp 73) h) (cwV 1 hts gX9_crack_X5_has rfl rfl rfl (by decide +kernel) ⟨Nat.le_of_ble_eq_true rfl, Nat.le_of_ble_eq_true rfl⟩) hE (hP.sub (ws' := sitesL E (ap 8) (ap 71) (ap 72) (ap 73) (vp 70 0) (vp 71) (vp 72) (vp 73)) [23, 24, 25, 26] rfl) rfl rfl rfl rfl hl.1 rfl (Nat.le_of_ble_eq_true rfl) dX9_crack_11 ⟨Nat.zero_le _, Nat.zero_le _⟩ (fun r11 h11 => ?_)
  refine lv_if_ne (tgt := 20) hx hb dX9_crack_14 (by decide) (fun c14 => ?_) (fun c14 => ?_)
  · have c14_ := i_ne c14
    replace h11 := or_y h11 c14_
    clear c14_
    have sv20_h : 0 ≤ h.toInt ∧ h.toInt ≤ 5 := by omega
    refine lv_iload_n hx hb dX9_crack_20 rfl (lv_at hl 2 rfl) ?_
    refine lv_iconst (v := 0) hx hb dX9_crack_21 (by decide) ?_
    refine lv_ldc hx hb hown lk3 dX9_crack_22 ?_
    refine rd_S (As := [.int step, .int 0, .int 999999]) (rest := []) ⟨hx, hb, hml, hown, hts⟩ (c_X9_isOff l E A step 0 999999) (va_cwS 3 hts gX9_crack_X9_isOff rfl rfl rfl (by decide +kernel) ⟨Nat.le_of_ble_eq_true rfl, Nat.le_of_ble_eq_true rfl⟩) hE (hP.sub (ws' := []) [] rfl) rfl hl.1 rfl (Nat.le_of_ble_eq_true rfl) dX9_crack_24 ⟨Nat.zero_le _, Nat.zero_le _⟩ (fun r24 h24 => ?_)
    refine lv_if_eq (tgt := 33) hx hb dX9_crack_27 (by decide) (fun c27 => ?_) (fun c27 => ?_)
    · have c27_ := i_eq c27
      replace h24 := or_n h24 c27_
      refine lv_aload_n hx hb dX9_crack_33 rfl (lv_at hl 0 rfl) ?_
      refine va_get (D := eD E) (ci := 9) (v := .ref (a 5)) (C := RX9) (T := TX9) (N := 13) hx hb hts in_X9 hown hK hP 0 rfl rfl 5 (by decide) lk0 (fun _ h9 => h9) rfl dX9_crack_34 ?_
      refine lv_iload_n hx hb dX9_crack_37 rfl (lv_at hl 1 rfl) ?_
      refine lv_iload_n hx hb dX9_crack_38 rfl (lv_at hl 2 rfl) ?_
      refine rd_V (As := [.int h, .int step]) (rest := []) (C := RX8) (ci := 8) ⟨hx, hb, hml, hown, hts⟩ (c_X8_isOpen l E A (a 5) ap vp as_ vs h step hI hJ (by omega) (by omega)) (cwV 2 hts gX9_crack_X8_isOpen rfl rfl rfl (by decide +kernel) ⟨Nat.le_of_ble_eq_true rfl, Nat.le_of_ble_eq_true rfl⟩) hE (hP.sub (ws' := wpsL E (a 5) ap vp as_ vs) [5, 6, 7, 8, 9, 10, 11, 12, 13, 14, 15, 16, 17, 18, 19, 20, 21, 22, 23, 24, 25, 26, 27, 28, 29, 30, 31, 32, 33, 34, 35, 36, 37, 38] rfl) rfl rfl rfl rfl hl.1 rfl (Nat.le_of_ble_eq_true rfl) dX9_crack_39 ⟨Nat.zero_le _, Nat.zero_le _⟩ (fun r39 h39 => ?_)
      have hf39 := h39.2
      replace h39 := h39.1
      refine lv_if_eq (tgt := 49) hx hb dX9_crack_42 (by decide) (fun c42 => ?_) (fun c42 => ?_)
      · have c42_ := i_eq c42
        clear h39
        refine lv_iconst (v := 0) hx hb dX9_crack_49 (by decide) ?_
        subst hQ
        exact W.iret (v := 0) hx hb hr (fun t ht hW => ⟨0, rfl, ⟨trivial, (fun vm hR hg => by have hmi : (vp 70 0).toInt = (vm 12 0).toInt := (by rw [hR.1.2.2.2.1.1]); have q := hf39 vm hR hg (by omega); exact Or.inr ⟨by omega, Or.inr ⟨by omega, by rw [← q]; exact i_eqr (by omega)⟩⟩)⟩, ht⟩) (fun q h => absurd h List.not_mem_nil) dX9_crack_50
      · have c42_ := i_ne c42
        replace h39 := b_y h39 c42_
        clear c42_
        refine lv_iconst (v := 1) hx hb dX9_crack_45 (by decide) ?_
        refine lv_goto (tgt := 50) hx hb dX9_crack_46 (by decide) ?_
        subst hQ
        exact W.iret (v := 1) hx hb hr (fun t ht hW => ⟨1, rfl, ⟨trivial, (fun vm hR hg => by have hmi : (vp 70 0).toInt = (vm 12 0).toInt := (by rw [hR.1.2.2.2.1.1]); have q := hf39 vm hR hg (by omega); exact Or.inr ⟨by omega, Or.inr ⟨by omega, by rw [← q]; exact i_eqr (by omega)⟩⟩)⟩, ht⟩) (fun q h => absurd h List.not_mem_nil) dX9_crack_50
    · have c27_ := i_ne c27
      replace h24 := or_y h24 c27_
      clear c27_
      refine lv_ldc hx hb hown lk4 dX9_crack_30 ?_
      subst hQ
      exact W.iret (v := (-1000000002)) hx hb hr (fun t ht hW => ⟨(-1000000002), rfl, ⟨trivial, (fun vm hR hg => by have hmi : (vp 70 0).toInt = (vm 12 0).toInt := (by rw [hR.1.2.2.2.1.1]); exact Or.inr ⟨by omega, Or.inl ⟨by omega, by omega⟩⟩)⟩, ht⟩) (fun q h => absurd h List.not_mem_nil) dX9_crack_32
  · have c14_ := i_eq c14
    replace h11 := or_n h11 c14_
    refine lv_ldc hx hb hown lk5 dX9_crack_17 ?_
    subst hQ
    exact W.iret (v := (-1000000001)) hx hb hr (fun t ht hW => ⟨(-1000000001), rfl, ⟨trivial, (fun vm hR hg => by have hmi : (vp 70 0).toInt = (vm 12 0).toInt := (by rw [hR.1.2.2.2.1.1]); exact Or.inl ⟨by omega, by omega⟩)⟩, ht⟩) (fun q h => absurd h List.not_mem_nil) dX9_crack_19
end
