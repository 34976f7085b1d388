section
abbrev roL (E : Ev) (qo : Nat) (c0 : Nat) (c1 : Nat) (ch : Nat) (g0 : Nat → Int32) (g1 : Nat → Int32) (gh : Nat → Int32) (qw : Nat) (ap : Nat → Nat) (vp : Vf) (as_ : Nat → Nat) (vs : Vf) : va_W := [(qo, .inr (3, [.ref qw, .ref c0, .ref c1, .ref ch])), (c0, .inl (eI E, 24, .inl g0)), (c1, .inl (eI E, 24, .inl g1)), (ch, .inl (eI E, 960, .inl gh)), (qw, .inr (8, [.ref (ap 0), .ref (as_ 0)])), ((ap 0), .inr (1, [.int (vp 0 0), .int (vp 1 0), .int (vp 2 0), .ref (ap 3), .ref (ap 4), .int (vp 5 0), .ref (ap 6), .ref (ap 7), .ref (ap 8), .ref (ap 9), .ref (ap 10)])), ((ap 3), .inl (eI E, 24, .inl (vp 3))), ((ap 4), .inl (eI E, 24, .inl (vp 4))), ((ap 6), .inl (eM E, 3, .inr (.inr (.inr (.inr (fun i => some (ap (20 + 10 * i)))))))), ((ap 20), .inr (0, [.int (vp 20 0), .int (vp 21 0), .int (vp 22 0), .ref (ap 23), .ref (ap 24)])), ((ap 23), .inl (eI E, 18, .inl (vp 23))), ((ap 24), .inl (eI E, 24, .inl (vp 24))), ((ap 30), .inr (0, [.int (vp 30 0), .int (vp 31 0), .int (vp 32 0), .ref (ap 33), .ref (ap 34)])), ((ap 33), .inl (eI E, 18, .inl (vp 33))), ((ap 34), .inl (eI E, 24, .inl (vp 34))), ((ap 40), .inr (0, [.int (vp 40 0), .int (vp 41 0), .int (vp 42 0), .ref (ap 43), .ref (ap 44)])), ((ap 43), .inl (eI E, 18, .inl (vp 43))), ((ap 44), .inl (eI E, 24, .inl (vp 44))), ((ap 7), .inr (5, [.int (vp 60 0), .ref (ap 61), .ref (ap 62), .ref (ap 63)])), ((ap 61), .inl (eI E, 6, .inl (vp 61))), ((ap 62), .inl (eI E, 6, .inl (vp 62))), ((ap 63), .inl (eI E, 6, .inl (vp 63))), ((ap 8), .inr (5, [.int (vp 70 0), .ref (ap 71), .ref (ap 72), .ref (ap 73)])), ((ap 71), .inl (eI E, 6, .inl (vp 71))), ((ap 72), .inl (eI E, 6, .inl (vp 72))), ((ap 73), .inl (eI E, 6, .inl (vp 73))), ((ap 9), .inr (5, [.int (vp 80 0), .ref (ap 81), .ref (ap 82), .ref (ap 83)])), ((ap 81), .inl (eI E, 6, .inl (vp 81))), ((ap 82), .inl (eI E, 6, .inl (vp 82))), ((ap 83), .inl (eI E, 6, .inl (vp 83))), ((ap 10), .inr (5, [.int (vp 90 0), .ref (ap 91), .ref (ap 92), .ref (ap 93)])), ((ap 91), .inl (eI E, 6, .inl (vp 91))), ((ap 92), .inl (eI E, 6, .inl (vp 92))), ((ap 93), .inl (eI E, 6, .inl (vp 93))), ((as_ 0), .inr (6, [.int (vs 0 0), .ref (as_ 1), .ref (as_ 2), .ref (as_ 3), .int (vs 4 0), .int (vs 5 0), .int (vs 6 0), .int (vs 7 0), .int (vs 8 0)])), ((as_ 1), .inl (eI E, 3, .inl (vs 1))), ((as_ 2), .inl (eI E, 24, .inl (vs 2))), ((as_ 3), .inl (eI E, 6, .inl (vs 3)))]
abbrev weL (E : Ev) (qe : Nat) (e1 : Nat) (e2 : Nat) (ab : Int32) (be : Int32) (g1 : Nat → Int32) (g2 : Nat → Int32) (qw : Nat) (ap : Nat → Nat) (vp : Vf) (as_ : Nat → Nat) (vs : Vf) : va_W := [(qe, .inr (7, [.ref qw, .ref e1, .ref e2, .int ab, .int be])), (e1, .inl (eI E, 5, .inl g1)), (e2, .inl (eI E, 5, .inl g2)), (qw, .inr (8, [.ref (ap 0), .ref (as_ 0)])), ((ap 0), .inr (1, [.int (vp 0 0), .int (vp 1 0), .int (vp 2 0), .ref (ap 3), .ref (ap 4), .int (vp 5 0), .ref (ap 6), .ref (ap 7), .ref (ap 8), .ref (ap 9), .ref (ap 10)])), ((ap 3), .inl (eI E, 24, .inl (vp 3))), ((ap 4), .inl (eI E, 24, .inl (vp 4))), ((ap 6), .inl (eM E, 3, .inr (.inr (.inr (.inr (fun i => some (ap (20 + 10 * i)))))))), ((ap 20), .inr (0, [.int (vp 20 0), .int (vp 21 0), .int (vp 22 0), .ref (ap 23), .ref (ap 24)])), ((ap 23), .inl (eI E, 18, .inl (vp 23))), ((ap 24), .inl (eI E, 24, .inl (vp 24))), ((ap 30), .inr (0, [.int (vp 30 0), .int (vp 31 0), .int (vp 32 0), .ref (ap 33), .ref (ap 34)])), ((ap 33), .inl (eI E, 18, .inl (vp 33))), ((ap 34), .inl (eI E, 24, .inl (vp 34))), ((ap 40), .inr (0, [.int (vp 40 0), .int (vp 41 0), .int (vp 42 0), .ref (ap 43), .ref (ap 44)])), ((ap 43), .inl (eI E, 18, .inl (vp 43))), ((ap 44), .inl (eI E, 24, .inl (vp 44))), ((ap 7), .inr (5, [.int (vp 60 0), .ref (ap 61), .ref (ap 62), .ref (ap 63)])), ((ap 61), .inl (eI E, 6, .inl (vp 61))), ((ap 62), .inl (eI E, 6, .inl (vp 62))), ((ap 63), .inl (eI E, 6, .inl (vp 63))), ((ap 8), .inr (5, [.int (vp 70 0), .ref (ap 71), .ref (ap 72), .ref (ap 73)])), ((ap 71), .inl (eI E, 6, .inl (vp 71))), ((ap 72), .inl (eI E, 6, .inl (vp 72))), ((ap 73), .inl (eI E, 6, .inl (vp 73))), ((ap 9), .inr (5, [.int (vp 80 0), .ref (ap 81), .ref (ap 82), .ref (ap 83)])), ((ap 81), .inl (eI E, 6, .inl (vp 81))), ((ap 82), .inl (eI E, 6, .inl (vp 82))), ((ap 83), .inl (eI E, 6, .inl (vp 83))), ((ap 10), .inr (5, [.int (vp 90 0), .ref (ap 91), .ref (ap 92), .ref (ap 93)])), ((ap 91), .inl (eI E, 6, .inl (vp 91))), ((ap 92), .inl (eI E, 6, .inl (vp 92))), ((ap 93), .inl (eI E, 6, .inl (vp 93))), ((as_ 0), .inr (6, [.int (vs 0 0), .ref (as_ 1), .ref (as_ 2), .ref (as_ 3), .int (vs 4 0), .int (vs 5 0), .int (vs 6 0), .int (vs 7 0), .int (vs 8 0)])), ((as_ 1), .inl (eI E, 3, .inl (vs 1))), ((as_ 2), .inl (eI E, 24, .inl (vs 2))), ((as_ 3), .inl (eI E, 6, .inl (vs 3)))]
abbrev wlL (E : Ev) (qe : Nat) (e1 : Nat) (e2 : Nat) (ab : Int32) (be : Int32) (g1 : Nat → Int32) (g2 : Nat → Int32) (qw : Nat) : va_W := [(qe, .inr (7, [.ref qw, .ref e1, .ref e2, .int ab, .int be])), (e1, .inl (eI E, 5, .inl g1)), (e2, .inl (eI E, 5, .inl g2))]
abbrev sgL (E : Ev) (qg : Nat) (k2 : Nat) (k3 : Nat) (k4 : Nat) (k5 : Nat) (k7 : Nat) (sn : Int32) (fc : Int32) (l1 : Int32) (l2 : Int32) (l3 : Int32) (s2 : Nat → Int32) (s3 : Nat → Int32) (s4 : Nat → Int32) (s5 : Nat → Int32) (s7 : Nat → Int32) (qw : Nat) (ap : Nat → Nat) (vp : Vf) (as_ : Nat → Nat) (vs : Vf) : va_W := [(qg, .inr (4, [.ref qw, .int sn, .ref k2, .ref k3, .ref k4, .ref k5, .int fc, .ref k7, .int l1, .int l2, .int l3])), (k2, .inl (eI E, 12, .inl s2)), (k3, .inl (eI E, 12, .inl s3)), (k4, .inl (eI E, 12, .inl s4)), (k5, .inl (eI E, 729, .inl s5)), (k7, .inl (eI E, 55, .inl s7)), (qw, .inr (8, [.ref (ap 0), .ref (as_ 0)])), ((ap 0), .inr (1, [.int (vp 0 0), .int (vp 1 0), .int (vp 2 0), .ref (ap 3), .ref (ap 4), .int (vp 5 0), .ref (ap 6), .ref (ap 7), .ref (ap 8), .ref (ap 9), .ref (ap 10)])), ((ap 3), .inl (eI E, 24, .inl (vp 3))), ((ap 4), .inl (eI E, 24, .inl (vp 4))), ((ap 6), .inl (eM E, 3, .inr (.inr (.inr (.inr (fun i => some (ap (20 + 10 * i)))))))), ((ap 20), .inr (0, [.int (vp 20 0), .int (vp 21 0), .int (vp 22 0), .ref (ap 23), .ref (ap 24)])), ((ap 23), .inl (eI E, 18, .inl (vp 23))), ((ap 24), .inl (eI E, 24, .inl (vp 24))), ((ap 30), .inr (0, [.int (vp 30 0), .int (vp 31 0), .int (vp 32 0), .ref (ap 33), .ref (ap 34)])), ((ap 33), .inl (eI E, 18, .inl (vp 33))), ((ap 34), .inl (eI E, 24, .inl (vp 34))), ((ap 40), .inr (0, [.int (vp 40 0), .int (vp 41 0), .int (vp 42 0), .ref (ap 43), .ref (ap 44)])), ((ap 43), .inl (eI E, 18, .inl (vp 43))), ((ap 44), .inl (eI E, 24, .inl (vp 44))), ((ap 7), .inr (5, [.int (vp 60 0), .ref (ap 61), .ref (ap 62), .ref (ap 63)])), ((ap 61), .inl (eI E, 6, .inl (vp 61))), ((ap 62), .inl (eI E, 6, .inl (vp 62))), ((ap 63), .inl (eI E, 6, .inl (vp 63))), ((ap 8), .inr (5, [.int (vp 70 0), .ref (ap 71), .ref (ap 72), .ref (ap 73)])), ((ap 71), .inl (eI E, 6, .inl (vp 71))), ((ap 72), .inl (eI E, 6, .inl (vp 72))), ((ap 73), .inl (eI E, 6, .inl (vp 73))), ((ap 9), .inr (5, [.int (vp 80 0), .ref (ap 81), .ref (ap 82), .ref (ap 83)])), ((ap 81), .inl (eI E, 6, .inl (vp 81))), ((ap 82), .inl (eI E, 6, .inl (vp 82))), ((ap 83), .inl (eI E, 6, .inl (vp 83))), ((ap 10), .inr (5, [.int (vp 90 0), .ref (ap 91), .ref (ap 92), .ref (ap 93)])), ((ap 91), .inl (eI E, 6, .inl (vp 91))), ((ap 92), .inl (eI E, 6, .inl (vp 92))), ((ap 93), .inl (eI E, 6, .inl (vp 93))), ((as_ 0), .inr (6, [.int (vs 0 0), .ref (as_ 1), .ref (as_ 2), .ref (as_ 3), .int (vs 4 0), .int (vs 5 0), .int (vs 6 0), .int (vs 7 0), .int (vs 8 0)])), ((as_ 1), .inl (eI E, 3, .inl (vs 1))), ((as_ 2), .inl (eI E, 24, .inl (vs 2))), ((as_ 3), .inl (eI E, 6, .inl (vs 3)))]
abbrev saL (E : Ev) (qg : Nat) (k2 : Nat) (k3 : Nat) (k4 : Nat) (k5 : Nat) (k7 : Nat) (sn : Int32) (fc : Int32) (l1 : Int32) (l2 : Int32) (l3 : Int32) (s2 : Nat → Int32) (s3 : Nat → Int32) (s4 : Nat → Int32) (s5 : Nat → Int32) (s7 : Nat → Int32) (qw : Nat) : va_W := [(qg, .inr (4, [.ref qw, .int sn, .ref k2, .ref k3, .ref k4, .ref k5, .int fc, .ref k7, .int l1, .int l2, .int l3])), (k2, .inl (eI E, 12, .inl s2)), (k3, .inl (eI E, 12, .inl s3)), (k4, .inl (eI E, 12, .inl s4)), (k5, .inl (eI E, 729, .inl s5)), (k7, .inl (eI E, 55, .inl s7))]
end
section
def rm_X3_choose : Room := { frames := 4, cells := 0, slots := 0, locals := 96 }
set_option maxHeartbeats 4000000 in
set_option maxRecDepth 100000 in
theorem c_X3_choose (l : Launch) (E : Ev) (sz : Nat) (qo : Nat) (c0 : Nat) (c1 : Nat) (ch : Nat) (g0 : Nat → Int32) (g1 : Nat → Int32) (gh : Nat → Int32) (qw : Nat) (ap : Nat → Nat) (vp : Vf) (as_ : Nat → Nat) (vs : Vf) (k : Int32) (goal : Int32) (i : Int32) (step : Int32) (hI : PlanI vp) (hJ : StateI vs) (hk : 0 ≤ k.toInt ∧ k.toInt ≤ 23) (hi : 0 ≤ i.toInt ∧ i.toInt ≤ 39) (hstep : 0 ≤ step.toInt ∧ step.toInt ≤ 2000000) : Met l yX3_choose wsX3_choose rm_X3_choose (MtP E sz [.ref qo, .int k, .int goal, .int i, .int step] (roL E qo c0 c1 ch g0 g1 gh qw ap vp as_ vs)) (va_Qv (fun (u : (Nat → Int32) × (Nat → Int32)) => True) (MtB E (va_A (roL E qo c0 c1 ch g0 g1 gh qw ap vp as_ vs) sz) (fun u => roL E qo c0 c1 ch u.1 g1 u.2 qw ap vp as_ vs)) (va_A (roL E qo c0 c1 ch g0 g1 gh qw ap vp as_ vs) sz)) 0 0 (va_A (roL E qo c0 c1 ch g0 g1 gh qw ap vp as_ vs) sz) := by
  refine Met.ofW (cc := cX3_choose) (maxL := 10) (ret := none) (by decide) rfl ?_
  intro p e s m args below meth c s₁ B hml hv
  obtain ⟨rfl, hsz, hE, hP, hD0⟩ := hv
  subst hsz
  have hD := hD0.self (sz := s.heap.size)
  generalize hAe : va_A (roL E qo c0 c1 ch g0 g1 gh qw ap vp as_ vs) s.heap.size = A at hD hE ⊢
  have hA : ∀ q : Nat, s.heap.size ≤ q → A q := fun q h => by rw [← hAe]; exact Or.inr h
  have hS : va_S A s.heap s.heap [] := va_S.rf
  have hx := B.exec
  have hb := B.bytes
  have hr := B.returns
  have hts := atoms_spec (ws := wsX3_choose) B.pre
  have hown : s.vm.findClass RX3 = some m.cls := findClass_of_methodNamed B.named
  have hlocks := B.notSynchronized
  have hK := hE.1
  have in_X3 : ∀ w ∈ u_ws RX3 TX3 4, w ∈ wsX3_choose := fun w h => List.mem_cons_of_mem _ (List.mem_append_left _ (List.mem_append_left _ (List.mem_append_left _ (List.mem_append_left _ (List.mem_append_left _ (List.mem_append_right _ h))))))
  have in_X8 : ∀ w ∈ u_ws RX8 TX8 2, w ∈ wsX3_choose := fun w h => List.mem_cons_of_mem _ (List.mem_append_left _ (List.mem_append_left _ (List.mem_append_left _ (List.mem_append_left _ (List.mem_append_right _ h)))))
  have lk0 := hts (.constant RX3 48 1000000000) (List.mem_of_getElem? (i := 1) rfl)
  have lk1 := hts (.fieldLink RX3 9 "TidedGround$Routes" "cost" "[I") (List.mem_of_getElem? (i := 5) rfl)
  have lk2 := hts (.fieldLink RX3 18 "TidedGround$Routes" "choice" "[I") (List.mem_of_getElem? (i := 6) rfl)
  have lk3 := hts (.fieldLink RX3 21 "TidedGround$Routes" "world" "LTidedGround$World;") (List.mem_of_getElem? (i := 2) rfl)
  have lk4 := hts (.fieldLink RX3 29 "TidedGround$World" "plan" "LTidedGround$Plan;") (List.mem_of_getElem? (i := 3) rfl)
  have lk5 := hts (.fieldLink RX3 15 "TidedGround$Routes" "nextCost" "[I") (List.mem_of_getElem? (i := 4) rfl)
  have n_m1 : ((-1) : Int32).toInt = -1 := by decide
  have n_0 : (0 : Int32).toInt = 0 := by decide
  have n_1 : (1 : Int32).toInt = 1 := by decide
  have n_5 : (5 : Int32).toInt = 5 := by decide
  have n_24 : (24 : Int32).toInt = 24 := by decide
  have n_1000000000 : (1000000000 : Int32).toInt = 1000000000 := by decide
  have hl := lv_entry ([.ref qo, .int k, .int goal, .int i, .int step]) (n := 10) (Nat.le_of_ble_eq_true rfl)
  rw [lg_entry_eq]
  generalize (lg_sl ([.ref qo, .int k, .int goal, .int i, .int step]) ++ List.replicate (10 - (lg_sl ([.ref qo, .int k, .int goal, .int i, .int step])).length) Slot.unset).toArray = ls at hl ⊢
  have hl : lv_has ls 10 [(0, .ref qo), (1, .int k), (2, .int goal), (3, .int i), (4, .int step)] := hl
  refine W_abs (fun Q hQ => ?_)
  obtain ⟨hg, hmc, hm0, hm1, hm2, hs0, hs1, hs2, hs3⟩ := id hI
  obtain ⟨hg1, hg2, hg3, hg4⟩ := id hg
  have hz0 := hm0.1
  have hz1 := hm1.1
  have hz2 := hm2.1
  have hc0 := hs0.1
  have hc1 := hs1.1
  have hc2 := hs2.1
  have hc3 := hs3.1
  obtain ⟨hj0, hj1, hj2⟩ := id hJ
  refine lv_ldc hx hb hown lk0 dX3_choose_0 ?_
  refine lv_istore (lv' := [(5, .int 1000000000), (0, .ref qo), (1, .int k), (2, .int goal), (3, .int i), (4, .int step)]) hx hb dX3_choose_2 hl (by decide) rfl (fun ls hl => ?_)
  refine lv_iconst (v := 0) hx hb dX3_choose_4 (by decide) ?_
  refine lv_istore (lv' := [(6, .int 0), (5, .int 1000000000), (0, .ref qo), (1, .int k), (2, .int goal), (3, .int i), (4, .int step)]) hx hb dX3_choose_5 hl (by decide) rfl (fun ls hl => ?_)
  refine lv_iconst (v := 0) hx hb dX3_choose_7 (by decide) ?_
  refine lv_istore (lv' := [(7, .int 0), (6, .int 0), (5, .int 1000000000), (0, .ref qo), (1, .int k), (2, .int goal), (3, .int i), (4, .int step)]) hx hb dX3_choose_8 hl (by decide) rfl (fun ls hl => ?_)
  have K10 : ∀ (μ : Nat) (best : Int32) (bw : Int32) (way : Int32) (H : Heap) (locs : List Loc) (ls : Array Slot), (5 - way.toInt).toNat < μ → va_P (eD E) vwCl (roL E qo c0 c1 ch g0 g1 gh qw ap vp as_ vs) H → va_D A (roL E qo c0 c1 ch g0 g1 gh qw ap vp as_ vs) → va_S A s.heap H locs → (0 ≤ way.toInt ∧ way.toInt ≤ 5) → lv_has ls 10 [(0, .ref qo), (1, .int k), (2, .int goal), (3, .int i), (4, .int step), (5, .int best), (6, .int bw), (7, .int way)] → W p l e (headSpec wsX3_choose rm_X3_choose).room s m ([.ref qo, .int k, .int goal, .int i, .int step] : List Value).toArray below meth c H locs 0 0 Q (F0 m 10 ls []) := by
    intro μ
    induction μ with
    | zero =>
      intro best bw way H locs ls hμ10
      exact absurd hμ10 (Nat.not_lt_zero _)
    | succ μ ih10 =>
      intro best bw way H locs ls hμ10 hP hD hS h10_0 hl
      refine lv_iload hx hb dX3_choose_10 (lv_at hl 7 rfl) ?_
      refine lv_iconst (v := 5) hx hb dX3_choose_12 (by decide) ?_
      refine lv_icmp_ge (tgt := 93) hx hb dX3_choose_13 (by decide) (fun c13 => ?_) (fun c13 => ?_)
      · have c13_ := i_le c13
        refine lv_aload_n hx hb dX3_choose_93 rfl (lv_at hl 0 rfl) ?_
        refine va_get (D := eD E) (ci := 3) (v := .ref c0) (C := RX3) (T := TX3) (N := 4) hx hb hts in_X3 hown hK hP 0 rfl rfl 1 (by decide) lk1 (fun _ h9 => h9) rfl dX3_choose_94 ?_
        refine lv_iload_n hx hb dX3_choose_97 rfl (lv_at hl 1 rfl) ?_
        refine lv_iload_n hx hb dX3_choose_98 rfl (lv_at hl 1 rfl) ?_
        refine lv_iload_n hx hb dX3_choose_99 rfl (lv_at hl 2 rfl) ?_
        have K109 : ∀  (bb : Int32) (H : Heap) (locs : List Loc) (ls : Array Slot), va_P (eD E) vwCl (roL E qo c0 c1 ch g0 g1 gh qw ap vp as_ vs) H → va_D A (roL E qo c0 c1 ch g0 g1 gh qw ap vp as_ vs) → va_S A s.heap H locs → lv_has ls 10 [(0, .ref qo), (1, .int k), (2, .int goal), (3, .int i), (4, .int step), (5, .int best), (6, .int bw), (7, .int way)] → W p l e (headSpec wsX3_choose rm_X3_choose).room s m ([.ref qo, .int k, .int goal, .int i, .int step] : List Value).toArray below meth c H locs 0 0 Q (F0 m 109 ls [.int bb, .int k, .ref c0]) := by
          intro bb H locs ls hP hD hS hl
          refine va_iast hx hb hK hP hD hS 1 0 rfl rfl (n := 24) (f := g0) (i_in (by omega) (by omega)) dX3_choose_109 (fun H locs hP hD hS => ?_)
          replace hP : va_P (eD E) vwCl (roL E qo c0 c1 ch (upd g0 k.toNatClampNeg bb) g1 gh qw ap vp as_ vs) H := hP
          replace hD : va_D A (roL E qo c0 c1 ch (upd g0 k.toNatClampNeg bb) g1 gh qw ap vp as_ vs) := hD
          generalize hv109 : upd g0 k.toNatClampNeg bb = g0_109 at hP hD
          refine lv_aload_n hx hb dX3_choose_110 rfl (lv_at hl 0 rfl) ?_
          refine va_get (D := eD E) (ci := 3) (v := .ref ch) (C := RX3) (T := TX3) (N := 4) hx hb hts in_X3 hown hK hP 0 rfl rfl 3 (by decide) lk2 (fun _ h9 => h9) rfl dX3_choose_111 ?_
          refine lv_iload_n hx hb dX3_choose_114 rfl (lv_at hl 3 rfl) ?_
          refine lv_bipush (v := 24) hx hb dX3_choose_115 (by decide) ?_
          refine lv_imul hx hb dX3_choose_117 ?_
          refine lv_topi (fun x117 e117 => ?_)
          have t117 := i_mul e117 (by rw [n_24]; omega)
          rw [n_24] at t117
          refine lv_iload_n hx hb dX3_choose_118 rfl (lv_at hl 1 rfl) ?_
          refine lv_iadd hx hb dX3_choose_119 ?_
          refine lv_topi (fun x119 e119 => ?_)
          have t119 := i_add e119 (by omega)
          refine lv_iload hx hb dX3_choose_120 (lv_at hl 6 rfl) ?_
          refine va_iast hx hb hK hP hD hS 3 0 rfl rfl (n := 960) (f := gh) (i_in (by omega) (by omega)) dX3_choose_122 (fun H locs hP hD hS => ?_)
          replace hP : va_P (eD E) vwCl (roL E qo c0 c1 ch g0_109 g1 (upd gh x119.toNatClampNeg bw) qw ap vp as_ vs) H := hP
          replace hD : va_D A (roL E qo c0 c1 ch g0_109 g1 (upd gh x119.toNatClampNeg bw) qw ap vp as_ vs) := hD
          generalize hv122 : upd gh x119.toNatClampNeg bw = gh_122 at hP hD
          subst hQ
          exact W.vret hx hb hr (fun t ht hW => ⟨⟨(g0_109, gh_122), rfl, trivial, by rw [ht]; exact hP, hD⟩, hS.F ht⟩) hS.2.2 dX3_choose_123
        refine lv_icmp_ne (tgt := 107) hx hb dX3_choose_100 (by decide) (fun c100 => ?_) (fun c100 => ?_)
        · have c100_ := i_ne c100
          refine lv_iload hx hb dX3_choose_107 (lv_at hl 5 rfl) ?_
          exact K109 best _ _ ls hP hD hS (lv_sub hl [0, 1, 2, 3, 4, 5, 6, 7] rfl)
        · have c100_ := i_eq c100
          refine lv_iconst (v := 0) hx hb dX3_choose_103 (by decide) ?_
          refine lv_goto (tgt := 109) hx hb dX3_choose_104 (by decide) ?_
          exact K109 0 _ _ ls hP hD hS (lv_sub hl [0, 1, 2, 3, 4, 5, 6, 7] rfl)
      · have c13_ := i_nle c13
        refine lv_iload_n hx hb dX3_choose_16 rfl (lv_at hl 1 rfl) ?_
        refine lv_iload_n hx hb dX3_choose_17 rfl (lv_at hl 2 rfl) ?_
        refine lv_icmp_eq (tgt := 93) hx hb dX3_choose_18 (by decide) (fun c18 => ?_) (fun c18 => ?_)
        · have c18_ := i_eq c18
          refine lv_aload_n hx hb dX3_choose_93 rfl (lv_at hl 0 rfl) ?_
          refine va_get (D := eD E) (ci := 3) (v := .ref c0) (C := RX3) (T := TX3) (N := 4) hx hb hts in_X3 hown hK hP 0 rfl rfl 1 (by decide) lk1 (fun _ h9 => h9) rfl dX3_choose_94 ?_
          refine lv_iload_n hx hb dX3_choose_97 rfl (lv_at hl 1 rfl) ?_
          refine lv_iload_n hx hb dX3_choose_98 rfl (lv_at hl 1 rfl) ?_
          refine lv_iload_n hx hb dX3_choose_99 rfl (lv_at hl 2 rfl) ?_
          have K109 : ∀  (bb : Int32) (H : Heap) (locs : List Loc) (ls : Array Slot), va_P (eD E) vwCl (roL E qo c0 c1 ch g0 g1 gh qw ap vp as_ vs) H → va_D A (roL E qo c0 c1 ch g0 g1 gh qw ap vp as_ vs) → va_S A s.heap H locs → lv_has ls 10 [(0, .ref qo), (1, .int k), (2, .int goal), (3, .int i), (4, .int step), (5, .int best), (6, .int bw), (7, .int way)] → W p l e (headSpec wsX3_choose rm_X3_choose).room s m ([.ref qo, .int k, .int goal, .int i, .int step] : List Value).toArray below meth c H locs 0 0 Q (F0 m 109 ls [.int bb, .int k, .ref c0]) := by
            intro bb H locs ls hP hD hS hl
            refine va_iast hx hb hK hP hD hS 1 0 rfl rfl (n := 24) (f := g0) (i_in (by omega) (by omega)) dX3_choose_109 (fun H locs hP hD hS => ?_)
            replace hP : va_P (eD E) vwCl (roL E qo c0 c1 ch (upd g0 k.toNatClampNeg bb) g1 gh qw ap vp as_ vs) H := hP
            replace hD : va_D A (roL E qo c0 c1 ch (upd g0 k.toNatClampNeg bb) g1 gh qw ap vp as_ vs) := hD
            generalize hv109 : upd g0 k.toNatClampNeg bb = g0_109 at hP hD
            refine lv_aload_n hx hb dX3_choose_110 rfl (lv_at hl 0 rfl) ?_
            refine va_get (D := eD E) (ci := 3) (v := .ref ch) (C := RX3) (T := TX3) (N := 4) hx hb hts in_X3 hown hK hP 0 rfl rfl 3 (by decide) lk2 (fun _ h9 => h9) rfl dX3_choose_111 ?_
            refine lv_iload_n hx hb dX3_choose_114 rfl (lv_at hl 3 rfl) ?_
            refine lv_bipush (v := 24) hx hb dX3_choose_115 (by decide) ?_
            refine lv_imul hx hb dX3_choose_117 ?_
            refine lv_topi (fun x117 e117 => ?_)
            have t117 := i_mul e117 (by rw [n_24]; omega)
            rw [n_24] at t117
            refine lv_iload_n hx hb dX3_choose_118 rfl (lv_at hl 1 rfl) ?_
            refine lv_iadd hx hb dX3_choose_119 ?_
            refine lv_topi (fun x119 e119 => ?_)
            have t119 := i_add e119 (by omega)
            refine lv_iload hx hb dX3_choose_120 (lv_at hl 6 rfl) ?_
            refine va_iast hx hb hK hP hD hS 3 0 rfl rfl (n := 960) (f := gh) (i_in (by omega) (by omega)) dX3_choose_122 (fun H locs hP hD hS => ?_)
            replace hP : va_P (eD E) vwCl (roL E qo c0 c1 ch g0_109 g1 (upd gh x119.toNatClampNeg bw) qw ap vp as_ vs) H := hP
            replace hD : va_D A (roL E qo c0 c1 ch g0_109 g1 (upd gh x119.toNatClampNeg bw) qw ap vp as_ vs) := hD
            generalize hv122 : upd gh x119.toNatClampNeg bw = gh_122 at hP hD
            subst hQ
            exact W.vret hx hb hr (fun t ht hW => ⟨⟨(g0_109, gh_122), rfl, trivial, by rw [ht]; exact hP, hD⟩, hS.F ht⟩) hS.2.2 dX3_choose_123
          refine lv_icmp_ne (tgt := 107) hx hb dX3_choose_100 (by decide) (fun c100 => ?_) (fun c100 => ?_)
          · have c100_ := i_ne c100
            refine lv_iload hx hb dX3_choose_107 (lv_at hl 5 rfl) ?_
            exact K109 best _ _ ls hP hD hS (lv_sub hl [0, 1, 2, 3, 4, 5, 6, 7] rfl)
          · have c100_ := i_eq c100
            refine lv_iconst (v := 0) hx hb dX3_choose_103 (by decide) ?_
            refine lv_goto (tgt := 109) hx hb dX3_choose_104 (by decide) ?_
            exact K109 0 _ _ ls hP hD hS (lv_sub hl [0, 1, 2, 3, 4, 5, 6, 7] rfl)
        · have c18_ := i_ne c18
          refine lv_aload_n hx hb dX3_choose_21 rfl (lv_at hl 0 rfl) ?_
          refine va_get (D := eD E) (ci := 3) (v := .ref qw) (C := RX3) (T := TX3) (N := 4) hx hb hts in_X3 hown hK hP 0 rfl rfl 0 (by decide) lk3 (fun _ h9 => h9) rfl dX3_choose_22 ?_
          refine va_get (D := eD E) (ci := 8) (v := .ref (ap 0)) (C := RX8) (T := TX8) (N := 2) hx hb hts in_X8 hown hK hP 4 rfl rfl 0 (by decide) lk4 (fun _ h9 => h9) rfl dX3_choose_25 ?_
          refine lv_iload_n hx hb dX3_choose_28 rfl (lv_at hl 1 rfl) ?_
          refine lv_iload hx hb dX3_choose_29 (lv_at hl 7 rfl) ?_
          refine rd_V (As := [.int k, .int way]) (rest := []) (C := RX1) (ci := 1) ⟨hx, hb, hml, hown, hts⟩ (c_X1_beside l E A ap vp k way hI (by omega)) (cwV 2 hts gX3_choose_X1_beside rfl rfl rfl (by decide +kernel) ⟨Nat.le_of_ble_eq_true rfl, Nat.le_of_ble_eq_true rfl⟩) (hE.kept hS.2.1) (hP.sub (ws' := planL E ap vp) [5, 6, 7, 8, 9, 10, 11, 12, 13, 14, 15, 16, 17, 18, 19, 20, 21, 22, 23, 24, 25, 26, 27, 28, 29, 30, 31, 32, 33] rfl) rfl rfl rfl rfl hl.1 rfl (Nat.le_of_ble_eq_true rfl) dX3_choose_31 ⟨Nat.zero_le _, Nat.zero_le _⟩ (fun r31 h31 => ?_)
          have hf31 := h31.2
          replace h31 := h31.1
          refine lv_istore (lv' := [(8, .int r31), (0, .ref qo), (1, .int k), (2, .int goal), (3, .int i), (4, .int step), (5, .int best), (6, .int bw), (7, .int way)]) hx hb dX3_choose_34 hl (by decide) rfl (fun ls hl => ?_)
          refine lv_aload_n hx hb dX3_choose_36 rfl (lv_at hl 1 rfl) ?_
          refine va_get (D := eD E) (ci := 3) (v := .ref qw) (C := RX3) (T := TX3) (N := 4) hx hb hts in_X3 hown hK hP 0 rfl rfl 0 (by decide) lk3 (fun _ h9 => h9) rfl dX3_choose_37 ?_
          refine lv_iload_n hx hb dX3_choose_40 rfl (lv_at hl 2 rfl) ?_
          refine lv_iload hx hb dX3_choose_41 (lv_at hl 0 rfl) ?_
          refine lv_iload hx hb dX3_choose_43 (lv_at hl 5 rfl) ?_
          refine rd_V (As := [.int k, .int r31, .int step]) (rest := []) (C := RX8) (ci := 8) ⟨hx, hb, hml, hown, hts⟩ (c_X8_pushTo l E A qw ap vp as_ vs k r31 step hI hJ (by omega) (by omega) (by omega)) (cwV 3 hts gX3_choose_X8_pushTo rfl rfl rfl (by decide +kernel) ⟨Nat.le_of_ble_eq_true rfl, Nat.le_of_ble_eq_true rfl⟩) (hE.kept hS.2.1) (hP.sub (ws' := wpsL E qw ap vp as_ vs) [4, 5, 6, 7, 8, 9, 10, 11, 12, 13, 14, 15, 16, 17, 18, 19, 20, 21, 22, 23, 24, 25, 26, 27, 28, 29, 30, 31, 32, 33, 34, 35, 36, 37] rfl) rfl rfl rfl rfl hl.1 rfl (Nat.le_of_ble_eq_true rfl) dX3_choose_45 ⟨Nat.zero_le _, Nat.zero_le _⟩ (fun r45 h45 => ?_)
          have hf45 := h45.2
          replace h45 := h45.1
          refine lv_istore (lv' := [(9, .int r45), (8, .int r31), (0, .ref qo), (1, .int k), (2, .int goal), (3, .int i), (4, .int step), (5, .int best), (6, .int bw), (7, .int way)]) hx hb dX3_choose_48 hl (by decide) rfl (fun ls hl => ?_)
          refine lv_iload hx hb dX3_choose_50 (lv_at hl 0 rfl) ?_
          refine lv_iconst (v := (-1)) hx hb dX3_choose_52 (by decide) ?_
          refine lv_icmp_eq (tgt := 87) hx hb dX3_choose_53 (by decide) (fun c53 => ?_) (fun c53 => ?_)
          · have c53_ := i_eq c53
            clear h45
            obtain ⟨x87, e87⟩ : ∃ y : Int32, y = way + 1 := ⟨_, rfl⟩
            refine lv_iinc (v := x87) (lv' := [(7, .int x87), (9, .int r45), (8, .int r31), (0, .ref qo), (1, .int k), (2, .int goal), (3, .int i), (4, .int step), (5, .int best), (6, .int bw)]) hx hb dX3_choose_87 hl (k := 9) rfl (by rw [e87]; rfl) (by decide) rfl (fun ls hl => ?_)
            have t87 := i_add e87 (by omega)
            refine lv_goto (tgt := 10) hx hb dX3_choose_90 (by decide) ?_
            exact ih10 best bw x87 _ _ ls (by omega) hP hD hS (by omega) (lv_sub hl [3, 4, 5, 6, 7, 8, 9, 0] rfl)
          · have c53_ := i_ne c53
            replace h45 := cm_n h45 c53_
            clear c53_
            refine lv_iload hx hb dX3_choose_56 (lv_at hl 0 rfl) ?_
            refine lv_aload_n hx hb dX3_choose_58 rfl (lv_at hl 2 rfl) ?_
            refine va_get (D := eD E) (ci := 3) (v := .ref c1) (C := RX3) (T := TX3) (N := 4) hx hb hts in_X3 hown hK hP 0 rfl rfl 2 (by decide) lk5 (fun _ h9 => h9) rfl dX3_choose_59 ?_
            refine lv_iload hx hb dX3_choose_62 (lv_at hl 1 rfl) ?_
            refine va_iald hx hb hK hP 2 0 rfl rfl (n := 24) (f := g1) (i_in (by omega) (by omega)) dX3_choose_64 ?_
            refine lv_topi (fun x64 e64 => ?_)
            refine lv_iadd hx hb dX3_choose_65 ?_
            refine lv_topi (fun x65 e65 => ?_)
            refine lv_iload hx hb dX3_choose_66 (lv_at hl 7 rfl) ?_
            refine lv_icmp_ge (tgt := 87) hx hb dX3_choose_68 (by decide) (fun c68 => ?_) (fun c68 => ?_)
            · have c68_ := i_le c68
              obtain ⟨x87, e87⟩ : ∃ y : Int32, y = way + 1 := ⟨_, rfl⟩
              refine lv_iinc (v := x87) (lv' := [(7, .int x87), (9, .int r45), (8, .int r31), (0, .ref qo), (1, .int k), (2, .int goal), (3, .int i), (4, .int step), (5, .int best), (6, .int bw)]) hx hb dX3_choose_87 hl (k := 9) rfl (by rw [e87]; rfl) (by decide) rfl (fun ls hl => ?_)
              have t87 := i_add e87 (by omega)
              refine lv_goto (tgt := 10) hx hb dX3_choose_90 (by decide) ?_
              exact ih10 best bw x87 _ _ ls (by omega) hP hD hS (by omega) (lv_sub hl [3, 4, 5, 6, 7, 8, 9, 0] rfl)
            · have c68_ := i_nle c68
              refine lv_iload hx hb dX3_choose_71 (lv_at hl 0 rfl) ?_
              refine lv_aload_n hx hb dX3_choose_73 rfl (lv_at hl 2 rfl) ?_
              refine va_get (D := eD E) (ci := 3) (v := .ref c1) (C := RX3) (T := TX3) (N := 4) hx hb hts in_X3 hown hK hP 0 rfl rfl 2 (by decide) lk5 (fun _ h9 => h9) rfl dX3_choose_74 ?_
              refine lv_iload hx hb dX3_choose_77 (lv_at hl 1 rfl) ?_
              refine va_iald hx hb hK hP 2 0 rfl rfl (n := 24) (f := g1) (i_in (by omega) (by omega)) dX3_choose_79 ?_
              refine lv_topi (fun x79 e79 => ?_)
              refine lv_iadd hx hb dX3_choose_80 ?_
              refine lv_topi (fun x80 e80 => ?_)
              refine lv_istore (lv' := [(5, .int x80), (9, .int r45), (8, .int r31), (0, .ref qo), (1, .int k), (2, .int goal), (3, .int i), (4, .int step), (6, .int bw), (7, .int way)]) hx hb dX3_choose_81 hl (by decide) rfl (fun ls hl => ?_)
              refine lv_iload hx hb dX3_choose_83 (lv_at hl 9 rfl) ?_
              refine lv_istore (lv' := [(6, .int way), (5, .int x80), (9, .int r45), (8, .int r31), (0, .ref qo), (1, .int k), (2, .int goal), (3, .int i), (4, .int step), (7, .int way)]) hx hb dX3_choose_85 hl (by decide) rfl (fun ls hl => ?_)
              obtain ⟨x87, e87⟩ : ∃ y : Int32, y = way + 1 := ⟨_, rfl⟩
              refine lv_iinc (v := x87) (lv' := [(7, .int x87), (6, .int way), (5, .int x80), (9, .int r45), (8, .int r31), (0, .ref qo), (1, .int k), (2, .int goal), (3, .int i), (4, .int step)]) hx hb dX3_choose_87 hl (k := 9) rfl (by rw [e87]; rfl) (by decide) rfl (fun ls hl => ?_)
              have t87 := i_add e87 (by omega)
              refine lv_goto (tgt := 10) hx hb dX3_choose_90 (by decide) ?_
              exact ih10 x80 way x87 _ _ ls (by omega) hP hD hS (by omega) (lv_sub hl [5, 6, 7, 8, 9, 2, 1, 0] rfl)
  exact K10 _ 1000000000 0 0 _ _ ls (Nat.lt_succ_self _) hP hD hS (by omega) (lv_sub hl [3, 4, 5, 6, 7, 2, 1, 0] rfl)
def rm_X3_leastPushed : Room := { frames := 5, cells := 0, slots := 0, locals := 125 }
set_option maxHeartbeats 4000000 in
set_option maxRecDepth 100000 in
theorem c_X3_leastPushed (l : Launch) (E : Ev) (sz : Nat) (qo : Nat) (c0 : Nat) (c1 : Nat) (ch : Nat) (g0 : Nat → Int32) (g1 : Nat → Int32) (gh : Nat → Int32) (qw : Nat) (ap : Nat → Nat) (vp : Vf) (as_ : Nat → Nat) (vs : Vf) (x0 : Int32) (goal : Int32) (step : Int32) (n : Int32) (hI : PlanI vp) (hJ : StateI vs) (hx0 : 0 ≤ x0.toInt ∧ x0.toInt ≤ 23) (hstep : 0 ≤ step.toInt ∧ step.toInt ≤ 900000) (hn : 1 ≤ n.toInt ∧ n.toInt ≤ 40) : Met l yX3_leastPushed wsX3_leastPushed rm_X3_leastPushed (MtP E sz [.ref qo, .int x0, .int goal, .int step, .int n] (roL E qo c0 c1 ch g0 g1 gh qw ap vp as_ vs)) (va_Qi (fun (r : Int32) (u : Nat × Nat × (Nat → Int32) × (Nat → Int32) × (Nat → Int32)) => True) (MtB E (va_A (roL E qo c0 c1 ch g0 g1 gh qw ap vp as_ vs) sz) (fun u => roL E qo u.1 u.2.1 ch u.2.2.1 u.2.2.2.1 u.2.2.2.2 qw ap vp as_ vs)) (va_A (roL E qo c0 c1 ch g0 g1 gh qw ap vp as_ vs) sz)) 0 0 (va_A (roL E qo c0 c1 ch g0 g1 gh qw ap vp as_ vs) sz) := by
  refine Met.ofW (cc := cX3_leastPushed) (maxL := 8) (ret := (some .int)) (by decide) rfl ?_
  intro p e s m args below meth c s₁ B hml hv
  obtain ⟨rfl, hsz, hE, hP, hD0⟩ := hv
  subst hsz
  have hD := hD0.self (sz := s.heap.size)
  generalize hAe : va_A (roL E qo c0 c1 ch g0 g1 gh qw ap vp as_ vs) s.heap.size = A at hD hE ⊢
  have hA : ∀ q : Nat, s.heap.size ≤ q → A q := fun q h => by rw [← hAe]; exact Or.inr h
  have hS : va_S A s.heap s.heap [] := va_S.rf
  have hx := B.exec
  have hb := B.bytes
  have hr := B.returns
  have hts := atoms_spec (ws := wsX3_leastPushed) B.pre
  have hown : s.vm.findClass RX3 = some m.cls := findClass_of_methodNamed B.named
  have hlocks := B.notSynchronized
  have hK := hE.1
  have in_X3 : ∀ w ∈ u_ws RX3 TX3 4, w ∈ wsX3_leastPushed := fun w h => List.mem_cons_of_mem _ (List.mem_append_left _ (List.mem_append_left _ (List.mem_append_left _ (List.mem_append_left _ (List.mem_append_left _ (List.mem_append_right _ h))))))
  have in_X8 : ∀ w ∈ u_ws RX8 TX8 2, w ∈ wsX3_leastPushed := fun w h => List.mem_cons_of_mem _ (List.mem_append_left _ (List.mem_append_left _ (List.mem_append_left _ (List.mem_append_left _ (List.mem_append_right _ h)))))
  have in_X1 : ∀ w ∈ u_ws RX1 TX1 11, w ∈ wsX3_leastPushed := fun w h => List.mem_cons_of_mem _ (List.mem_append_left _ (List.mem_append_left _ (List.mem_append_left _ (List.mem_append_right _ h))))
  have lk0 := hts (.fieldLink RX3 21 "TidedGround$Routes" "world" "LTidedGround$World;") (List.mem_of_getElem? (i := 1) rfl)
  have lk1 := hts (.fieldLink RX3 29 "TidedGround$World" "plan" "LTidedGround$Plan;") (List.mem_of_getElem? (i := 2) rfl)
  have lk2 := hts (.fieldLink RX3 35 "TidedGround$Plan" "cells" "I") (List.mem_of_getElem? (i := 3) rfl)
  have lk3 := hts (.fieldLink RX3 9 "TidedGround$Routes" "cost" "[I") (List.mem_of_getElem? (i := 4) rfl)
  have lk4 := hts (.constant RX3 48 1000000000) (List.mem_of_getElem? (i := 5) rfl)
  have lk5 := hts (.fieldLink RX3 15 "TidedGround$Routes" "nextCost" "[I") (List.mem_of_getElem? (i := 6) rfl)
  have n_m1 : ((-1) : Int32).toInt = -1 := by decide
  have n_0 : (0 : Int32).toInt = 0 := by decide
  have n_1 : (1 : Int32).toInt = 1 := by decide
  have n_1000000000 : (1000000000 : Int32).toInt = 1000000000 := by decide
  have hl := lv_entry ([.ref qo, .int x0, .int goal, .int step, .int n]) (n := 8) (Nat.le_of_ble_eq_true rfl)
  rw [lg_entry_eq]
  generalize (lg_sl ([.ref qo, .int x0, .int goal, .int step, .int n]) ++ List.replicate (8 - (lg_sl ([.ref qo, .int x0, .int goal, .int step, .int n])).length) Slot.unset).toArray = ls at hl ⊢
  have hl : lv_has ls 8 [(0, .ref qo), (1, .int x0), (2, .int goal), (3, .int step), (4, .int n)] := hl
  refine W_abs (fun Q hQ => ?_)
  obtain ⟨hg, hmc, hm0, hm1, hm2, hs0, hs1, hs2, hs3⟩ := id hI
  obtain ⟨hg1, hg2, hg3, hg4⟩ := id hg
  have hz0 := hm0.1
  have hz1 := hm1.1
  have hz2 := hm2.1
  have hc0 := hs0.1
  have hc1 := hs1.1
  have hc2 := hs2.1
  have hc3 := hs3.1
  obtain ⟨hj0, hj1, hj2⟩ := id hJ
  refine lv_iconst (v := 0) hx hb dX3_leastPushed_0 (by decide) ?_
  refine lv_istore (lv' := [(5, .int 0), (0, .ref qo), (1, .int x0), (2, .int goal), (3, .int step), (4, .int n)]) hx hb dX3_leastPushed_1 hl (by decide) rfl (fun ls hl => ?_)
  have K3 : ∀ (μ : Nat) (k : Int32) (ga : Nat → Int32) (H : Heap) (locs : List Loc) (ls : Array Slot), (24 - k.toInt).toNat < μ → va_P (eD E) vwCl (roL E qo c0 c1 ch ga g1 gh qw ap vp as_ vs) H → va_D A (roL E qo c0 c1 ch ga g1 gh qw ap vp as_ vs) → va_S A s.heap H locs → (0 ≤ k.toInt ∧ k.toInt ≤ 24) → lv_has ls 8 [(0, .ref qo), (1, .int x0), (2, .int goal), (3, .int step), (4, .int n), (5, .int k)] → W p l e (headSpec wsX3_leastPushed rm_X3_leastPushed).room s m ([.ref qo, .int x0, .int goal, .int step, .int n] : List Value).toArray below meth c H locs 0 0 Q (F0 m 3 ls []) := by
    intro μ
    induction μ with
    | zero =>
      intro k ga H locs ls hμ3
      exact absurd hμ3 (Nat.not_lt_zero _)
    | succ μ ih3 =>
      intro k ga H locs ls hμ3 hP hD hS h3_0 hl
      refine lv_iload hx hb dX3_leastPushed_3 (lv_at hl 5 rfl) ?_
      refine lv_aload_n hx hb dX3_leastPushed_5 rfl (lv_at hl 0 rfl) ?_
      refine va_get (D := eD E) (ci := 3) (v := .ref qw) (C := RX3) (T := TX3) (N := 4) hx hb hts in_X3 hown hK hP 0 rfl rfl 0 (by decide) lk0 (fun _ h9 => h9) rfl dX3_leastPushed_6 ?_
      refine va_get (D := eD E) (ci := 8) (v := .ref (ap 0)) (C := RX8) (T := TX8) (N := 2) hx hb hts in_X8 hown hK hP 4 rfl rfl 0 (by decide) lk1 (fun _ h9 => h9) rfl dX3_leastPushed_9 ?_
      refine va_get (D := eD E) (ci := 1) (v := .int (vp 2 0)) (C := RX1) (T := TX1) (N := 11) hx hb hts in_X1 hown hK hP 5 rfl rfl 2 (by decide) lk2 (fun _ h9 => h9) rfl dX3_leastPushed_12 ?_
      refine lv_icmp_ge (tgt := 43) hx hb dX3_leastPushed_15 (by decide) (fun c15 => ?_) (fun c15 => ?_)
      · have c15_ := i_le c15
        refine lv_iload hx hb dX3_leastPushed_43 (lv_at hl 4 rfl) ?_
        refine lv_iconst (v := 1) hx hb dX3_leastPushed_45 (by decide) ?_
        refine lv_isub hx hb dX3_leastPushed_46 ?_
        refine lv_topi (fun x46 e46 => ?_)
        have t46 := i_sub e46 (by omega)
        refine lv_istore (lv' := [(5, .int x46), (0, .ref qo), (1, .int x0), (2, .int goal), (3, .int step), (4, .int n)]) hx hb dX3_leastPushed_47 hl (by decide) rfl (fun ls hl => ?_)
        have K49 : ∀ (μ : Nat) (i : Int32) (d0 : Nat) (d1 : Nat) (hj0x : Nat → Int32) (hj1x : Nat → Int32) (hjhx : Nat → Int32) (H : Heap) (locs : List Loc) (ls : Array Slot), (i.toInt + 1).toNat < μ → va_P (eD E) vwCl (roL E qo d0 d1 ch hj0x hj1x hjhx qw ap vp as_ vs) H → va_D A (roL E qo d0 d1 ch hj0x hj1x hjhx qw ap vp as_ vs) → va_S A s.heap H locs → (-1 ≤ i.toInt ∧ i.toInt ≤ 39) → lv_has ls 8 [(0, .ref qo), (1, .int x0), (2, .int goal), (3, .int step), (4, .int n), (5, .int i)] → W p l e (headSpec wsX3_leastPushed rm_X3_leastPushed).room s m ([.ref qo, .int x0, .int goal, .int step, .int n] : List Value).toArray below meth c H locs 0 0 Q (F0 m 49 ls []) := by
          intro μ
          induction μ with
          | zero =>
            intro i d0 d1 hj0x hj1x hjhx H locs ls hμ49
            exact absurd hμ49 (Nat.not_lt_zero _)
          | succ μ ih49 =>
            intro i d0 d1 hj0x hj1x hjhx H locs ls hμ49 hP hD hS h49_0 hl
            refine lv_iload hx hb dX3_leastPushed_49 (lv_at hl 5 rfl) ?_
            refine lv_if_lt (tgt := 119) hx hb dX3_leastPushed_51 (by decide) (fun c51 => ?_) (fun c51 => ?_)
            · have c51_ := i_lt c51
              refine lv_aload_n hx hb dX3_leastPushed_119 rfl (lv_at hl 0 rfl) ?_
              refine va_get (D := eD E) (ci := 3) (v := .ref d0) (C := RX3) (T := TX3) (N := 4) hx hb hts in_X3 hown hK hP 0 rfl rfl 1 (by decide) lk3 (fun _ h9 => h9) rfl dX3_leastPushed_120 ?_
              refine lv_iload_n hx hb dX3_leastPushed_123 rfl (lv_at hl 1 rfl) ?_
              refine va_iald hx hb hK hP 1 0 rfl rfl (n := 24) (f := hj0x) (i_in (by omega) (by omega)) dX3_leastPushed_124 ?_
              refine lv_topi (fun x124 e124 => ?_)
              refine lv_ldc hx hb hown lk4 dX3_leastPushed_125 ?_
              refine lv_icmp_lt (tgt := 134) hx hb dX3_leastPushed_127 (by decide) (fun c127 => ?_) (fun c127 => ?_)
              · have c127_ := i_lt c127
                refine lv_aload_n hx hb dX3_leastPushed_134 rfl (lv_at hl 0 rfl) ?_
                refine va_get (D := eD E) (ci := 3) (v := .ref d0) (C := RX3) (T := TX3) (N := 4) hx hb hts in_X3 hown hK hP 0 rfl rfl 1 (by decide) lk3 (fun _ h9 => h9) rfl dX3_leastPushed_135 ?_
                refine lv_iload_n hx hb dX3_leastPushed_138 rfl (lv_at hl 1 rfl) ?_
                refine va_iald hx hb hK hP 1 0 rfl rfl (n := 24) (f := hj0x) (i_in (by omega) (by omega)) dX3_leastPushed_139 ?_
                refine lv_topi (fun x139 e139 => ?_)
                subst hQ
                exact W.iret (v := x139) hx hb hr (fun t ht hW => ⟨⟨x139, (d0, d1, hj0x, hj1x, hjhx), rfl, trivial, by rw [ht]; exact hP, hD⟩, hS.F ht⟩) hS.2.2 dX3_leastPushed_140
              · have c127_ := i_nlt c127
                refine lv_iconst (v := (-1)) hx hb dX3_leastPushed_130 (by decide) ?_
                refine lv_goto (tgt := 140) hx hb dX3_leastPushed_131 (by decide) ?_
                subst hQ
                exact W.iret (v := (-1)) hx hb hr (fun t ht hW => ⟨⟨(-1), (d0, d1, hj0x, hj1x, hjhx), rfl, trivial, by rw [ht]; exact hP, hD⟩, hS.F ht⟩) hS.2.2 dX3_leastPushed_140
            · have c51_ := i_nlt c51
              refine lv_aload_n hx hb dX3_leastPushed_54 rfl (lv_at hl 0 rfl) ?_
              refine va_get (D := eD E) (ci := 3) (v := .ref d0) (C := RX3) (T := TX3) (N := 4) hx hb hts in_X3 hown hK hP 0 rfl rfl 1 (by decide) lk3 (fun _ h9 => h9) rfl dX3_leastPushed_55 ?_
              refine lv_astore (lv' := [(6, .ref d0), (0, .ref qo), (1, .int x0), (2, .int goal), (3, .int step), (4, .int n), (5, .int i)]) hx hb dX3_leastPushed_58 hl (by decide) rfl (fun ls hl => ?_)
              refine lv_aload_n hx hb dX3_leastPushed_60 rfl (lv_at hl 1 rfl) ?_
              refine lv_aload_n hx hb dX3_leastPushed_61 rfl (lv_at hl 1 rfl) ?_
              refine va_get (D := eD E) (ci := 3) (v := .ref d1) (C := RX3) (T := TX3) (N := 4) hx hb hts in_X3 hown hK hP 0 rfl rfl 2 (by decide) lk5 (fun _ h9 => h9) rfl dX3_leastPushed_62 ?_
              refine va_put (D := eD E) (ci := 3) (v := .ref d1) (ty := (.array .int)) (C := RX3) (T := TX3) (N := 4) hx hb hts in_X3 tyX3 tyX3_ok nmX3 hown hK hP hD hS 0 rfl rfl 1 (by decide) lk3 (fun _ h9 => h9) rfl (by decide +kernel) rfl rfl (Nat.le_of_ble_eq_true rfl) dX3_leastPushed_65 (fun H locs hP hD hS => ?_)
              replace hP : va_P (eD E) vwCl ([(qo, .inr (3, [.ref qw, .ref d1, .ref d1, .ref ch])), (d0, .inl (eI E, 24, .inl hj0x)), (d1, .inl (eI E, 24, .inl hj1x)), (ch, .inl (eI E, 960, .inl hjhx)), (qw, .inr (8, [.ref (ap 0), .ref (as_ 0)])), ((ap 0), .inr (1, [.int (vp 0 0), .int (vp 1 0), .int (vp 2 0), .ref (ap 3), .ref (ap 4), .int (vp 5 0), .ref (ap 6), .ref (ap 7), .ref (ap 8), .ref (ap 9), .ref (ap 10)])), ((ap 3), .inl (eI E, 24, .inl (vp 3))), ((ap 4), .inl (eI E, 24, .inl (vp 4))), ((ap 6), .inl (eM E, 3, .inr (.inr (.inr (.inr (fun i => some (ap (20 + 10 * i)))))))), ((ap 20), .inr (0, [.int (vp 20 0), .int (vp 21 0), .int (vp 22 0), .ref (ap 23), .ref (ap 24)])), ((ap 23), .inl (eI E, 18, .inl (vp 23))), ((ap 24), .inl (eI E, 24, .inl (vp 24))), ((ap 30), .inr (0, [.int (vp 30 0), .int (vp 31 0), .int (vp 32 0), .ref (ap 33), .ref (ap 34)])), ((ap 33), .inl (eI E, 18, .inl (vp 33))), ((ap 34), .inl (eI E, 24, .inl (vp 34))), ((ap 40), .inr (0, [.int (vp 40 0), .int (vp 41 0), .int (vp 42 0), .ref (ap 43), .ref (ap 44)])), ((ap 43), .inl (eI E, 18, .inl (vp 43))), ((ap 44), .inl (eI E, 24, .inl (vp 44))), ((ap 7), .inr (5, [.int (vp 60 0), .ref (ap 61), .ref (ap 62), .ref (ap 63)])), ((ap 61), .inl (eI E, 6, .inl (vp 61))), ((ap 62), .inl (eI E, 6, .inl (vp 62))), ((ap 63), .inl (eI E, 6, .inl (vp 63))), ((ap 8), .inr (5, [.int (vp 70 0), .ref (ap 71), .ref (ap 72), .ref (ap 73)])), ((ap 71), .inl (eI E, 6, .inl (vp 71))), ((ap 72), .inl (eI E, 6, .inl (vp 72))), ((ap 73), .inl (eI E, 6, .inl (vp 73))), ((ap 9), .inr (5, [.int (vp 80 0), .ref (ap 81), .ref (ap 82), .ref (ap 83)])), ((ap 81), .inl (eI E, 6, .inl (vp 81))), ((ap 82), .inl (eI E, 6, .inl (vp 82))), ((ap 83), .inl (eI E, 6, .inl (vp 83))), ((ap 10), .inr (5, [.int (vp 90 0), .ref (ap 91), .ref (ap 92), .ref (ap 93)])), ((ap 91), .inl (eI E, 6, .inl (vp 91))), ((ap 92), .inl (eI E, 6, .inl (vp 92))), ((ap 93), .inl (eI E, 6, .inl (vp 93))), ((as_ 0), .inr (6, [.int (vs 0 0), .ref (as_ 1), .ref (as_ 2), .ref (as_ 3), .int (vs 4 0), .int (vs 5 0), .int (vs 6 0), .int (vs 7 0), .int (vs 8 0)])), ((as_ 1), .inl (eI E, 3, .inl (vs 1))), ((as_ 2), .inl (eI E, 24, .inl (vs 2))), ((as_ 3), .inl (eI E, 6, .inl (vs 3)))]) H := hP
              replace hD : va_D A ([(qo, .inr (3, [.ref qw, .ref d1, .ref d1, .ref ch])), (d0, .inl (eI E, 24, .inl hj0x)), (d1, .inl (eI E, 24, .inl hj1x)), (ch, .inl (eI E, 960, .inl hjhx)), (qw, .inr (8, [.ref (ap 0), .ref (as_ 0)])), ((ap 0), .inr (1, [.int (vp 0 0), .int (vp 1 0), .int (vp 2 0), .ref (ap 3), .ref (ap 4), .int (vp 5 0), .ref (ap 6), .ref (ap 7), .ref (ap 8), .ref (ap 9), .ref (ap 10)])), ((ap 3), .inl (eI E, 24, .inl (vp 3))), ((ap 4), .inl (eI E, 24, .inl (vp 4))), ((ap 6), .inl (eM E, 3, .inr (.inr (.inr (.inr (fun i => some (ap (20 + 10 * i)))))))), ((ap 20), .inr (0, [.int (vp 20 0), .int (vp 21 0), .int (vp 22 0), .ref (ap 23), .ref (ap 24)])), ((ap 23), .inl (eI E, 18, .inl (vp 23))), ((ap 24), .inl (eI E, 24, .inl (vp 24))), ((ap 30), .inr (0, [.int (vp 30 0), .int (vp 31 0), .int (vp 32 0), .ref (ap 33), .ref (ap 34)])), ((ap 33), .inl (eI E, 18, .inl (vp 33))), ((ap 34), .inl (eI E, 24, .inl (vp 34))), ((ap 40), .inr (0, [.int (vp 40 0), .int (vp 41 0), .int (vp 42 0), .ref (ap 43), .ref (ap 44)])), ((ap 43), .inl (eI E, 18, .inl (vp 43))), ((ap 44), .inl (eI E, 24, .inl (vp 44))), ((ap 7), .inr (5, [.int (vp 60 0), .ref (ap 61), .ref (ap 62), .ref (ap 63)])), ((ap 61), .inl (eI E, 6, .inl (vp 61))), ((ap 62), .inl (eI E, 6, .inl (vp 62))), ((ap 63), .inl (eI E, 6, .inl (vp 63))), ((ap 8), .inr (5, [.int (vp 70 0), .ref (ap 71), .ref (ap 72), .ref (ap 73)])), ((ap 71), .inl (eI E, 6, .inl (vp 71))), ((ap 72), .inl (eI E, 6, .inl (vp 72))), ((ap 73), .inl (eI E, 6, .inl (vp 73))), ((ap 9), .inr (5, [.int (vp 80 0), .ref (ap 81), .ref (ap 82), .ref (ap 83)])), ((ap 81), .inl (eI E, 6, .inl (vp 81))), ((ap 82), .inl (eI E, 6, .inl (vp 82))), ((ap 83), .inl (eI E, 6, .inl (vp 83))), ((ap 10), .inr (5, [.int (vp 90 0), .ref (ap 91), .ref (ap 92), .ref (ap 93)])), ((ap 91), .inl (eI E, 6, .inl (vp 91))), ((ap 92), .inl (eI E, 6, .inl (vp 92))), ((ap 93), .inl (eI E, 6, .inl (vp 93))), ((as_ 0), .inr (6, [.int (vs 0 0), .ref (as_ 1), .ref (as_ 2), .ref (as_ 3), .int (vs 4 0), .int (vs 5 0), .int (vs 6 0), .int (vs 7 0), .int (vs 8 0)])), ((as_ 1), .inl (eI E, 3, .inl (vs 1))), ((as_ 2), .inl (eI E, 24, .inl (vs 2))), ((as_ 3), .inl (eI E, 6, .inl (vs 3)))]) := hD
              refine lv_aload_n hx hb dX3_leastPushed_68 rfl (lv_at hl 1 rfl) ?_
              refine lv_aload hx hb dX3_leastPushed_69 (lv_at hl 0 rfl) ?_
              refine va_put (D := eD E) (ci := 3) (v := .ref d0) (ty := (.array .int)) (C := RX3) (T := TX3) (N := 4) hx hb hts in_X3 tyX3 tyX3_ok nmX3 hown hK hP hD hS 0 rfl rfl 2 (by decide) lk5 (fun _ h9 => h9) rfl (by decide +kernel) rfl rfl (Nat.le_of_ble_eq_true rfl) dX3_leastPushed_71 (fun H locs hP hD hS => ?_)
              replace hP : va_P (eD E) vwCl ([(qo, .inr (3, [.ref qw, .ref d1, .ref d0, .ref ch])), (d0, .inl (eI E, 24, .inl hj0x)), (d1, .inl (eI E, 24, .inl hj1x)), (ch, .inl (eI E, 960, .inl hjhx)), (qw, .inr (8, [.ref (ap 0), .ref (as_ 0)])), ((ap 0), .inr (1, [.int (vp 0 0), .int (vp 1 0), .int (vp 2 0), .ref (ap 3), .ref (ap 4), .int (vp 5 0), .ref (ap 6), .ref (ap 7), .ref (ap 8), .ref (ap 9), .ref (ap 10)])), ((ap 3), .inl (eI E, 24, .inl (vp 3))), ((ap 4), .inl (eI E, 24, .inl (vp 4))), ((ap 6), .inl (eM E, 3, .inr (.inr (.inr (.inr (fun i => some (ap (20 + 10 * i)))))))), ((ap 20), .inr (0, [.int (vp 20 0), .int (vp 21 0), .int (vp 22 0), .ref (ap 23), .ref (ap 24)])), ((ap 23), .inl (eI E, 18, .inl (vp 23))), ((ap 24), .inl (eI E, 24, .inl (vp 24))), ((ap 30), .inr (0, [.int (vp 30 0), .int (vp 31 0), .int (vp 32 0), .ref (ap 33), .ref (ap 34)])), ((ap 33), .inl (eI E, 18, .inl (vp 33))), ((ap 34), .inl (eI E, 24, .inl (vp 34))), ((ap 40), .inr (0, [.int (vp 40 0), .int (vp 41 0), .int (vp 42 0), .ref (ap 43), .ref (ap 44)])), ((ap 43), .inl (eI E, 18, .inl (vp 43))), ((ap 44), .inl (eI E, 24, .inl (vp 44))), ((ap 7), .inr (5, [.int (vp 60 0), .ref (ap 61), .ref (ap 62), .ref (ap 63)])), ((ap 61), .inl (eI E, 6, .inl (vp 61))), ((ap 62), .inl (eI E, 6, .inl (vp 62))), ((ap 63), .inl (eI E, 6, .inl (vp 63))), ((ap 8), .inr (5, [.int (vp 70 0), .ref (ap 71), .ref (ap 72), .ref (ap 73)])), ((ap 71), .inl (eI E, 6, .inl (vp 71))), ((ap 72), .inl (eI E, 6, .inl (vp 72))), ((ap 73), .inl (eI E, 6, .inl (vp 73))), ((ap 9), .inr (5, [.int (vp 80 0), .ref (ap 81), .ref (ap 82), .ref (ap 83)])), ((ap 81), .inl (eI E, 6, .inl (vp 81))), ((ap 82), .inl (eI E, 6, .inl (vp 82))), ((ap 83), .inl (eI E, 6, .inl (vp 83))), ((ap 10), .inr (5, [.int (vp 90 0), .ref (ap 91), .ref (ap 92), .ref (ap 93)])), ((ap 91), .inl (eI E, 6, .inl (vp 91))), ((ap 92), .inl (eI E, 6, .inl (vp 92))), ((ap 93), .inl (eI E, 6, .inl (vp 93))), ((as_ 0), .inr (6, [.int (vs 0 0), .ref (as_ 1), .ref (as_ 2), .ref (as_ 3), .int (vs 4 0), .int (vs 5 0), .int (vs 6 0), .int (vs 7 0), .int (vs 8 0)])), ((as_ 1), .inl (eI E, 3, .inl (vs 1))), ((as_ 2), .inl (eI E, 24, .inl (vs 2))), ((as_ 3), .inl (eI E, 6, .inl (vs 3)))]) H := hP
              replace hD : va_D A ([(qo, .inr (3, [.ref qw, .ref d1, .ref d0, .ref ch])), (d0, .inl (eI E, 24, .inl hj0x)), (d1, .inl (eI E, 24, .inl hj1x)), (ch, .inl (eI E, 960, .inl hjhx)), (qw, .inr (8, [.ref (ap 0), .ref (as_ 0)])), ((ap 0), .inr (1, [.int (vp 0 0), .int (vp 1 0), .int (vp 2 0), .ref (ap 3), .ref (ap 4), .int (vp 5 0), .ref (ap 6), .ref (ap 7), .ref (ap 8), .ref (ap 9), .ref (ap 10)])), ((ap 3), .inl (eI E, 24, .inl (vp 3))), ((ap 4), .inl (eI E, 24, .inl (vp 4))), ((ap 6), .inl (eM E, 3, .inr (.inr (.inr (.inr (fun i => some (ap (20 + 10 * i)))))))), ((ap 20), .inr (0, [.int (vp 20 0), .int (vp 21 0), .int (vp 22 0), .ref (ap 23), .ref (ap 24)])), ((ap 23), .inl (eI E, 18, .inl (vp 23))), ((ap 24), .inl (eI E, 24, .inl (vp 24))), ((ap 30), .inr (0, [.int (vp 30 0), .int (vp 31 0), .int (vp 32 0), .ref (ap 33), .ref (ap 34)])), ((ap 33), .inl (eI E, 18, .inl (vp 33))), ((ap 34), .inl (eI E, 24, .inl (vp 34))), ((ap 40), .inr (0, [.int (vp 40 0), .int (vp 41 0), .int (vp 42 0), .ref (ap 43), .ref (ap 44)])), ((ap 43), .inl (eI E, 18, .inl (vp 43))), ((ap 44), .inl (eI E, 24, .inl (vp 44))), ((ap 7), .inr (5, [.int (vp 60 0), .ref (ap 61), .ref (ap 62), .ref (ap 63)])), ((ap 61), .inl (eI E, 6, .inl (vp 61))), ((ap 62), .inl (eI E, 6, .inl (vp 62))), ((ap 63), .inl (eI E, 6, .inl (vp 63))), ((ap 8), .inr (5, [.int (vp 70 0), .ref (ap 71), .ref (ap 72), .ref (ap 73)])), ((ap 71), .inl (eI E, 6, .inl (vp 71))), ((ap 72), .inl (eI E, 6, .inl (vp 72))), ((ap 73), .inl (eI E, 6, .inl (vp 73))), ((ap 9), .inr (5, [.int (vp 80 0), .ref (ap 81), .ref (ap 82), .ref (ap 83)])), ((ap 81), .inl (eI E, 6, .inl (vp 81))), ((ap 82), .inl (eI E, 6, .inl (vp 82))), ((ap 83), .inl (eI E, 6, .inl (vp 83))), ((ap 10), .inr (5, [.int (vp 90 0), .ref (ap 91), .ref (ap 92), .ref (ap 93)])), ((ap 91), .inl (eI E, 6, .inl (vp 91))), ((ap 92), .inl (eI E, 6, .inl (vp 92))), ((ap 93), .inl (eI E, 6, .inl (vp 93))), ((as_ 0), .inr (6, [.int (vs 0 0), .ref (as_ 1), .ref (as_ 2), .ref (as_ 3), .int (vs 4 0), .int (vs 5 0), .int (vs 6 0), .int (vs 7 0), .int (vs 8 0)])), ((as_ 1), .inl (eI E, 3, .inl (vs 1))), ((as_ 2), .inl (eI E, 24, .inl (vs 2))), ((as_ 3), .inl (eI E, 6, .inl (vs 3)))]) := hD
              replace hP : va_P (eD E) vwCl (roL E qo d1 d0 ch hj1x hj0x hjhx qw ap vp as_ vs) H := hP.sub [0, 2, 1, 3, 4, 5, 6, 7, 8, 9, 10, 11, 12, 13, 14, 15, 16, 17, 18, 19, 20, 21, 22, 23, 24, 25, 26, 27, 28, 29, 30, 31, 32, 33, 34, 35, 36, 37] rfl
              replace hD : va_D A (roL E qo d1 d0 ch hj1x hj0x hjhx qw ap vp as_ vs) := hD.sub [0, 2, 1, 3, 4, 5, 6, 7, 8, 9, 10, 11, 12, 13, 14, 15, 16, 17, 18, 19, 20, 21, 22, 23, 24, 25, 26, 27, 28, 29, 30, 31, 32, 33, 34, 35, 36, 37] (by decide) rfl
              refine lv_iconst (v := 0) hx hb dX3_leastPushed_74 (by decide) ?_
              refine lv_istore (lv' := [(7, .int 0), (6, .ref d0), (0, .ref qo), (1, .int x0), (2, .int goal), (3, .int step), (4, .int n), (5, .int i)]) hx hb dX3_leastPushed_75 hl (by decide) rfl (fun ls hl => ?_)
              have K77 : ∀ (μ : Nat) (kk : Int32) (hjb : Nat → Int32) (hjc : Nat → Int32) (H : Heap) (locs : List Loc) (ls : Array Slot), (24 - kk.toInt).toNat < μ → va_P (eD E) vwCl (roL E qo d1 d0 ch hjb hj0x hjc qw ap vp as_ vs) H → va_D A (roL E qo d1 d0 ch hjb hj0x hjc qw ap vp as_ vs) → va_S A s.heap H locs → (0 ≤ kk.toInt ∧ kk.toInt ≤ 24) → lv_has ls 8 [(0, .ref qo), (1, .int x0), (2, .int goal), (3, .int step), (4, .int n), (5, .int i), (6, .ref d0), (7, .int kk)] → W p l e (headSpec wsX3_leastPushed rm_X3_leastPushed).room s m ([.ref qo, .int x0, .int goal, .int step, .int n] : List Value).toArray below meth c H locs 0 0 Q (F0 m 77 ls []) := by
                intro μ
                induction μ with
                | zero =>
                  intro kk hjb hjc H locs ls hμ77
                  exact absurd hμ77 (Nat.not_lt_zero _)
                | succ μ ih77 =>
                  intro kk hjb hjc H locs ls hμ77 hP hD hS h77_0 hl
                  refine lv_iload hx hb dX3_leastPushed_77 (lv_at hl 7 rfl) ?_
                  refine lv_aload_n hx hb dX3_leastPushed_79 rfl (lv_at hl 0 rfl) ?_
                  refine va_get (D := eD E) (ci := 3) (v := .ref qw) (C := RX3) (T := TX3) (N := 4) hx hb hts in_X3 hown hK hP 0 rfl rfl 0 (by decide) lk0 (fun _ h9 => h9) rfl dX3_leastPushed_80 ?_
                  refine va_get (D := eD E) (ci := 8) (v := .ref (ap 0)) (C := RX8) (T := TX8) (N := 2) hx hb hts in_X8 hown hK hP 4 rfl rfl 0 (by decide) lk1 (fun _ h9 => h9) rfl dX3_leastPushed_83 ?_
                  refine va_get (D := eD E) (ci := 1) (v := .int (vp 2 0)) (C := RX1) (T := TX1) (N := 11) hx hb hts in_X1 hown hK hP 5 rfl rfl 2 (by decide) lk2 (fun _ h9 => h9) rfl dX3_leastPushed_86 ?_
                  refine lv_icmp_ge (tgt := 113) hx hb dX3_leastPushed_89 (by decide) (fun c89 => ?_) (fun c89 => ?_)
                  · have c89_ := i_le c89
                    obtain ⟨x113, e113⟩ : ∃ y : Int32, y = i + (-1) := ⟨_, rfl⟩
                    refine lv_iinc (v := x113) (lv' := [(5, .int x113), (0, .ref qo), (1, .int x0), (2, .int goal), (3, .int step), (4, .int n), (6, .ref d0), (7, .int kk)]) hx hb dX3_leastPushed_113 hl (k := 5) rfl (by rw [e113]; rfl) (by decide) rfl (fun ls hl => ?_)
                    have t113 := i_add e113 (by omega)
                    refine lv_goto (tgt := 49) hx hb dX3_leastPushed_116 (by decide) ?_
                    exact ih49 x113 d1 d0 hjb hj0x hjc _ _ ls (by omega) hP hD hS (by omega) (lv_sub hl [1, 2, 3, 4, 5, 0] rfl)
                  · have c89_ := i_nle c89
                    refine lv_aload_n hx hb dX3_leastPushed_92 rfl (lv_at hl 0 rfl) ?_
                    refine lv_iload hx hb dX3_leastPushed_93 (lv_at hl 7 rfl) ?_
                    refine lv_iload_n hx hb dX3_leastPushed_95 rfl (lv_at hl 2 rfl) ?_
                    refine lv_iload hx hb dX3_leastPushed_96 (lv_at hl 5 rfl) ?_
                    refine lv_iload_n hx hb dX3_leastPushed_98 rfl (lv_at hl 3 rfl) ?_
                    refine lv_iload hx hb dX3_leastPushed_99 (lv_at hl 5 rfl) ?_
                    refine lv_iadd hx hb dX3_leastPushed_101 ?_
                    refine lv_topi (fun x101 e101 => ?_)
                    have t101 := i_add e101 (by omega)
                    refine lv_iconst (v := 1) hx hb dX3_leastPushed_102 (by decide) ?_
                    refine lv_iadd hx hb dX3_leastPushed_103 ?_
                    refine lv_topi (fun x103 e103 => ?_)
                    have t103 := i_add e103 (by omega)
                    refine mt_Vv (w1 := fun (u : (Nat → Int32) × (Nat → Int32)) => roL E qo d1 d0 ch u.1 hj0x u.2 qw ap vp as_ vs) (wf := fun (u : (Nat → Int32) × (Nat → Int32)) => roL E qo d1 d0 ch u.1 hj0x u.2 qw ap vp as_ vs) (wr := []) (As := [.int kk, .int goal, .int i, .int x103]) (rest := []) (C := RX3) (ci := 3) ⟨hx, hb, hml, hown, hts⟩ (c_X3_choose l E H.size qo d1 d0 ch hjb hj0x hjc qw ap vp as_ vs kk goal i x103 hI hJ (by omega) (by omega) (by omega)) (cwV 4 hts gX3_leastPushed_X3_choose rfl rfl rfl (by decide +kernel) ⟨Nat.le_of_ble_eq_true rfl, Nat.le_of_ble_eq_true rfl⟩) hE hS hA hP hD [0, 1, 2, 3, 4, 5, 6, 7, 8, 9, 10, 11, 12, 13, 14, 15, 16, 17, 18, 19, 20, 21, 22, 23, 24, 25, 26, 27, 28, 29, 30, 31, 32, 33, 34, 35, 36, 37] [] rfl rfl (by decide) (by decide) (by decide) [0, 1, 2, 3, 4, 5, 6, 7, 8, 9, 10, 11, 12, 13, 14, 15, 16, 17, 18, 19, 20, 21, 22, 23, 24, 25, 26, 27, 28, 29, 30, 31, 32, 33, 34, 35, 36, 37] (by decide) (fun u => rfl) rfl rfl rfl rfl hl.1 rfl (Nat.le_of_ble_eq_true rfl) dX3_leastPushed_104 ⟨Nat.zero_le _, Nat.zero_le _⟩ (fun u104 H locs h104 hP hD hS => ?_)
                    obtain ⟨o104_g0, o104_gh⟩ := u104
                    try dsimp only at h104
                    replace hP : va_P (eD E) vwCl (roL E qo d1 d0 ch o104_g0 hj0x o104_gh qw ap vp as_ vs) H := hP
                    replace hD : va_D A (roL E qo d1 d0 ch o104_g0 hj0x o104_gh qw ap vp as_ vs) := hD
                    obtain ⟨x107, e107⟩ : ∃ y : Int32, y = kk + 1 := ⟨_, rfl⟩
                    refine lv_iinc (v := x107) (lv' := [(7, .int x107), (0, .ref qo), (1, .int x0), (2, .int goal), (3, .int step), (4, .int n), (5, .int i), (6, .ref d0)]) hx hb dX3_leastPushed_107 hl (k := 7) rfl (by rw [e107]; rfl) (by decide) rfl (fun ls hl => ?_)
                    have t107 := i_add e107 (by omega)
                    refine lv_goto (tgt := 77) hx hb dX3_leastPushed_110 (by decide) ?_
                    exact ih77 x107 o104_g0 o104_gh _ _ ls (by omega) hP hD hS (by omega) (lv_sub hl [1, 2, 3, 4, 5, 6, 7, 0] rfl)
              exact K77 _ 0 hj1x hjhx _ _ ls (Nat.lt_succ_self _) hP hD hS (by omega) (lv_sub hl [2, 3, 4, 5, 6, 7, 1, 0] rfl)
        exact K49 _ x46 c0 c1 ga g1 gh _ _ ls (Nat.lt_succ_self _) hP hD hS (by omega) (lv_sub hl [1, 2, 3, 4, 5, 0] rfl)
      · have c15_ := i_nle c15
        refine lv_aload_n hx hb dX3_leastPushed_18 rfl (lv_at hl 0 rfl) ?_
        refine va_get (D := eD E) (ci := 3) (v := .ref c0) (C := RX3) (T := TX3) (N := 4) hx hb hts in_X3 hown hK hP 0 rfl rfl 1 (by decide) lk3 (fun _ h9 => h9) rfl dX3_leastPushed_19 ?_
        refine lv_iload hx hb dX3_leastPushed_22 (lv_at hl 5 rfl) ?_
        refine lv_iload hx hb dX3_leastPushed_24 (lv_at hl 5 rfl) ?_
        refine lv_iload_n hx hb dX3_leastPushed_26 rfl (lv_at hl 2 rfl) ?_
        have K36 : ∀  (cv : Int32) (H : Heap) (locs : List Loc) (ls : Array Slot), va_P (eD E) vwCl (roL E qo c0 c1 ch ga g1 gh qw ap vp as_ vs) H → va_D A (roL E qo c0 c1 ch ga g1 gh qw ap vp as_ vs) → va_S A s.heap H locs → lv_has ls 8 [(0, .ref qo), (1, .int x0), (2, .int goal), (3, .int step), (4, .int n), (5, .int k)] → W p l e (headSpec wsX3_leastPushed rm_X3_leastPushed).room s m ([.ref qo, .int x0, .int goal, .int step, .int n] : List Value).toArray below meth c H locs 0 0 Q (F0 m 36 ls [.int cv, .int k, .ref c0]) := by
          intro cv H locs ls hP hD hS hl
          refine va_iast hx hb hK hP hD hS 1 0 rfl rfl (n := 24) (f := ga) (i_in (by omega) (by omega)) dX3_leastPushed_36 (fun H locs hP hD hS => ?_)
          replace hP : va_P (eD E) vwCl (roL E qo c0 c1 ch (upd ga k.toNatClampNeg cv) g1 gh qw ap vp as_ vs) H := hP
          replace hD : va_D A (roL E qo c0 c1 ch (upd ga k.toNatClampNeg cv) g1 gh qw ap vp as_ vs) := hD
          generalize hv36 : upd ga k.toNatClampNeg cv = g0_36 at hP hD
          obtain ⟨x37, e37⟩ : ∃ y : Int32, y = k + 1 := ⟨_, rfl⟩
          refine lv_iinc (v := x37) (lv' := [(5, .int x37), (0, .ref qo), (1, .int x0), (2, .int goal), (3, .int step), (4, .int n)]) hx hb dX3_leastPushed_37 hl (k := 5) rfl (by rw [e37]; rfl) (by decide) rfl (fun ls hl => ?_)
          have t37 := i_add e37 (by omega)
          refine lv_goto (tgt := 3) hx hb dX3_leastPushed_40 (by decide) ?_
          exact ih3 x37 g0_36 _ _ ls (by omega) hP hD hS (by omega) (lv_sub hl [1, 2, 3, 4, 5, 0] rfl)
        refine lv_icmp_ne (tgt := 34) hx hb dX3_leastPushed_27 (by decide) (fun c27 => ?_) (fun c27 => ?_)
        · have c27_ := i_ne c27
          refine lv_ldc hx hb hown lk4 dX3_leastPushed_34 ?_
          exact K36 1000000000 _ _ ls hP hD hS (lv_sub hl [0, 1, 2, 3, 4, 5] rfl)
        · have c27_ := i_eq c27
          refine lv_iconst (v := 0) hx hb dX3_leastPushed_30 (by decide) ?_
          refine lv_goto (tgt := 36) hx hb dX3_leastPushed_31 (by decide) ?_
          exact K36 0 _ _ ls hP hD hS (lv_sub hl [0, 1, 2, 3, 4, 5] rfl)
  exact K3 _ 0 g0 _ _ ls (Nat.lt_succ_self _) hP hD hS (by omega) (lv_sub hl [1, 2, 3, 4, 5, 0] rfl)
def rm_X7_insert : Room := { frames := 0, cells := 0, slots := 0, locals := 0 }
set_option maxHeartbeats 4000000 in
set_option maxRecDepth 100000 in
theorem c_X7_insert (l : Launch) (E : Ev) (sz : Nat) (qe : Nat) (e1 : Nat) (e2 : Nat) (ab : Int32) (be : Int32) (g1 : Nat → Int32) (g2 : Nat → Int32) (qw : Nat) (fl : Int32) (n : Int32) (hn : 0 ≤ n.toInt ∧ n.toInt ≤ 4) : Met l yX7_insert wsX7_insert rm_X7_insert (MtP E sz [.ref qe, .int fl, .int n] (wlL E qe e1 e2 ab be g1 g2 qw)) (va_Qv (fun (u : (Nat → Int32)) => True) (MtB E (va_A (wlL E qe e1 e2 ab be g1 g2 qw) sz) (fun u => wlL E qe e1 e2 ab be g1 u qw)) (va_A (wlL E qe e1 e2 ab be g1 g2 qw) sz)) 0 0 (va_A (wlL E qe e1 e2 ab be g1 g2 qw) sz) := by
  refine Met.ofW (cc := cX7_insert) (maxL := 4) (ret := none) (by decide) rfl ?_
  intro p e s m args below meth c s₁ B hml hv
  obtain ⟨rfl, hsz, hE, hP, hD0⟩ := hv
  subst hsz
  have hD := hD0.self (sz := s.heap.size)
  generalize hAe : va_A (wlL E qe e1 e2 ab be g1 g2 qw) s.heap.size = A at hD hE ⊢
  have hA : ∀ q : Nat, s.heap.size ≤ q → A q := fun q h => by rw [← hAe]; exact Or.inr h
  have hS : va_S A s.heap s.heap [] := va_S.rf
  have hx := B.exec
  have hb := B.bytes
  have hr := B.returns
  have hts := atoms_spec (ws := wsX7_insert) B.pre
  have hown : s.vm.findClass RX7 = some m.cls := findClass_of_methodNamed B.named
  have hlocks := B.notSynchronized
  have hK := hE.1
  have in_X7 : ∀ w ∈ u_ws RX7 TX7 5, w ∈ wsX7_insert := fun w h => List.mem_cons_of_mem _ (List.mem_append_right _ h)
  have lk0 := hts (.fieldLink RX7 15 "TidedGround$Wells" "sorted" "[I") (List.mem_of_getElem? (i := 1) rfl)
  have n_m1 : ((-1) : Int32).toInt = -1 := by decide
  have n_0 : (0 : Int32).toInt = 0 := by decide
  have n_1 : (1 : Int32).toInt = 1 := by decide
  have hl := lv_entry ([.ref qe, .int fl, .int n]) (n := 4) (Nat.le_of_ble_eq_true rfl)
  rw [lg_entry_eq]
  generalize (lg_sl ([.ref qe, .int fl, .int n]) ++ List.replicate (4 - (lg_sl ([.ref qe, .int fl, .int n])).length) Slot.unset).toArray = ls at hl ⊢
  have hl : lv_has ls 4 [(0, .ref qe), (1, .int fl), (2, .int n)] := hl
  refine W_abs (fun Q hQ => ?_)
  refine lv_iload_n hx hb dX7_insert_0 rfl (lv_at hl 2 rfl) ?_
  refine lv_istore_n (lv' := [(3, .int n), (0, .ref qe), (1, .int fl), (2, .int n)]) hx hb dX7_insert_1 rfl hl (by decide) rfl (fun ls hl => ?_)
  have K2 : ∀ (μ : Nat) (i : Int32) (gg : Nat → Int32) (H : Heap) (locs : List Loc) (ls : Array Slot), i.toInt.toNat < μ → va_P (eD E) vwCl (wlL E qe e1 e2 ab be g1 gg qw) H → va_D A (wlL E qe e1 e2 ab be g1 gg qw) → va_S A s.heap H locs → (0 ≤ i.toInt ∧ i.toInt ≤ 4) → lv_has ls 4 [(0, .ref qe), (1, .int fl), (2, .int n), (3, .int i)] → W p l e (headSpec wsX7_insert rm_X7_insert).room s m ([.ref qe, .int fl, .int n] : List Value).toArray below meth c H locs 0 0 Q (F0 m 2 ls []) := by
    intro μ
    induction μ with
    | zero =>
      intro i gg H locs ls hμ2
      exact absurd hμ2 (Nat.not_lt_zero _)
    | succ μ ih2 =>
      intro i gg H locs ls hμ2 hP hD hS h2_0 hl
      refine lv_iload_n hx hb dX7_insert_2 rfl (lv_at hl 3 rfl) ?_
      refine lv_if_le (tgt := 38) hx hb dX7_insert_3 (by decide) (fun c3 => ?_) (fun c3 => ?_)
      · have c3_ := i_le c3
        refine lv_aload_n hx hb dX7_insert_38 rfl (lv_at hl 0 rfl) ?_
        refine va_get (D := eD E) (ci := 7) (v := .ref e2) (C := RX7) (T := TX7) (N := 5) hx hb hts in_X7 hown hK hP 0 rfl rfl 2 (by decide) lk0 (fun _ h9 => h9) rfl dX7_insert_39 ?_
        refine lv_iload_n hx hb dX7_insert_42 rfl (lv_at hl 3 rfl) ?_
        refine lv_iload_n hx hb dX7_insert_43 rfl (lv_at hl 1 rfl) ?_
        refine va_iast hx hb hK hP hD hS 2 0 rfl rfl (n := 5) (f := gg) (i_in (by omega) (by omega)) dX7_insert_44 (fun H locs hP hD hS => ?_)
        replace hP : va_P (eD E) vwCl (wlL E qe e1 e2 ab be g1 (upd gg i.toNatClampNeg fl) qw) H := hP
        replace hD : va_D A (wlL E qe e1 e2 ab be g1 (upd gg i.toNatClampNeg fl) qw) := hD
        generalize hv44 : upd gg i.toNatClampNeg fl = g2_44 at hP hD
        subst hQ
        exact W.vret hx hb hr (fun t ht hW => ⟨⟨(g2_44), rfl, trivial, by rw [ht]; exact hP, hD⟩, hS.F ht⟩) hS.2.2 dX7_insert_45
      · have c3_ := i_nle c3
        refine lv_aload_n hx hb dX7_insert_6 rfl (lv_at hl 0 rfl) ?_
        refine va_get (D := eD E) (ci := 7) (v := .ref e2) (C := RX7) (T := TX7) (N := 5) hx hb hts in_X7 hown hK hP 0 rfl rfl 2 (by decide) lk0 (fun _ h9 => h9) rfl dX7_insert_7 ?_
        refine lv_iload_n hx hb dX7_insert_10 rfl (lv_at hl 3 rfl) ?_
        refine lv_iconst (v := 1) hx hb dX7_insert_11 (by decide) ?_
        refine lv_isub hx hb dX7_insert_12 ?_
        refine lv_topi (fun x12 e12 => ?_)
        have t12 := i_sub e12 (by omega)
        refine va_iald hx hb hK hP 2 0 rfl rfl (n := 5) (f := gg) (i_in (by omega) (by omega)) dX7_insert_13 ?_
        refine lv_topi (fun x13 e13 => ?_)
        refine lv_iload_n hx hb dX7_insert_14 rfl (lv_at hl 1 rfl) ?_
        refine lv_icmp_le (tgt := 38) hx hb dX7_insert_15 (by decide) (fun c15 => ?_) (fun c15 => ?_)
        · have c15_ := i_le c15
          refine lv_aload_n hx hb dX7_insert_38 rfl (lv_at hl 0 rfl) ?_
          refine va_get (D := eD E) (ci := 7) (v := .ref e2) (C := RX7) (T := TX7) (N := 5) hx hb hts in_X7 hown hK hP 0 rfl rfl 2 (by decide) lk0 (fun _ h9 => h9) rfl dX7_insert_39 ?_
          refine lv_iload_n hx hb dX7_insert_42 rfl (lv_at hl 3 rfl) ?_
          refine lv_iload_n hx hb dX7_insert_43 rfl (lv_at hl 1 rfl) ?_
          refine va_iast hx hb hK hP hD hS 2 0 rfl rfl (n := 5) (f := gg) (i_in (by omega) (by omega)) dX7_insert_44 (fun H locs hP hD hS => ?_)
          replace hP : va_P (eD E) vwCl (wlL E qe e1 e2 ab be g1 (upd gg i.toNatClampNeg fl) qw) H := hP
          replace hD : va_D A (wlL E qe e1 e2 ab be g1 (upd gg i.toNatClampNeg fl) qw) := hD
          generalize hv44 : upd gg i.toNatClampNeg fl = g2_44 at hP hD
          subst hQ
          exact W.vret hx hb hr (fun t ht hW => ⟨⟨(g2_44), rfl, trivial, by rw [ht]; exact hP, hD⟩, hS.F ht⟩) hS.2.2 dX7_insert_45
        · have c15_ := i_nle c15
          refine lv_aload_n hx hb dX7_insert_18 rfl (lv_at hl 0 rfl) ?_
          refine va_get (D := eD E) (ci := 7) (v := .ref e2) (C := RX7) (T := TX7) (N := 5) hx hb hts in_X7 hown hK hP 0 rfl rfl 2 (by decide) lk0 (fun _ h9 => h9) rfl dX7_insert_19 ?_
          refine lv_iload_n hx hb dX7_insert_22 rfl (lv_at hl 3 rfl) ?_
          refine lv_aload_n hx hb dX7_insert_23 rfl (lv_at hl 0 rfl) ?_
          refine va_get (D := eD E) (ci := 7) (v := .ref e2) (C := RX7) (T := TX7) (N := 5) hx hb hts in_X7 hown hK hP 0 rfl rfl 2 (by decide) lk0 (fun _ h9 => h9) rfl dX7_insert_24 ?_
          refine lv_iload_n hx hb dX7_insert_27 rfl (lv_at hl 3 rfl) ?_
          refine lv_iconst (v := 1) hx hb dX7_insert_28 (by decide) ?_
          refine lv_isub hx hb dX7_insert_29 ?_
          refine lv_topi (fun x29 e29 => ?_)
          have t29 := i_sub e29 (by omega)
          refine va_iald hx hb hK hP 2 0 rfl rfl (n := 5) (f := gg) (i_in (by omega) (by omega)) dX7_insert_30 ?_
          refine lv_topi (fun x30 e30 => ?_)
          refine va_iast hx hb hK hP hD hS 2 0 rfl rfl (n := 5) (f := gg) (i_in (by omega) (by omega)) dX7_insert_31 (fun H locs hP hD hS => ?_)
          replace hP : va_P (eD E) vwCl (wlL E qe e1 e2 ab be g1 (upd gg i.toNatClampNeg x30) qw) H := hP
          replace hD : va_D A (wlL E qe e1 e2 ab be g1 (upd gg i.toNatClampNeg x30) qw) := hD
          generalize hv31 : upd gg i.toNatClampNeg x30 = g2_31 at hP hD
          obtain ⟨x32, e32⟩ : ∃ y : Int32, y = i + (-1) := ⟨_, rfl⟩
          refine lv_iinc (v := x32) (lv' := [(3, .int x32), (0, .ref qe), (1, .int fl), (2, .int n)]) hx hb dX7_insert_32 hl (k := 3) rfl (by rw [e32]; rfl) (by decide) rfl (fun ls hl => ?_)
          have t32 := i_add e32 (by omega)
          refine lv_goto (tgt := 2) hx hb dX7_insert_35 (by decide) ?_
          exact ih2 x32 g2_31 _ _ ls (by omega) hP hD hS (by omega) (lv_sub hl [1, 2, 3, 0] rfl)
  exact K2 _ n g2 _ _ ls (Nat.lt_succ_self _) hP hD hS (by omega) (lv_sub hl [1, 2, 3, 0] rfl)
def rm_X7_reduce : Room := { frames := 2, cells := 0, slots := 0, locals := 46 }
set_option maxHeartbeats 4000000 in
set_option maxRecDepth 100000 in
theorem c_X7_reduce (l : Launch) (E : Ev) (sz : Nat) (qe : Nat) (e1 : Nat) (e2 : Nat) (ab : Int32) (be : Int32) (g1 : Nat → Int32) (g2 : Nat → Int32) (qw : Nat) (sum : Int32) (n : Int32) : Met l yX7_reduce wsX7_reduce rm_X7_reduce (MtP E sz [.ref qe, .int sum, .int n] (wlL E qe e1 e2 ab be g1 g2 qw)) (va_Qv (fun (u : Int32 × Int32) => True) (MtB E (va_A (wlL E qe e1 e2 ab be g1 g2 qw) sz) (fun u => wlL E qe e1 e2 u.1 u.2 g1 g2 qw)) (va_A (wlL E qe e1 e2 ab be g1 g2 qw) sz)) 0 0 (va_A (wlL E qe e1 e2 ab be g1 g2 qw) sz) := by
  refine Met.ofW (cc := cX7_reduce) (maxL := 4) (ret := none) (by decide) rfl ?_
  intro p e s m args below meth c s₁ B hml hv
  obtain ⟨rfl, hsz, hE, hP, hD0⟩ := hv
  subst hsz
  have hD := hD0.self (sz := s.heap.size)
  generalize hAe : va_A (wlL E qe e1 e2 ab be g1 g2 qw) s.heap.size = A at hD hE ⊢
  have hA : ∀ q : Nat, s.heap.size ≤ q → A q := fun q h => by rw [← hAe]; exact Or.inr h
  have hS : va_S A s.heap s.heap [] := va_S.rf
  have hx := B.exec
  have hb := B.bytes
  have hr := B.returns
  have hts := atoms_spec (ws := wsX7_reduce) B.pre
  have hown : s.vm.findClass RX7 = some m.cls := findClass_of_methodNamed B.named
  have hlocks := B.notSynchronized
  have hK := hE.1
  have in_X7 : ∀ w ∈ u_ws RX7 TX7 5, w ∈ wsX7_reduce := fun w h => List.mem_cons_of_mem _ (List.mem_append_right _ h)
  have lk0 := hts (.static yX9_greatestDivisor) (List.mem_of_getElem? (i := 7) rfl)
  have lk1 := hts (.initialized RX9) (List.mem_of_getElem? (i := 8) rfl)
  have lk2 := hts (.methodLink RX7 64 Lib.Math.max.name) (List.mem_of_getElem? (i := 1) rfl)
  have lk3 := hts (.static Lib.Math.max.name) (List.mem_of_getElem? (i := 2) rfl)
  have lk4 := hts (.initialized "java/lang/Math") (List.mem_of_getElem? (i := 3) rfl)
  have lk5 := hts (.code Lib.Math.max.name Lib.Math.max.code 2 (some .int)) (List.mem_of_getElem? (i := 4) rfl)
  have lk6 := hts (.fieldLink RX7 69 "TidedGround$Wells" "above" "I") (List.mem_of_getElem? (i := 5) rfl)
  have lk7 := hts (.fieldLink RX7 22 "TidedGround$Wells" "below" "I") (List.mem_of_getElem? (i := 6) rfl)
  have n_1 : (1 : Int32).toInt = 1 := by decide
  have hl := lv_entry ([.ref qe, .int sum, .int n]) (n := 4) (Nat.le_of_ble_eq_true rfl)
  rw [lg_entry_eq]
  generalize (lg_sl ([.ref qe, .int sum, .int n]) ++ List.replicate (4 - (lg_sl ([.ref qe, .int sum, .int n])).length) Slot.unset).toArray = ls at hl ⊢
  have hl : lv_has ls 4 [(0, .ref qe), (1, .int sum), (2, .int n)] := hl
  refine W_abs (fun Q hQ => ?_)
  refine lv_iconst (v := 1) hx hb dX7_reduce_0 (by decide) ?_
  refine lv_iload_n hx hb dX7_reduce_1 rfl (lv_at hl 1 rfl) ?_
  refine lv_iload_n hx hb dX7_reduce_2 rfl (lv_at hl 2 rfl) ?_
  refine rd_SN (As := [.int sum, .int n]) (rest := [.int 1]) ⟨hx, hb, hml, hown, hts⟩ (c_X9_greatestDivisor l E A sum n) ⟨va_cnB 2 hts gX7_reduce_X9_greatestDivisor_n60 rfl rfl rfl (hE.2.2.2.2.2.2.2 _ (List.mem_of_getElem? (i := 6) rfl)) lk1 (by decide +kernel) ⟨Nat.le_of_ble_eq_true rfl, Nat.le_of_ble_eq_true rfl⟩, lk0, trivial⟩ (hE.kept hS.2.1) (hP.sub (ws' := []) [] rfl) rfl hl.1 rfl (Nat.le_of_ble_eq_true rfl) dX7_reduce_3 ⟨Nat.zero_le _, Nat.zero_le _⟩ (fun r3 h3 => ?_)
  have hf3 := h3.2
  replace h3 := h3.1
  refine va_mmax hx hb (hml.trans hl.1.symm) hown lk2 lk3 lk4 lk5 (Nat.le_of_ble_eq_true rfl) (Nat.le_of_ble_eq_true rfl) (Nat.zero_le _) (Nat.zero_le _) dX7_reduce_6 ?_
  refine lv_topi (fun x6 e6 => ?_)
  have t6 := i_max e6
  have rg6 := i_rng x6
  refine lv_istore_n (lv' := [(3, .int x6), (0, .ref qe), (1, .int sum), (2, .int n)]) hx hb dX7_reduce_9 rfl hl (by decide) rfl (fun ls hl => ?_)
  have sv10_x6 : 1 ≤ x6.toInt ∧ x6.toInt ≤ 2147483647 := by omega
  refine lv_aload_n hx hb dX7_reduce_10 rfl (lv_at hl 1 rfl) ?_
  refine lv_iload_n hx hb dX7_reduce_11 rfl (lv_at hl 2 rfl) ?_
  refine lv_iload_n hx hb dX7_reduce_12 rfl (lv_at hl 0 rfl) ?_
  refine lv_idiv hx hb dX7_reduce_13 (i_ne0 (by omega)) ?_
  refine lv_topi (fun x13 e13 => ?_)
  refine va_put (D := eD E) (ci := 7) (v := .int x13) (ty := .int) (C := RX7) (T := TX7) (N := 5) hx hb hts in_X7 tyX7 tyX7_ok nmX7 hown hK hP hD hS 0 rfl rfl 3 (by decide) lk6 (fun _ h9 => h9) rfl (by decide +kernel) rfl rfl (Nat.le_of_ble_eq_true rfl) dX7_reduce_14 (fun H locs hP hD hS => ?_)
  replace hP : va_P (eD E) vwCl (wlL E qe e1 e2 x13 be g1 g2 qw) H := hP
  replace hD : va_D A (wlL E qe e1 e2 x13 be g1 g2 qw) := hD
  refine lv_aload_n hx hb dX7_reduce_17 rfl (lv_at hl 1 rfl) ?_
  refine lv_iload_n hx hb dX7_reduce_18 rfl (lv_at hl 3 rfl) ?_
  refine lv_iload_n hx hb dX7_reduce_19 rfl (lv_at hl 0 rfl) ?_
  refine lv_idiv hx hb dX7_reduce_20 (i_ne0 (by omega)) ?_
  refine lv_topi (fun x20 e20 => ?_)
  refine va_put (D := eD E) (ci := 7) (v := .int x20) (ty := .int) (C := RX7) (T := TX7) (N := 5) hx hb hts in_X7 tyX7 tyX7_ok nmX7 hown hK hP hD hS 0 rfl rfl 4 (by decide) lk7 (fun _ h9 => h9) rfl (by decide +kernel) rfl rfl (Nat.le_of_ble_eq_true rfl) dX7_reduce_21 (fun H locs hP hD hS => ?_)
  replace hP : va_P (eD E) vwCl (wlL E qe e1 e2 x13 x20 g1 g2 qw) H := hP
  replace hD : va_D A (wlL E qe e1 e2 x13 x20 g1 g2 qw) := hD
  subst hQ
  exact W.vret hx hb hr (fun t ht hW => ⟨⟨(x13, x20), rfl, trivial, by rw [ht]; exact hP, hD⟩, hS.F ht⟩) hS.2.2 dX7_reduce_24
def rm_X7_settle : Room := { frames := 3, cells := 0, slots := 0, locals := 71 }
set_option maxHeartbeats 4000000 in
set_option maxRecDepth 100000 in
theorem c_X7_settle (l : Launch) (E : Ev) (sz : Nat) (qe : Nat) (e1 : Nat) (e2 : Nat) (ab : Int32) (be : Int32) (g1 : Nat → Int32) (g2 : Nat → Int32) (qw : Nat) (ap : Nat → Nat) (vp : Vf) (as_ : Nat → Nat) (vs : Vf) (n : Int32) (step : Int32) (hI : PlanI vp) (hJ : StateI vs) (hstep : 0 ≤ step.toInt ∧ step.toInt ≤ 2000000) : Met l yX7_settle wsX7_settle rm_X7_settle (MtP E sz [.ref qe, .int n, .int step] (weL E qe e1 e2 ab be g1 g2 qw ap vp as_ vs)) (va_Qv (fun (u : (Nat → Int32) × (Nat → Int32) × Int32 × Int32) => True) (MtB E (va_A (weL E qe e1 e2 ab be g1 g2 qw ap vp as_ vs) sz) (fun u => weL E qe e1 e2 u.2.2.1 u.2.2.2 u.1 u.2.1 qw ap vp as_ vs)) (va_A (weL E qe e1 e2 ab be g1 g2 qw ap vp as_ vs) sz)) 0 0 (va_A (weL E qe e1 e2 ab be g1 g2 qw ap vp as_ vs) sz) := by
  refine Met.ofW (cc := cX7_settle) (maxL := 6) (ret := none) (by decide) rfl ?_
  intro p e s m args below meth c s₁ B hml hv
  obtain ⟨rfl, hsz, hE, hP, hD0⟩ := hv
  subst hsz
  have hD := hD0.self (sz := s.heap.size)
  generalize hAe : va_A (weL E qe e1 e2 ab be g1 g2 qw ap vp as_ vs) s.heap.size = A at hD hE ⊢
  have hA : ∀ q : Nat, s.heap.size ≤ q → A q := fun q h => by rw [← hAe]; exact Or.inr h
  have hS : va_S A s.heap s.heap [] := va_S.rf
  have hx := B.exec
  have hb := B.bytes
  have hr := B.returns
  have hts := atoms_spec (ws := wsX7_settle) B.pre
  have hown : s.vm.findClass RX7 = some m.cls := findClass_of_methodNamed B.named
  have hlocks := B.notSynchronized
  have hK := hE.1
  have in_X7 : ∀ w ∈ u_ws RX7 TX7 5, w ∈ wsX7_settle := fun w h => List.mem_cons_of_mem _ (List.mem_append_left _ (List.mem_append_left _ (List.mem_append_left _ (List.mem_append_left _ (List.mem_append_left _ (List.mem_append_right _ h))))))
  have in_X8 : ∀ w ∈ u_ws RX8 TX8 2, w ∈ wsX7_settle := fun w h => List.mem_cons_of_mem _ (List.mem_append_left _ (List.mem_append_left _ (List.mem_append_left _ (List.mem_append_left _ (List.mem_append_right _ h)))))
  have in_X1 : ∀ w ∈ u_ws RX1 TX1 11, w ∈ wsX7_settle := fun w h => List.mem_cons_of_mem _ (List.mem_append_left _ (List.mem_append_left _ (List.mem_append_left _ (List.mem_append_right _ h))))
  have in_X5 : ∀ w ∈ u_ws RX5 TX5 4, w ∈ wsX7_settle := fun w h => List.mem_cons_of_mem _ (List.mem_append_left _ (List.mem_append_left _ (List.mem_append_right _ h)))
  have lk0 := hts (.fieldLink RX7 18 "TidedGround$Wells" "world" "LTidedGround$World;") (List.mem_of_getElem? (i := 1) rfl)
  have lk1 := hts (.fieldLink RX7 26 "TidedGround$World" "plan" "LTidedGround$Plan;") (List.mem_of_getElem? (i := 2) rfl)
  have lk2 := hts (.fieldLink RX7 32 "TidedGround$Plan" "wells" "LTidedGround$Sites;") (List.mem_of_getElem? (i := 3) rfl)
  have lk3 := hts (.fieldLink RX7 38 "TidedGround$Sites" "count" "I") (List.mem_of_getElem? (i := 4) rfl)
  have lk4 := hts (.fieldLink RX7 15 "TidedGround$Wells" "sorted" "[I") (List.mem_of_getElem? (i := 8) rfl)
  have lk5 := hts (.fieldLink RX7 9 "TidedGround$Wells" "floors" "[I") (List.mem_of_getElem? (i := 5) rfl)
  have lk6 := hts (.fieldLink RX7 43 "TidedGround$Sites" "cell" "[I") (List.mem_of_getElem? (i := 6) rfl)
  have lk7 := hts (.fieldLink RX7 50 "TidedGround$Sites" "first" "[I") (List.mem_of_getElem? (i := 7) rfl)
  have n_m1 : ((-1) : Int32).toInt = -1 := by decide
  have n_0 : (0 : Int32).toInt = 0 := by decide
  have n_1 : (1 : Int32).toInt = 1 := by decide
  have hl := lv_entry ([.ref qe, .int n, .int step]) (n := 6) (Nat.le_of_ble_eq_true rfl)
  rw [lg_entry_eq]
  generalize (lg_sl ([.ref qe, .int n, .int step]) ++ List.replicate (6 - (lg_sl ([.ref qe, .int n, .int step])).length) Slot.unset).toArray = ls at hl ⊢
  have hl : lv_has ls 6 [(0, .ref qe), (1, .int n), (2, .int step)] := hl
  refine W_abs (fun Q hQ => ?_)
  obtain ⟨hg, hmc, hm0, hm1, hm2, hs0, hs1, hs2, hs3⟩ := id hI
  obtain ⟨hg1, hg2, hg3, hg4⟩ := id hg
  have hz0 := hm0.1
  have hz1 := hm1.1
  have hz2 := hm2.1
  have hc0 := hs0.1
  have hc1 := hs1.1
  have hc2 := hs2.1
  have hc3 := hs3.1
  obtain ⟨hj0, hj1, hj2⟩ := id hJ
  refine lv_aload_n hx hb dX7_settle_0 rfl (lv_at hl 0 rfl) ?_
  refine va_get (D := eD E) (ci := 7) (v := .ref qw) (C := RX7) (T := TX7) (N := 5) hx hb hts in_X7 hown hK hP 0 rfl rfl 0 (by decide) lk0 (fun _ h9 => h9) rfl dX7_settle_1 ?_
  refine va_get (D := eD E) (ci := 8) (v := .ref (ap 0)) (C := RX8) (T := TX8) (N := 2) hx hb hts in_X8 hown hK hP 3 rfl rfl 0 (by decide) lk1 (fun _ h9 => h9) rfl dX7_settle_4 ?_
  refine va_get (D := eD E) (ci := 1) (v := .ref (ap 9)) (C := RX1) (T := TX1) (N := 11) hx hb hts in_X1 hown hK hP 4 rfl rfl 9 (by decide) lk2 (fun _ h9 => h9) rfl dX7_settle_7 ?_
  refine va_get (D := eD E) (ci := 5) (v := .int (vp 80 0)) (C := RX5) (T := TX5) (N := 4) hx hb hts in_X5 hown hK hP 25 rfl rfl 0 (by decide) lk3 (fun _ h9 => h9) rfl dX7_settle_10 ?_
  refine lv_istore_n (lv' := [(3, .int (vp 80 0)), (0, .ref qe), (1, .int n), (2, .int step)]) hx hb dX7_settle_13 rfl hl (by decide) rfl (fun ls hl => ?_)
  refine lv_iconst (v := 0) hx hb dX7_settle_14 (by decide) ?_
  refine lv_istore (lv' := [(4, .int 0), (3, .int (vp 80 0)), (0, .ref qe), (1, .int n), (2, .int step)]) hx hb dX7_settle_15 hl (by decide) rfl (fun ls hl => ?_)
  have K17 : ∀ (μ : Nat) (i : Int32) (ga : Nat → Int32) (gb : Nat → Int32) (H : Heap) (locs : List Loc) (ls : Array Slot), (5 - i.toInt).toNat < μ → va_P (eD E) vwCl (weL E qe e1 e2 ab be ga gb qw ap vp as_ vs) H → va_D A (weL E qe e1 e2 ab be ga gb qw ap vp as_ vs) → va_S A s.heap H locs → (0 ≤ i.toInt ∧ i.toInt ≤ 5) → lv_has ls 6 [(0, .ref qe), (1, .int n), (2, .int step), (3, .int (vp 80 0)), (4, .int i)] → W p l e (headSpec wsX7_settle rm_X7_settle).room s m ([.ref qe, .int n, .int step] : List Value).toArray below meth c H locs 0 0 Q (F0 m 17 ls []) := by
    intro μ
    induction μ with
    | zero =>
      intro i ga gb H locs ls hμ17
      exact absurd hμ17 (Nat.not_lt_zero _)
    | succ μ ih17 =>
      intro i ga gb H locs ls hμ17 hP hD hS h17_0 hl
      refine lv_iload hx hb dX7_settle_17 (lv_at hl 4 rfl) ?_
      refine lv_iload_n hx hb dX7_settle_19 rfl (lv_at hl 3 rfl) ?_
      refine lv_icmp_ge (tgt := 91) hx hb dX7_settle_20 (by decide) (fun c20 => ?_) (fun c20 => ?_)
      · have c20_ := i_le c20
        refine lv_iload_n hx hb dX7_settle_91 rfl (lv_at hl 1 rfl) ?_
        refine lv_istore (lv' := [(4, .int n), (0, .ref qe), (1, .int n), (2, .int step), (3, .int (vp 80 0))]) hx hb dX7_settle_92 hl (by decide) rfl (fun ls hl => ?_)
        refine lv_iconst (v := 0) hx hb dX7_settle_94 (by decide) ?_
        refine lv_istore (lv' := [(5, .int 0), (4, .int n), (0, .ref qe), (1, .int n), (2, .int step), (3, .int (vp 80 0))]) hx hb dX7_settle_95 hl (by decide) rfl (fun ls hl => ?_)
        have K97 : ∀ (μ : Nat) (sm : Int32) (j : Int32) (H : Heap) (locs : List Loc) (ls : Array Slot), (5 - j.toInt).toNat < μ → va_P (eD E) vwCl (weL E qe e1 e2 ab be ga gb qw ap vp as_ vs) H → va_D A (weL E qe e1 e2 ab be ga gb qw ap vp as_ vs) → va_S A s.heap H locs → (0 ≤ j.toInt ∧ j.toInt ≤ 5) → lv_has ls 6 [(0, .ref qe), (1, .int n), (2, .int step), (3, .int (vp 80 0)), (4, .int sm), (5, .int j)] → W p l e (headSpec wsX7_settle rm_X7_settle).room s m ([.ref qe, .int n, .int step] : List Value).toArray below meth c H locs 0 0 Q (F0 m 97 ls []) := by
          intro μ
          induction μ with
          | zero =>
            intro sm j H locs ls hμ97
            exact absurd hμ97 (Nat.not_lt_zero _)
          | succ μ ih97 =>
            intro sm j H locs ls hμ97 hP hD hS h97_0 hl
            refine lv_iload hx hb dX7_settle_97 (lv_at hl 5 rfl) ?_
            refine lv_iload_n hx hb dX7_settle_99 rfl (lv_at hl 3 rfl) ?_
            refine lv_icmp_ge (tgt := 159) hx hb dX7_settle_100 (by decide) (fun c100 => ?_) (fun c100 => ?_)
            · have c100_ := i_le c100
              subst hQ
              exact W.vret hx hb hr (fun t ht hW => ⟨⟨(ga, gb, ab, be), rfl, trivial, by rw [ht]; exact hP, hD⟩, hS.F ht⟩) hS.2.2 dX7_settle_159
            · have c100_ := i_nle c100
              refine lv_iload hx hb dX7_settle_103 (lv_at hl 4 rfl) ?_
              refine lv_aload_n hx hb dX7_settle_105 rfl (lv_at hl 0 rfl) ?_
              refine va_get (D := eD E) (ci := 7) (v := .ref e2) (C := RX7) (T := TX7) (N := 5) hx hb hts in_X7 hown hK hP 0 rfl rfl 2 (by decide) lk4 (fun _ h9 => h9) rfl dX7_settle_106 ?_
              refine lv_iload hx hb dX7_settle_109 (lv_at hl 5 rfl) ?_
              refine va_iald hx hb hK hP 2 0 rfl rfl (n := 5) (f := gb) (i_in (by omega) (by omega)) dX7_settle_111 ?_
              refine lv_topi (fun x111 e111 => ?_)
              refine lv_iadd hx hb dX7_settle_112 ?_
              refine lv_topi (fun x112 e112 => ?_)
              refine lv_istore (lv' := [(4, .int x112), (0, .ref qe), (1, .int n), (2, .int step), (3, .int (vp 80 0)), (5, .int j)]) hx hb dX7_settle_113 hl (by decide) rfl (fun ls hl => ?_)
              refine lv_iload hx hb dX7_settle_115 (lv_at hl 5 rfl) ?_
              refine lv_iload_n hx hb dX7_settle_117 rfl (lv_at hl 4 rfl) ?_
              refine lv_iconst (v := 1) hx hb dX7_settle_118 (by decide) ?_
              refine lv_isub hx hb dX7_settle_119 ?_
              refine lv_topi (fun x119 e119 => ?_)
              have t119 := i_sub e119 (by omega)
              refine lv_icmp_eq (tgt := 142) hx hb dX7_settle_120 (by decide) (fun c120 => ?_) (fun c120 => ?_)
              · have c120_ := i_eq c120
                refine lv_aload_n hx hb dX7_settle_142 rfl (lv_at hl 1 rfl) ?_
                refine lv_iload hx hb dX7_settle_143 (lv_at hl 0 rfl) ?_
                refine lv_iload hx hb dX7_settle_145 (lv_at hl 5 rfl) ?_
                refine lv_iconst (v := 1) hx hb dX7_settle_147 (by decide) ?_
                refine lv_iadd hx hb dX7_settle_148 ?_
                refine lv_topi (fun x148 e148 => ?_)
                have t148 := i_add e148 (by omega)
                refine mt_Vv (w1 := fun (u : Int32 × Int32) => wlL E qe e1 e2 u.1 u.2 ga gb qw) (wf := fun (u : Int32 × Int32) => weL E qe e1 e2 u.1 u.2 ga gb qw ap vp as_ vs) (wr := [(qw, .inr (8, [.ref (ap 0), .ref (as_ 0)])), ((ap 0), .inr (1, [.int (vp 0 0), .int (vp 1 0), .int (vp 2 0), .ref (ap 3), .ref (ap 4), .int (vp 5 0), .ref (ap 6), .ref (ap 7), .ref (ap 8), .ref (ap 9), .ref (ap 10)])), ((ap 3), .inl (eI E, 24, .inl (vp 3))), ((ap 4), .inl (eI E, 24, .inl (vp 4))), ((ap 6), .inl (eM E, 3, .inr (.inr (.inr (.inr (fun i => some (ap (20 + 10 * i)))))))), ((ap 20), .inr (0, [.int (vp 20 0), .int (vp 21 0), .int (vp 22 0), .ref (ap 23), .ref (ap 24)])), ((ap 23), .inl (eI E, 18, .inl (vp 23))), ((ap 24), .inl (eI E, 24, .inl (vp 24))), ((ap 30), .inr (0, [.int (vp 30 0), .int (vp 31 0), .int (vp 32 0), .ref (ap 33), .ref (ap 34)])), ((ap 33), .inl (eI E, 18, .inl (vp 33))), ((ap 34), .inl (eI E, 24, .inl (vp 34))), ((ap 40), .inr (0, [.int (vp 40 0), .int (vp 41 0), .int (vp 42 0), .ref (ap 43), .ref (ap 44)])), ((ap 43), .inl (eI E, 18, .inl (vp 43))), ((ap 44), .inl (eI E, 24, .inl (vp 44))), ((ap 7), .inr (5, [.int (vp 60 0), .ref (ap 61), .ref (ap 62), .ref (ap 63)])), ((ap 61), .inl (eI E, 6, .inl (vp 61))), ((ap 62), .inl (eI E, 6, .inl (vp 62))), ((ap 63), .inl (eI E, 6, .inl (vp 63))), ((ap 8), .inr (5, [.int (vp 70 0), .ref (ap 71), .ref (ap 72), .ref (ap 73)])), ((ap 71), .inl (eI E, 6, .inl (vp 71))), ((ap 72), .inl (eI E, 6, .inl (vp 72))), ((ap 73), .inl (eI E, 6, .inl (vp 73))), ((ap 9), .inr (5, [.int (vp 80 0), .ref (ap 81), .ref (ap 82), .ref (ap 83)])), ((ap 81), .inl (eI E, 6, .inl (vp 81))), ((ap 82), .inl (eI E, 6, .inl (vp 82))), ((ap 83), .inl (eI E, 6, .inl (vp 83))), ((ap 10), .inr (5, [.int (vp 90 0), .ref (ap 91), .ref (ap 92), .ref (ap 93)])), ((ap 91), .inl (eI E, 6, .inl (vp 91))), ((ap 92), .inl (eI E, 6, .inl (vp 92))), ((ap 93), .inl (eI E, 6, .inl (vp 93))), ((as_ 0), .inr (6, [.int (vs 0 0), .ref (as_ 1), .ref (as_ 2), .ref (as_ 3), .int (vs 4 0), .int (vs 5 0), .int (vs 6 0), .int (vs 7 0), .int (vs 8 0)])), ((as_ 1), .inl (eI E, 3, .inl (vs 1))), ((as_ 2), .inl (eI E, 24, .inl (vs 2))), ((as_ 3), .inl (eI E, 6, .inl (vs 3)))]) (As := [.int x112, .int x148]) (rest := []) (C := RX7) (ci := 7) ⟨hx, hb, hml, hown, hts⟩ (c_X7_reduce l E H.size qe e1 e2 ab be ga gb qw x112 x148) (cwV 2 hts gX7_settle_X7_reduce rfl rfl rfl (by decide +kernel) ⟨Nat.le_of_ble_eq_true rfl, Nat.le_of_ble_eq_true rfl⟩) hE hS hA hP hD [0, 1, 2] [3, 4, 5, 6, 7, 8, 9, 10, 11, 12, 13, 14, 15, 16, 17, 18, 19, 20, 21, 22, 23, 24, 25, 26, 27, 28, 29, 30, 31, 32, 33, 34, 35, 36] rfl rfl (by decide) (by decide) (by decide) [34, 35, 36, 0, 1, 2, 3, 4, 5, 6, 7, 8, 9, 10, 11, 12, 13, 14, 15, 16, 17, 18, 19, 20, 21, 22, 23, 24, 25, 26, 27, 28, 29, 30, 31, 32, 33] (by decide) (fun u => rfl) rfl rfl rfl rfl hl.1 rfl (Nat.le_of_ble_eq_true rfl) dX7_settle_149 ⟨Nat.zero_le _, Nat.zero_le _⟩ (fun u149 H locs h149 hP hD hS => ?_)
                obtain ⟨o149_ab, o149_be⟩ := u149
                try dsimp only at h149
                replace hP : va_P (eD E) vwCl (weL E qe e1 e2 o149_ab o149_be ga gb qw ap vp as_ vs) H := hP
                replace hD : va_D A (weL E qe e1 e2 o149_ab o149_be ga gb qw ap vp as_ vs) := hD
                subst hQ
                exact W.vret hx hb hr (fun t ht hW => ⟨⟨(ga, gb, o149_ab, o149_be), rfl, trivial, by rw [ht]; exact hP, hD⟩, hS.F ht⟩) hS.2.2 dX7_settle_152
              · have c120_ := i_ne c120
                refine lv_iload hx hb dX7_settle_123 (lv_at hl 0 rfl) ?_
                refine lv_aload_n hx hb dX7_settle_125 rfl (lv_at hl 1 rfl) ?_
                refine va_get (D := eD E) (ci := 7) (v := .ref e2) (C := RX7) (T := TX7) (N := 5) hx hb hts in_X7 hown hK hP 0 rfl rfl 2 (by decide) lk4 (fun _ h9 => h9) rfl dX7_settle_126 ?_
                refine lv_iload hx hb dX7_settle_129 (lv_at hl 5 rfl) ?_
                refine lv_iconst (v := 1) hx hb dX7_settle_131 (by decide) ?_
                refine lv_iadd hx hb dX7_settle_132 ?_
                refine lv_topi (fun x132 e132 => ?_)
                have t132 := i_add e132 (by omega)
                refine va_iald hx hb hK hP 2 0 rfl rfl (n := 5) (f := gb) (i_in (by omega) (by omega)) dX7_settle_133 ?_
                refine lv_topi (fun x133 e133 => ?_)
                refine lv_iload hx hb dX7_settle_134 (lv_at hl 5 rfl) ?_
                refine lv_iconst (v := 1) hx hb dX7_settle_136 (by decide) ?_
                refine lv_iadd hx hb dX7_settle_137 ?_
                refine lv_topi (fun x137 e137 => ?_)
                have t137 := i_add e137 (by omega)
                refine lv_imul hx hb dX7_settle_138 ?_
                refine lv_topi (fun x138 e138 => ?_)
                refine lv_icmp_gt (tgt := 153) hx hb dX7_settle_139 (by decide) (fun c139 => ?_) (fun c139 => ?_)
                · have c139_ := i_lt c139
                  obtain ⟨x153, e153⟩ : ∃ y : Int32, y = j + 1 := ⟨_, rfl⟩
                  refine lv_iinc (v := x153) (lv' := [(5, .int x153), (4, .int x112), (0, .ref qe), (1, .int n), (2, .int step), (3, .int (vp 80 0))]) hx hb dX7_settle_153 hl (k := 5) rfl (by rw [e153]; rfl) (by decide) rfl (fun ls hl => ?_)
                  have t153 := i_add e153 (by omega)
                  refine lv_goto (tgt := 97) hx hb dX7_settle_156 (by decide) ?_
                  exact ih97 x112 x153 _ _ ls (by omega) hP hD hS (by omega) (lv_sub hl [2, 3, 4, 5, 1, 0] rfl)
                · have c139_ := i_nlt c139
                  refine lv_aload_n hx hb dX7_settle_142 rfl (lv_at hl 1 rfl) ?_
                  refine lv_iload hx hb dX7_settle_143 (lv_at hl 0 rfl) ?_
                  refine lv_iload hx hb dX7_settle_145 (lv_at hl 5 rfl) ?_
                  refine lv_iconst (v := 1) hx hb dX7_settle_147 (by decide) ?_
                  refine lv_iadd hx hb dX7_settle_148 ?_
                  refine lv_topi (fun x148 e148 => ?_)
                  have t148 := i_add e148 (by omega)
                  refine mt_Vv (w1 := fun (u : Int32 × Int32) => wlL E qe e1 e2 u.1 u.2 ga gb qw) (wf := fun (u : Int32 × Int32) => weL E qe e1 e2 u.1 u.2 ga gb qw ap vp as_ vs) (wr := [(qw, .inr (8, [.ref (ap 0), .ref (as_ 0)])), ((ap 0), .inr (1, [.int (vp 0 0), .int (vp 1 0), .int (vp 2 0), .ref (ap 3), .ref (ap 4), .int (vp 5 0), .ref (ap 6), .ref (ap 7), .ref (ap 8), .ref (ap 9), .ref (ap 10)])), ((ap 3), .inl (eI E, 24, .inl (vp 3))), ((ap 4), .inl (eI E, 24, .inl (vp 4))), ((ap 6), .inl (eM E, 3, .inr (.inr (.inr (.inr (fun i => some (ap (20 + 10 * i)))))))), ((ap 20), .inr (0, [.int (vp 20 0), .int (vp 21 0), .int (vp 22 0), .ref (ap 23), .ref (ap 24)])), ((ap 23), .inl (eI E, 18, .inl (vp 23))), ((ap 24), .inl (eI E, 24, .inl (vp 24))), ((ap 30), .inr (0, [.int (vp 30 0), .int (vp 31 0), .int (vp 32 0), .ref (ap 33), .ref (ap 34)])), ((ap 33), .inl (eI E, 18, .inl (vp 33))), ((ap 34), .inl (eI E, 24, .inl (vp 34))), ((ap 40), .inr (0, [.int (vp 40 0), .int (vp 41 0), .int (vp 42 0), .ref (ap 43), .ref (ap 44)])), ((ap 43), .inl (eI E, 18, .inl (vp 43))), ((ap 44), .inl (eI E, 24, .inl (vp 44))), ((ap 7), .inr (5, [.int (vp 60 0), .ref (ap 61), .ref (ap 62), .ref (ap 63)])), ((ap 61), .inl (eI E, 6, .inl (vp 61))), ((ap 62), .inl (eI E, 6, .inl (vp 62))), ((ap 63), .inl (eI E, 6, .inl (vp 63))), ((ap 8), .inr (5, [.int (vp 70 0), .ref (ap 71), .ref (ap 72), .ref (ap 73)])), ((ap 71), .inl (eI E, 6, .inl (vp 71))), ((ap 72), .inl (eI E, 6, .inl (vp 72))), ((ap 73), .inl (eI E, 6, .inl (vp 73))), ((ap 9), .inr (5, [.int (vp 80 0), .ref (ap 81), .ref (ap 82), .ref (ap 83)])), ((ap 81), .inl (eI E, 6, .inl (vp 81))), ((ap 82), .inl (eI E, 6, .inl (vp 82))), ((ap 83), .inl (eI E, 6, .inl (vp 83))), ((ap 10), .inr (5, [.int (vp 90 0), .ref (ap 91), .ref (ap 92), .ref (ap 93)])), ((ap 91), .inl (eI E, 6, .inl (vp 91))), ((ap 92), .inl (eI E, 6, .inl (vp 92))), ((ap 93), .inl (eI E, 6, .inl (vp 93))), ((as_ 0), .inr (6, [.int (vs 0 0), .ref (as_ 1), .ref (as_ 2), .ref (as_ 3), .int (vs 4 0), .int (vs 5 0), .int (vs 6 0), .int (vs 7 0), .int (vs 8 0)])), ((as_ 1), .inl (eI E, 3, .inl (vs 1))), ((as_ 2), .inl (eI E, 24, .inl (vs 2))), ((as_ 3), .inl (eI E, 6, .inl (vs 3)))]) (As := [.int x112, .int x148]) (rest := []) (C := RX7) (ci := 7) ⟨hx, hb, hml, hown, hts⟩ (c_X7_reduce l E H.size qe e1 e2 ab be ga gb qw x112 x148) (cwV 2 hts gX7_settle_X7_reduce rfl rfl rfl (by decide +kernel) ⟨Nat.le_of_ble_eq_true rfl, Nat.le_of_ble_eq_true rfl⟩) hE hS hA hP hD [0, 1, 2] [3, 4, 5, 6, 7, 8, 9, 10, 11, 12, 13, 14, 15, 16, 17, 18, 19, 20, 21, 22, 23, 24, 25, 26, 27, 28, 29, 30, 31, 32, 33, 34, 35, 36] rfl rfl (by decide) (by decide) (by decide) [34, 35, 36, 0, 1, 2, 3, 4, 5, 6, 7, 8, 9, 10, 11, 12, 13, 14, 15, 16, 17, 18, 19, 20, 21, 22, 23, 24, 25, 26, 27, 28, 29, 30, 31, 32, 33] (by decide) (fun u => rfl) rfl rfl rfl rfl hl.1 rfl (Nat.le_of_ble_eq_true rfl) dX7_settle_149 ⟨Nat.zero_le _, Nat.zero_le _⟩ (fun u149 H locs h149 hP hD hS => ?_)
                  obtain ⟨o149_ab, o149_be⟩ := u149
                  try dsimp only at h149
                  replace hP : va_P (eD E) vwCl (weL E qe e1 e2 o149_ab o149_be ga gb qw ap vp as_ vs) H := hP
                  replace hD : va_D A (weL E qe e1 e2 o149_ab o149_be ga gb qw ap vp as_ vs) := hD
                  subst hQ
                  exact W.vret hx hb hr (fun t ht hW => ⟨⟨(ga, gb, o149_ab, o149_be), rfl, trivial, by rw [ht]; exact hP, hD⟩, hS.F ht⟩) hS.2.2 dX7_settle_152
        exact K97 _ n 0 _ _ ls (Nat.lt_succ_self _) hP hD hS (by omega) (lv_sub hl [2, 3, 4, 5, 1, 0] rfl)
      · have c20_ := i_nle c20
        refine lv_aload_n hx hb dX7_settle_23 rfl (lv_at hl 0 rfl) ?_
        refine va_get (D := eD E) (ci := 7) (v := .ref e1) (C := RX7) (T := TX7) (N := 5) hx hb hts in_X7 hown hK hP 0 rfl rfl 1 (by decide) lk5 (fun _ h9 => h9) rfl dX7_settle_24 ?_
        refine lv_iload hx hb dX7_settle_27 (lv_at hl 4 rfl) ?_
        refine lv_aload_n hx hb dX7_settle_29 rfl (lv_at hl 0 rfl) ?_
        refine va_get (D := eD E) (ci := 7) (v := .ref qw) (C := RX7) (T := TX7) (N := 5) hx hb hts in_X7 hown hK hP 0 rfl rfl 0 (by decide) lk0 (fun _ h9 => h9) rfl dX7_settle_30 ?_
        refine lv_aload_n hx hb dX7_settle_33 rfl (lv_at hl 0 rfl) ?_
        refine va_get (D := eD E) (ci := 7) (v := .ref qw) (C := RX7) (T := TX7) (N := 5) hx hb hts in_X7 hown hK hP 0 rfl rfl 0 (by decide) lk0 (fun _ h9 => h9) rfl dX7_settle_34 ?_
        refine va_get (D := eD E) (ci := 8) (v := .ref (ap 0)) (C := RX8) (T := TX8) (N := 2) hx hb hts in_X8 hown hK hP 3 rfl rfl 0 (by decide) lk1 (fun _ h9 => h9) rfl dX7_settle_37 ?_
        refine va_get (D := eD E) (ci := 1) (v := .ref (ap 9)) (C := RX1) (T := TX1) (N := 11) hx hb hts in_X1 hown hK hP 4 rfl rfl 9 (by decide) lk2 (fun _ h9 => h9) rfl dX7_settle_40 ?_
        refine va_get (D := eD E) (ci := 5) (v := .ref (ap 81)) (C := RX5) (T := TX5) (N := 4) hx hb hts in_X5 hown hK hP 25 rfl rfl 1 (by decide) lk6 (fun _ h9 => h9) rfl dX7_settle_43 ?_
        refine lv_iload hx hb dX7_settle_46 (lv_at hl 4 rfl) ?_
        refine va_iald hx hb hK hP 26 0 rfl rfl (n := 6) (f := (vp 81)) (i_in (by omega) (by omega)) dX7_settle_48 ?_
        refine lv_topi (fun x48 e48 => ?_)
        have b48 := hs2.2 i.toNatClampNeg (i_natlt (by omega) (by decide))
        rw [← e48] at b48
        refine lv_iload_n hx hb dX7_settle_49 rfl (lv_at hl 2 rfl) ?_
        refine lv_iconst (v := (-1)) hx hb dX7_settle_50 (by decide) ?_
        refine rd_V (As := [.int x48, .int step, .int (-1)]) (rest := [.int i, .ref e1]) (C := RX8) (ci := 8) ⟨hx, hb, hml, hown, hts⟩ (c_X8_heightAt l E A qw ap vp as_ vs x48 step (-1) hI hJ (by omega) (by omega)) (cwV 3 hts gX7_settle_X8_heightAt rfl rfl rfl (by decide +kernel) ⟨Nat.le_of_ble_eq_true rfl, Nat.le_of_ble_eq_true rfl⟩) (hE.kept hS.2.1) (hP.sub (ws' := wpsL E qw ap vp as_ vs) [3, 4, 5, 6, 7, 8, 9, 10, 11, 12, 13, 14, 15, 16, 17, 18, 19, 20, 21, 22, 23, 24, 25, 26, 27, 28, 29, 30, 31, 32, 33, 34, 35, 36] rfl) rfl rfl rfl rfl hl.1 rfl (Nat.le_of_ble_eq_true rfl) dX7_settle_51 ⟨Nat.zero_le _, Nat.zero_le _⟩ (fun r51 h51 => ?_)
        have hf51 := h51.2
        replace h51 := h51.1
        refine lv_aload_n hx hb dX7_settle_54 rfl (lv_at hl 0 rfl) ?_
        refine va_get (D := eD E) (ci := 7) (v := .ref qw) (C := RX7) (T := TX7) (N := 5) hx hb hts in_X7 hown hK hP 0 rfl rfl 0 (by decide) lk0 (fun _ h9 => h9) rfl dX7_settle_55 ?_
        refine va_get (D := eD E) (ci := 8) (v := .ref (ap 0)) (C := RX8) (T := TX8) (N := 2) hx hb hts in_X8 hown hK hP 3 rfl rfl 0 (by decide) lk1 (fun _ h9 => h9) rfl dX7_settle_58 ?_
        refine va_get (D := eD E) (ci := 1) (v := .ref (ap 9)) (C := RX1) (T := TX1) (N := 11) hx hb hts in_X1 hown hK hP 4 rfl rfl 9 (by decide) lk2 (fun _ h9 => h9) rfl dX7_settle_61 ?_
        refine va_get (D := eD E) (ci := 5) (v := .ref (ap 82)) (C := RX5) (T := TX5) (N := 4) hx hb hts in_X5 hown hK hP 25 rfl rfl 2 (by decide) lk7 (fun _ h9 => h9) rfl dX7_settle_64 ?_
        refine lv_iload hx hb dX7_settle_67 (lv_at hl 4 rfl) ?_
        refine va_iald hx hb hK hP 27 0 rfl rfl (n := 6) (f := (vp 82)) (i_in (by omega) (by omega)) dX7_settle_69 ?_
        refine lv_topi (fun x69 e69 => ?_)
        refine lv_isub hx hb dX7_settle_70 ?_
        refine lv_topi (fun x70 e70 => ?_)
        refine va_iast hx hb hK hP hD hS 1 0 rfl rfl (n := 5) (f := ga) (i_in (by omega) (by omega)) dX7_settle_71 (fun H locs hP hD hS => ?_)
        replace hP : va_P (eD E) vwCl (weL E qe e1 e2 ab be (upd ga i.toNatClampNeg x70) gb qw ap vp as_ vs) H := hP
        replace hD : va_D A (weL E qe e1 e2 ab be (upd ga i.toNatClampNeg x70) gb qw ap vp as_ vs) := hD
        generalize hv71 : upd ga i.toNatClampNeg x70 = g1_71 at hP hD
        refine lv_aload_n hx hb dX7_settle_72 rfl (lv_at hl 0 rfl) ?_
        refine lv_aload_n hx hb dX7_settle_73 rfl (lv_at hl 0 rfl) ?_
        refine va_get (D := eD E) (ci := 7) (v := .ref e1) (C := RX7) (T := TX7) (N := 5) hx hb hts in_X7 hown hK hP 0 rfl rfl 1 (by decide) lk5 (fun _ h9 => h9) rfl dX7_settle_74 ?_
        refine lv_iload hx hb dX7_settle_77 (lv_at hl 4 rfl) ?_
        refine va_iald hx hb hK hP 1 0 rfl rfl (n := 5) (f := g1_71) (i_in (by omega) (by omega)) dX7_settle_79 ?_
        refine lv_topi (fun x79 e79 => ?_)
        refine lv_iload hx hb dX7_settle_80 (lv_at hl 4 rfl) ?_
        refine mt_Vv (w1 := fun (u : (Nat → Int32)) => wlL E qe e1 e2 ab be g1_71 u qw) (wf := fun (u : (Nat → Int32)) => weL E qe e1 e2 ab be g1_71 u qw ap vp as_ vs) (wr := [(qw, .inr (8, [.ref (ap 0), .ref (as_ 0)])), ((ap 0), .inr (1, [.int (vp 0 0), .int (vp 1 0), .int (vp 2 0), .ref (ap 3), .ref (ap 4), .int (vp 5 0), .ref (ap 6), .ref (ap 7), .ref (ap 8), .ref (ap 9), .ref (ap 10)])), ((ap 3), .inl (eI E, 24, .inl (vp 3))), ((ap 4), .inl (eI E, 24, .inl (vp 4))), ((ap 6), .inl (eM E, 3, .inr (.inr (.inr (.inr (fun i => some (ap (20 + 10 * i)))))))), ((ap 20), .inr (0, [.int (vp 20 0), .int (vp 21 0), .int (vp 22 0), .ref (ap 23), .ref (ap 24)])), ((ap 23), .inl (eI E, 18, .inl (vp 23))), ((ap 24), .inl (eI E, 24, .inl (vp 24))), ((ap 30), .inr (0, [.int (vp 30 0), .int (vp 31 0), .int (vp 32 0), .ref (ap 33), .ref (ap 34)])), ((ap 33), .inl (eI E, 18, .inl (vp 33))), ((ap 34), .inl (eI E, 24, .inl (vp 34))), ((ap 40), .inr (0, [.int (vp 40 0), .int (vp 41 0), .int (vp 42 0), .ref (ap 43), .ref (ap 44)])), ((ap 43), .inl (eI E, 18, .inl (vp 43))), ((ap 44), .inl (eI E, 24, .inl (vp 44))), ((ap 7), .inr (5, [.int (vp 60 0), .ref (ap 61), .ref (ap 62), .ref (ap 63)])), ((ap 61), .inl (eI E, 6, .inl (vp 61))), ((ap 62), .inl (eI E, 6, .inl (vp 62))), ((ap 63), .inl (eI E, 6, .inl (vp 63))), ((ap 8), .inr (5, [.int (vp 70 0), .ref (ap 71), .ref (ap 72), .ref (ap 73)])), ((ap 71), .inl (eI E, 6, .inl (vp 71))), ((ap 72), .inl (eI E, 6, .inl (vp 72))), ((ap 73), .inl (eI E, 6, .inl (vp 73))), ((ap 9), .inr (5, [.int (vp 80 0), .ref (ap 81), .ref (ap 82), .ref (ap 83)])), ((ap 81), .inl (eI E, 6, .inl (vp 81))), ((ap 82), .inl (eI E, 6, .inl (vp 82))), ((ap 83), .inl (eI E, 6, .inl (vp 83))), ((ap 10), .inr (5, [.int (vp 90 0), .ref (ap 91), .ref (ap 92), .ref (ap 93)])), ((ap 91), .inl (eI E, 6, .inl (vp 91))), ((ap 92), .inl (eI E, 6, .inl (vp 92))), ((ap 93), .inl (eI E, 6, .inl (vp 93))), ((as_ 0), .inr (6, [.int (vs 0 0), .ref (as_ 1), .ref (as_ 2), .ref (as_ 3), .int (vs 4 0), .int (vs 5 0), .int (vs 6 0), .int (vs 7 0), .int (vs 8 0)])), ((as_ 1), .inl (eI E, 3, .inl (vs 1))), ((as_ 2), .inl (eI E, 24, .inl (vs 2))), ((as_ 3), .inl (eI E, 6, .inl (vs 3)))]) (As := [.int x79, .int i]) (rest := []) (C := RX7) (ci := 7) ⟨hx, hb, hml, hown, hts⟩ (c_X7_insert l E H.size qe e1 e2 ab be g1_71 gb qw x79 i (by omega)) (cwV 2 hts gX7_settle_X7_insert rfl rfl rfl (by decide +kernel) ⟨Nat.le_of_ble_eq_true rfl, Nat.le_of_ble_eq_true rfl⟩) hE hS hA hP hD [0, 1, 2] [3, 4, 5, 6, 7, 8, 9, 10, 11, 12, 13, 14, 15, 16, 17, 18, 19, 20, 21, 22, 23, 24, 25, 26, 27, 28, 29, 30, 31, 32, 33, 34, 35, 36] rfl rfl (by decide) (by decide) (by decide) [34, 35, 36, 0, 1, 2, 3, 4, 5, 6, 7, 8, 9, 10, 11, 12, 13, 14, 15, 16, 17, 18, 19, 20, 21, 22, 23, 24, 25, 26, 27, 28, 29, 30, 31, 32, 33] (by decide) (fun u => rfl) rfl rfl rfl rfl hl.1 rfl (Nat.le_of_ble_eq_true rfl) dX7_settle_82 ⟨Nat.zero_le _, Nat.zero_le _⟩ (fun u82 H locs h82 hP hD hS => ?_)
        generalize u82 = o82_g2 at hP hD h82
        try dsimp only at h82
        replace hP : va_P (eD E) vwCl (weL E qe e1 e2 ab be g1_71 o82_g2 qw ap vp as_ vs) H := hP
        replace hD : va_D A (weL E qe e1 e2 ab be g1_71 o82_g2 qw ap vp as_ vs) := hD
        obtain ⟨x85, e85⟩ : ∃ y : Int32, y = i + 1 := ⟨_, rfl⟩
        refine lv_iinc (v := x85) (lv' := [(4, .int x85), (0, .ref qe), (1, .int n), (2, .int step), (3, .int (vp 80 0))]) hx hb dX7_settle_85 hl (k := 4) rfl (by rw [e85]; rfl) (by decide) rfl (fun ls hl => ?_)
        have t85 := i_add e85 (by omega)
        refine lv_goto (tgt := 17) hx hb dX7_settle_88 (by decide) ?_
        exact ih17 x85 g1_71 o82_g2 _ _ ls (by omega) hP hD hS (by omega) (lv_sub hl [1, 2, 3, 4, 0] rfl)
  exact K17 _ 0 g1 g2 _ _ ls (Nat.lt_succ_self _) hP hD hS (by omega) (lv_sub hl [2, 3, 4, 1, 0] rfl)
def rm_X7_wetWells : Room := { frames := 0, cells := 0, slots := 0, locals := 0 }
set_option maxHeartbeats 4000000 in
set_option maxRecDepth 100000 in
theorem c_X7_wetWells (l : Launch) (E : Ev) (A : Nat → Prop) (qe : Nat) (e1 : Nat) (e2 : Nat) (ab : Int32) (be : Int32) (g1 : Nat → Int32) (g2 : Nat → Int32) (qw : Nat) (ap : Nat → Nat) (vp : Vf) (as_ : Nat → Nat) (vs : Vf) (hI : PlanI vp) (hJ : StateI vs) : Met l yX7_wetWells wsX7_wetWells rm_X7_wetWells (RdP E A [.ref qe] (weL E qe e1 e2 ab be g1 g2 qw ap vp as_ vs)) (vp_Si (fun r => True)) 0 0 (fun _ => False) := by
  refine Met.ofW (cc := cX7_wetWells) (maxL := 3) (ret := (some .int)) (by decide) rfl ?_
  intro p e s m args below meth c s₁ B hml hv
  obtain ⟨rfl, hE, hP⟩ := hv
  have hx := B.exec
  have hb := B.bytes
  have hr := B.returns
  have hts := atoms_spec (ws := wsX7_wetWells) B.pre
  have hown : s.vm.findClass RX7 = some m.cls := findClass_of_methodNamed B.named
  have hlocks := B.notSynchronized
  have hK := hE.1
  have in_X7 : ∀ w ∈ u_ws RX7 TX7 5, w ∈ wsX7_wetWells := fun w h => List.mem_cons_of_mem _ (List.mem_append_left _ (List.mem_append_left _ (List.mem_append_left _ (List.mem_append_right _ h))))
  have in_X8 : ∀ w ∈ u_ws RX8 TX8 2, w ∈ wsX7_wetWells := fun w h => List.mem_cons_of_mem _ (List.mem_append_left _ (List.mem_append_left _ (List.mem_append_right _ h)))
  have in_X1 : ∀ w ∈ u_ws RX1 TX1 11, w ∈ wsX7_wetWells := fun w h => List.mem_cons_of_mem _ (List.mem_append_left _ (List.mem_append_right _ h))
  have in_X5 : ∀ w ∈ u_ws RX5 TX5 4, w ∈ wsX7_wetWells := fun w h => List.mem_cons_of_mem _ (List.mem_append_right _ h)
  have lk0 := hts (.fieldLink RX7 18 "TidedGround$Wells" "world" "LTidedGround$World;") (List.mem_of_getElem? (i := 1) rfl)
  have lk1 := hts (.fieldLink RX7 26 "TidedGround$World" "plan" "LTidedGround$Plan;") (List.mem_of_getElem? (i := 2) rfl)
  have lk2 := hts (.fieldLink RX7 32 "TidedGround$Plan" "wells" "LTidedGround$Sites;") (List.mem_of_getElem? (i := 3) rfl)
  have lk3 := hts (.fieldLink RX7 38 "TidedGround$Sites" "count" "I") (List.mem_of_getElem? (i := 4) rfl)
  have lk4 := hts (.fieldLink RX7 9 "TidedGround$Wells" "floors" "[I") (List.mem_of_getElem? (i := 5) rfl)
  have lk5 := hts (.fieldLink RX7 22 "TidedGround$Wells" "below" "I") (List.mem_of_getElem? (i := 6) rfl)
  have lk6 := hts (.fieldLink RX7 69 "TidedGround$Wells" "above" "I") (List.mem_of_getElem? (i := 7) rfl)
  have n_0 : (0 : Int32).toInt = 0 := by decide
  have n_1 : (1 : Int32).toInt = 1 := by decide
  have hl := lv_entry ([.ref qe]) (n := 3) (Nat.le_of_ble_eq_true rfl)
  rw [lg_entry_eq]
  generalize (lg_sl ([.ref qe]) ++ List.replicate (3 - (lg_sl ([.ref qe])).length) Slot.unset).toArray = ls at hl ⊢
  have hl : lv_has ls 3 [(0, .ref qe)] := hl
  refine W_abs (fun Q hQ => ?_)
  obtain ⟨hg, hmc, hm0, hm1, hm2, hs0, hs1, hs2, hs3⟩ := id hI
  obtain ⟨hg1, hg2, hg3, hg4⟩ := id hg
  have hz0 := hm0.1
  have hz1 := hm1.1
  have hz2 := hm2.1
  have hc0 := hs0.1
  have hc1 := hs1.1
  have hc2 := hs2.1
  have hc3 := hs3.1
  obtain ⟨hj0, hj1, hj2⟩ := id hJ
  refine lv_iconst (v := 0) hx hb dX7_wetWells_0 (by decide) ?_
  refine lv_istore_n (lv' := [(1, .int 0), (0, .ref qe)]) hx hb dX7_wetWells_1 rfl hl (by decide) rfl (fun ls hl => ?_)
  refine lv_iconst (v := 0) hx hb dX7_wetWells_2 (by decide) ?_
  refine lv_istore_n (lv' := [(2, .int 0), (1, .int 0), (0, .ref qe)]) hx hb dX7_wetWells_3 rfl hl (by decide) rfl (fun ls hl => ?_)
  have K4 : ∀ (μ : Nat) (set : Int32) (i : Int32) (ls : Array Slot), (5 - i.toInt).toNat < μ → (0 ≤ i.toInt ∧ i.toInt ≤ 5) → lv_has ls 3 [(0, .ref qe), (1, .int set), (2, .int i)] → W p l e (headSpec wsX7_wetWells rm_X7_wetWells).room s m ([.ref qe] : List Value).toArray below meth c s.heap [] 0 0 Q (F0 m 4 ls []) := by
    intro μ
    induction μ with
    | zero =>
      intro set i ls hμ4
      exact absurd hμ4 (Nat.not_lt_zero _)
    | succ μ ih4 =>
      intro set i ls hμ4 h4_0 hl
      refine lv_iload_n hx hb dX7_wetWells_4 rfl (lv_at hl 2 rfl) ?_
      refine lv_aload_n hx hb dX7_wetWells_5 rfl (lv_at hl 0 rfl) ?_
      refine va_get (D := eD E) (ci := 7) (v := .ref qw) (C := RX7) (T := TX7) (N := 5) hx hb hts in_X7 hown hK hP 0 rfl rfl 0 (by decide) lk0 (fun _ h9 => h9) rfl dX7_wetWells_6 ?_
      refine va_get (D := eD E) (ci := 8) (v := .ref (ap 0)) (C := RX8) (T := TX8) (N := 2) hx hb hts in_X8 hown hK hP 3 rfl rfl 0 (by decide) lk1 (fun _ h9 => h9) rfl dX7_wetWells_9 ?_
      refine va_get (D := eD E) (ci := 1) (v := .ref (ap 9)) (C := RX1) (T := TX1) (N := 11) hx hb hts in_X1 hown hK hP 4 rfl rfl 9 (by decide) lk2 (fun _ h9 => h9) rfl dX7_wetWells_12 ?_
      refine va_get (D := eD E) (ci := 5) (v := .int (vp 80 0)) (C := RX5) (T := TX5) (N := 4) hx hb hts in_X5 hown hK hP 25 rfl rfl 0 (by decide) lk3 (fun _ h9 => h9) rfl dX7_wetWells_15 ?_
      refine lv_icmp_ge (tgt := 51) hx hb dX7_wetWells_18 (by decide) (fun c18 => ?_) (fun c18 => ?_)
      · have c18_ := i_le c18
        refine lv_iload_n hx hb dX7_wetWells_51 rfl (lv_at hl 1 rfl) ?_
        subst hQ
        exact W.iret (v := set) hx hb hr (fun t ht hW => ⟨set, rfl, trivial, ht⟩) (fun q h => absurd h List.not_mem_nil) dX7_wetWells_52
      · have c18_ := i_nle c18
        refine lv_aload_n hx hb dX7_wetWells_21 rfl (lv_at hl 0 rfl) ?_
        refine va_get (D := eD E) (ci := 7) (v := .ref e1) (C := RX7) (T := TX7) (N := 5) hx hb hts in_X7 hown hK hP 0 rfl rfl 1 (by decide) lk4 (fun _ h9 => h9) rfl dX7_wetWells_22 ?_
        refine lv_iload_n hx hb dX7_wetWells_25 rfl (lv_at hl 2 rfl) ?_
        refine va_iald hx hb hK hP 1 0 rfl rfl (n := 5) (f := g1) (i_in (by omega) (by omega)) dX7_wetWells_26 ?_
        refine lv_topi (fun x26 e26 => ?_)
        refine lv_aload_n hx hb dX7_wetWells_27 rfl (lv_at hl 0 rfl) ?_
        refine va_get (D := eD E) (ci := 7) (v := .int be) (C := RX7) (T := TX7) (N := 5) hx hb hts in_X7 hown hK hP 0 rfl rfl 4 (by decide) lk5 (fun _ h9 => h9) rfl dX7_wetWells_28 ?_
        refine lv_imul hx hb dX7_wetWells_31 ?_
        refine lv_topi (fun x31 e31 => ?_)
        refine lv_aload_n hx hb dX7_wetWells_32 rfl (lv_at hl 0 rfl) ?_
        refine va_get (D := eD E) (ci := 7) (v := .int ab) (C := RX7) (T := TX7) (N := 5) hx hb hts in_X7 hown hK hP 0 rfl rfl 3 (by decide) lk6 (fun _ h9 => h9) rfl dX7_wetWells_33 ?_
        refine lv_icmp_ge (tgt := 45) hx hb dX7_wetWells_36 (by decide) (fun c36 => ?_) (fun c36 => ?_)
        · have c36_ := i_le c36
          obtain ⟨x45, e45⟩ : ∃ y : Int32, y = i + 1 := ⟨_, rfl⟩
          refine lv_iinc (v := x45) (lv' := [(2, .int x45), (0, .ref qe), (1, .int set)]) hx hb dX7_wetWells_45 hl (k := 2) rfl (by rw [e45]; rfl) (by decide) rfl (fun ls hl => ?_)
          have t45 := i_add e45 (by omega)
          refine lv_goto (tgt := 4) hx hb dX7_wetWells_48 (by decide) ?_
          exact ih4 set x45 ls (by omega) (by omega) (lv_sub hl [1, 2, 0] rfl)
        · have c36_ := i_nle c36
          refine lv_iload_n hx hb dX7_wetWells_39 rfl (lv_at hl 1 rfl) ?_
          refine lv_iconst (v := 1) hx hb dX7_wetWells_40 (by decide) ?_
          refine lv_iload_n hx hb dX7_wetWells_41 rfl (lv_at hl 2 rfl) ?_
          refine lv_ishl hx hb dX7_wetWells_42 ?_
          refine lv_topi (fun x42 e42 => ?_)
          refine lv_ior hx hb dX7_wetWells_43 ?_
          refine lv_topi (fun x43 e43 => ?_)
          refine lv_istore_n (lv' := [(1, .int x43), (0, .ref qe), (2, .int i)]) hx hb dX7_wetWells_44 rfl hl (by decide) rfl (fun ls hl => ?_)
          obtain ⟨x45, e45⟩ : ∃ y : Int32, y = i + 1 := ⟨_, rfl⟩
          refine lv_iinc (v := x45) (lv' := [(2, .int x45), (1, .int x43), (0, .ref qe)]) hx hb dX7_wetWells_45 hl (k := 2) rfl (by rw [e45]; rfl) (by decide) rfl (fun ls hl => ?_)
          have t45 := i_add e45 (by omega)
          refine lv_goto (tgt := 4) hx hb dX7_wetWells_48 (by decide) ?_
          exact ih4 x43 x45 ls (by omega) (by omega) (lv_sub hl [2, 1, 0] rfl)
  exact K4 _ 0 0 ls (Nat.lt_succ_self _) (by omega) (lv_sub hl [2, 1, 0] rfl)
end
